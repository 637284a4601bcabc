theorem dX5_openTell_0 : decode cX5_openTell 0 = .ok (.aload_n 0, 1) := by decide +kernel
theorem dX5_openTell_1 : decode cX5_openTell 1 = .ok (.getfield 12, 3) := by decide +kernel
theorem dX5_openTell_4 : decode cX5_openTell 4 = .ok (.getfield 84, 3) := by decide +kernel
theorem dX5_openTell_7 : decode cX5_openTell 7 = .ok (.istore_n 2, 1) := by decide +kernel
theorem dX5_openTell_8 : decode cX5_openTell 8 = .ok (.iload_n 2, 1) := by decide +kernel
theorem dX5_openTell_9 : decode cX5_openTell 9 = .ok (.ifCond .lt 9, 3) := by decide +kernel
theorem dX5_openTell_12 : decode cX5_openTell 12 = .ok (.iload_n 2, 1) := by decide +kernel
theorem dX5_openTell_13 : decode cX5_openTell 13 = .ok (.bipush 9, 2) := by decide +kernel
theorem dX5_openTell_15 : decode cX5_openTell 15 = .ok (.if_icmp .le 5, 3) := by decide +kernel
theorem dX5_openTell_18 : decode cX5_openTell 18 = .ok (.iconst 1, 1) := by decide +kernel
theorem dX5_openTell_19 : decode cX5_openTell 19 = .ok (.ireturn, 1) := by decide +kernel
theorem dX5_openTell_20 : decode cX5_openTell 20 = .ok (.aload_n 0, 1) := by decide +kernel
theorem dX5_openTell_21 : decode cX5_openTell 21 = .ok (.iload_n 2, 1) := by decide +kernel
theorem dX5_openTell_22 : decode cX5_openTell 22 = .ok (.putfield 25, 3) := by decide +kernel
theorem dX5_openTell_25 : decode cX5_openTell 25 = .ok (.aload_n 0, 1) := by decide +kernel
theorem dX5_openTell_26 : decode cX5_openTell 26 = .ok (.iconst 0, 1) := by decide +kernel
theorem dX5_openTell_27 : decode cX5_openTell 27 = .ok (.putfield 29, 3) := by decide +kernel
theorem dX5_openTell_30 : decode cX5_openTell 30 = .ok (.iload_n 2, 1) := by decide +kernel
theorem dX5_openTell_31 : decode cX5_openTell 31 = .ok (.invokestatic 66, 3) := by decide +kernel
theorem dX5_openTell_34 : decode cX5_openTell 34 = .ok (.ifCond .eq 13, 3) := by decide +kernel
theorem dX5_openTell_37 : decode cX5_openTell 37 = .ok (.aload_n 0, 1) := by decide +kernel
theorem dX5_openTell_38 : decode cX5_openTell 38 = .ok (.getfield 21, 3) := by decide +kernel
theorem dX5_openTell_41 : decode cX5_openTell 41 = .ok (.iload_n 2, 1) := by decide +kernel
theorem dX5_openTell_42 : decode cX5_openTell 42 = .ok (.iconst 3, 1) := by decide +kernel
theorem dX5_openTell_43 : decode cX5_openTell 43 = .ok (.isub, 1) := by decide +kernel
theorem dX5_openTell_44 : decode cX5_openTell 44 = .ok (.invokevirtual 87, 3) := by decide +kernel
theorem dX5_openTell_47 : decode cX5_openTell 47 = .ok (.aload_n 1, 1) := by decide +kernel
theorem dX5_openTell_48 : decode cX5_openTell 48 = .ok (.iload_n 2, 1) := by decide +kernel
theorem dX5_openTell_49 : decode cX5_openTell 49 = .ok (.invokestatic 91, 3) := by decide +kernel
theorem dX5_openTell_52 : decode cX5_openTell 52 = .ok (.ifCond .eq 7, 3) := by decide +kernel
theorem dX5_openTell_55 : decode cX5_openTell 55 = .ok (.iconst 0, 1) := by decide +kernel
theorem dX5_openTell_56 : decode cX5_openTell 56 = .ok (.goto 4, 3) := by decide +kernel
theorem dX5_openTell_59 : decode cX5_openTell 59 = .ok (.iconst 2, 1) := by decide +kernel
theorem dX5_openTell_60 : decode cX5_openTell 60 = .ok (.ireturn, 1) := by decide +kernel
theorem dX5_takeNumber_0 : decode cX5_takeNumber 0 = .ok (.iload_n 2, 1) := by decide +kernel
theorem dX5_takeNumber_1 : decode cX5_takeNumber 1 = .ok (.aload_n 0, 1) := by decide +kernel
theorem dX5_takeNumber_2 : decode cX5_takeNumber 2 = .ok (.invokevirtual 169, 3) := by decide +kernel
theorem dX5_takeNumber_5 : decode cX5_takeNumber 5 = .ok (.if_icmp .lt 11, 3) := by decide +kernel
theorem dX5_takeNumber_8 : decode cX5_takeNumber 8 = .ok (.iload_n 2, 1) := by decide +kernel
theorem dX5_takeNumber_9 : decode cX5_takeNumber 9 = .ok (.aload_n 0, 1) := by decide +kernel
theorem dX5_takeNumber_10 : decode cX5_takeNumber 10 = .ok (.invokevirtual 172, 3) := by decide +kernel
theorem dX5_takeNumber_13 : decode cX5_takeNumber 13 = .ok (.if_icmp .le 8, 3) := by decide +kernel
theorem dX5_takeNumber_16 : decode cX5_takeNumber 16 = .ok (.aload_n 0, 1) := by decide +kernel
theorem dX5_takeNumber_17 : decode cX5_takeNumber 17 = .ok (.iconst 5, 1) := by decide +kernel
theorem dX5_takeNumber_18 : decode cX5_takeNumber 18 = .ok (.invokevirtual 151, 3) := by decide +kernel
theorem dX5_takeNumber_21 : decode cX5_takeNumber 21 = .ok (.aload_n 0, 1) := by decide +kernel
theorem dX5_takeNumber_22 : decode cX5_takeNumber 22 = .ok (.getfield 25, 3) := by decide +kernel
theorem dX5_takeNumber_25 : decode cX5_takeNumber 25 = .ok (.tableswitch 91 0 8 #[51, 63, 91, 91, 91, 91, 91, 75, 83], 51) := by decide +kernel
theorem dX5_takeNumber_76 : decode cX5_takeNumber 76 = .ok (.aload_n 1, 1) := by decide +kernel
theorem dX5_takeNumber_77 : decode cX5_takeNumber 77 = .ok (.aload_n 0, 1) := by decide +kernel
theorem dX5_takeNumber_78 : decode cX5_takeNumber 78 = .ok (.getfield 29, 3) := by decide +kernel
theorem dX5_takeNumber_81 : decode cX5_takeNumber 81 = .ok (.iload_n 2, 1) := by decide +kernel
theorem dX5_takeNumber_82 : decode cX5_takeNumber 82 = .ok (.invokevirtual 175, 3) := by decide +kernel
theorem dX5_takeNumber_85 : decode cX5_takeNumber 85 = .ok (.goto 36, 3) := by decide +kernel
theorem dX5_takeNumber_88 : decode cX5_takeNumber 88 = .ok (.aload_n 1, 1) := by decide +kernel
theorem dX5_takeNumber_89 : decode cX5_takeNumber 89 = .ok (.aload_n 0, 1) := by decide +kernel
theorem dX5_takeNumber_90 : decode cX5_takeNumber 90 = .ok (.getfield 29, 3) := by decide +kernel
theorem dX5_takeNumber_93 : decode cX5_takeNumber 93 = .ok (.iload_n 2, 1) := by decide +kernel
theorem dX5_takeNumber_94 : decode cX5_takeNumber 94 = .ok (.invokevirtual 178, 3) := by decide +kernel
theorem dX5_takeNumber_97 : decode cX5_takeNumber 97 = .ok (.goto 24, 3) := by decide +kernel
theorem dX5_takeNumber_100 : decode cX5_takeNumber 100 = .ok (.aload_n 1, 1) := by decide +kernel
theorem dX5_takeNumber_101 : decode cX5_takeNumber 101 = .ok (.iload_n 2, 1) := by decide +kernel
theorem dX5_takeNumber_102 : decode cX5_takeNumber 102 = .ok (.putfield 181, 3) := by decide +kernel
theorem dX5_takeNumber_105 : decode cX5_takeNumber 105 = .ok (.goto 16, 3) := by decide +kernel
theorem dX5_takeNumber_108 : decode cX5_takeNumber 108 = .ok (.aload_n 1, 1) := by decide +kernel
theorem dX5_takeNumber_109 : decode cX5_takeNumber 109 = .ok (.iload_n 2, 1) := by decide +kernel
theorem dX5_takeNumber_110 : decode cX5_takeNumber 110 = .ok (.putfield 184, 3) := by decide +kernel
theorem dX5_takeNumber_113 : decode cX5_takeNumber 113 = .ok (.goto 8, 3) := by decide +kernel
theorem dX5_takeNumber_116 : decode cX5_takeNumber 116 = .ok (.aload_n 1, 1) := by decide +kernel
theorem dX5_takeNumber_117 : decode cX5_takeNumber 117 = .ok (.iload_n 2, 1) := by decide +kernel
theorem dX5_takeNumber_118 : decode cX5_takeNumber 118 = .ok (.putfield 187, 3) := by decide +kernel
theorem dX5_takeNumber_121 : decode cX5_takeNumber 121 = .ok (.return_, 1) := by decide +kernel
theorem dX6_clear_0 : decode cX6_clear 0 = .ok (.aload_n 0, 1) := by decide +kernel
theorem dX6_clear_1 : decode cX6_clear 1 = .ok (.iconst 0, 1) := by decide +kernel
theorem dX6_clear_2 : decode cX6_clear 2 = .ok (.putfield 9, 3) := by decide +kernel
theorem dX6_clear_5 : decode cX6_clear 5 = .ok (.aload_n 0, 1) := by decide +kernel
theorem dX6_clear_6 : decode cX6_clear 6 = .ok (.iconst 0, 1) := by decide +kernel
theorem dX6_clear_7 : decode cX6_clear 7 = .ok (.putfield 26, 3) := by decide +kernel
theorem dX6_clear_10 : decode cX6_clear 10 = .ok (.aload_n 0, 1) := by decide +kernel
theorem dX6_clear_11 : decode cX6_clear 11 = .ok (.iconst 0, 1) := by decide +kernel
theorem dX6_clear_12 : decode cX6_clear 12 = .ok (.putfield 41, 3) := by decide +kernel
theorem dX6_clear_15 : decode cX6_clear 15 = .ok (.aload_n 0, 1) := by decide +kernel
theorem dX6_clear_16 : decode cX6_clear 16 = .ok (.getfield 32, 3) := by decide +kernel
theorem dX6_clear_19 : decode cX6_clear 19 = .ok (.iconst 0, 1) := by decide +kernel
theorem dX6_clear_20 : decode cX6_clear 20 = .ok (.invokestatic 63, 3) := by decide +kernel
theorem dX6_clear_23 : decode cX6_clear 23 = .ok (.aload_n 0, 1) := by decide +kernel
theorem dX6_clear_24 : decode cX6_clear 24 = .ok (.getfield 38, 3) := by decide +kernel
theorem dX6_clear_27 : decode cX6_clear 27 = .ok (.iconst 0, 1) := by decide +kernel
theorem dX6_clear_28 : decode cX6_clear 28 = .ok (.invokestatic 63, 3) := by decide +kernel
theorem dX6_clear_31 : decode cX6_clear 31 = .ok (.aload_n 0, 1) := by decide +kernel
theorem dX6_clear_32 : decode cX6_clear 32 = .ok (.getfield 44, 3) := by decide +kernel
theorem dX6_clear_35 : decode cX6_clear 35 = .ok (.iconst 0, 1) := by decide +kernel
theorem dX6_clear_36 : decode cX6_clear 36 = .ok (.invokestatic 63, 3) := by decide +kernel
theorem dX6_clear_39 : decode cX6_clear 39 = .ok (.aload_n 0, 1) := by decide +kernel
theorem dX6_clear_40 : decode cX6_clear 40 = .ok (.getfield 50, 3) := by decide +kernel
theorem dX6_clear_43 : decode cX6_clear 43 = .ok (.invokevirtual 69, 3) := by decide +kernel
theorem dX6_clear_46 : decode cX6_clear 46 = .ok (.aload_n 0, 1) := by decide +kernel
theorem dX6_clear_47 : decode cX6_clear 47 = .ok (.iconst 0, 1) := by decide +kernel
theorem dX6_clear_48 : decode cX6_clear 48 = .ok (.putfield 54, 3) := by decide +kernel
theorem dX6_clear_51 : decode cX6_clear 51 = .ok (.aload_n 0, 1) := by decide +kernel
theorem dX6_clear_52 : decode cX6_clear 52 = .ok (.iconst 3, 1) := by decide +kernel
theorem dX6_clear_53 : decode cX6_clear 53 = .ok (.putfield 57, 3) := by decide +kernel
theorem dX6_clear_56 : decode cX6_clear 56 = .ok (.aload_n 0, 1) := by decide +kernel
theorem dX6_clear_57 : decode cX6_clear 57 = .ok (.iconst 0, 1) := by decide +kernel
theorem dX6_clear_58 : decode cX6_clear 58 = .ok (.putfield 60, 3) := by decide +kernel
theorem dX6_clear_61 : decode cX6_clear 61 = .ok (.return_, 1) := by decide +kernel
theorem dX6_addReally_0 : decode cX6_addReally 0 = .ok (.aload_n 0, 1) := by decide +kernel
theorem dX6_addReally_1 : decode cX6_addReally 1 = .ok (.dup, 1) := by decide +kernel
theorem dX6_addReally_2 : decode cX6_addReally 2 = .ok (.getfield 41, 3) := by decide +kernel
theorem dX6_addReally_5 : decode cX6_addReally 5 = .ok (.iconst 1, 1) := by decide +kernel
theorem dX6_addReally_6 : decode cX6_addReally 6 = .ok (.iadd, 1) := by decide +kernel
theorem dX6_addReally_7 : decode cX6_addReally 7 = .ok (.putfield 41, 3) := by decide +kernel
theorem dX6_addReally_10 : decode cX6_addReally 10 = .ok (.aload_n 0, 1) := by decide +kernel
theorem dX6_addReally_11 : decode cX6_addReally 11 = .ok (.iload_n 1, 1) := by decide +kernel
theorem dX6_addReally_12 : decode cX6_addReally 12 = .ok (.invokevirtual 72, 3) := by decide +kernel
theorem dX6_addReally_15 : decode cX6_addReally 15 = .ok (.ifCond .eq 23, 3) := by decide +kernel
theorem dX6_addReally_18 : decode cX6_addReally 18 = .ok (.aload_n 0, 1) := by decide +kernel
theorem dX6_addReally_19 : decode cX6_addReally 19 = .ok (.iload_n 2, 1) := by decide +kernel
theorem dX6_addReally_20 : decode cX6_addReally 20 = .ok (.invokevirtual 76, 3) := by decide +kernel
theorem dX6_addReally_23 : decode cX6_addReally 23 = .ok (.ifCond .eq 15, 3) := by decide +kernel
theorem dX6_addReally_26 : decode cX6_addReally 26 = .ok (.aload_n 0, 1) := by decide +kernel
theorem dX6_addReally_27 : decode cX6_addReally 27 = .ok (.getfield 44, 3) := by decide +kernel
theorem dX6_addReally_30 : decode cX6_addReally 30 = .ok (.iload_n 1, 1) := by decide +kernel
theorem dX6_addReally_31 : decode cX6_addReally 31 = .ok (.dup2, 1) := by decide +kernel
theorem dX6_addReally_32 : decode cX6_addReally 32 = .ok (.iaload, 1) := by decide +kernel
theorem dX6_addReally_33 : decode cX6_addReally 33 = .ok (.iconst 1, 1) := by decide +kernel
theorem dX6_addReally_34 : decode cX6_addReally 34 = .ok (.iload_n 2, 1) := by decide +kernel
theorem dX6_addReally_35 : decode cX6_addReally 35 = .ok (.ishl, 1) := by decide +kernel
theorem dX6_addReally_36 : decode cX6_addReally 36 = .ok (.ior, 1) := by decide +kernel
theorem dX6_addReally_37 : decode cX6_addReally 37 = .ok (.iastore, 1) := by decide +kernel
theorem dX6_addReally_38 : decode cX6_addReally 38 = .ok (.return_, 1) := by decide +kernel
theorem dX6_begin_0 : decode cX6_begin 0 = .ok (.aload_n 0, 1) := by decide +kernel
theorem dX6_begin_1 : decode cX6_begin 1 = .ok (.getfield 32, 3) := by decide +kernel
theorem dX6_begin_4 : decode cX6_begin 4 = .ok (.iconst 0, 1) := by decide +kernel
theorem dX6_begin_5 : decode cX6_begin 5 = .ok (.aload_n 1, 1) := by decide +kernel
theorem dX6_begin_6 : decode cX6_begin 6 = .ok (.getfield 79, 3) := by decide +kernel
theorem dX6_begin_9 : decode cX6_begin 9 = .ok (.iconst 0, 1) := by decide +kernel
theorem dX6_begin_10 : decode cX6_begin 10 = .ok (.bipush 6, 2) := by decide +kernel
theorem dX6_begin_12 : decode cX6_begin 12 = .ok (.invokestatic 84, 3) := by decide +kernel
theorem dX6_begin_15 : decode cX6_begin 15 = .ok (.aload_n 0, 1) := by decide +kernel
theorem dX6_begin_16 : decode cX6_begin 16 = .ok (.getfield 38, 3) := by decide +kernel
theorem dX6_begin_19 : decode cX6_begin 19 = .ok (.iconst 0, 1) := by decide +kernel
theorem dX6_begin_20 : decode cX6_begin 20 = .ok (.aload_n 1, 1) := by decide +kernel
theorem dX6_begin_21 : decode cX6_begin 21 = .ok (.getfield 90, 3) := by decide +kernel
theorem dX6_begin_24 : decode cX6_begin 24 = .ok (.iconst 0, 1) := by decide +kernel
theorem dX6_begin_25 : decode cX6_begin 25 = .ok (.bipush 6, 2) := by decide +kernel
theorem dX6_begin_27 : decode cX6_begin 27 = .ok (.invokestatic 84, 3) := by decide +kernel
theorem dX6_begin_30 : decode cX6_begin 30 = .ok (.aload_n 1, 1) := by decide +kernel
theorem dX6_begin_31 : decode cX6_begin 31 = .ok (.getfield 93, 3) := by decide +kernel
theorem dX6_begin_34 : decode cX6_begin 34 = .ok (.iconst 0, 1) := by decide +kernel
theorem dX6_begin_35 : decode cX6_begin 35 = .ok (.invokestatic 63, 3) := by decide +kernel
theorem dX6_begin_38 : decode cX6_begin 38 = .ok (.aload_n 1, 1) := by decide +kernel
theorem dX6_begin_39 : decode cX6_begin 39 = .ok (.getfield 96, 3) := by decide +kernel
theorem dX6_begin_42 : decode cX6_begin 42 = .ok (.iconst 0, 1) := by decide +kernel
theorem dX6_begin_43 : decode cX6_begin 43 = .ok (.invokestatic 63, 3) := by decide +kernel
theorem dX6_begin_46 : decode cX6_begin 46 = .ok (.aload_n 1, 1) := by decide +kernel
theorem dX6_begin_47 : decode cX6_begin 47 = .ok (.iconst 1, 1) := by decide +kernel
theorem dX6_begin_48 : decode cX6_begin 48 = .ok (.aload_n 0, 1) := by decide +kernel
theorem dX6_begin_49 : decode cX6_begin 49 = .ok (.getfield 26, 3) := by decide +kernel
theorem dX6_begin_52 : decode cX6_begin 52 = .ok (.ishl, 1) := by decide +kernel
theorem dX6_begin_53 : decode cX6_begin 53 = .ok (.iconst 1, 1) := by decide +kernel
theorem dX6_begin_54 : decode cX6_begin 54 = .ok (.isub, 1) := by decide +kernel
theorem dX6_begin_55 : decode cX6_begin 55 = .ok (.putfield 98, 3) := by decide +kernel
theorem dX6_begin_58 : decode cX6_begin 58 = .ok (.aload_n 1, 1) := by decide +kernel
theorem dX6_begin_59 : decode cX6_begin 59 = .ok (.iconst 0, 1) := by decide +kernel
theorem dX6_begin_60 : decode cX6_begin 60 = .ok (.putfield 101, 3) := by decide +kernel
theorem dX6_begin_63 : decode cX6_begin 63 = .ok (.aload_n 1, 1) := by decide +kernel
theorem dX6_begin_64 : decode cX6_begin 64 = .ok (.iconst (-1), 1) := by decide +kernel
theorem dX6_begin_65 : decode cX6_begin 65 = .ok (.putfield 104, 3) := by decide +kernel
theorem dX6_begin_68 : decode cX6_begin 68 = .ok (.aload_n 1, 1) := by decide +kernel
theorem dX6_begin_69 : decode cX6_begin 69 = .ok (.iconst 0, 1) := by decide +kernel
theorem dX6_begin_70 : decode cX6_begin 70 = .ok (.putfield 107, 3) := by decide +kernel
theorem dX6_begin_73 : decode cX6_begin 73 = .ok (.return_, 1) := by decide +kernel
theorem dX6_isReally_0 : decode cX6_isReally 0 = .ok (.aload_n 0, 1) := by decide +kernel
theorem dX6_isReally_1 : decode cX6_isReally 1 = .ok (.getfield 44, 3) := by decide +kernel
theorem dX6_isReally_4 : decode cX6_isReally 4 = .ok (.iload_n 1, 1) := by decide +kernel
theorem dX6_isReally_5 : decode cX6_isReally 5 = .ok (.iaload, 1) := by decide +kernel
theorem dX6_isReally_6 : decode cX6_isReally 6 = .ok (.iload_n 2, 1) := by decide +kernel
theorem dX6_isReally_7 : decode cX6_isReally 7 = .ok (.invokestatic 110, 3) := by decide +kernel
theorem dX6_isReally_10 : decode cX6_isReally 10 = .ok (.ireturn, 1) := by decide +kernel
theorem dX6_reallyIt_0 : decode cX6_reallyIt 0 = .ok (.iconst 0, 1) := by decide +kernel
theorem dX6_reallyIt_1 : decode cX6_reallyIt 1 = .ok (.istore_n 2, 1) := by decide +kernel
theorem dX6_reallyIt_2 : decode cX6_reallyIt 2 = .ok (.iconst 0, 1) := by decide +kernel
theorem dX6_reallyIt_3 : decode cX6_reallyIt 3 = .ok (.istore_n 3, 1) := by decide +kernel
theorem dX6_reallyIt_4 : decode cX6_reallyIt 4 = .ok (.iload_n 3, 1) := by decide +kernel
theorem dX6_reallyIt_5 : decode cX6_reallyIt 5 = .ok (.aload_n 0, 1) := by decide +kernel
theorem dX6_reallyIt_6 : decode cX6_reallyIt 6 = .ok (.getfield 26, 3) := by decide +kernel
theorem dX6_reallyIt_9 : decode cX6_reallyIt 9 = .ok (.if_icmp .ge 24, 3) := by decide +kernel
theorem dX6_reallyIt_12 : decode cX6_reallyIt 12 = .ok (.aload_n 0, 1) := by decide +kernel
theorem dX6_reallyIt_13 : decode cX6_reallyIt 13 = .ok (.iload_n 3, 1) := by decide +kernel
theorem dX6_reallyIt_14 : decode cX6_reallyIt 14 = .ok (.iload_n 1, 1) := by decide +kernel
theorem dX6_reallyIt_15 : decode cX6_reallyIt 15 = .ok (.invokevirtual 114, 3) := by decide +kernel
theorem dX6_reallyIt_18 : decode cX6_reallyIt 18 = .ok (.ifCond .eq 9, 3) := by decide +kernel
theorem dX6_reallyIt_21 : decode cX6_reallyIt 21 = .ok (.iload_n 2, 1) := by decide +kernel
theorem dX6_reallyIt_22 : decode cX6_reallyIt 22 = .ok (.iconst 1, 1) := by decide +kernel
theorem dX6_reallyIt_23 : decode cX6_reallyIt 23 = .ok (.iload_n 3, 1) := by decide +kernel
theorem dX6_reallyIt_24 : decode cX6_reallyIt 24 = .ok (.ishl, 1) := by decide +kernel
theorem dX6_reallyIt_25 : decode cX6_reallyIt 25 = .ok (.ior, 1) := by decide +kernel
theorem dX6_reallyIt_26 : decode cX6_reallyIt 26 = .ok (.istore_n 2, 1) := by decide +kernel
theorem dX6_reallyIt_27 : decode cX6_reallyIt 27 = .ok (.iinc 3 1, 3) := by decide +kernel
theorem dX6_reallyIt_30 : decode cX6_reallyIt 30 = .ok (.goto (-26), 3) := by decide +kernel
theorem dX6_reallyIt_33 : decode cX6_reallyIt 33 = .ok (.iload_n 2, 1) := by decide +kernel
theorem dX6_reallyIt_34 : decode cX6_reallyIt 34 = .ok (.ireturn, 1) := by decide +kernel
theorem dX6_lackedByAny_0 : decode cX6_lackedByAny 0 = .ok (.iconst 0, 1) := by decide +kernel
theorem dX6_lackedByAny_1 : decode cX6_lackedByAny 1 = .ok (.istore_n 3, 1) := by decide +kernel
theorem dX6_lackedByAny_2 : decode cX6_lackedByAny 2 = .ok (.iconst 0, 1) := by decide +kernel
theorem dX6_lackedByAny_3 : decode cX6_lackedByAny 3 = .ok (.istore 4, 2) := by decide +kernel
theorem dX6_lackedByAny_5 : decode cX6_lackedByAny 5 = .ok (.iload 4, 2) := by decide +kernel
theorem dX6_lackedByAny_7 : decode cX6_lackedByAny 7 = .ok (.aload_n 0, 1) := by decide +kernel
theorem dX6_lackedByAny_8 : decode cX6_lackedByAny 8 = .ok (.getfield 26, 3) := by decide +kernel
theorem dX6_lackedByAny_11 : decode cX6_lackedByAny 11 = .ok (.if_icmp .ge 32, 3) := by decide +kernel
theorem dX6_lackedByAny_14 : decode cX6_lackedByAny 14 = .ok (.iload_n 3, 1) := by decide +kernel
theorem dX6_lackedByAny_15 : decode cX6_lackedByAny 15 = .ok (.iload_n 2, 1) := by decide +kernel
theorem dX6_lackedByAny_16 : decode cX6_lackedByAny 16 = .ok (.iload 4, 2) := by decide +kernel
theorem dX6_lackedByAny_18 : decode cX6_lackedByAny 18 = .ok (.invokestatic 110, 3) := by decide +kernel
theorem dX6_lackedByAny_21 : decode cX6_lackedByAny 21 = .ok (.ifCond .eq 13, 3) := by decide +kernel
theorem dX6_lackedByAny_24 : decode cX6_lackedByAny 24 = .ok (.aload_n 0, 1) := by decide +kernel
theorem dX6_lackedByAny_25 : decode cX6_lackedByAny 25 = .ok (.aload_n 1, 1) := by decide +kernel
theorem dX6_lackedByAny_26 : decode cX6_lackedByAny 26 = .ok (.iload 4, 2) := by decide +kernel
theorem dX6_lackedByAny_28 : decode cX6_lackedByAny 28 = .ok (.invokevirtual 117, 3) := by decide +kernel
theorem dX6_lackedByAny_31 : decode cX6_lackedByAny 31 = .ok (.goto 4, 3) := by decide +kernel
theorem dX6_lackedByAny_34 : decode cX6_lackedByAny 34 = .ok (.iconst 0, 1) := by decide +kernel
theorem dX6_lackedByAny_35 : decode cX6_lackedByAny 35 = .ok (.ior, 1) := by decide +kernel
theorem dX6_lackedByAny_36 : decode cX6_lackedByAny 36 = .ok (.istore_n 3, 1) := by decide +kernel
theorem dX6_lackedByAny_37 : decode cX6_lackedByAny 37 = .ok (.iinc 4 1, 3) := by decide +kernel
theorem dX6_lackedByAny_40 : decode cX6_lackedByAny 40 = .ok (.goto (-35), 3) := by decide +kernel
theorem dX6_lackedByAny_43 : decode cX6_lackedByAny 43 = .ok (.iload_n 3, 1) := by decide +kernel
theorem dX6_lackedByAny_44 : decode cX6_lackedByAny 44 = .ok (.ireturn, 1) := by decide +kernel
theorem dX6_hopelessIn_0 : decode cX6_hopelessIn 0 = .ok (.iconst 0, 1) := by decide +kernel
theorem dX6_hopelessIn_1 : decode cX6_hopelessIn 1 = .ok (.istore_n 2, 1) := by decide +kernel
theorem dX6_hopelessIn_2 : decode cX6_hopelessIn 2 = .ok (.iconst 0, 1) := by decide +kernel
theorem dX6_hopelessIn_3 : decode cX6_hopelessIn 3 = .ok (.istore_n 3, 1) := by decide +kernel
theorem dX6_hopelessIn_4 : decode cX6_hopelessIn 4 = .ok (.iload_n 3, 1) := by decide +kernel
theorem dX6_hopelessIn_5 : decode cX6_hopelessIn 5 = .ok (.aload_n 0, 1) := by decide +kernel
theorem dX6_hopelessIn_6 : decode cX6_hopelessIn 6 = .ok (.getfield 26, 3) := by decide +kernel
theorem dX6_hopelessIn_9 : decode cX6_hopelessIn 9 = .ok (.if_icmp .ge 47, 3) := by decide +kernel
theorem dX6_hopelessIn_12 : decode cX6_hopelessIn 12 = .ok (.aload_n 1, 1) := by decide +kernel
theorem dX6_hopelessIn_13 : decode cX6_hopelessIn 13 = .ok (.iload_n 3, 1) := by decide +kernel
theorem dX6_hopelessIn_14 : decode cX6_hopelessIn 14 = .ok (.invokevirtual 121, 3) := by decide +kernel
theorem dX6_hopelessIn_17 : decode cX6_hopelessIn 17 = .ok (.ifCond .eq 10, 3) := by decide +kernel
theorem dX6_hopelessIn_20 : decode cX6_hopelessIn 20 = .ok (.aload_n 0, 1) := by decide +kernel
theorem dX6_hopelessIn_21 : decode cX6_hopelessIn 21 = .ok (.invokevirtual 124, 3) := by decide +kernel
theorem dX6_hopelessIn_24 : decode cX6_hopelessIn 24 = .ok (.goto 4, 3) := by decide +kernel
theorem dX6_hopelessIn_27 : decode cX6_hopelessIn 27 = .ok (.iconst 0, 1) := by decide +kernel
theorem dX6_hopelessIn_28 : decode cX6_hopelessIn 28 = .ok (.istore 4, 2) := by decide +kernel
theorem dX6_hopelessIn_30 : decode cX6_hopelessIn 30 = .ok (.aload_n 0, 1) := by decide +kernel
theorem dX6_hopelessIn_31 : decode cX6_hopelessIn 31 = .ok (.aload_n 1, 1) := by decide +kernel
theorem dX6_hopelessIn_32 : decode cX6_hopelessIn 32 = .ok (.iload_n 3, 1) := by decide +kernel
theorem dX6_hopelessIn_33 : decode cX6_hopelessIn 33 = .ok (.invokevirtual 117, 3) := by decide +kernel
theorem dX6_hopelessIn_36 : decode cX6_hopelessIn 36 = .ok (.iload 4, 2) := by decide +kernel
theorem dX6_hopelessIn_38 : decode cX6_hopelessIn 38 = .ok (.iconst (-1), 1) := by decide +kernel
theorem dX6_hopelessIn_39 : decode cX6_hopelessIn 39 = .ok (.ixor, 1) := by decide +kernel
theorem dX6_hopelessIn_40 : decode cX6_hopelessIn 40 = .ok (.iand, 1) := by decide +kernel
theorem dX6_hopelessIn_41 : decode cX6_hopelessIn 41 = .ok (.ifCond .eq 9, 3) := by decide +kernel
theorem dX6_hopelessIn_44 : decode cX6_hopelessIn 44 = .ok (.iload_n 2, 1) := by decide +kernel
theorem dX6_hopelessIn_45 : decode cX6_hopelessIn 45 = .ok (.iconst 1, 1) := by decide +kernel
theorem dX6_hopelessIn_46 : decode cX6_hopelessIn 46 = .ok (.iload_n 3, 1) := by decide +kernel
theorem dX6_hopelessIn_47 : decode cX6_hopelessIn 47 = .ok (.ishl, 1) := by decide +kernel
theorem dX6_hopelessIn_48 : decode cX6_hopelessIn 48 = .ok (.ior, 1) := by decide +kernel
theorem dX6_hopelessIn_49 : decode cX6_hopelessIn 49 = .ok (.istore_n 2, 1) := by decide +kernel
theorem dX6_hopelessIn_50 : decode cX6_hopelessIn 50 = .ok (.iinc 3 1, 3) := by decide +kernel
theorem dX6_hopelessIn_53 : decode cX6_hopelessIn 53 = .ok (.goto (-49), 3) := by decide +kernel
theorem dX6_hopelessIn_56 : decode cX6_hopelessIn 56 = .ok (.iload_n 2, 1) := by decide +kernel
theorem dX6_hopelessIn_57 : decode cX6_hopelessIn 57 = .ok (.ireturn, 1) := by decide +kernel
theorem dX6_lookAt_0 : decode cX6_lookAt 0 = .ok (.aload_n 0, 1) := by decide +kernel
theorem dX6_lookAt_1 : decode cX6_lookAt 1 = .ok (.getfield 50, 3) := by decide +kernel
theorem dX6_lookAt_4 : decode cX6_lookAt 4 = .ok (.invokevirtual 132, 3) := by decide +kernel
theorem dX6_lookAt_7 : decode cX6_lookAt 7 = .ok (.aload_n 0, 1) := by decide +kernel
theorem dX6_lookAt_8 : decode cX6_lookAt 8 = .ok (.getfield 50, 3) := by decide +kernel
theorem dX6_lookAt_11 : decode cX6_lookAt 11 = .ok (.getfield 135, 3) := by decide +kernel
theorem dX6_lookAt_14 : decode cX6_lookAt 14 = .ok (.iconst 0, 1) := by decide +kernel
theorem dX6_lookAt_15 : decode cX6_lookAt 15 = .ok (.aload_n 0, 1) := by decide +kernel
theorem dX6_lookAt_16 : decode cX6_lookAt 16 = .ok (.getfield 23, 3) := by decide +kernel
theorem dX6_lookAt_19 : decode cX6_lookAt 19 = .ok (.iload_n 3, 1) := by decide +kernel
theorem dX6_lookAt_20 : decode cX6_lookAt 20 = .ok (.iaload, 1) := by decide +kernel
theorem dX6_lookAt_21 : decode cX6_lookAt 21 = .ok (.iastore, 1) := by decide +kernel
theorem dX6_lookAt_22 : decode cX6_lookAt 22 = .ok (.aload_n 0, 1) := by decide +kernel
theorem dX6_lookAt_23 : decode cX6_lookAt 23 = .ok (.getfield 50, 3) := by decide +kernel
theorem dX6_lookAt_26 : decode cX6_lookAt 26 = .ok (.getfield 135, 3) := by decide +kernel
theorem dX6_lookAt_29 : decode cX6_lookAt 29 = .ok (.iconst 1, 1) := by decide +kernel
theorem dX6_lookAt_30 : decode cX6_lookAt 30 = .ok (.aload_n 1, 1) := by decide +kernel
theorem dX6_lookAt_31 : decode cX6_lookAt 31 = .ok (.getfield 93, 3) := by decide +kernel
theorem dX6_lookAt_34 : decode cX6_lookAt 34 = .ok (.iload_n 3, 1) := by decide +kernel
theorem dX6_lookAt_35 : decode cX6_lookAt 35 = .ok (.iaload, 1) := by decide +kernel
theorem dX6_lookAt_36 : decode cX6_lookAt 36 = .ok (.iastore, 1) := by decide +kernel
theorem dX6_lookAt_37 : decode cX6_lookAt 37 = .ok (.aload_n 0, 1) := by decide +kernel
theorem dX6_lookAt_38 : decode cX6_lookAt 38 = .ok (.getfield 50, 3) := by decide +kernel
theorem dX6_lookAt_41 : decode cX6_lookAt 41 = .ok (.getfield 135, 3) := by decide +kernel
theorem dX6_lookAt_44 : decode cX6_lookAt 44 = .ok (.iconst 3, 1) := by decide +kernel
theorem dX6_lookAt_45 : decode cX6_lookAt 45 = .ok (.aload_n 1, 1) := by decide +kernel
theorem dX6_lookAt_46 : decode cX6_lookAt 46 = .ok (.getfield 101, 3) := by decide +kernel
theorem dX6_lookAt_49 : decode cX6_lookAt 49 = .ok (.iastore, 1) := by decide +kernel
theorem dX6_lookAt_50 : decode cX6_lookAt 50 = .ok (.aload_n 0, 1) := by decide +kernel
theorem dX6_lookAt_51 : decode cX6_lookAt 51 = .ok (.getfield 50, 3) := by decide +kernel
theorem dX6_lookAt_54 : decode cX6_lookAt 54 = .ok (.getfield 135, 3) := by decide +kernel
theorem dX6_lookAt_57 : decode cX6_lookAt 57 = .ok (.iconst 4, 1) := by decide +kernel
theorem dX6_lookAt_58 : decode cX6_lookAt 58 = .ok (.aload_n 1, 1) := by decide +kernel
theorem dX6_lookAt_59 : decode cX6_lookAt 59 = .ok (.getfield 90, 3) := by decide +kernel
theorem dX6_lookAt_62 : decode cX6_lookAt 62 = .ok (.iload_n 2, 1) := by decide +kernel
theorem dX6_lookAt_63 : decode cX6_lookAt 63 = .ok (.iaload, 1) := by decide +kernel
theorem dX6_lookAt_64 : decode cX6_lookAt 64 = .ok (.iastore, 1) := by decide +kernel
theorem dX6_lookAt_65 : decode cX6_lookAt 65 = .ok (.aload_n 0, 1) := by decide +kernel
theorem dX6_lookAt_66 : decode cX6_lookAt 66 = .ok (.getfield 50, 3) := by decide +kernel
theorem dX6_lookAt_69 : decode cX6_lookAt 69 = .ok (.getfield 135, 3) := by decide +kernel
theorem dX6_lookAt_72 : decode cX6_lookAt 72 = .ok (.iconst 5, 1) := by decide +kernel
theorem dX6_lookAt_73 : decode cX6_lookAt 73 = .ok (.aload_n 1, 1) := by decide +kernel
theorem dX6_lookAt_74 : decode cX6_lookAt 74 = .ok (.getfield 79, 3) := by decide +kernel
theorem dX6_lookAt_77 : decode cX6_lookAt 77 = .ok (.iload_n 2, 1) := by decide +kernel
theorem dX6_lookAt_78 : decode cX6_lookAt 78 = .ok (.iaload, 1) := by decide +kernel
theorem dX6_lookAt_79 : decode cX6_lookAt 79 = .ok (.invokestatic 142, 3) := by decide +kernel
theorem dX6_lookAt_82 : decode cX6_lookAt 82 = .ok (.iastore, 1) := by decide +kernel
theorem dX6_lookAt_83 : decode cX6_lookAt 83 = .ok (.aload_n 0, 1) := by decide +kernel
theorem dX6_lookAt_84 : decode cX6_lookAt 84 = .ok (.getfield 50, 3) := by decide +kernel
theorem dX6_lookAt_87 : decode cX6_lookAt 87 = .ok (.getfield 135, 3) := by decide +kernel
theorem dX6_lookAt_90 : decode cX6_lookAt 90 = .ok (.bipush 6, 2) := by decide +kernel
theorem dX6_lookAt_92 : decode cX6_lookAt 92 = .ok (.iload 4, 2) := by decide +kernel
theorem dX6_lookAt_94 : decode cX6_lookAt 94 = .ok (.invokestatic 142, 3) := by decide +kernel
theorem dX6_lookAt_97 : decode cX6_lookAt 97 = .ok (.iastore, 1) := by decide +kernel
theorem dX6_lookAt_98 : decode cX6_lookAt 98 = .ok (.aload_n 0, 1) := by decide +kernel
theorem dX6_lookAt_99 : decode cX6_lookAt 99 = .ok (.getfield 50, 3) := by decide +kernel
theorem dX6_lookAt_102 : decode cX6_lookAt 102 = .ok (.getfield 135, 3) := by decide +kernel
theorem dX6_lookAt_105 : decode cX6_lookAt 105 = .ok (.bipush 7, 2) := by decide +kernel
theorem dX6_lookAt_107 : decode cX6_lookAt 107 = .ok (.iload_n 2, 1) := by decide +kernel
theorem dX6_lookAt_108 : decode cX6_lookAt 108 = .ok (.iastore, 1) := by decide +kernel
theorem dX6_lookAt_109 : decode cX6_lookAt 109 = .ok (.aload_n 0, 1) := by decide +kernel
theorem dX6_lookAt_110 : decode cX6_lookAt 110 = .ok (.getfield 50, 3) := by decide +kernel
theorem dX6_lookAt_113 : decode cX6_lookAt 113 = .ok (.getfield 135, 3) := by decide +kernel
theorem dX6_lookAt_116 : decode cX6_lookAt 116 = .ok (.bipush 8, 2) := by decide +kernel
theorem dX6_lookAt_118 : decode cX6_lookAt 118 = .ok (.aload_n 0, 1) := by decide +kernel
theorem dX6_lookAt_119 : decode cX6_lookAt 119 = .ok (.iload_n 2, 1) := by decide +kernel
theorem dX6_lookAt_120 : decode cX6_lookAt 120 = .ok (.iload_n 3, 1) := by decide +kernel
theorem dX6_lookAt_121 : decode cX6_lookAt 121 = .ok (.invokevirtual 114, 3) := by decide +kernel
theorem dX6_lookAt_124 : decode cX6_lookAt 124 = .ok (.ifCond .eq 7, 3) := by decide +kernel
theorem dX6_lookAt_127 : decode cX6_lookAt 127 = .ok (.iconst 1, 1) := by decide +kernel
theorem dX6_lookAt_128 : decode cX6_lookAt 128 = .ok (.goto 4, 3) := by decide +kernel
theorem dX6_lookAt_131 : decode cX6_lookAt 131 = .ok (.iconst 0, 1) := by decide +kernel
theorem dX6_lookAt_132 : decode cX6_lookAt 132 = .ok (.iastore, 1) := by decide +kernel
theorem dX6_lookAt_133 : decode cX6_lookAt 133 = .ok (.return_, 1) := by decide +kernel
theorem dX6_lot_0 : decode cX6_lot 0 = .ok (.iload_n 1, 1) := by decide +kernel
theorem dX6_lot_1 : decode cX6_lot 1 = .ok (.sipush 141, 3) := by decide +kernel
theorem dX6_lot_4 : decode cX6_lot 4 = .ok (.invokestatic 151, 3) := by decide +kernel
theorem dX6_lot_7 : decode cX6_lot 7 = .ok (.iload_n 2, 1) := by decide +kernel
theorem dX6_lot_8 : decode cX6_lot 8 = .ok (.invokestatic 151, 3) := by decide +kernel
theorem dX6_lot_11 : decode cX6_lot 11 = .ok (.istore_n 3, 1) := by decide +kernel
theorem dX6_lot_12 : decode cX6_lot 12 = .ok (.iload_n 0, 1) := by decide +kernel
theorem dX6_lot_13 : decode cX6_lot 13 = .ok (.ifCond .le 11, 3) := by decide +kernel
theorem dX6_lot_16 : decode cX6_lot 16 = .ok (.iload_n 3, 1) := by decide +kernel
theorem dX6_lot_17 : decode cX6_lot 17 = .ok (.iconst 1, 1) := by decide +kernel
theorem dX6_lot_18 : decode cX6_lot 18 = .ok (.iushr, 1) := by decide +kernel
theorem dX6_lot_19 : decode cX6_lot 19 = .ok (.iload_n 0, 1) := by decide +kernel
theorem dX6_lot_20 : decode cX6_lot 20 = .ok (.irem, 1) := by decide +kernel
theorem dX6_lot_21 : decode cX6_lot 21 = .ok (.goto 4, 3) := by decide +kernel
theorem dX6_lot_24 : decode cX6_lot 24 = .ok (.iconst 0, 1) := by decide +kernel
theorem dX6_lot_25 : decode cX6_lot 25 = .ok (.ireturn, 1) := by decide +kernel
theorem dX7_takeLetters_0 : decode cX7_takeLetters 0 = .ok (.aload_n 0, 1) := by decide +kernel
theorem dX7_takeLetters_1 : decode cX7_takeLetters 1 = .ok (.lconst 0, 1) := by decide +kernel
theorem dX7_takeLetters_2 : decode cX7_takeLetters 2 = .ok (.putfield 32, 3) := by decide +kernel
theorem dX7_takeLetters_5 : decode cX7_takeLetters 5 = .ok (.aload_n 0, 1) := by decide +kernel
theorem dX7_takeLetters_6 : decode cX7_takeLetters 6 = .ok (.getfield 19, 3) := by decide +kernel
theorem dX7_takeLetters_9 : decode cX7_takeLetters 9 = .ok (.iload_n 2, 1) := by decide +kernel
theorem dX7_takeLetters_10 : decode cX7_takeLetters 10 = .ok (.if_icmp .ge 45, 3) := by decide +kernel
theorem dX7_takeLetters_13 : decode cX7_takeLetters 13 = .ok (.aload_n 1, 1) := by decide +kernel
theorem dX7_takeLetters_14 : decode cX7_takeLetters 14 = .ok (.aload_n 0, 1) := by decide +kernel
theorem dX7_takeLetters_15 : decode cX7_takeLetters 15 = .ok (.getfield 19, 3) := by decide +kernel
theorem dX7_takeLetters_18 : decode cX7_takeLetters 18 = .ok (.baload, 1) := by decide +kernel
theorem dX7_takeLetters_19 : decode cX7_takeLetters 19 = .ok (.invokestatic 58, 3) := by decide +kernel
theorem dX7_takeLetters_22 : decode cX7_takeLetters 22 = .ok (.ifCond .eq 33, 3) := by decide +kernel
theorem dX7_takeLetters_25 : decode cX7_takeLetters 25 = .ok (.aload_n 0, 1) := by decide +kernel
theorem dX7_takeLetters_26 : decode cX7_takeLetters 26 = .ok (.aload_n 0, 1) := by decide +kernel
theorem dX7_takeLetters_27 : decode cX7_takeLetters 27 = .ok (.getfield 32, 3) := by decide +kernel
theorem dX7_takeLetters_30 : decode cX7_takeLetters 30 = .ok (.aload_n 1, 1) := by decide +kernel
theorem dX7_takeLetters_31 : decode cX7_takeLetters 31 = .ok (.aload_n 0, 1) := by decide +kernel
theorem dX7_takeLetters_32 : decode cX7_takeLetters 32 = .ok (.getfield 19, 3) := by decide +kernel
theorem dX7_takeLetters_35 : decode cX7_takeLetters 35 = .ok (.baload, 1) := by decide +kernel
theorem dX7_takeLetters_36 : decode cX7_takeLetters 36 = .ok (.invokestatic 48, 3) := by decide +kernel
theorem dX7_takeLetters_39 : decode cX7_takeLetters 39 = .ok (.putfield 32, 3) := by decide +kernel
theorem dX7_takeLetters_42 : decode cX7_takeLetters 42 = .ok (.aload_n 0, 1) := by decide +kernel
theorem dX7_takeLetters_43 : decode cX7_takeLetters 43 = .ok (.dup, 1) := by decide +kernel
theorem dX7_takeLetters_44 : decode cX7_takeLetters 44 = .ok (.getfield 19, 3) := by decide +kernel
theorem dX7_takeLetters_47 : decode cX7_takeLetters 47 = .ok (.iconst 1, 1) := by decide +kernel
theorem dX7_takeLetters_48 : decode cX7_takeLetters 48 = .ok (.iadd, 1) := by decide +kernel
theorem dX7_takeLetters_49 : decode cX7_takeLetters 49 = .ok (.putfield 19, 3) := by decide +kernel
theorem dX7_takeLetters_52 : decode cX7_takeLetters 52 = .ok (.goto (-47), 3) := by decide +kernel
theorem dX7_takeLetters_55 : decode cX7_takeLetters 55 = .ok (.aload_n 0, 1) := by decide +kernel
theorem dX7_takeLetters_56 : decode cX7_takeLetters 56 = .ok (.aload_n 0, 1) := by decide +kernel
theorem dX7_takeLetters_57 : decode cX7_takeLetters 57 = .ok (.getfield 19, 3) := by decide +kernel
theorem dX7_takeLetters_60 : decode cX7_takeLetters 60 = .ok (.aload_n 0, 1) := by decide +kernel
theorem dX7_takeLetters_61 : decode cX7_takeLetters 61 = .ok (.getfield 23, 3) := by decide +kernel
theorem dX7_takeLetters_64 : decode cX7_takeLetters 64 = .ok (.isub, 1) := by decide +kernel
theorem dX7_takeLetters_65 : decode cX7_takeLetters 65 = .ok (.bipush 8, 2) := by decide +kernel
theorem dX7_takeLetters_67 : decode cX7_takeLetters 67 = .ok (.if_icmp .le 7, 3) := by decide +kernel
theorem dX7_takeLetters_70 : decode cX7_takeLetters 70 = .ok (.iconst (-1), 1) := by decide +kernel
theorem dX7_takeLetters_71 : decode cX7_takeLetters 71 = .ok (.goto 7, 3) := by decide +kernel
theorem dX7_takeLetters_74 : decode cX7_takeLetters 74 = .ok (.aload_n 0, 1) := by decide +kernel
theorem dX7_takeLetters_75 : decode cX7_takeLetters 75 = .ok (.invokevirtual 77, 3) := by decide +kernel
theorem dX7_takeLetters_78 : decode cX7_takeLetters 78 = .ok (.putfield 26, 3) := by decide +kernel
theorem dX7_takeLetters_81 : decode cX7_takeLetters 81 = .ok (.return_, 1) := by decide +kernel
theorem dX7_takeDigits_0 : decode cX7_takeDigits 0 = .ok (.aload_n 0, 1) := by decide +kernel
theorem dX7_takeDigits_1 : decode cX7_takeDigits 1 = .ok (.iconst 0, 1) := by decide +kernel
theorem dX7_takeDigits_2 : decode cX7_takeDigits 2 = .ok (.putfield 29, 3) := by decide +kernel
theorem dX7_takeDigits_5 : decode cX7_takeDigits 5 = .ok (.aload_n 0, 1) := by decide +kernel
theorem dX7_takeDigits_6 : decode cX7_takeDigits 6 = .ok (.getfield 19, 3) := by decide +kernel
theorem dX7_takeDigits_9 : decode cX7_takeDigits 9 = .ok (.iload_n 2, 1) := by decide +kernel
theorem dX7_takeDigits_10 : decode cX7_takeDigits 10 = .ok (.if_icmp .ge 49, 3) := by decide +kernel
theorem dX7_takeDigits_13 : decode cX7_takeDigits 13 = .ok (.aload_n 1, 1) := by decide +kernel
theorem dX7_takeDigits_14 : decode cX7_takeDigits 14 = .ok (.aload_n 0, 1) := by decide +kernel
theorem dX7_takeDigits_15 : decode cX7_takeDigits 15 = .ok (.getfield 19, 3) := by decide +kernel
theorem dX7_takeDigits_18 : decode cX7_takeDigits 18 = .ok (.baload, 1) := by decide +kernel
theorem dX7_takeDigits_19 : decode cX7_takeDigits 19 = .ok (.invokestatic 65, 3) := by decide +kernel
theorem dX7_takeDigits_22 : decode cX7_takeDigits 22 = .ok (.ifCond .eq 37, 3) := by decide +kernel
theorem dX7_takeDigits_25 : decode cX7_takeDigits 25 = .ok (.aload_n 0, 1) := by decide +kernel
theorem dX7_takeDigits_26 : decode cX7_takeDigits 26 = .ok (.aload_n 0, 1) := by decide +kernel
theorem dX7_takeDigits_27 : decode cX7_takeDigits 27 = .ok (.getfield 29, 3) := by decide +kernel
theorem dX7_takeDigits_30 : decode cX7_takeDigits 30 = .ok (.bipush 10, 2) := by decide +kernel
theorem dX7_takeDigits_32 : decode cX7_takeDigits 32 = .ok (.imul, 1) := by decide +kernel
theorem dX7_takeDigits_33 : decode cX7_takeDigits 33 = .ok (.aload_n 1, 1) := by decide +kernel
theorem dX7_takeDigits_34 : decode cX7_takeDigits 34 = .ok (.aload_n 0, 1) := by decide +kernel
theorem dX7_takeDigits_35 : decode cX7_takeDigits 35 = .ok (.getfield 19, 3) := by decide +kernel
theorem dX7_takeDigits_38 : decode cX7_takeDigits 38 = .ok (.baload, 1) := by decide +kernel
theorem dX7_takeDigits_39 : decode cX7_takeDigits 39 = .ok (.bipush 48, 2) := by decide +kernel
theorem dX7_takeDigits_41 : decode cX7_takeDigits 41 = .ok (.isub, 1) := by decide +kernel
theorem dX7_takeDigits_42 : decode cX7_takeDigits 42 = .ok (.iadd, 1) := by decide +kernel
theorem dX7_takeDigits_43 : decode cX7_takeDigits 43 = .ok (.putfield 29, 3) := by decide +kernel
theorem dX7_takeDigits_46 : decode cX7_takeDigits 46 = .ok (.aload_n 0, 1) := by decide +kernel
theorem dX7_takeDigits_47 : decode cX7_takeDigits 47 = .ok (.dup, 1) := by decide +kernel
theorem dX7_takeDigits_48 : decode cX7_takeDigits 48 = .ok (.getfield 19, 3) := by decide +kernel
theorem dX7_takeDigits_51 : decode cX7_takeDigits 51 = .ok (.iconst 1, 1) := by decide +kernel
theorem dX7_takeDigits_52 : decode cX7_takeDigits 52 = .ok (.iadd, 1) := by decide +kernel
theorem dX7_takeDigits_53 : decode cX7_takeDigits 53 = .ok (.putfield 19, 3) := by decide +kernel
theorem dX7_takeDigits_56 : decode cX7_takeDigits 56 = .ok (.goto (-51), 3) := by decide +kernel
theorem dX7_takeDigits_59 : decode cX7_takeDigits 59 = .ok (.aload_n 0, 1) := by decide +kernel
theorem dX7_takeDigits_60 : decode cX7_takeDigits 60 = .ok (.aload_n 0, 1) := by decide +kernel
theorem dX7_takeDigits_61 : decode cX7_takeDigits 61 = .ok (.getfield 19, 3) := by decide +kernel
theorem dX7_takeDigits_64 : decode cX7_takeDigits 64 = .ok (.aload_n 0, 1) := by decide +kernel
theorem dX7_takeDigits_65 : decode cX7_takeDigits 65 = .ok (.getfield 23, 3) := by decide +kernel
theorem dX7_takeDigits_68 : decode cX7_takeDigits 68 = .ok (.isub, 1) := by decide +kernel
theorem dX7_takeDigits_69 : decode cX7_takeDigits 69 = .ok (.iconst 4, 1) := by decide +kernel
theorem dX7_takeDigits_70 : decode cX7_takeDigits 70 = .ok (.if_icmp .le 7, 3) := by decide +kernel
theorem dX7_takeDigits_73 : decode cX7_takeDigits 73 = .ok (.iconst (-1), 1) := by decide +kernel
theorem dX7_takeDigits_74 : decode cX7_takeDigits 74 = .ok (.goto 5, 3) := by decide +kernel
theorem dX7_takeDigits_77 : decode cX7_takeDigits 77 = .ok (.bipush 23, 2) := by decide +kernel
theorem dX7_takeDigits_79 : decode cX7_takeDigits 79 = .ok (.putfield 26, 3) := by decide +kernel
theorem dX7_takeDigits_82 : decode cX7_takeDigits 82 = .ok (.return_, 1) := by decide +kernel
theorem dX8_isSo_0 : decode cX8_isSo 0 = .ok (.iconst 0, 1) := by decide +kernel
theorem dX8_isSo_1 : decode cX8_isSo 1 = .ok (.istore 4, 2) := by decide +kernel
theorem dX8_isSo_3 : decode cX8_isSo 3 = .ok (.iload 4, 2) := by decide +kernel
theorem dX8_isSo_5 : decode cX8_isSo 5 = .ok (.iload_n 1, 1) := by decide +kernel
theorem dX8_isSo_6 : decode cX8_isSo 6 = .ok (.if_icmp .ge 55, 3) := by decide +kernel
theorem dX8_isSo_9 : decode cX8_isSo 9 = .ok (.iload 4, 2) := by decide +kernel
theorem dX8_isSo_11 : decode cX8_isSo 11 = .ok (.aload_n 0, 1) := by decide +kernel
theorem dX8_isSo_12 : decode cX8_isSo 12 = .ok (.getfield 22, 3) := by decide +kernel
theorem dX8_isSo_15 : decode cX8_isSo 15 = .ok (.if_icmp .ge 46, 3) := by decide +kernel
theorem dX8_isSo_18 : decode cX8_isSo 18 = .ok (.aload_n 0, 1) := by decide +kernel
theorem dX8_isSo_19 : decode cX8_isSo 19 = .ok (.getfield 9, 3) := by decide +kernel
theorem dX8_isSo_22 : decode cX8_isSo 22 = .ok (.iload 4, 2) := by decide +kernel
theorem dX8_isSo_24 : decode cX8_isSo 24 = .ok (.baload, 1) := by decide +kernel
theorem dX8_isSo_25 : decode cX8_isSo 25 = .ok (.ifCond .eq 7, 3) := by decide +kernel
theorem dX8_isSo_28 : decode cX8_isSo 28 = .ok (.iload_n 3, 1) := by decide +kernel
theorem dX8_isSo_29 : decode cX8_isSo 29 = .ok (.goto 4, 3) := by decide +kernel
theorem dX8_isSo_32 : decode cX8_isSo 32 = .ok (.iload_n 2, 1) := by decide +kernel
theorem dX8_isSo_33 : decode cX8_isSo 33 = .ok (.aload_n 0, 1) := by decide +kernel
theorem dX8_isSo_34 : decode cX8_isSo 34 = .ok (.getfield 15, 3) := by decide +kernel
theorem dX8_isSo_37 : decode cX8_isSo 37 = .ok (.iload 4, 2) := by decide +kernel
theorem dX8_isSo_39 : decode cX8_isSo 39 = .ok (.iaload, 1) := by decide +kernel
theorem dX8_isSo_40 : decode cX8_isSo 40 = .ok (.invokestatic 26, 3) := by decide +kernel
theorem dX8_isSo_43 : decode cX8_isSo 43 = .ok (.aload_n 0, 1) := by decide +kernel
theorem dX8_isSo_44 : decode cX8_isSo 44 = .ok (.getfield 19, 3) := by decide +kernel
theorem dX8_isSo_47 : decode cX8_isSo 47 = .ok (.iload 4, 2) := by decide +kernel
theorem dX8_isSo_49 : decode cX8_isSo 49 = .ok (.baload, 1) := by decide +kernel
theorem dX8_isSo_50 : decode cX8_isSo 50 = .ok (.if_icmp .eq 5, 3) := by decide +kernel
theorem dX8_isSo_53 : decode cX8_isSo 53 = .ok (.iconst 0, 1) := by decide +kernel
theorem dX8_isSo_54 : decode cX8_isSo 54 = .ok (.ireturn, 1) := by decide +kernel
theorem dX8_isSo_55 : decode cX8_isSo 55 = .ok (.iinc 4 1, 3) := by decide +kernel
theorem dX8_isSo_58 : decode cX8_isSo 58 = .ok (.goto (-55), 3) := by decide +kernel
theorem dX8_isSo_61 : decode cX8_isSo 61 = .ok (.iconst 1, 1) := by decide +kernel
theorem dX8_isSo_62 : decode cX8_isSo 62 = .ok (.ireturn, 1) := by decide +kernel
theorem dX9_feed_0 : decode cX9_feed 0 = .ok (.aload_n 0, 1) := by decide +kernel
theorem dX9_feed_1 : decode cX9_feed 1 = .ok (.getfield 13, 3) := by decide +kernel
theorem dX9_feed_4 : decode cX9_feed 4 = .ok (.bipush 20, 2) := by decide +kernel
theorem dX9_feed_6 : decode cX9_feed 6 = .ok (.iadd, 1) := by decide +kernel
theorem dX9_feed_7 : decode cX9_feed 7 = .ok (.sipush 2000, 3) := by decide +kernel
theorem dX9_feed_10 : decode cX9_feed 10 = .ok (.if_icmp .le 5, 3) := by decide +kernel
theorem dX9_feed_13 : decode cX9_feed 13 = .ok (.iconst (-1), 1) := by decide +kernel
theorem dX9_feed_14 : decode cX9_feed 14 = .ok (.ireturn, 1) := by decide +kernel
theorem dX9_feed_15 : decode cX9_feed 15 = .ok (.aload_n 0, 1) := by decide +kernel
theorem dX9_feed_16 : decode cX9_feed 16 = .ok (.iload_n 1, 1) := by decide +kernel
theorem dX9_feed_17 : decode cX9_feed 17 = .ok (.invokevirtual 68, 3) := by decide +kernel
theorem dX9_feed_20 : decode cX9_feed 20 = .ok (.aload_n 0, 1) := by decide +kernel
theorem dX9_feed_21 : decode cX9_feed 21 = .ok (.iload_n 2, 1) := by decide +kernel
theorem dX9_feed_22 : decode cX9_feed 22 = .ok (.invokevirtual 68, 3) := by decide +kernel
theorem dX9_feed_25 : decode cX9_feed 25 = .ok (.aload_n 0, 1) := by decide +kernel
theorem dX9_feed_26 : decode cX9_feed 26 = .ok (.iload_n 3, 1) := by decide +kernel
theorem dX9_feed_27 : decode cX9_feed 27 = .ok (.invokevirtual 68, 3) := by decide +kernel
theorem dX9_feed_30 : decode cX9_feed 30 = .ok (.aload_n 0, 1) := by decide +kernel
theorem dX9_feed_31 : decode cX9_feed 31 = .ok (.iload 4, 2) := by decide +kernel
theorem dX9_feed_33 : decode cX9_feed 33 = .ok (.invokevirtual 68, 3) := by decide +kernel
theorem dX9_feed_36 : decode cX9_feed 36 = .ok (.aload_n 0, 1) := by decide +kernel
theorem dX9_feed_37 : decode cX9_feed 37 = .ok (.iload 5, 2) := by decide +kernel
theorem dX9_feed_39 : decode cX9_feed 39 = .ok (.invokevirtual 68, 3) := by decide +kernel
theorem dX9_feed_42 : decode cX9_feed 42 = .ok (.aload_n 0, 1) := by decide +kernel
theorem dX9_feed_43 : decode cX9_feed 43 = .ok (.getfield 13, 3) := by decide +kernel
theorem dX9_feed_46 : decode cX9_feed 46 = .ok (.ireturn, 1) := by decide +kernel
theorem dX9_listener_0 : decode cX9_listener 0 = .ok (.aload_n 0, 1) := by decide +kernel
theorem dX9_listener_1 : decode cX9_listener 1 = .ok (.getfield 30, 3) := by decide +kernel
theorem dX9_listener_4 : decode cX9_listener 4 = .ok (.iload_n 1, 1) := by decide +kernel
theorem dX9_listener_5 : decode cX9_listener 5 = .ok (.invokevirtual 112, 3) := by decide +kernel
theorem dX9_listener_8 : decode cX9_listener 8 = .ok (.ifCond .ne 5, 3) := by decide +kernel
theorem dX9_listener_11 : decode cX9_listener 11 = .ok (.iconst (-1), 1) := by decide +kernel
theorem dX9_listener_12 : decode cX9_listener 12 = .ok (.ireturn, 1) := by decide +kernel
theorem dX9_listener_13 : decode cX9_listener 13 = .ok (.iload_n 2, 1) := by decide +kernel
theorem dX9_listener_14 : decode cX9_listener 14 = .ok (.tableswitch 116 0 5 #[38, 48, 58, 68, 85, 106], 38) := by decide +kernel
theorem dX9_listener_52 : decode cX9_listener 52 = .ok (.aload_n 0, 1) := by decide +kernel
theorem dX9_listener_53 : decode cX9_listener 53 = .ok (.getfield 40, 3) := by decide +kernel
theorem dX9_listener_56 : decode cX9_listener 56 = .ok (.getfield 115, 3) := by decide +kernel
theorem dX9_listener_59 : decode cX9_listener 59 = .ok (.iload_n 1, 1) := by decide +kernel
theorem dX9_listener_60 : decode cX9_listener 60 = .ok (.iaload, 1) := by decide +kernel
theorem dX9_listener_61 : decode cX9_listener 61 = .ok (.ireturn, 1) := by decide +kernel
theorem dX9_listener_62 : decode cX9_listener 62 = .ok (.aload_n 0, 1) := by decide +kernel
theorem dX9_listener_63 : decode cX9_listener 63 = .ok (.getfield 30, 3) := by decide +kernel
theorem dX9_listener_66 : decode cX9_listener 66 = .ok (.getfield 118, 3) := by decide +kernel
theorem dX9_listener_69 : decode cX9_listener 69 = .ok (.iload_n 1, 1) := by decide +kernel
theorem dX9_listener_70 : decode cX9_listener 70 = .ok (.iaload, 1) := by decide +kernel
theorem dX9_listener_71 : decode cX9_listener 71 = .ok (.ireturn, 1) := by decide +kernel
theorem dX9_listener_72 : decode cX9_listener 72 = .ok (.aload_n 0, 1) := by decide +kernel
theorem dX9_listener_73 : decode cX9_listener 73 = .ok (.getfield 40, 3) := by decide +kernel
theorem dX9_listener_76 : decode cX9_listener 76 = .ok (.getfield 121, 3) := by decide +kernel
theorem dX9_listener_79 : decode cX9_listener 79 = .ok (.iload_n 1, 1) := by decide +kernel
theorem dX9_listener_80 : decode cX9_listener 80 = .ok (.iaload, 1) := by decide +kernel
theorem dX9_listener_81 : decode cX9_listener 81 = .ok (.ireturn, 1) := by decide +kernel
theorem dX9_listener_82 : decode cX9_listener 82 = .ok (.aload_n 0, 1) := by decide +kernel
theorem dX9_listener_83 : decode cX9_listener 83 = .ok (.getfield 40, 3) := by decide +kernel
theorem dX9_listener_86 : decode cX9_listener 86 = .ok (.iload_n 1, 1) := by decide +kernel
theorem dX9_listener_87 : decode cX9_listener 87 = .ok (.invokevirtual 124, 3) := by decide +kernel
theorem dX9_listener_90 : decode cX9_listener 90 = .ok (.ifCond .eq 7, 3) := by decide +kernel
theorem dX9_listener_93 : decode cX9_listener 93 = .ok (.iconst 1, 1) := by decide +kernel
theorem dX9_listener_94 : decode cX9_listener 94 = .ok (.goto 4, 3) := by decide +kernel
theorem dX9_listener_97 : decode cX9_listener 97 = .ok (.iconst 0, 1) := by decide +kernel
theorem dX9_listener_98 : decode cX9_listener 98 = .ok (.ireturn, 1) := by decide +kernel
theorem dX9_listener_99 : decode cX9_listener 99 = .ok (.aload_n 0, 1) := by decide +kernel
theorem dX9_listener_100 : decode cX9_listener 100 = .ok (.getfield 30, 3) := by decide +kernel
theorem dX9_listener_103 : decode cX9_listener 103 = .ok (.aload_n 0, 1) := by decide +kernel
theorem dX9_listener_104 : decode cX9_listener 104 = .ok (.getfield 40, 3) := by decide +kernel
theorem dX9_listener_107 : decode cX9_listener 107 = .ok (.iload_n 1, 1) := by decide +kernel
theorem dX9_listener_108 : decode cX9_listener 108 = .ok (.invokevirtual 127, 3) := by decide +kernel
theorem dX9_listener_111 : decode cX9_listener 111 = .ok (.ifCond .eq 7, 3) := by decide +kernel
theorem dX9_listener_114 : decode cX9_listener 114 = .ok (.iconst 1, 1) := by decide +kernel
theorem dX9_listener_115 : decode cX9_listener 115 = .ok (.goto 4, 3) := by decide +kernel
theorem dX9_listener_118 : decode cX9_listener 118 = .ok (.iconst 0, 1) := by decide +kernel
theorem dX9_listener_119 : decode cX9_listener 119 = .ok (.ireturn, 1) := by decide +kernel
theorem dX9_listener_120 : decode cX9_listener 120 = .ok (.aload_n 0, 1) := by decide +kernel
theorem dX9_listener_121 : decode cX9_listener 121 = .ok (.getfield 30, 3) := by decide +kernel
theorem dX9_listener_124 : decode cX9_listener 124 = .ok (.getfield 131, 3) := by decide +kernel
theorem dX9_listener_127 : decode cX9_listener 127 = .ok (.iload_n 1, 1) := by decide +kernel
theorem dX9_listener_128 : decode cX9_listener 128 = .ok (.iaload, 1) := by decide +kernel
theorem dX9_listener_129 : decode cX9_listener 129 = .ok (.ireturn, 1) := by decide +kernel
theorem dX9_listener_130 : decode cX9_listener 130 = .ok (.iconst (-1), 1) := by decide +kernel
theorem dX9_listener_131 : decode cX9_listener 131 = .ok (.ireturn, 1) := by decide +kernel
theorem dX9_announce_0 : decode cX9_announce 0 = .ok (.aload_n 0, 1) := by decide +kernel
theorem dX9_announce_1 : decode cX9_announce 1 = .ok (.getfield 30, 3) := by decide +kernel
theorem dX9_announce_4 : decode cX9_announce 4 = .ok (.iload_n 1, 1) := by decide +kernel
theorem dX9_announce_5 : decode cX9_announce 5 = .ok (.invokevirtual 87, 3) := by decide +kernel
theorem dX9_announce_8 : decode cX9_announce 8 = .ok (.ifCond .eq 26, 3) := by decide +kernel
theorem dX9_announce_11 : decode cX9_announce 11 = .ok (.aload_n 0, 1) := by decide +kernel
theorem dX9_announce_12 : decode cX9_announce 12 = .ok (.getfield 40, 3) := by decide +kernel
theorem dX9_announce_15 : decode cX9_announce 15 = .ok (.getfield 156, 3) := by decide +kernel
theorem dX9_announce_18 : decode cX9_announce 18 = .ok (.iload_n 1, 1) := by decide +kernel
theorem dX9_announce_19 : decode cX9_announce 19 = .ok (.if_icmp .eq 15, 3) := by decide +kernel
theorem dX9_announce_22 : decode cX9_announce 22 = .ok (.aload_n 0, 1) := by decide +kernel
theorem dX9_announce_23 : decode cX9_announce 23 = .ok (.getfield 40, 3) := by decide +kernel
theorem dX9_announce_26 : decode cX9_announce 26 = .ok (.getfield 101, 3) := by decide +kernel
theorem dX9_announce_29 : decode cX9_announce 29 = .ok (.iload_n 1, 1) := by decide +kernel
theorem dX9_announce_30 : decode cX9_announce 30 = .ok (.iaload, 1) := by decide +kernel
theorem dX9_announce_31 : decode cX9_announce 31 = .ok (.ifCond .le 5, 3) := by decide +kernel
theorem dX9_announce_34 : decode cX9_announce 34 = .ok (.iconst 0, 1) := by decide +kernel
theorem dX9_announce_35 : decode cX9_announce 35 = .ok (.ireturn, 1) := by decide +kernel
theorem dX9_announce_36 : decode cX9_announce 36 = .ok (.aload_n 0, 1) := by decide +kernel
theorem dX9_announce_37 : decode cX9_announce 37 = .ok (.getfield 57, 3) := by decide +kernel
theorem dX9_announce_40 : decode cX9_announce 40 = .ok (.aload_n 0, 1) := by decide +kernel
theorem dX9_announce_41 : decode cX9_announce 41 = .ok (.getfield 40, 3) := by decide +kernel
theorem dX9_announce_44 : decode cX9_announce 44 = .ok (.invokevirtual 204, 3) := by decide +kernel
theorem dX9_announce_47 : decode cX9_announce 47 = .ok (.aload_n 0, 1) := by decide +kernel
theorem dX9_announce_48 : decode cX9_announce 48 = .ok (.getfield 40, 3) := by decide +kernel
theorem dX9_announce_51 : decode cX9_announce 51 = .ok (.iload_n 1, 1) := by decide +kernel
theorem dX9_announce_52 : decode cX9_announce 52 = .ok (.putfield 156, 3) := by decide +kernel
theorem dX9_announce_55 : decode cX9_announce 55 = .ok (.iconst 1, 1) := by decide +kernel
theorem dX9_announce_56 : decode cX9_announce 56 = .ok (.ireturn, 1) := by decide +kernel
theorem dX9_turn_0 : decode cX9_turn 0 = .ok (.aload_n 0, 1) := by decide +kernel
theorem dX9_turn_1 : decode cX9_turn 1 = .ok (.getfield 30, 3) := by decide +kernel
theorem dX9_turn_4 : decode cX9_turn 4 = .ok (.iload_n 1, 1) := by decide +kernel
theorem dX9_turn_5 : decode cX9_turn 5 = .ok (.invokevirtual 112, 3) := by decide +kernel
theorem dX9_turn_8 : decode cX9_turn 8 = .ok (.ifCond .eq 15, 3) := by decide +kernel
theorem dX9_turn_11 : decode cX9_turn 11 = .ok (.aload_n 0, 1) := by decide +kernel
theorem dX9_turn_12 : decode cX9_turn 12 = .ok (.getfield 40, 3) := by decide +kernel
theorem dX9_turn_15 : decode cX9_turn 15 = .ok (.iload_n 1, 1) := by decide +kernel
theorem dX9_turn_16 : decode cX9_turn 16 = .ok (.invokevirtual 124, 3) := by decide +kernel
theorem dX9_turn_19 : decode cX9_turn 19 = .ok (.iload_n 2, 1) := by decide +kernel
theorem dX9_turn_20 : decode cX9_turn 20 = .ok (.if_icmp .ne 5, 3) := by decide +kernel
theorem dX9_turn_23 : decode cX9_turn 23 = .ok (.iconst 0, 1) := by decide +kernel
theorem dX9_turn_24 : decode cX9_turn 24 = .ok (.ireturn, 1) := by decide +kernel
theorem dX9_turn_25 : decode cX9_turn 25 = .ok (.aload_n 0, 1) := by decide +kernel
theorem dX9_turn_26 : decode cX9_turn 26 = .ok (.getfield 57, 3) := by decide +kernel
theorem dX9_turn_29 : decode cX9_turn 29 = .ok (.aload_n 0, 1) := by decide +kernel
theorem dX9_turn_30 : decode cX9_turn 30 = .ok (.getfield 40, 3) := by decide +kernel
theorem dX9_turn_33 : decode cX9_turn 33 = .ok (.invokevirtual 204, 3) := by decide +kernel
theorem dX9_turn_36 : decode cX9_turn 36 = .ok (.aload_n 0, 1) := by decide +kernel
theorem dX9_turn_37 : decode cX9_turn 37 = .ok (.getfield 40, 3) := by decide +kernel
theorem dX9_turn_40 : decode cX9_turn 40 = .ok (.dup, 1) := by decide +kernel
theorem dX9_turn_41 : decode cX9_turn 41 = .ok (.getfield 166, 3) := by decide +kernel
theorem dX9_turn_44 : decode cX9_turn 44 = .ok (.iconst 1, 1) := by decide +kernel
theorem dX9_turn_45 : decode cX9_turn 45 = .ok (.iload_n 1, 1) := by decide +kernel
theorem dX9_turn_46 : decode cX9_turn 46 = .ok (.ishl, 1) := by decide +kernel
theorem dX9_turn_47 : decode cX9_turn 47 = .ok (.ixor, 1) := by decide +kernel
theorem dX9_turn_48 : decode cX9_turn 48 = .ok (.putfield 166, 3) := by decide +kernel
theorem dX9_turn_51 : decode cX9_turn 51 = .ok (.iconst 1, 1) := by decide +kernel
theorem dX9_turn_52 : decode cX9_turn 52 = .ok (.ireturn, 1) := by decide +kernel
theorem dX9_inform_0 : decode cX9_inform 0 = .ok (.aload_n 0, 1) := by decide +kernel
theorem dX9_inform_1 : decode cX9_inform 1 = .ok (.getfield 30, 3) := by decide +kernel
theorem dX9_inform_4 : decode cX9_inform 4 = .ok (.iload_n 1, 1) := by decide +kernel
theorem dX9_inform_5 : decode cX9_inform 5 = .ok (.invokevirtual 112, 3) := by decide +kernel
theorem dX9_inform_8 : decode cX9_inform 8 = .ok (.ifCond .eq 26, 3) := by decide +kernel
theorem dX9_inform_11 : decode cX9_inform 11 = .ok (.iload_n 2, 1) := by decide +kernel
theorem dX9_inform_12 : decode cX9_inform 12 = .ok (.invokestatic 207, 3) := by decide +kernel
theorem dX9_inform_15 : decode cX9_inform 15 = .ok (.ifCond .eq 19, 3) := by decide +kernel
theorem dX9_inform_18 : decode cX9_inform 18 = .ok (.aload_n 0, 1) := by decide +kernel
theorem dX9_inform_19 : decode cX9_inform 19 = .ok (.getfield 40, 3) := by decide +kernel
theorem dX9_inform_22 : decode cX9_inform 22 = .ok (.getfield 115, 3) := by decide +kernel
theorem dX9_inform_25 : decode cX9_inform 25 = .ok (.iload_n 1, 1) := by decide +kernel
theorem dX9_inform_26 : decode cX9_inform 26 = .ok (.iaload, 1) := by decide +kernel
theorem dX9_inform_27 : decode cX9_inform 27 = .ok (.iload_n 2, 1) := by decide +kernel
theorem dX9_inform_28 : decode cX9_inform 28 = .ok (.invokestatic 210, 3) := by decide +kernel
theorem dX9_inform_31 : decode cX9_inform 31 = .ok (.ifCond .eq 5, 3) := by decide +kernel
theorem dX9_inform_34 : decode cX9_inform 34 = .ok (.iconst 0, 1) := by decide +kernel
theorem dX9_inform_35 : decode cX9_inform 35 = .ok (.ireturn, 1) := by decide +kernel
theorem dX9_inform_36 : decode cX9_inform 36 = .ok (.aload_n 0, 1) := by decide +kernel
theorem dX9_inform_37 : decode cX9_inform 37 = .ok (.getfield 57, 3) := by decide +kernel
theorem dX9_inform_40 : decode cX9_inform 40 = .ok (.aload_n 0, 1) := by decide +kernel
theorem dX9_inform_41 : decode cX9_inform 41 = .ok (.getfield 40, 3) := by decide +kernel
theorem dX9_inform_44 : decode cX9_inform 44 = .ok (.invokevirtual 204, 3) := by decide +kernel
theorem dX9_inform_47 : decode cX9_inform 47 = .ok (.aload_n 0, 1) := by decide +kernel
theorem dX9_inform_48 : decode cX9_inform 48 = .ok (.getfield 40, 3) := by decide +kernel
theorem dX9_inform_51 : decode cX9_inform 51 = .ok (.getfield 115, 3) := by decide +kernel
theorem dX9_inform_54 : decode cX9_inform 54 = .ok (.iload_n 1, 1) := by decide +kernel
theorem dX9_inform_55 : decode cX9_inform 55 = .ok (.dup2, 1) := by decide +kernel
theorem dX9_inform_56 : decode cX9_inform 56 = .ok (.iaload, 1) := by decide +kernel
theorem dX9_inform_57 : decode cX9_inform 57 = .ok (.iconst 1, 1) := by decide +kernel
theorem dX9_inform_58 : decode cX9_inform 58 = .ok (.iload_n 2, 1) := by decide +kernel
theorem dX9_inform_59 : decode cX9_inform 59 = .ok (.ishl, 1) := by decide +kernel
theorem dX9_inform_60 : decode cX9_inform 60 = .ok (.ior, 1) := by decide +kernel
theorem dX9_inform_61 : decode cX9_inform 61 = .ok (.iastore, 1) := by decide +kernel
theorem dX9_inform_62 : decode cX9_inform 62 = .ok (.iconst 1, 1) := by decide +kernel
theorem dX9_inform_63 : decode cX9_inform 63 = .ok (.ireturn, 1) := by decide +kernel
theorem dX9_gainOfTalk_0 : decode cX9_gainOfTalk 0 = .ok (.aload_n 0, 1) := by decide +kernel
theorem dX9_gainOfTalk_1 : decode cX9_gainOfTalk 1 = .ok (.getfield 40, 3) := by decide +kernel
theorem dX9_gainOfTalk_4 : decode cX9_gainOfTalk 4 = .ok (.getfield 115, 3) := by decide +kernel
theorem dX9_gainOfTalk_7 : decode cX9_gainOfTalk 7 = .ok (.iload_n 1, 1) := by decide +kernel
theorem dX9_gainOfTalk_8 : decode cX9_gainOfTalk 8 = .ok (.iaload, 1) := by decide +kernel
theorem dX9_gainOfTalk_9 : decode cX9_gainOfTalk 9 = .ok (.aload_n 0, 1) := by decide +kernel
theorem dX9_gainOfTalk_10 : decode cX9_gainOfTalk 10 = .ok (.getfield 40, 3) := by decide +kernel
theorem dX9_gainOfTalk_13 : decode cX9_gainOfTalk 13 = .ok (.getfield 115, 3) := by decide +kernel
theorem dX9_gainOfTalk_16 : decode cX9_gainOfTalk 16 = .ok (.iload_n 2, 1) := by decide +kernel
theorem dX9_gainOfTalk_17 : decode cX9_gainOfTalk 17 = .ok (.iaload, 1) := by decide +kernel
theorem dX9_gainOfTalk_18 : decode cX9_gainOfTalk 18 = .ok (.ixor, 1) := by decide +kernel
theorem dX9_gainOfTalk_19 : decode cX9_gainOfTalk 19 = .ok (.invokestatic 177, 3) := by decide +kernel
theorem dX9_gainOfTalk_22 : decode cX9_gainOfTalk 22 = .ok (.ireturn, 1) := by decide +kernel
theorem dX9_undo_0 : decode cX9_undo 0 = .ok (.aload_n 0, 1) := by decide +kernel
theorem dX9_undo_1 : decode cX9_undo 1 = .ok (.getfield 57, 3) := by decide +kernel
theorem dX9_undo_4 : decode cX9_undo 4 = .ok (.aload_n 0, 1) := by decide +kernel
theorem dX9_undo_5 : decode cX9_undo 5 = .ok (.getfield 40, 3) := by decide +kernel
theorem dX9_undo_8 : decode cX9_undo 8 = .ok (.invokevirtual 224, 3) := by decide +kernel
theorem dX9_undo_11 : decode cX9_undo 11 = .ok (.ireturn, 1) := by decide +kernel
theorem dX9_hold_0 : decode cX9_hold 0 = .ok (.aload_n 0, 1) := by decide +kernel
theorem dX9_hold_1 : decode cX9_hold 1 = .ok (.getfield 57, 3) := by decide +kernel
theorem dX9_hold_4 : decode cX9_hold 4 = .ok (.iload_n 1, 1) := by decide +kernel
theorem dX9_hold_5 : decode cX9_hold 5 = .ok (.aload_n 0, 1) := by decide +kernel
theorem dX9_hold_6 : decode cX9_hold 6 = .ok (.getfield 40, 3) := by decide +kernel
theorem dX9_hold_9 : decode cX9_hold 9 = .ok (.invokevirtual 228, 3) := by decide +kernel
theorem dX9_hold_12 : decode cX9_hold 12 = .ok (.ireturn, 1) := by decide +kernel
theorem dX9_restore_0 : decode cX9_restore 0 = .ok (.aload_n 0, 1) := by decide +kernel
theorem dX9_restore_1 : decode cX9_restore 1 = .ok (.getfield 57, 3) := by decide +kernel
theorem dX9_restore_4 : decode cX9_restore 4 = .ok (.iload_n 1, 1) := by decide +kernel
theorem dX9_restore_5 : decode cX9_restore 5 = .ok (.aload_n 0, 1) := by decide +kernel
theorem dX9_restore_6 : decode cX9_restore 6 = .ok (.getfield 40, 3) := by decide +kernel
theorem dX9_restore_9 : decode cX9_restore 9 = .ok (.invokevirtual 232, 3) := by decide +kernel
theorem dX9_restore_12 : decode cX9_restore 12 = .ok (.ireturn, 1) := by decide +kernel
theorem dX9_holdersOf_0 : decode cX9_holdersOf 0 = .ok (.iconst 0, 1) := by decide +kernel
theorem dX9_holdersOf_1 : decode cX9_holdersOf 1 = .ok (.istore_n 2, 1) := by decide +kernel
theorem dX9_holdersOf_2 : decode cX9_holdersOf 2 = .ok (.iconst 0, 1) := by decide +kernel
theorem dX9_holdersOf_3 : decode cX9_holdersOf 3 = .ok (.istore_n 3, 1) := by decide +kernel
theorem dX9_holdersOf_4 : decode cX9_holdersOf 4 = .ok (.iload_n 3, 1) := by decide +kernel
theorem dX9_holdersOf_5 : decode cX9_holdersOf 5 = .ok (.aload_n 0, 1) := by decide +kernel
theorem dX9_holdersOf_6 : decode cX9_holdersOf 6 = .ok (.getfield 30, 3) := by decide +kernel
theorem dX9_holdersOf_9 : decode cX9_holdersOf 9 = .ok (.getfield 150, 3) := by decide +kernel
theorem dX9_holdersOf_12 : decode cX9_holdersOf 12 = .ok (.if_icmp .ge 31, 3) := by decide +kernel
theorem dX9_holdersOf_15 : decode cX9_holdersOf 15 = .ok (.aload_n 0, 1) := by decide +kernel
theorem dX9_holdersOf_16 : decode cX9_holdersOf 16 = .ok (.getfield 40, 3) := by decide +kernel
theorem dX9_holdersOf_19 : decode cX9_holdersOf 19 = .ok (.getfield 115, 3) := by decide +kernel
theorem dX9_holdersOf_22 : decode cX9_holdersOf 22 = .ok (.iload_n 3, 1) := by decide +kernel
theorem dX9_holdersOf_23 : decode cX9_holdersOf 23 = .ok (.iaload, 1) := by decide +kernel
theorem dX9_holdersOf_24 : decode cX9_holdersOf 24 = .ok (.iload_n 1, 1) := by decide +kernel
theorem dX9_holdersOf_25 : decode cX9_holdersOf 25 = .ok (.invokestatic 210, 3) := by decide +kernel
theorem dX9_holdersOf_28 : decode cX9_holdersOf 28 = .ok (.ifCond .eq 9, 3) := by decide +kernel
theorem dX9_holdersOf_31 : decode cX9_holdersOf 31 = .ok (.iload_n 2, 1) := by decide +kernel
theorem dX9_holdersOf_32 : decode cX9_holdersOf 32 = .ok (.iconst 1, 1) := by decide +kernel
theorem dX9_holdersOf_33 : decode cX9_holdersOf 33 = .ok (.iload_n 3, 1) := by decide +kernel
theorem dX9_holdersOf_34 : decode cX9_holdersOf 34 = .ok (.ishl, 1) := by decide +kernel
theorem dX9_holdersOf_35 : decode cX9_holdersOf 35 = .ok (.ior, 1) := by decide +kernel
theorem dX9_holdersOf_36 : decode cX9_holdersOf 36 = .ok (.istore_n 2, 1) := by decide +kernel
theorem dX9_holdersOf_37 : decode cX9_holdersOf 37 = .ok (.iinc 3 1, 3) := by decide +kernel
theorem dX9_holdersOf_40 : decode cX9_holdersOf 40 = .ok (.goto (-36), 3) := by decide +kernel
theorem dX9_holdersOf_43 : decode cX9_holdersOf 43 = .ok (.iload_n 2, 1) := by decide +kernel
theorem dX9_holdersOf_44 : decode cX9_holdersOf 44 = .ok (.ireturn, 1) := by decide +kernel
theorem dX9_rarest_0 : decode cX9_rarest 0 = .ok (.iload_n 1, 1) := by decide +kernel
theorem dX9_rarest_1 : decode cX9_rarest 1 = .ok (.ifCond .lt 8, 3) := by decide +kernel
theorem dX9_rarest_4 : decode cX9_rarest 4 = .ok (.iload_n 1, 1) := by decide +kernel
theorem dX9_rarest_5 : decode cX9_rarest 5 = .ok (.iconst 1, 1) := by decide +kernel
theorem dX9_rarest_6 : decode cX9_rarest 6 = .ok (.if_icmp .le 5, 3) := by decide +kernel
theorem dX9_rarest_9 : decode cX9_rarest 9 = .ok (.iconst (-1), 1) := by decide +kernel
theorem dX9_rarest_10 : decode cX9_rarest 10 = .ok (.ireturn, 1) := by decide +kernel
theorem dX9_rarest_11 : decode cX9_rarest 11 = .ok (.iconst 0, 1) := by decide +kernel
theorem dX9_rarest_12 : decode cX9_rarest 12 = .ok (.istore_n 2, 1) := by decide +kernel
theorem dX9_rarest_13 : decode cX9_rarest 13 = .ok (.bipush 7, 2) := by decide +kernel
theorem dX9_rarest_15 : decode cX9_rarest 15 = .ok (.istore_n 3, 1) := by decide +kernel
theorem dX9_rarest_16 : decode cX9_rarest 16 = .ok (.iconst 0, 1) := by decide +kernel
theorem dX9_rarest_17 : decode cX9_rarest 17 = .ok (.istore 4, 2) := by decide +kernel
theorem dX9_rarest_19 : decode cX9_rarest 19 = .ok (.iload 4, 2) := by decide +kernel
theorem dX9_rarest_21 : decode cX9_rarest 21 = .ok (.bipush 8, 2) := by decide +kernel
theorem dX9_rarest_23 : decode cX9_rarest 23 = .ok (.if_icmp .ge 32, 3) := by decide +kernel
theorem dX9_rarest_26 : decode cX9_rarest 26 = .ok (.aload_n 0, 1) := by decide +kernel
theorem dX9_rarest_27 : decode cX9_rarest 27 = .ok (.iload 4, 2) := by decide +kernel
theorem dX9_rarest_29 : decode cX9_rarest 29 = .ok (.invokevirtual 277, 3) := by decide +kernel
theorem dX9_rarest_32 : decode cX9_rarest 32 = .ok (.invokestatic 177, 3) := by decide +kernel
theorem dX9_rarest_35 : decode cX9_rarest 35 = .ok (.istore 5, 2) := by decide +kernel
theorem dX9_rarest_37 : decode cX9_rarest 37 = .ok (.iload 5, 2) := by decide +kernel
theorem dX9_rarest_39 : decode cX9_rarest 39 = .ok (.iload_n 3, 1) := by decide +kernel
theorem dX9_rarest_40 : decode cX9_rarest 40 = .ok (.if_icmp .ge 9, 3) := by decide +kernel
theorem dX9_rarest_43 : decode cX9_rarest 43 = .ok (.iload 5, 2) := by decide +kernel
theorem dX9_rarest_45 : decode cX9_rarest 45 = .ok (.istore_n 3, 1) := by decide +kernel
theorem dX9_rarest_46 : decode cX9_rarest 46 = .ok (.iload 4, 2) := by decide +kernel
theorem dX9_rarest_48 : decode cX9_rarest 48 = .ok (.istore_n 2, 1) := by decide +kernel
theorem dX9_rarest_49 : decode cX9_rarest 49 = .ok (.iinc 4 1, 3) := by decide +kernel
theorem dX9_rarest_52 : decode cX9_rarest 52 = .ok (.goto (-33), 3) := by decide +kernel
theorem dX9_rarest_55 : decode cX9_rarest 55 = .ok (.iload_n 1, 1) := by decide +kernel
theorem dX9_rarest_56 : decode cX9_rarest 56 = .ok (.ifCond .ne 7, 3) := by decide +kernel
theorem dX9_rarest_59 : decode cX9_rarest 59 = .ok (.iload_n 2, 1) := by decide +kernel
theorem dX9_rarest_60 : decode cX9_rarest 60 = .ok (.goto 4, 3) := by decide +kernel
theorem dX9_rarest_63 : decode cX9_rarest 63 = .ok (.iload_n 3, 1) := by decide +kernel
theorem dX9_rarest_64 : decode cX9_rarest 64 = .ok (.ireturn, 1) := by decide +kernel
theorem dX9_together_0 : decode cX9_together 0 = .ok (.aload_n 0, 1) := by decide +kernel
theorem dX9_together_1 : decode cX9_together 1 = .ok (.getfield 30, 3) := by decide +kernel
theorem dX9_together_4 : decode cX9_together 4 = .ok (.aload_n 0, 1) := by decide +kernel
theorem dX9_together_5 : decode cX9_together 5 = .ok (.getfield 40, 3) := by decide +kernel
theorem dX9_together_8 : decode cX9_together 8 = .ok (.iload_n 1, 1) := by decide +kernel
theorem dX9_together_9 : decode cX9_together 9 = .ok (.invokevirtual 274, 3) := by decide +kernel
theorem dX9_together_12 : decode cX9_together 12 = .ok (.istore_n 3, 1) := by decide +kernel
theorem dX9_together_13 : decode cX9_together 13 = .ok (.iconst 0, 1) := by decide +kernel
theorem dX9_together_14 : decode cX9_together 14 = .ok (.istore 4, 2) := by decide +kernel
theorem dX9_together_16 : decode cX9_together 16 = .ok (.iload 4, 2) := by decide +kernel
theorem dX9_together_18 : decode cX9_together 18 = .ok (.aload_n 0, 1) := by decide +kernel
theorem dX9_together_19 : decode cX9_together 19 = .ok (.getfield 30, 3) := by decide +kernel
theorem dX9_together_22 : decode cX9_together 22 = .ok (.getfield 150, 3) := by decide +kernel
theorem dX9_together_25 : decode cX9_together 25 = .ok (.if_icmp .ge 33, 3) := by decide +kernel
theorem dX9_together_28 : decode cX9_together 28 = .ok (.iload_n 2, 1) := by decide +kernel
theorem dX9_together_29 : decode cX9_together 29 = .ok (.iload 4, 2) := by decide +kernel
theorem dX9_together_31 : decode cX9_together 31 = .ok (.invokestatic 210, 3) := by decide +kernel
theorem dX9_together_34 : decode cX9_together 34 = .ok (.ifCond .eq 18, 3) := by decide +kernel
theorem dX9_together_37 : decode cX9_together 37 = .ok (.iload_n 3, 1) := by decide +kernel
theorem dX9_together_38 : decode cX9_together 38 = .ok (.aload_n 0, 1) := by decide +kernel
theorem dX9_together_39 : decode cX9_together 39 = .ok (.getfield 40, 3) := by decide +kernel
theorem dX9_together_42 : decode cX9_together 42 = .ok (.getfield 115, 3) := by decide +kernel
theorem dX9_together_45 : decode cX9_together 45 = .ok (.iload 4, 2) := by decide +kernel
theorem dX9_together_47 : decode cX9_together 47 = .ok (.iaload, 1) := by decide +kernel
theorem dX9_together_48 : decode cX9_together 48 = .ok (.iconst (-1), 1) := by decide +kernel
theorem dX9_together_49 : decode cX9_together 49 = .ok (.ixor, 1) := by decide +kernel
theorem dX9_together_50 : decode cX9_together 50 = .ok (.iand, 1) := by decide +kernel
theorem dX9_together_51 : decode cX9_together 51 = .ok (.istore_n 3, 1) := by decide +kernel
theorem dX9_together_52 : decode cX9_together 52 = .ok (.iinc 4 1, 3) := by decide +kernel
theorem dX9_together_55 : decode cX9_together 55 = .ok (.goto (-39), 3) := by decide +kernel
theorem dX9_together_58 : decode cX9_together 58 = .ok (.iload_n 3, 1) := by decide +kernel
theorem dX9_together_59 : decode cX9_together 59 = .ok (.ifCond .ne 7, 3) := by decide +kernel
theorem dX9_together_62 : decode cX9_together 62 = .ok (.iconst 1, 1) := by decide +kernel
theorem dX9_together_63 : decode cX9_together 63 = .ok (.goto 4, 3) := by decide +kernel
theorem dX9_together_66 : decode cX9_together 66 = .ok (.iconst 0, 1) := by decide +kernel
theorem dX9_together_67 : decode cX9_together 67 = .ok (.ireturn, 1) := by decide +kernel
theorem dX9_rumour_0 : decode cX9_rumour 0 = .ok (.iload_n 1, 1) := by decide +kernel
theorem dX9_rumour_1 : decode cX9_rumour 1 = .ok (.ifCond .lt 8, 3) := by decide +kernel
theorem dX9_rumour_4 : decode cX9_rumour 4 = .ok (.iload_n 1, 1) := by decide +kernel
theorem dX9_rumour_5 : decode cX9_rumour 5 = .ok (.iconst 1, 1) := by decide +kernel
theorem dX9_rumour_6 : decode cX9_rumour 6 = .ok (.if_icmp .le 5, 3) := by decide +kernel
theorem dX9_rumour_9 : decode cX9_rumour 9 = .ok (.iconst (-1), 1) := by decide +kernel
theorem dX9_rumour_10 : decode cX9_rumour 10 = .ok (.ireturn, 1) := by decide +kernel
theorem dX9_rumour_11 : decode cX9_rumour 11 = .ok (.bipush (-2), 2) := by decide +kernel
theorem dX9_rumour_13 : decode cX9_rumour 13 = .ok (.istore_n 2, 1) := by decide +kernel
theorem dX9_rumour_14 : decode cX9_rumour 14 = .ok (.iconst 0, 1) := by decide +kernel
theorem dX9_rumour_15 : decode cX9_rumour 15 = .ok (.istore_n 3, 1) := by decide +kernel
theorem dX9_rumour_16 : decode cX9_rumour 16 = .ok (.iconst 0, 1) := by decide +kernel
theorem dX9_rumour_17 : decode cX9_rumour 17 = .ok (.istore 4, 2) := by decide +kernel
theorem dX9_rumour_19 : decode cX9_rumour 19 = .ok (.iload 4, 2) := by decide +kernel
theorem dX9_rumour_21 : decode cX9_rumour 21 = .ok (.aload_n 0, 1) := by decide +kernel
theorem dX9_rumour_22 : decode cX9_rumour 22 = .ok (.getfield 30, 3) := by decide +kernel
theorem dX9_rumour_25 : decode cX9_rumour 25 = .ok (.getfield 150, 3) := by decide +kernel
theorem dX9_rumour_28 : decode cX9_rumour 28 = .ok (.if_icmp .ge 61, 3) := by decide +kernel
theorem dX9_rumour_31 : decode cX9_rumour 31 = .ok (.iload 4, 2) := by decide +kernel
theorem dX9_rumour_33 : decode cX9_rumour 33 = .ok (.iconst 1, 1) := by decide +kernel
theorem dX9_rumour_34 : decode cX9_rumour 34 = .ok (.iadd, 1) := by decide +kernel
theorem dX9_rumour_35 : decode cX9_rumour 35 = .ok (.istore 5, 2) := by decide +kernel
theorem dX9_rumour_37 : decode cX9_rumour 37 = .ok (.iload 5, 2) := by decide +kernel
theorem dX9_rumour_39 : decode cX9_rumour 39 = .ok (.aload_n 0, 1) := by decide +kernel
theorem dX9_rumour_40 : decode cX9_rumour 40 = .ok (.getfield 30, 3) := by decide +kernel
theorem dX9_rumour_43 : decode cX9_rumour 43 = .ok (.getfield 150, 3) := by decide +kernel
theorem dX9_rumour_46 : decode cX9_rumour 46 = .ok (.if_icmp .ge 37, 3) := by decide +kernel
theorem dX9_rumour_49 : decode cX9_rumour 49 = .ok (.aload_n 0, 1) := by decide +kernel
theorem dX9_rumour_50 : decode cX9_rumour 50 = .ok (.iload 4, 2) := by decide +kernel
theorem dX9_rumour_52 : decode cX9_rumour 52 = .ok (.iload 5, 2) := by decide +kernel
theorem dX9_rumour_54 : decode cX9_rumour 54 = .ok (.invokevirtual 213, 3) := by decide +kernel
theorem dX9_rumour_57 : decode cX9_rumour 57 = .ok (.istore 6, 2) := by decide +kernel
theorem dX9_rumour_59 : decode cX9_rumour 59 = .ok (.iload 6, 2) := by decide +kernel
theorem dX9_rumour_61 : decode cX9_rumour 61 = .ok (.iload_n 3, 1) := by decide +kernel
theorem dX9_rumour_62 : decode cX9_rumour 62 = .ok (.if_icmp .le 15, 3) := by decide +kernel
theorem dX9_rumour_65 : decode cX9_rumour 65 = .ok (.iload 6, 2) := by decide +kernel
theorem dX9_rumour_67 : decode cX9_rumour 67 = .ok (.istore_n 3, 1) := by decide +kernel
theorem dX9_rumour_68 : decode cX9_rumour 68 = .ok (.bipush 10, 2) := by decide +kernel
theorem dX9_rumour_70 : decode cX9_rumour 70 = .ok (.iload 4, 2) := by decide +kernel
theorem dX9_rumour_72 : decode cX9_rumour 72 = .ok (.imul, 1) := by decide +kernel
theorem dX9_rumour_73 : decode cX9_rumour 73 = .ok (.iload 5, 2) := by decide +kernel
theorem dX9_rumour_75 : decode cX9_rumour 75 = .ok (.iadd, 1) := by decide +kernel
theorem dX9_rumour_76 : decode cX9_rumour 76 = .ok (.istore_n 2, 1) := by decide +kernel
theorem dX9_rumour_77 : decode cX9_rumour 77 = .ok (.iinc 5 1, 3) := by decide +kernel
theorem dX9_rumour_80 : decode cX9_rumour 80 = .ok (.goto (-43), 3) := by decide +kernel
theorem dX9_rumour_83 : decode cX9_rumour 83 = .ok (.iinc 4 1, 3) := by decide +kernel
theorem dX9_rumour_86 : decode cX9_rumour 86 = .ok (.goto (-67), 3) := by decide +kernel
theorem dX9_rumour_89 : decode cX9_rumour 89 = .ok (.iload_n 1, 1) := by decide +kernel
theorem dX9_rumour_90 : decode cX9_rumour 90 = .ok (.ifCond .eq 7, 3) := by decide +kernel
theorem dX9_rumour_93 : decode cX9_rumour 93 = .ok (.iload_n 3, 1) := by decide +kernel
theorem dX9_rumour_94 : decode cX9_rumour 94 = .ok (.ifCond .ne 7, 3) := by decide +kernel
theorem dX9_rumour_97 : decode cX9_rumour 97 = .ok (.iload_n 2, 1) := by decide +kernel
theorem dX9_rumour_98 : decode cX9_rumour 98 = .ok (.goto 4, 3) := by decide +kernel
theorem dX9_rumour_101 : decode cX9_rumour 101 = .ok (.iload_n 3, 1) := by decide +kernel
theorem dX9_rumour_102 : decode cX9_rumour 102 = .ok (.ireturn, 1) := by decide +kernel
theorem dX9_doubles_0 : decode cX9_doubles 0 = .ok (.iconst 0, 1) := by decide +kernel
theorem dX9_doubles_1 : decode cX9_doubles 1 = .ok (.istore_n 1, 1) := by decide +kernel
theorem dX9_doubles_2 : decode cX9_doubles 2 = .ok (.iconst 0, 1) := by decide +kernel
theorem dX9_doubles_3 : decode cX9_doubles 3 = .ok (.istore_n 2, 1) := by decide +kernel
theorem dX9_doubles_4 : decode cX9_doubles 4 = .ok (.iload_n 2, 1) := by decide +kernel
theorem dX9_doubles_5 : decode cX9_doubles 5 = .ok (.aload_n 0, 1) := by decide +kernel
theorem dX9_doubles_6 : decode cX9_doubles 6 = .ok (.getfield 30, 3) := by decide +kernel
theorem dX9_doubles_9 : decode cX9_doubles 9 = .ok (.getfield 147, 3) := by decide +kernel
theorem dX9_doubles_12 : decode cX9_doubles 12 = .ok (.if_icmp .ge 53, 3) := by decide +kernel
theorem dX9_doubles_15 : decode cX9_doubles 15 = .ok (.iload_n 2, 1) := by decide +kernel
theorem dX9_doubles_16 : decode cX9_doubles 16 = .ok (.iconst 1, 1) := by decide +kernel
theorem dX9_doubles_17 : decode cX9_doubles 17 = .ok (.iadd, 1) := by decide +kernel
theorem dX9_doubles_18 : decode cX9_doubles 18 = .ok (.istore_n 3, 1) := by decide +kernel
theorem dX9_doubles_19 : decode cX9_doubles 19 = .ok (.iload_n 3, 1) := by decide +kernel
theorem dX9_doubles_20 : decode cX9_doubles 20 = .ok (.aload_n 0, 1) := by decide +kernel
theorem dX9_doubles_21 : decode cX9_doubles 21 = .ok (.getfield 30, 3) := by decide +kernel
theorem dX9_doubles_24 : decode cX9_doubles 24 = .ok (.getfield 147, 3) := by decide +kernel
theorem dX9_doubles_27 : decode cX9_doubles 27 = .ok (.if_icmp .ge 32, 3) := by decide +kernel
theorem dX9_doubles_30 : decode cX9_doubles 30 = .ok (.aload_n 0, 1) := by decide +kernel
theorem dX9_doubles_31 : decode cX9_doubles 31 = .ok (.getfield 30, 3) := by decide +kernel
theorem dX9_doubles_34 : decode cX9_doubles 34 = .ok (.iload_n 2, 1) := by decide +kernel
theorem dX9_doubles_35 : decode cX9_doubles 35 = .ok (.invokevirtual 104, 3) := by decide +kernel
theorem dX9_doubles_38 : decode cX9_doubles 38 = .ok (.aload_n 0, 1) := by decide +kernel
theorem dX9_doubles_39 : decode cX9_doubles 39 = .ok (.getfield 30, 3) := by decide +kernel
theorem dX9_doubles_42 : decode cX9_doubles 42 = .ok (.iload_n 3, 1) := by decide +kernel
theorem dX9_doubles_43 : decode cX9_doubles 43 = .ok (.invokevirtual 104, 3) := by decide +kernel
theorem dX9_doubles_46 : decode cX9_doubles 46 = .ok (.iand, 1) := by decide +kernel
theorem dX9_doubles_47 : decode cX9_doubles 47 = .ok (.ifCond .eq 6, 3) := by decide +kernel
theorem dX9_doubles_50 : decode cX9_doubles 50 = .ok (.iinc 1 1, 3) := by decide +kernel
theorem dX9_doubles_53 : decode cX9_doubles 53 = .ok (.iinc 3 1, 3) := by decide +kernel
theorem dX9_doubles_56 : decode cX9_doubles 56 = .ok (.goto (-37), 3) := by decide +kernel
theorem dX9_doubles_59 : decode cX9_doubles 59 = .ok (.iinc 2 1, 3) := by decide +kernel
theorem dX9_doubles_62 : decode cX9_doubles 62 = .ok (.goto (-58), 3) := by decide +kernel
theorem dX9_doubles_65 : decode cX9_doubles 65 = .ok (.iload_n 1, 1) := by decide +kernel
theorem dX9_doubles_66 : decode cX9_doubles 66 = .ok (.ireturn, 1) := by decide +kernel
theorem dX9_apart_0 : decode cX9_apart 0 = .ok (.iload_n 1, 1) := by decide +kernel
theorem dX9_apart_1 : decode cX9_apart 1 = .ok (.ifCond .lt 8, 3) := by decide +kernel
theorem dX9_apart_4 : decode cX9_apart 4 = .ok (.iload_n 1, 1) := by decide +kernel
theorem dX9_apart_5 : decode cX9_apart 5 = .ok (.iconst 1, 1) := by decide +kernel
theorem dX9_apart_6 : decode cX9_apart 6 = .ok (.if_icmp .le 5, 3) := by decide +kernel
theorem dX9_apart_9 : decode cX9_apart 9 = .ok (.iconst (-1), 1) := by decide +kernel
theorem dX9_apart_10 : decode cX9_apart 10 = .ok (.ireturn, 1) := by decide +kernel
theorem dX9_apart_11 : decode cX9_apart 11 = .ok (.bipush (-2), 2) := by decide +kernel
theorem dX9_apart_13 : decode cX9_apart 13 = .ok (.istore_n 2, 1) := by decide +kernel
theorem dX9_apart_14 : decode cX9_apart 14 = .ok (.bipush 9, 2) := by decide +kernel
theorem dX9_apart_16 : decode cX9_apart 16 = .ok (.istore_n 3, 1) := by decide +kernel
theorem dX9_apart_17 : decode cX9_apart 17 = .ok (.iconst 0, 1) := by decide +kernel
theorem dX9_apart_18 : decode cX9_apart 18 = .ok (.istore 4, 2) := by decide +kernel
theorem dX9_apart_20 : decode cX9_apart 20 = .ok (.iload 4, 2) := by decide +kernel
theorem dX9_apart_22 : decode cX9_apart 22 = .ok (.sipush 256, 3) := by decide +kernel
theorem dX9_apart_25 : decode cX9_apart 25 = .ok (.if_icmp .ge 40, 3) := by decide +kernel
theorem dX9_apart_28 : decode cX9_apart 28 = .ok (.iload 4, 2) := by decide +kernel
theorem dX9_apart_30 : decode cX9_apart 30 = .ok (.invokestatic 177, 3) := by decide +kernel
theorem dX9_apart_33 : decode cX9_apart 33 = .ok (.istore 5, 2) := by decide +kernel
theorem dX9_apart_35 : decode cX9_apart 35 = .ok (.iload 5, 2) := by decide +kernel
theorem dX9_apart_37 : decode cX9_apart 37 = .ok (.iload_n 3, 1) := by decide +kernel
theorem dX9_apart_38 : decode cX9_apart 38 = .ok (.if_icmp .ge 21, 3) := by decide +kernel
theorem dX9_apart_41 : decode cX9_apart 41 = .ok (.aload_n 0, 1) := by decide +kernel
theorem dX9_apart_42 : decode cX9_apart 42 = .ok (.getfield 30, 3) := by decide +kernel
theorem dX9_apart_45 : decode cX9_apart 45 = .ok (.iload 4, 2) := by decide +kernel
theorem dX9_apart_47 : decode cX9_apart 47 = .ok (.invokevirtual 289, 3) := by decide +kernel
theorem dX9_apart_50 : decode cX9_apart 50 = .ok (.ifCond .eq 9, 3) := by decide +kernel
theorem dX9_apart_53 : decode cX9_apart 53 = .ok (.iload 4, 2) := by decide +kernel
theorem dX9_apart_55 : decode cX9_apart 55 = .ok (.istore_n 2, 1) := by decide +kernel
theorem dX9_apart_56 : decode cX9_apart 56 = .ok (.iload 5, 2) := by decide +kernel
theorem dX9_apart_58 : decode cX9_apart 58 = .ok (.istore_n 3, 1) := by decide +kernel
theorem dX9_apart_59 : decode cX9_apart 59 = .ok (.iinc 4 1, 3) := by decide +kernel
theorem dX9_apart_62 : decode cX9_apart 62 = .ok (.goto (-42), 3) := by decide +kernel
theorem dX9_apart_65 : decode cX9_apart 65 = .ok (.iload_n 1, 1) := by decide +kernel
theorem dX9_apart_66 : decode cX9_apart 66 = .ok (.iconst 1, 1) := by decide +kernel
theorem dX9_apart_67 : decode cX9_apart 67 = .ok (.if_icmp .eq 9, 3) := by decide +kernel
theorem dX9_apart_70 : decode cX9_apart 70 = .ok (.iload_n 2, 1) := by decide +kernel
theorem dX9_apart_71 : decode cX9_apart 71 = .ok (.bipush (-2), 2) := by decide +kernel
theorem dX9_apart_73 : decode cX9_apart 73 = .ok (.if_icmp .ne 7, 3) := by decide +kernel
theorem dX9_apart_76 : decode cX9_apart 76 = .ok (.iload_n 2, 1) := by decide +kernel
theorem dX9_apart_77 : decode cX9_apart 77 = .ok (.goto 4, 3) := by decide +kernel
theorem dX9_apart_80 : decode cX9_apart 80 = .ok (.iload_n 3, 1) := by decide +kernel
theorem dX9_apart_81 : decode cX9_apart 81 = .ok (.ireturn, 1) := by decide +kernel
set_option maxRecDepth 100000 in
set_option maxHeartbeats 4000000 in
theorem tX5_openTell_47 (G : gx) (fu : Nat) (h0 : mh) (v0 : Nat) (v1 : Nat) (v2 : Int32) (h : mh) : Ev lI G yX5_openTell cX5_openTell 3 (some .int) 2 h0 47 [(0, .ref (gB G + v0)), (1, .ref (gB G + v1)), (2, .int v2)] [] h (fX5_openTell_47 fu v0 v1 v2 h) := by
  unfold fX5_openTell_47
  refine ev_step (st_aload_n (pc := 47) (j := 1) dX5_openTell_47 rfl rfl) ?_
  refine ev_step (st_iload_n (pc := 48) (j := 2) dX5_openTell_48 rfl rfl) ?_
  refine ev_callI (iv_S (As := [.ref (gB G + v1), .int v2]) (st := []) (pc := 49) m_X5_hasRoomFor l_X5_91 z_X5_hasRoomFor rfl (Nat.le_of_ble_eq_true rfl) rfl dX5_openTell_49) (tX5_hasRoomFor G fu v1 v2 h) (by decide) (by decide) (fun x2 h1 => ?_)
  refine ev_br (br_if_eq (tgt := 59) (pc := 52) dX5_openTell_52 (by decide)) (fun _ => ?_) (fun _ => ?_)
  · refine ev_step (st_iconst (pc := 59) dX5_openTell_59 ni_2) ?_
    exact ev_iret (pc := 60) dX5_openTell_60
  · refine ev_step (st_iconst (pc := 55) dX5_openTell_55 ni_0) ?_
    refine ev_step (st_goto (pc := 56) (tgt := 60) dX5_openTell_56 (by decide)) ?_
    exact ev_iret (pc := 60) dX5_openTell_60
set_option maxRecDepth 100000 in
set_option maxHeartbeats 4000000 in
theorem tX5_openTell (G : gx) (fu : Nat) (v0 : Nat) (v1 : Nat) (h : mh) : Ct lI G yX5_openTell cX5_openTell 3 (some .int) 2 [.ref (gB G + v0), .ref (gB G + v1)] h (fX5_openTell fu v0 v1 h) := by
  refine ct_ls (ls := [(0, .ref (gB G + v0)), (1, .ref (gB G + v1))]) rfl (by decide) (Nat.le_of_ble_eq_true rfl) ?_
  unfold fX5_openTell
  refine ev_step (st_aload_n (pc := 0) (j := 0) dX5_openTell_0 rfl rfl) ?_
  refine ev_getR (pc := 1) k_X5_12 rfl dX5_openTell_1 (fun a1 => ?_)
  refine ev_getI (pc := 4) k_X5_84 rfl dX5_openTell_4 (fun x2 => ?_)
  refine ev_step (st_istore_n (pc := 7) (ls' := [(2, .int x2), (0, .ref (gB G + v0)), (1, .ref (gB G + v1))]) dX5_openTell_7 rfl (by decide) rfl) ?_
  refine ev_step (st_iload_n (pc := 8) (j := 0) dX5_openTell_8 rfl rfl) ?_
  refine ev_br (br_if_lt (tgt := 18) (pc := 9) dX5_openTell_9 (by decide)) (fun _ => ?_) (fun _ => ?_)
  · refine ev_step (st_iconst (pc := 18) dX5_openTell_18 ni_1) ?_
    exact ev_iret (pc := 19) dX5_openTell_19
  · refine ev_step (st_iload_n (pc := 12) (j := 0) dX5_openTell_12 rfl rfl) ?_
    refine ev_step (st_bipush (pc := 13) dX5_openTell_13 nb_9) ?_
    refine ev_br (br_icmp_le (tgt := 20) (pc := 15) dX5_openTell_15 (by decide)) (fun _ => ?_) (fun _ => ?_)
    · refine ev_step (st_aload_n (pc := 20) (j := 1) dX5_openTell_20 rfl rfl) ?_
      refine ev_step (st_iload_n (pc := 21) (j := 0) dX5_openTell_21 rfl rfl) ?_
      refine ev_putI (pc := 22) (p_X5_25 _ rfl) rfl dX5_openTell_22 (fun h3 => ?_)
      refine ev_step (st_aload_n (pc := 25) (j := 1) dX5_openTell_25 rfl rfl) ?_
      refine ev_step (st_iconst (pc := 26) dX5_openTell_26 ni_0) ?_
      refine ev_putI (pc := 27) (p_X5_29 _ rfl) rfl dX5_openTell_27 (fun h4 => ?_)
      refine ev_step (st_iload_n (pc := 30) (j := 0) dX5_openTell_30 rfl rfl) ?_
      refine ev_callI (iv_S (As := [.int x2]) (st := []) (pc := 31) m_X5_isLaw l_X5_66 z_X5_isLaw rfl (Nat.le_of_ble_eq_true rfl) rfl dX5_openTell_31) (tX5_isLaw G fu x2 h4) (by decide) (by decide) (fun x6 h5 => ?_)
      refine ev_br (br_if_eq (tgt := 47) (pc := 34) dX5_openTell_34 (by decide)) (fun _ => ?_) (fun _ => ?_)
      · refine ev_sub (ls' := [(0, .ref (gB G + v0)), (1, .ref (gB G + v1)), (2, .int x2)]) [1, 2, 0] rfl ?_
        exact tX5_openTell_47 G fu h v0 v1 x2 h5
      · refine ev_step (st_aload_n (pc := 37) (j := 1) dX5_openTell_37 rfl rfl) ?_
        refine ev_getR (pc := 38) k_X5_21 rfl dX5_openTell_38 (fun a7 => ?_)
        refine ev_step (st_iload_n (pc := 41) (j := 0) dX5_openTell_41 rfl rfl) ?_
        refine ev_step (st_iconst (pc := 42) dX5_openTell_42 ni_3) ?_
        refine ev_step (st_isub (pc := 43) dX5_openTell_43) ?_
        refine ev_ck (fun ha hS => ?_)
        refine ev_callV (iv_V (As := [.int (x2 - ((3 : Int32)))]) (st := []) (pc := 44) rfl m_X0_open l_X5_87 i_X0_open e_X0_open ha hS rfl (Nat.le_of_ble_eq_true rfl) rfl dX5_openTell_44) (tX0_open G fu a7 (x2 - ((3 : Int32))) h5) (by decide) (by decide) (fun h8 => ?_)
        refine ev_sub (ls' := [(0, .ref (gB G + v0)), (1, .ref (gB G + v1)), (2, .int x2)]) [1, 2, 0] rfl ?_
        exact tX5_openTell_47 G fu h v0 v1 x2 h8
    · refine ev_step (st_iconst (pc := 18) dX5_openTell_18 ni_1) ?_
      exact ev_iret (pc := 19) dX5_openTell_19
set_option maxRecDepth 100000 in
set_option maxHeartbeats 4000000 in
theorem tX5_takeNumber_116 (G : gx) (fu : Nat) (h0 : mh) (v0 : Nat) (v1 : Nat) (v2 : Int32) (h : mh) : Ev lV G yX5_takeNumber cX5_takeNumber 3 (none) 2 h0 116 [(0, .ref (gB G + v0)), (1, .ref (gB G + v1)), (2, .int v2)] [] h (fX5_takeNumber_116 fu v0 v1 v2 h) := by
  unfold fX5_takeNumber_116
  refine ev_step (st_aload_n (pc := 116) (j := 1) dX5_takeNumber_116 rfl rfl) ?_
  refine ev_step (st_iload_n (pc := 117) (j := 2) dX5_takeNumber_117 rfl rfl) ?_
  refine ev_putI (pc := 118) (p_X5_187 _ rfl) rfl dX5_takeNumber_118 (fun h1 => ?_)
  exact ev_vret (pc := 121) dX5_takeNumber_121
set_option maxRecDepth 100000 in
set_option maxHeartbeats 4000000 in
theorem tX5_takeNumber_21 (G : gx) (fu : Nat) (h0 : mh) (v0 : Nat) (v1 : Nat) (v2 : Int32) (h : mh) : Ev lV G yX5_takeNumber cX5_takeNumber 3 (none) 2 h0 21 [(0, .ref (gB G + v0)), (1, .ref (gB G + v1)), (2, .int v2)] [] h (fX5_takeNumber_21 fu v0 v1 v2 h) := by
  unfold fX5_takeNumber_21
  refine ev_step (st_aload_n (pc := 21) (j := 0) dX5_takeNumber_21 rfl rfl) ?_
  refine ev_getI (pc := 22) k_X5_25 rfl dX5_takeNumber_22 (fun x1 => ?_)
  refine ev_case (n := 0) (c := (0 : Int32)) (off := 51) (tgt := 76) (pc := 25) (swn_0 _ _) dX5_takeNumber_25 (by decide) (by decide) (by decide) (by decide) (by decide) (fun _ => ?_) (fun q2 => ?_)
  · refine ev_step (st_aload_n (pc := 76) (j := 1) dX5_takeNumber_76 rfl rfl) ?_
    refine ev_step (st_aload_n (pc := 77) (j := 0) dX5_takeNumber_77 rfl rfl) ?_
    refine ev_getI (pc := 78) k_X5_29 rfl dX5_takeNumber_78 (fun x3 => ?_)
    refine ev_step (st_iload_n (pc := 81) (j := 2) dX5_takeNumber_81 rfl rfl) ?_
    refine ev_ck (fun ha hS => ?_)
    refine ev_callV (iv_V (As := [.int x3, .int v2]) (st := []) (pc := 82) rfl m_X6_setRole l_X5_175 i_X6_setRole e_X6_setRole ha hS rfl (Nat.le_of_ble_eq_true rfl) rfl dX5_takeNumber_82) (tX6_setRole G fu v1 x3 v2 h) (by decide) (by decide) (fun h4 => ?_)
    refine ev_step (st_goto (pc := 85) (tgt := 121) dX5_takeNumber_85 (by decide)) ?_
    exact ev_vret (pc := 121) dX5_takeNumber_121
  refine ev_case (n := 1) (c := (1 : Int32)) (off := 63) (tgt := 88) (pc := 25) q2 dX5_takeNumber_25 (by decide) (by decide) (by decide) (by decide) (by decide) (fun _ => ?_) (fun q5 => ?_)
  · refine ev_step (st_aload_n (pc := 88) (j := 1) dX5_takeNumber_88 rfl rfl) ?_
    refine ev_step (st_aload_n (pc := 89) (j := 0) dX5_takeNumber_89 rfl rfl) ?_
    refine ev_getI (pc := 90) k_X5_29 rfl dX5_takeNumber_90 (fun x6 => ?_)
    refine ev_step (st_iload_n (pc := 93) (j := 2) dX5_takeNumber_93 rfl rfl) ?_
    refine ev_ck (fun ha hS => ?_)
    refine ev_callV (iv_V (As := [.int x6, .int v2]) (st := []) (pc := 94) rfl m_X6_setListener l_X5_178 i_X6_setListener e_X6_setListener ha hS rfl (Nat.le_of_ble_eq_true rfl) rfl dX5_takeNumber_94) (tX6_setListener G fu v1 x6 v2 h) (by decide) (by decide) (fun h7 => ?_)
    refine ev_step (st_goto (pc := 97) (tgt := 121) dX5_takeNumber_97 (by decide)) ?_
    exact ev_vret (pc := 121) dX5_takeNumber_121
  refine ev_case (n := 2) (c := (2 : Int32)) (off := 91) (tgt := 116) (pc := 25) q5 dX5_takeNumber_25 (by decide) (by decide) (by decide) (by decide) (by decide) (fun _ => ?_) (fun q8 => ?_)
  · refine ev_sub (ls' := [(0, .ref (gB G + v0)), (1, .ref (gB G + v1)), (2, .int v2)]) [0, 1, 2] rfl ?_
    exact tX5_takeNumber_116 G fu h0 v0 v1 v2 h
  refine ev_case (n := 3) (c := (3 : Int32)) (off := 91) (tgt := 116) (pc := 25) q8 dX5_takeNumber_25 (by decide) (by decide) (by decide) (by decide) (by decide) (fun _ => ?_) (fun q9 => ?_)
  · refine ev_sub (ls' := [(0, .ref (gB G + v0)), (1, .ref (gB G + v1)), (2, .int v2)]) [0, 1, 2] rfl ?_
    exact tX5_takeNumber_116 G fu h0 v0 v1 v2 h
  refine ev_case (n := 4) (c := (4 : Int32)) (off := 91) (tgt := 116) (pc := 25) q9 dX5_takeNumber_25 (by decide) (by decide) (by decide) (by decide) (by decide) (fun _ => ?_) (fun q10 => ?_)
  · refine ev_sub (ls' := [(0, .ref (gB G + v0)), (1, .ref (gB G + v1)), (2, .int v2)]) [0, 1, 2] rfl ?_
    exact tX5_takeNumber_116 G fu h0 v0 v1 v2 h
  refine ev_case (n := 5) (c := (5 : Int32)) (off := 91) (tgt := 116) (pc := 25) q10 dX5_takeNumber_25 (by decide) (by decide) (by decide) (by decide) (by decide) (fun _ => ?_) (fun q11 => ?_)
  · refine ev_sub (ls' := [(0, .ref (gB G + v0)), (1, .ref (gB G + v1)), (2, .int v2)]) [0, 1, 2] rfl ?_
    exact tX5_takeNumber_116 G fu h0 v0 v1 v2 h
  refine ev_case (n := 6) (c := (6 : Int32)) (off := 91) (tgt := 116) (pc := 25) q11 dX5_takeNumber_25 (by decide) (by decide) (by decide) (by decide) (by decide) (fun _ => ?_) (fun q12 => ?_)
  · refine ev_sub (ls' := [(0, .ref (gB G + v0)), (1, .ref (gB G + v1)), (2, .int v2)]) [0, 1, 2] rfl ?_
    exact tX5_takeNumber_116 G fu h0 v0 v1 v2 h
  refine ev_case (n := 7) (c := (7 : Int32)) (off := 75) (tgt := 100) (pc := 25) q12 dX5_takeNumber_25 (by decide) (by decide) (by decide) (by decide) (by decide) (fun _ => ?_) (fun q13 => ?_)
  · refine ev_step (st_aload_n (pc := 100) (j := 1) dX5_takeNumber_100 rfl rfl) ?_
    refine ev_step (st_iload_n (pc := 101) (j := 2) dX5_takeNumber_101 rfl rfl) ?_
    refine ev_putI (pc := 102) (p_X5_181 _ rfl) rfl dX5_takeNumber_102 (fun h14 => ?_)
    refine ev_step (st_goto (pc := 105) (tgt := 121) dX5_takeNumber_105 (by decide)) ?_
    exact ev_vret (pc := 121) dX5_takeNumber_121
  refine ev_case (n := 8) (c := (8 : Int32)) (off := 83) (tgt := 108) (pc := 25) q13 dX5_takeNumber_25 (by decide) (by decide) (by decide) (by decide) (by decide) (fun _ => ?_) (fun q15 => ?_)
  · refine ev_step (st_aload_n (pc := 108) (j := 1) dX5_takeNumber_108 rfl rfl) ?_
    refine ev_step (st_iload_n (pc := 109) (j := 2) dX5_takeNumber_109 rfl rfl) ?_
    refine ev_putI (pc := 110) (p_X5_184 _ rfl) rfl dX5_takeNumber_110 (fun h16 => ?_)
    refine ev_step (st_goto (pc := 113) (tgt := 121) dX5_takeNumber_113 (by decide)) ?_
    exact ev_vret (pc := 121) dX5_takeNumber_121
  refine ev_dflt (n := 9) (tgt := 116) (pc := 25) q15 dX5_takeNumber_25 (by decide) (by decide) ?_
  refine ev_sub (ls' := [(0, .ref (gB G + v0)), (1, .ref (gB G + v1)), (2, .int v2)]) [0, 1, 2] rfl ?_
  exact tX5_takeNumber_116 G fu h0 v0 v1 v2 h
set_option maxRecDepth 100000 in
set_option maxHeartbeats 4000000 in
theorem tX5_takeNumber_16 (G : gx) (fu : Nat) (h0 : mh) (v0 : Nat) (v1 : Nat) (v2 : Int32) (h : mh) : Ev lV G yX5_takeNumber cX5_takeNumber 3 (none) 2 h0 16 [(0, .ref (gB G + v0)), (1, .ref (gB G + v1)), (2, .int v2)] [] h (fX5_takeNumber_16 fu v0 v1 v2 h) := by
  unfold fX5_takeNumber_16
  refine ev_step (st_aload_n (pc := 16) (j := 0) dX5_takeNumber_16 rfl rfl) ?_
  refine ev_step (st_iconst (pc := 17) dX5_takeNumber_17 ni_5) ?_
  refine ev_ck (fun ha hS => ?_)
  refine ev_callV (iv_V (As := [.int ((5 : Int32))]) (st := []) (pc := 18) rfl m_X5_note l_X5_151 i_X5_note e_X5_note ha hS rfl (Nat.le_of_ble_eq_true rfl) rfl dX5_takeNumber_18) (tX5_note G fu v0 ((5 : Int32)) h) (by decide) (by decide) (fun h1 => ?_)
  refine ev_sub (ls' := [(0, .ref (gB G + v0)), (1, .ref (gB G + v1)), (2, .int v2)]) [0, 1, 2] rfl ?_
  exact tX5_takeNumber_21 G fu h0 v0 v1 v2 h1
set_option maxRecDepth 100000 in
set_option maxHeartbeats 4000000 in
theorem tX5_takeNumber (G : gx) (fu : Nat) (v0 : Nat) (v1 : Nat) (v2 : Int32) (h : mh) : Ct lV G yX5_takeNumber cX5_takeNumber 3 (none) 2 [.ref (gB G + v0), .ref (gB G + v1), .int v2] h (fX5_takeNumber fu v0 v1 v2 h) := by
  refine ct_ls (ls := [(0, .ref (gB G + v0)), (1, .ref (gB G + v1)), (2, .int v2)]) rfl (by decide) (Nat.le_of_ble_eq_true rfl) ?_
  unfold fX5_takeNumber
  refine ev_step (st_iload_n (pc := 0) (j := 2) dX5_takeNumber_0 rfl rfl) ?_
  refine ev_step (st_aload_n (pc := 1) (j := 0) dX5_takeNumber_1 rfl rfl) ?_
  refine ev_ck (fun ha hS => ?_)
  refine ev_callI (iv_V (As := []) (st := [.int v2]) (pc := 2) rfl m_X5_leastNumber l_X5_169 i_X5_leastNumber e_X5_leastNumber ha hS rfl (Nat.le_of_ble_eq_true rfl) rfl dX5_takeNumber_2) (tX5_leastNumber G fu v0 h) (by decide) (by decide) (fun x2 h1 => ?_)
  refine ev_br (br_icmp_lt (tgt := 16) (pc := 5) dX5_takeNumber_5 (by decide)) (fun _ => ?_) (fun _ => ?_)
  · refine ev_sub (ls' := [(0, .ref (gB G + v0)), (1, .ref (gB G + v1)), (2, .int v2)]) [0, 1, 2] rfl ?_
    exact tX5_takeNumber_16 G fu h v0 v1 v2 h1
  · refine ev_step (st_iload_n (pc := 8) (j := 2) dX5_takeNumber_8 rfl rfl) ?_
    refine ev_step (st_aload_n (pc := 9) (j := 0) dX5_takeNumber_9 rfl rfl) ?_
    refine ev_ck (fun ha hS => ?_)
    refine ev_callI (iv_V (As := []) (st := [.int v2]) (pc := 10) rfl m_X5_mostNumber l_X5_172 i_X5_mostNumber e_X5_mostNumber ha hS rfl (Nat.le_of_ble_eq_true rfl) rfl dX5_takeNumber_10) (tX5_mostNumber G fu v0 h1) (by decide) (by decide) (fun x4 h3 => ?_)
    refine ev_br (br_icmp_le (tgt := 21) (pc := 13) dX5_takeNumber_13 (by decide)) (fun _ => ?_) (fun _ => ?_)
    · refine ev_sub (ls' := [(0, .ref (gB G + v0)), (1, .ref (gB G + v1)), (2, .int v2)]) [0, 1, 2] rfl ?_
      exact tX5_takeNumber_21 G fu h v0 v1 v2 h3
    · refine ev_sub (ls' := [(0, .ref (gB G + v0)), (1, .ref (gB G + v1)), (2, .int v2)]) [0, 1, 2] rfl ?_
      exact tX5_takeNumber_16 G fu h v0 v1 v2 h3
set_option maxRecDepth 100000 in
set_option maxHeartbeats 4000000 in
theorem tX6_clear (G : gx) (fu : Nat) (v0 : Nat) (h : mh) : Ct lV G yX6_clear cX6_clear 1 (none) 3 [.ref (gB G + v0)] h (fX6_clear fu v0 h) := by
  refine ct_ls (ls := [(0, .ref (gB G + v0))]) rfl (by decide) (Nat.le_of_ble_eq_true rfl) ?_
  unfold fX6_clear
  refine ev_step (st_aload_n (pc := 0) (j := 0) dX6_clear_0 rfl rfl) ?_
  refine ev_step (st_iconst (pc := 1) dX6_clear_1 ni_0) ?_
  refine ev_putI (pc := 2) (p_X6_9 _ rfl) rfl dX6_clear_2 (fun h1 => ?_)
  refine ev_step (st_aload_n (pc := 5) (j := 0) dX6_clear_5 rfl rfl) ?_
  refine ev_step (st_iconst (pc := 6) dX6_clear_6 ni_0) ?_
  refine ev_putI (pc := 7) (p_X6_26 _ rfl) rfl dX6_clear_7 (fun h2 => ?_)
  refine ev_step (st_aload_n (pc := 10) (j := 0) dX6_clear_10 rfl rfl) ?_
  refine ev_step (st_iconst (pc := 11) dX6_clear_11 ni_0) ?_
  refine ev_putI (pc := 12) (p_X6_41 _ rfl) rfl dX6_clear_12 (fun h3 => ?_)
  refine ev_step (st_aload_n (pc := 15) (j := 0) dX6_clear_15 rfl rfl) ?_
  refine ev_getR (pc := 16) k_X6_32 rfl dX6_clear_16 (fun a4 => ?_)
  refine ev_step (st_iconst (pc := 19) dX6_clear_19 ni_0) ?_
  refine ev_callV (iv_S (As := [.ref (gB G + a4), .int ((0 : Int32))]) (st := []) (pc := 20) m_J7_fill_53178 l_X6_63 z_J7_fill_53178 rfl (Nat.le_of_ble_eq_true rfl) rfl dX6_clear_20) (tJ7_fill_53178 G fu a4 ((0 : Int32)) h3) (by decide) (by decide) (fun h5 => ?_)
  refine ev_step (st_aload_n (pc := 23) (j := 0) dX6_clear_23 rfl rfl) ?_
  refine ev_getR (pc := 24) k_X6_38 rfl dX6_clear_24 (fun a6 => ?_)
  refine ev_step (st_iconst (pc := 27) dX6_clear_27 ni_0) ?_
  refine ev_callV (iv_S (As := [.ref (gB G + a6), .int ((0 : Int32))]) (st := []) (pc := 28) m_J7_fill_53178 l_X6_63 z_J7_fill_53178 rfl (Nat.le_of_ble_eq_true rfl) rfl dX6_clear_28) (tJ7_fill_53178 G fu a6 ((0 : Int32)) h5) (by decide) (by decide) (fun h7 => ?_)
  refine ev_step (st_aload_n (pc := 31) (j := 0) dX6_clear_31 rfl rfl) ?_
  refine ev_getR (pc := 32) k_X6_44 rfl dX6_clear_32 (fun a8 => ?_)
  refine ev_step (st_iconst (pc := 35) dX6_clear_35 ni_0) ?_
  refine ev_callV (iv_S (As := [.ref (gB G + a8), .int ((0 : Int32))]) (st := []) (pc := 36) m_J7_fill_53178 l_X6_63 z_J7_fill_53178 rfl (Nat.le_of_ble_eq_true rfl) rfl dX6_clear_36) (tJ7_fill_53178 G fu a8 ((0 : Int32)) h7) (by decide) (by decide) (fun h9 => ?_)
  refine ev_step (st_aload_n (pc := 39) (j := 0) dX6_clear_39 rfl rfl) ?_
  refine ev_getR (pc := 40) k_X6_50 rfl dX6_clear_40 (fun a10 => ?_)
  refine ev_ck (fun ha hS => ?_)
  refine ev_callV (iv_V (As := []) (st := []) (pc := 43) rfl m_X1_clear l_X6_69 i_X1_clear e_X1_clear ha hS rfl (Nat.le_of_ble_eq_true rfl) rfl dX6_clear_43) (tX1_clear G fu a10 h9) (by decide) (by decide) (fun h11 => ?_)
  refine ev_step (st_aload_n (pc := 46) (j := 0) dX6_clear_46 rfl rfl) ?_
  refine ev_step (st_iconst (pc := 47) dX6_clear_47 ni_0) ?_
  refine ev_putI (pc := 48) (p_X6_54 _ rfl) rfl dX6_clear_48 (fun h12 => ?_)
  refine ev_step (st_aload_n (pc := 51) (j := 0) dX6_clear_51 rfl rfl) ?_
  refine ev_step (st_iconst (pc := 52) dX6_clear_52 ni_3) ?_
  refine ev_putI (pc := 53) (p_X6_57 _ rfl) rfl dX6_clear_53 (fun h13 => ?_)
  refine ev_step (st_aload_n (pc := 56) (j := 0) dX6_clear_56 rfl rfl) ?_
  refine ev_step (st_iconst (pc := 57) dX6_clear_57 ni_0) ?_
  refine ev_putI (pc := 58) (p_X6_60 _ rfl) rfl dX6_clear_58 (fun h14 => ?_)
  exact ev_vret (pc := 61) dX6_clear_61
set_option maxRecDepth 100000 in
set_option maxHeartbeats 4000000 in
theorem tX6_addReally (G : gx) (fu : Nat) (v0 : Nat) (v1 : Int32) (v2 : Int32) (h : mh) : Ct lV G yX6_addReally cX6_addReally 3 (none) 2 [.ref (gB G + v0), .int v1, .int v2] h (fX6_addReally fu v0 v1 v2 h) := by
  refine ct_ls (ls := [(0, .ref (gB G + v0)), (1, .int v1), (2, .int v2)]) rfl (by decide) (Nat.le_of_ble_eq_true rfl) ?_
  unfold fX6_addReally
  refine ev_step (st_aload_n (pc := 0) (j := 0) dX6_addReally_0 rfl rfl) ?_
  refine ev_step (st_dup (pc := 1) dX6_addReally_1 rfl) ?_
  refine ev_getI (pc := 2) k_X6_41 rfl dX6_addReally_2 (fun x1 => ?_)
  refine ev_step (st_iconst (pc := 5) dX6_addReally_5 ni_1) ?_
  refine ev_step (st_iadd (pc := 6) dX6_addReally_6) ?_
  refine ev_putI (pc := 7) (p_X6_41 _ rfl) rfl dX6_addReally_7 (fun h2 => ?_)
  refine ev_step (st_aload_n (pc := 10) (j := 0) dX6_addReally_10 rfl rfl) ?_
  refine ev_step (st_iload_n (pc := 11) (j := 1) dX6_addReally_11 rfl rfl) ?_
  refine ev_ck (fun ha hS => ?_)
  refine ev_callI (iv_V (As := [.int v1]) (st := []) (pc := 12) rfl m_X6_hasListener l_X6_72 i_X6_hasListener e_X6_hasListener ha hS rfl (Nat.le_of_ble_eq_true rfl) rfl dX6_addReally_12) (tX6_hasListener G fu v0 v1 h2) (by decide) (by decide) (fun x4 h3 => ?_)
  refine ev_br (br_if_eq (tgt := 38) (pc := 15) dX6_addReally_15 (by decide)) (fun _ => ?_) (fun _ => ?_)
  · exact ev_vret (pc := 38) dX6_addReally_38
  · refine ev_step (st_aload_n (pc := 18) (j := 0) dX6_addReally_18 rfl rfl) ?_
    refine ev_step (st_iload_n (pc := 19) (j := 2) dX6_addReally_19 rfl rfl) ?_
    refine ev_ck (fun ha hS => ?_)
    refine ev_callI (iv_V (As := [.int v2]) (st := []) (pc := 20) rfl m_X6_hasRole l_X6_76 i_X6_hasRole e_X6_hasRole ha hS rfl (Nat.le_of_ble_eq_true rfl) rfl dX6_addReally_20) (tX6_hasRole G fu v0 v2 h3) (by decide) (by decide) (fun x6 h5 => ?_)
    refine ev_br (br_if_eq (tgt := 38) (pc := 23) dX6_addReally_23 (by decide)) (fun _ => ?_) (fun _ => ?_)
    · exact ev_vret (pc := 38) dX6_addReally_38
    · refine ev_step (st_aload_n (pc := 26) (j := 0) dX6_addReally_26 rfl rfl) ?_
      refine ev_getR (pc := 27) k_X6_44 rfl dX6_addReally_27 (fun a7 => ?_)
      refine ev_step (st_iload_n (pc := 30) (j := 1) dX6_addReally_30 rfl rfl) ?_
      refine ev_step (st_dup2 (pc := 31) dX6_addReally_31 rfl rfl) ?_
      refine ev_ldi (pc := 32) dX6_addReally_32 (fun x8 => ?_)
      refine ev_step (st_iconst (pc := 33) dX6_addReally_33 ni_1) ?_
      refine ev_step (st_iload_n (pc := 34) (j := 2) dX6_addReally_34 rfl rfl) ?_
      refine ev_step (st_ishl (pc := 35) dX6_addReally_35) ?_
      refine ev_step (st_ior (pc := 36) dX6_addReally_36) ?_
      refine ev_sti (pc := 37) dX6_addReally_37 (fun h9 => ?_)
      exact ev_vret (pc := 38) dX6_addReally_38
set_option maxRecDepth 100000 in
set_option maxHeartbeats 4000000 in
theorem tX6_begin (G : gx) (fu : Nat) (v0 : Nat) (v1 : Nat) (h : mh) : Ct lV G yX6_begin cX6_begin 2 (none) 2 [.ref (gB G + v0), .ref (gB G + v1)] h (fX6_begin fu v0 v1 h) := by
  refine ct_ls (ls := [(0, .ref (gB G + v0)), (1, .ref (gB G + v1))]) rfl (by decide) (Nat.le_of_ble_eq_true rfl) ?_
  unfold fX6_begin
  refine ev_step (st_aload_n (pc := 0) (j := 0) dX6_begin_0 rfl rfl) ?_
  refine ev_getR (pc := 1) k_X6_32 rfl dX6_begin_1 (fun a1 => ?_)
  refine ev_step (st_iconst (pc := 4) dX6_begin_4 ni_0) ?_
  refine ev_step (st_aload_n (pc := 5) (j := 1) dX6_begin_5 rfl rfl) ?_
  refine ev_getR (pc := 6) k_X6_79 rfl dX6_begin_6 (fun a2 => ?_)
  refine ev_step (st_iconst (pc := 9) dX6_begin_9 ni_0) ?_
  refine ev_step (st_bipush (pc := 10) dX6_begin_10 nb_6) ?_
  refine ev_copy (pc := 12) y_X6_84 (by decide) (Nat.le_of_ble_eq_true rfl) dX6_begin_12 (fun h3 => ?_)
  refine ev_step (st_aload_n (pc := 15) (j := 0) dX6_begin_15 rfl rfl) ?_
  refine ev_getR (pc := 16) k_X6_38 rfl dX6_begin_16 (fun a4 => ?_)
  refine ev_step (st_iconst (pc := 19) dX6_begin_19 ni_0) ?_
  refine ev_step (st_aload_n (pc := 20) (j := 1) dX6_begin_20 rfl rfl) ?_
  refine ev_getR (pc := 21) k_X6_90 rfl dX6_begin_21 (fun a5 => ?_)
  refine ev_step (st_iconst (pc := 24) dX6_begin_24 ni_0) ?_
  refine ev_step (st_bipush (pc := 25) dX6_begin_25 nb_6) ?_
  refine ev_copy (pc := 27) y_X6_84 (by decide) (Nat.le_of_ble_eq_true rfl) dX6_begin_27 (fun h6 => ?_)
  refine ev_step (st_aload_n (pc := 30) (j := 1) dX6_begin_30 rfl rfl) ?_
  refine ev_getR (pc := 31) k_X6_93 rfl dX6_begin_31 (fun a7 => ?_)
  refine ev_step (st_iconst (pc := 34) dX6_begin_34 ni_0) ?_
  refine ev_callV (iv_S (As := [.ref (gB G + a7), .int ((0 : Int32))]) (st := []) (pc := 35) m_J7_fill_53178 l_X6_63 z_J7_fill_53178 rfl (Nat.le_of_ble_eq_true rfl) rfl dX6_begin_35) (tJ7_fill_53178 G fu a7 ((0 : Int32)) h6) (by decide) (by decide) (fun h8 => ?_)
  refine ev_step (st_aload_n (pc := 38) (j := 1) dX6_begin_38 rfl rfl) ?_
  refine ev_getR (pc := 39) k_X6_96 rfl dX6_begin_39 (fun a9 => ?_)
  refine ev_step (st_iconst (pc := 42) dX6_begin_42 ni_0) ?_
  refine ev_callV (iv_S (As := [.ref (gB G + a9), .int ((0 : Int32))]) (st := []) (pc := 43) m_J7_fill_53178 l_X6_63 z_J7_fill_53178 rfl (Nat.le_of_ble_eq_true rfl) rfl dX6_begin_43) (tJ7_fill_53178 G fu a9 ((0 : Int32)) h8) (by decide) (by decide) (fun h10 => ?_)
  refine ev_step (st_aload_n (pc := 46) (j := 1) dX6_begin_46 rfl rfl) ?_
  refine ev_step (st_iconst (pc := 47) dX6_begin_47 ni_1) ?_
  refine ev_step (st_aload_n (pc := 48) (j := 0) dX6_begin_48 rfl rfl) ?_
  refine ev_getI (pc := 49) k_X6_26 rfl dX6_begin_49 (fun x11 => ?_)
  refine ev_step (st_ishl (pc := 52) dX6_begin_52) ?_
  refine ev_step (st_iconst (pc := 53) dX6_begin_53 ni_1) ?_
  refine ev_step (st_isub (pc := 54) dX6_begin_54) ?_
  refine ev_putI (pc := 55) (p_X6_98 _ rfl) rfl dX6_begin_55 (fun h12 => ?_)
  refine ev_step (st_aload_n (pc := 58) (j := 1) dX6_begin_58 rfl rfl) ?_
  refine ev_step (st_iconst (pc := 59) dX6_begin_59 ni_0) ?_
  refine ev_putI (pc := 60) (p_X6_101 _ rfl) rfl dX6_begin_60 (fun h13 => ?_)
  refine ev_step (st_aload_n (pc := 63) (j := 1) dX6_begin_63 rfl rfl) ?_
  refine ev_step (st_iconst (pc := 64) dX6_begin_64 ni_m1) ?_
  refine ev_putI (pc := 65) (p_X6_104 _ rfl) rfl dX6_begin_65 (fun h14 => ?_)
  refine ev_step (st_aload_n (pc := 68) (j := 1) dX6_begin_68 rfl rfl) ?_
  refine ev_step (st_iconst (pc := 69) dX6_begin_69 ni_0) ?_
  refine ev_putI (pc := 70) (p_X6_107 _ rfl) rfl dX6_begin_70 (fun h15 => ?_)
  exact ev_vret (pc := 73) dX6_begin_73
set_option maxRecDepth 100000 in
set_option maxHeartbeats 4000000 in
theorem tX6_isReally (G : gx) (fu : Nat) (v0 : Nat) (v1 : Int32) (v2 : Int32) (h : mh) : Ct lI G yX6_isReally cX6_isReally 3 (some .boolean) 2 [.ref (gB G + v0), .int v1, .int v2] h (fX6_isReally fu v0 v1 v2 h) := by
  refine ct_ls (ls := [(0, .ref (gB G + v0)), (1, .int v1), (2, .int v2)]) rfl (by decide) (Nat.le_of_ble_eq_true rfl) ?_
  unfold fX6_isReally
  refine ev_step (st_aload_n (pc := 0) (j := 0) dX6_isReally_0 rfl rfl) ?_
  refine ev_getR (pc := 1) k_X6_44 rfl dX6_isReally_1 (fun a1 => ?_)
  refine ev_step (st_iload_n (pc := 4) (j := 1) dX6_isReally_4 rfl rfl) ?_
  refine ev_ldi (pc := 5) dX6_isReally_5 (fun x2 => ?_)
  refine ev_step (st_iload_n (pc := 6) (j := 2) dX6_isReally_6 rfl rfl) ?_
  refine ev_callI (iv_S (As := [.int x2, .int v2]) (st := []) (pc := 7) m_X9_holds l_X6_110 z_X9_holds rfl (Nat.le_of_ble_eq_true rfl) rfl dX6_isReally_7) (tX9_holds G fu x2 v2 h) (by decide) (by decide) (fun x4 h3 => ?_)
  exact ev_zret (pc := 10) dX6_isReally_10
set_option maxRecDepth 100000 in
set_option maxHeartbeats 4000000 in
theorem tX6_reallyIt_27 (G : gx) (fu : Nat) (h0 : mh) (v0 : Nat) (v1 : Int32) (v2 : Int32) (v3 : Int32) (k4 : Int32 × Int32 × mh → Option (Int32 × mh)) (hk4 : ∀ (v2 : Int32) (v3 : Int32) (h : mh), Ev lI G yX6_reallyIt cX6_reallyIt 4 (some .int) 3 h0 4 [(0, .ref (gB G + v0)), (1, .int v1), (2, .int v2), (3, .int v3)] [] h (k4 (v2, v3, h))) (h : mh) : Ev lI G yX6_reallyIt cX6_reallyIt 4 (some .int) 3 h0 27 [(0, .ref (gB G + v0)), (1, .int v1), (2, .int v2), (3, .int v3)] [] h (fX6_reallyIt_27 fu k4 v0 v1 v2 v3 h) := by
  unfold fX6_reallyIt_27
  refine ev_step (st_inc (pc := 27) (j := 3) (ls' := [(3, .int (v3 + (1 : Int32))), (0, .ref (gB G + v0)), (1, .int v1), (2, .int v2)]) dX6_reallyIt_27 rfl ni_1 (by decide) rfl) ?_
  refine ev_step (st_goto (pc := 30) (tgt := 4) dX6_reallyIt_30 (by decide)) ?_
  refine ev_sub (ls' := [(0, .ref (gB G + v0)), (1, .int v1), (2, .int v2), (3, .int (v3 + (1 : Int32)))]) [1, 2, 3, 0] rfl ?_
  exact hk4 v2 (v3 + (1 : Int32)) h
set_option maxRecDepth 100000 in
set_option maxHeartbeats 4000000 in
theorem tX6_reallyIt_4 (G : gx) (fu : Nat) (h0 : mh) (v0 : Nat) (v1 : Int32) (n : Nat) (v2 : Int32) (v3 : Int32) (h : mh) : Ev lI G yX6_reallyIt cX6_reallyIt 4 (some .int) 3 h0 4 [(0, .ref (gB G + v0)), (1, .int v1), (2, .int v2), (3, .int v3)] [] h (itr (bX6_reallyIt_4 fu v0 v1) n (v2, v3, h)) := by
  refine ev_itr (P := fun (q : Int32 × Int32 × mh) (R9 : Option (Int32 × mh)) => Ev lI G yX6_reallyIt cX6_reallyIt 4 (some .int) 3 h0 4 [(0, .ref (gB G + v0)), (1, .int v1), (2, .int q.1), (3, .int q.2.1)] [] q.2.2 R9) (fun _ => ev_none) (fun k4 hk9 q => ?_) n (v2, v3, h)
  obtain ⟨v2, v3, h⟩ := q
  have hk4 : ∀ (v2 : Int32) (v3 : Int32) (h : mh), Ev lI G yX6_reallyIt cX6_reallyIt 4 (some .int) 3 h0 4 [(0, .ref (gB G + v0)), (1, .int v1), (2, .int v2), (3, .int v3)] [] h (k4 (v2, v3, h)) := fun v2 v3 h => hk9 (v2, v3, h)
  show Ev lI G yX6_reallyIt cX6_reallyIt 4 (some .int) 3 h0 4 [(0, .ref (gB G + v0)), (1, .int v1), (2, .int v2), (3, .int v3)] [] h (bX6_reallyIt_4 fu v0 v1 k4 (v2, v3, h))
  unfold bX6_reallyIt_4
  refine ev_step (st_iload_n (pc := 4) (j := 3) dX6_reallyIt_4 rfl rfl) ?_
  refine ev_step (st_aload_n (pc := 5) (j := 0) dX6_reallyIt_5 rfl rfl) ?_
  refine ev_getI (pc := 6) k_X6_26 rfl dX6_reallyIt_6 (fun x1 => ?_)
  refine ev_br (br_icmp_ge (tgt := 33) (pc := 9) dX6_reallyIt_9 (by decide)) (fun _ => ?_) (fun _ => ?_)
  · refine ev_step (st_iload_n (pc := 33) (j := 2) dX6_reallyIt_33 rfl rfl) ?_
    exact ev_iret (pc := 34) dX6_reallyIt_34
  · refine ev_step (st_aload_n (pc := 12) (j := 0) dX6_reallyIt_12 rfl rfl) ?_
    refine ev_step (st_iload_n (pc := 13) (j := 3) dX6_reallyIt_13 rfl rfl) ?_
    refine ev_step (st_iload_n (pc := 14) (j := 1) dX6_reallyIt_14 rfl rfl) ?_
    refine ev_ck (fun ha hS => ?_)
    refine ev_callI (iv_V (As := [.int v3, .int v1]) (st := []) (pc := 15) rfl m_X6_isReally l_X6_114 i_X6_isReally e_X6_isReally ha hS rfl (Nat.le_of_ble_eq_true rfl) rfl dX6_reallyIt_15) (tX6_isReally G fu v0 v3 v1 h) (by decide) (by decide) (fun x3 h2 => ?_)
    refine ev_br (br_if_eq (tgt := 27) (pc := 18) dX6_reallyIt_18 (by decide)) (fun _ => ?_) (fun _ => ?_)
    · refine ev_sub (ls' := [(0, .ref (gB G + v0)), (1, .int v1), (2, .int v2), (3, .int v3)]) [0, 1, 2, 3] rfl ?_
      exact tX6_reallyIt_27 G fu h0 v0 v1 v2 v3 k4 hk4 h2
    · refine ev_step (st_iload_n (pc := 21) (j := 2) dX6_reallyIt_21 rfl rfl) ?_
      refine ev_step (st_iconst (pc := 22) dX6_reallyIt_22 ni_1) ?_
      refine ev_step (st_iload_n (pc := 23) (j := 3) dX6_reallyIt_23 rfl rfl) ?_
      refine ev_step (st_ishl (pc := 24) dX6_reallyIt_24) ?_
      refine ev_step (st_ior (pc := 25) dX6_reallyIt_25) ?_
      refine ev_top (fun x4 => ?_)
      refine ev_step (st_istore_n (pc := 26) (ls' := [(2, .int x4), (0, .ref (gB G + v0)), (1, .int v1), (3, .int v3)]) dX6_reallyIt_26 rfl (by decide) rfl) ?_
      refine ev_sub (ls' := [(0, .ref (gB G + v0)), (1, .int v1), (2, .int x4), (3, .int v3)]) [1, 2, 0, 3] rfl ?_
      exact tX6_reallyIt_27 G fu h0 v0 v1 x4 v3 k4 hk4 h2
set_option maxRecDepth 100000 in
set_option maxHeartbeats 4000000 in
theorem tX6_reallyIt (G : gx) (fu : Nat) (v0 : Nat) (v1 : Int32) (h : mh) : Ct lI G yX6_reallyIt cX6_reallyIt 4 (some .int) 3 [.ref (gB G + v0), .int v1] h (fX6_reallyIt fu v0 v1 h) := by
  refine ct_ls (ls := [(0, .ref (gB G + v0)), (1, .int v1)]) rfl (by decide) (Nat.le_of_ble_eq_true rfl) ?_
  unfold fX6_reallyIt
  refine ev_step (st_iconst (pc := 0) dX6_reallyIt_0 ni_0) ?_
  refine ev_step (st_istore_n (pc := 1) (ls' := [(2, .int ((0 : Int32))), (0, .ref (gB G + v0)), (1, .int v1)]) dX6_reallyIt_1 rfl (by decide) rfl) ?_
  refine ev_step (st_iconst (pc := 2) dX6_reallyIt_2 ni_0) ?_
  refine ev_step (st_istore_n (pc := 3) (ls' := [(3, .int ((0 : Int32))), (2, .int ((0 : Int32))), (0, .ref (gB G + v0)), (1, .int v1)]) dX6_reallyIt_3 rfl (by decide) rfl) ?_
  refine ev_sub (ls' := [(0, .ref (gB G + v0)), (1, .int v1), (2, .int ((0 : Int32))), (3, .int ((0 : Int32)))]) [2, 3, 1, 0] rfl ?_
  exact tX6_reallyIt_4 G fu h v0 v1 fu ((0 : Int32)) ((0 : Int32)) h
set_option maxRecDepth 100000 in
set_option maxHeartbeats 4000000 in
theorem tX6_lackedByAny_35 (G : gx) (fu : Nat) (h0 : mh) (v0 : Nat) (v1 : Nat) (v2 : Int32) (v3 : Int32) (v4 : Int32) (s0 : Int32) (s1 : Int32) (k5 : Int32 × Int32 × mh → Option (Int32 × mh)) (hk5 : ∀ (v3 : Int32) (v4 : Int32) (h : mh), Ev lI G yX6_lackedByAny cX6_lackedByAny 5 (some .int) 2 h0 5 [(0, .ref (gB G + v0)), (1, .ref (gB G + v1)), (2, .int v2), (3, .int v3), (4, .int v4)] [] h (k5 (v3, v4, h))) (h : mh) : Ev lI G yX6_lackedByAny cX6_lackedByAny 5 (some .int) 2 h0 35 [(0, .ref (gB G + v0)), (1, .ref (gB G + v1)), (2, .int v2), (3, .int v3), (4, .int v4)] [.int s1, .int s0] h (fX6_lackedByAny_35 fu k5 v0 v1 v2 v3 v4 s0 s1 h) := by
  unfold fX6_lackedByAny_35
  refine ev_step (st_ior (pc := 35) dX6_lackedByAny_35) ?_
  refine ev_top (fun x1 => ?_)
  refine ev_step (st_istore_n (pc := 36) (ls' := [(3, .int x1), (0, .ref (gB G + v0)), (1, .ref (gB G + v1)), (2, .int v2), (4, .int v4)]) dX6_lackedByAny_36 rfl (by decide) rfl) ?_
  refine ev_step (st_inc (pc := 37) (j := 4) (ls' := [(4, .int (v4 + (1 : Int32))), (3, .int x1), (0, .ref (gB G + v0)), (1, .ref (gB G + v1)), (2, .int v2)]) dX6_lackedByAny_37 rfl ni_1 (by decide) rfl) ?_
  refine ev_step (st_goto (pc := 40) (tgt := 5) dX6_lackedByAny_40 (by decide)) ?_
  refine ev_sub (ls' := [(0, .ref (gB G + v0)), (1, .ref (gB G + v1)), (2, .int v2), (3, .int x1), (4, .int (v4 + (1 : Int32)))]) [2, 3, 4, 1, 0] rfl ?_
  exact hk5 x1 (v4 + (1 : Int32)) h
set_option maxRecDepth 100000 in
set_option maxHeartbeats 4000000 in
theorem tX6_lackedByAny_5 (G : gx) (fu : Nat) (h0 : mh) (v0 : Nat) (v1 : Nat) (v2 : Int32) (n : Nat) (v3 : Int32) (v4 : Int32) (h : mh) : Ev lI G yX6_lackedByAny cX6_lackedByAny 5 (some .int) 2 h0 5 [(0, .ref (gB G + v0)), (1, .ref (gB G + v1)), (2, .int v2), (3, .int v3), (4, .int v4)] [] h (itr (bX6_lackedByAny_5 fu v0 v1 v2) n (v3, v4, h)) := by
  refine ev_itr (P := fun (q : Int32 × Int32 × mh) (R9 : Option (Int32 × mh)) => Ev lI G yX6_lackedByAny cX6_lackedByAny 5 (some .int) 2 h0 5 [(0, .ref (gB G + v0)), (1, .ref (gB G + v1)), (2, .int v2), (3, .int q.1), (4, .int q.2.1)] [] q.2.2 R9) (fun _ => ev_none) (fun k5 hk9 q => ?_) n (v3, v4, h)
  obtain ⟨v3, v4, h⟩ := q
  have hk5 : ∀ (v3 : Int32) (v4 : Int32) (h : mh), Ev lI G yX6_lackedByAny cX6_lackedByAny 5 (some .int) 2 h0 5 [(0, .ref (gB G + v0)), (1, .ref (gB G + v1)), (2, .int v2), (3, .int v3), (4, .int v4)] [] h (k5 (v3, v4, h)) := fun v3 v4 h => hk9 (v3, v4, h)
  show Ev lI G yX6_lackedByAny cX6_lackedByAny 5 (some .int) 2 h0 5 [(0, .ref (gB G + v0)), (1, .ref (gB G + v1)), (2, .int v2), (3, .int v3), (4, .int v4)] [] h (bX6_lackedByAny_5 fu v0 v1 v2 k5 (v3, v4, h))
  unfold bX6_lackedByAny_5
  refine ev_step (st_iload (pc := 5) (j := 4) dX6_lackedByAny_5 rfl) ?_
  refine ev_step (st_aload_n (pc := 7) (j := 0) dX6_lackedByAny_7 rfl rfl) ?_
  refine ev_getI (pc := 8) k_X6_26 rfl dX6_lackedByAny_8 (fun x1 => ?_)
  refine ev_br (br_icmp_ge (tgt := 43) (pc := 11) dX6_lackedByAny_11 (by decide)) (fun _ => ?_) (fun _ => ?_)
  · refine ev_step (st_iload_n (pc := 43) (j := 3) dX6_lackedByAny_43 rfl rfl) ?_
    exact ev_iret (pc := 44) dX6_lackedByAny_44
  · refine ev_step (st_iload_n (pc := 14) (j := 3) dX6_lackedByAny_14 rfl rfl) ?_
    refine ev_step (st_iload_n (pc := 15) (j := 2) dX6_lackedByAny_15 rfl rfl) ?_
    refine ev_step (st_iload (pc := 16) (j := 4) dX6_lackedByAny_16 rfl) ?_
    refine ev_callI (iv_S (As := [.int v2, .int v4]) (st := [.int v3]) (pc := 18) m_X9_holds l_X6_110 z_X9_holds rfl (Nat.le_of_ble_eq_true rfl) rfl dX6_lackedByAny_18) (tX9_holds G fu v2 v4 h) (by decide) (by decide) (fun x3 h2 => ?_)
    refine ev_br (br_if_eq (tgt := 34) (pc := 21) dX6_lackedByAny_21 (by decide)) (fun _ => ?_) (fun _ => ?_)
    · refine ev_step (st_iconst (pc := 34) dX6_lackedByAny_34 ni_0) ?_
      refine ev_sub (ls' := [(0, .ref (gB G + v0)), (1, .ref (gB G + v1)), (2, .int v2), (3, .int v3), (4, .int v4)]) [0, 1, 2, 3, 4] rfl ?_
      exact tX6_lackedByAny_35 G fu h0 v0 v1 v2 v3 v4 v3 ((0 : Int32)) k5 hk5 h2
    · refine ev_step (st_aload_n (pc := 24) (j := 0) dX6_lackedByAny_24 rfl rfl) ?_
      refine ev_step (st_aload_n (pc := 25) (j := 1) dX6_lackedByAny_25 rfl rfl) ?_
      refine ev_step (st_iload (pc := 26) (j := 4) dX6_lackedByAny_26 rfl) ?_
      refine ev_ck (fun ha hS => ?_)
      refine ev_callI (iv_V (As := [.ref (gB G + v1), .int v4]) (st := [.int v3]) (pc := 28) rfl m_X6_lackedBy l_X6_117 i_X6_lackedBy e_X6_lackedBy ha hS rfl (Nat.le_of_ble_eq_true rfl) rfl dX6_lackedByAny_28) (tX6_lackedBy G fu v0 v1 v4 h2) (by decide) (by decide) (fun x5 h4 => ?_)
      refine ev_step (st_goto (pc := 31) (tgt := 35) dX6_lackedByAny_31 (by decide)) ?_
      refine ev_sub (ls' := [(0, .ref (gB G + v0)), (1, .ref (gB G + v1)), (2, .int v2), (3, .int v3), (4, .int v4)]) [0, 1, 2, 3, 4] rfl ?_
      exact tX6_lackedByAny_35 G fu h0 v0 v1 v2 v3 v4 v3 x5 k5 hk5 h4
set_option maxRecDepth 100000 in
set_option maxHeartbeats 4000000 in
theorem tX6_lackedByAny (G : gx) (fu : Nat) (v0 : Nat) (v1 : Nat) (v2 : Int32) (h : mh) : Ct lI G yX6_lackedByAny cX6_lackedByAny 5 (some .int) 2 [.ref (gB G + v0), .ref (gB G + v1), .int v2] h (fX6_lackedByAny fu v0 v1 v2 h) := by
  refine ct_ls (ls := [(0, .ref (gB G + v0)), (1, .ref (gB G + v1)), (2, .int v2)]) rfl (by decide) (Nat.le_of_ble_eq_true rfl) ?_
  unfold fX6_lackedByAny
  refine ev_step (st_iconst (pc := 0) dX6_lackedByAny_0 ni_0) ?_
  refine ev_step (st_istore_n (pc := 1) (ls' := [(3, .int ((0 : Int32))), (0, .ref (gB G + v0)), (1, .ref (gB G + v1)), (2, .int v2)]) dX6_lackedByAny_1 rfl (by decide) rfl) ?_
  refine ev_step (st_iconst (pc := 2) dX6_lackedByAny_2 ni_0) ?_
  refine ev_step (st_istore (pc := 3) (ls' := [(4, .int ((0 : Int32))), (3, .int ((0 : Int32))), (0, .ref (gB G + v0)), (1, .ref (gB G + v1)), (2, .int v2)]) dX6_lackedByAny_3 (by decide) rfl) ?_
  refine ev_sub (ls' := [(0, .ref (gB G + v0)), (1, .ref (gB G + v1)), (2, .int v2), (3, .int ((0 : Int32))), (4, .int ((0 : Int32)))]) [2, 3, 4, 1, 0] rfl ?_
  exact tX6_lackedByAny_5 G fu h v0 v1 v2 fu ((0 : Int32)) ((0 : Int32)) h
set_option maxRecDepth 100000 in
set_option maxHeartbeats 4000000 in
theorem tX6_hopelessIn_50 (G : gx) (fu : Nat) (h0 : mh) (v0 : Nat) (v1 : Nat) (v2 : Int32) (v3 : Int32) (v4 : Int32) (k4 : Int32 × Int32 × mh → Option (Int32 × mh)) (hk4 : ∀ (v2 : Int32) (v3 : Int32) (h : mh), Ev lI G yX6_hopelessIn cX6_hopelessIn 5 (some .int) 3 h0 4 [(0, .ref (gB G + v0)), (1, .ref (gB G + v1)), (2, .int v2), (3, .int v3)] [] h (k4 (v2, v3, h))) (h : mh) : Ev lI G yX6_hopelessIn cX6_hopelessIn 5 (some .int) 3 h0 50 [(0, .ref (gB G + v0)), (1, .ref (gB G + v1)), (2, .int v2), (3, .int v3), (4, .int v4)] [] h (fX6_hopelessIn_50 fu k4 v0 v1 v2 v3 v4 h) := by
  unfold fX6_hopelessIn_50
  refine ev_step (st_inc (pc := 50) (j := 3) (ls' := [(3, .int (v3 + (1 : Int32))), (0, .ref (gB G + v0)), (1, .ref (gB G + v1)), (2, .int v2), (4, .int v4)]) dX6_hopelessIn_50 rfl ni_1 (by decide) rfl) ?_
  refine ev_step (st_goto (pc := 53) (tgt := 4) dX6_hopelessIn_53 (by decide)) ?_
  refine ev_sub (ls' := [(0, .ref (gB G + v0)), (1, .ref (gB G + v1)), (2, .int v2), (3, .int (v3 + (1 : Int32)))]) [1, 2, 3, 0] rfl ?_
  exact hk4 v2 (v3 + (1 : Int32)) h
set_option maxRecDepth 100000 in
set_option maxHeartbeats 4000000 in
theorem tX6_hopelessIn_28 (G : gx) (fu : Nat) (h0 : mh) (v0 : Nat) (v1 : Nat) (v2 : Int32) (v3 : Int32) (s0 : Int32) (k4 : Int32 × Int32 × mh → Option (Int32 × mh)) (hk4 : ∀ (v2 : Int32) (v3 : Int32) (h : mh), Ev lI G yX6_hopelessIn cX6_hopelessIn 5 (some .int) 3 h0 4 [(0, .ref (gB G + v0)), (1, .ref (gB G + v1)), (2, .int v2), (3, .int v3)] [] h (k4 (v2, v3, h))) (h : mh) : Ev lI G yX6_hopelessIn cX6_hopelessIn 5 (some .int) 3 h0 28 [(0, .ref (gB G + v0)), (1, .ref (gB G + v1)), (2, .int v2), (3, .int v3)] [.int s0] h (fX6_hopelessIn_28 fu k4 v0 v1 v2 v3 s0 h) := by
  unfold fX6_hopelessIn_28
  refine ev_step (st_istore (pc := 28) (ls' := [(4, .int s0), (0, .ref (gB G + v0)), (1, .ref (gB G + v1)), (2, .int v2), (3, .int v3)]) dX6_hopelessIn_28 (by decide) rfl) ?_
  refine ev_step (st_aload_n (pc := 30) (j := 1) dX6_hopelessIn_30 rfl rfl) ?_
  refine ev_step (st_aload_n (pc := 31) (j := 2) dX6_hopelessIn_31 rfl rfl) ?_
  refine ev_step (st_iload_n (pc := 32) (j := 4) dX6_hopelessIn_32 rfl rfl) ?_
  refine ev_ck (fun ha hS => ?_)
  refine ev_callI (iv_V (As := [.ref (gB G + v1), .int v3]) (st := []) (pc := 33) rfl m_X6_lackedBy l_X6_117 i_X6_lackedBy e_X6_lackedBy ha hS rfl (Nat.le_of_ble_eq_true rfl) rfl dX6_hopelessIn_33) (tX6_lackedBy G fu v0 v1 v3 h) (by decide) (by decide) (fun x2 h1 => ?_)
  refine ev_step (st_iload (pc := 36) (j := 0) dX6_hopelessIn_36 rfl) ?_
  refine ev_step (st_iconst (pc := 38) dX6_hopelessIn_38 ni_m1) ?_
  refine ev_step (st_ixor (pc := 39) dX6_hopelessIn_39) ?_
  refine ev_step (st_iand (pc := 40) dX6_hopelessIn_40) ?_
  refine ev_br (br_if_eq (tgt := 50) (pc := 41) dX6_hopelessIn_41 (by decide)) (fun _ => ?_) (fun _ => ?_)
  · refine ev_sub (ls' := [(0, .ref (gB G + v0)), (1, .ref (gB G + v1)), (2, .int v2), (3, .int v3), (4, .int s0)]) [1, 2, 3, 4, 0] rfl ?_
    exact tX6_hopelessIn_50 G fu h0 v0 v1 v2 v3 s0 k4 hk4 h1
  · refine ev_step (st_iload_n (pc := 44) (j := 3) dX6_hopelessIn_44 rfl rfl) ?_
    refine ev_step (st_iconst (pc := 45) dX6_hopelessIn_45 ni_1) ?_
    refine ev_step (st_iload_n (pc := 46) (j := 4) dX6_hopelessIn_46 rfl rfl) ?_
    refine ev_step (st_ishl (pc := 47) dX6_hopelessIn_47) ?_
    refine ev_step (st_ior (pc := 48) dX6_hopelessIn_48) ?_
    refine ev_top (fun x3 => ?_)
    refine ev_step (st_istore_n (pc := 49) (ls' := [(2, .int x3), (4, .int s0), (0, .ref (gB G + v0)), (1, .ref (gB G + v1)), (3, .int v3)]) dX6_hopelessIn_49 rfl (by decide) rfl) ?_
    refine ev_sub (ls' := [(0, .ref (gB G + v0)), (1, .ref (gB G + v1)), (2, .int x3), (3, .int v3), (4, .int s0)]) [2, 3, 0, 4, 1] rfl ?_
    exact tX6_hopelessIn_50 G fu h0 v0 v1 x3 v3 s0 k4 hk4 h1
set_option maxRecDepth 100000 in
set_option maxHeartbeats 4000000 in
theorem tX6_hopelessIn_4 (G : gx) (fu : Nat) (h0 : mh) (v0 : Nat) (v1 : Nat) (n : Nat) (v2 : Int32) (v3 : Int32) (h : mh) : Ev lI G yX6_hopelessIn cX6_hopelessIn 5 (some .int) 3 h0 4 [(0, .ref (gB G + v0)), (1, .ref (gB G + v1)), (2, .int v2), (3, .int v3)] [] h (itr (bX6_hopelessIn_4 fu v0 v1) n (v2, v3, h)) := by
  refine ev_itr (P := fun (q : Int32 × Int32 × mh) (R9 : Option (Int32 × mh)) => Ev lI G yX6_hopelessIn cX6_hopelessIn 5 (some .int) 3 h0 4 [(0, .ref (gB G + v0)), (1, .ref (gB G + v1)), (2, .int q.1), (3, .int q.2.1)] [] q.2.2 R9) (fun _ => ev_none) (fun k4 hk9 q => ?_) n (v2, v3, h)
  obtain ⟨v2, v3, h⟩ := q
  have hk4 : ∀ (v2 : Int32) (v3 : Int32) (h : mh), Ev lI G yX6_hopelessIn cX6_hopelessIn 5 (some .int) 3 h0 4 [(0, .ref (gB G + v0)), (1, .ref (gB G + v1)), (2, .int v2), (3, .int v3)] [] h (k4 (v2, v3, h)) := fun v2 v3 h => hk9 (v2, v3, h)
  show Ev lI G yX6_hopelessIn cX6_hopelessIn 5 (some .int) 3 h0 4 [(0, .ref (gB G + v0)), (1, .ref (gB G + v1)), (2, .int v2), (3, .int v3)] [] h (bX6_hopelessIn_4 fu v0 v1 k4 (v2, v3, h))
  unfold bX6_hopelessIn_4
  refine ev_step (st_iload_n (pc := 4) (j := 3) dX6_hopelessIn_4 rfl rfl) ?_
  refine ev_step (st_aload_n (pc := 5) (j := 0) dX6_hopelessIn_5 rfl rfl) ?_
  refine ev_getI (pc := 6) k_X6_26 rfl dX6_hopelessIn_6 (fun x1 => ?_)
  refine ev_br (br_icmp_ge (tgt := 56) (pc := 9) dX6_hopelessIn_9 (by decide)) (fun _ => ?_) (fun _ => ?_)
  · refine ev_step (st_iload_n (pc := 56) (j := 2) dX6_hopelessIn_56 rfl rfl) ?_
    exact ev_iret (pc := 57) dX6_hopelessIn_57
  · refine ev_step (st_aload_n (pc := 12) (j := 1) dX6_hopelessIn_12 rfl rfl) ?_
    refine ev_step (st_iload_n (pc := 13) (j := 3) dX6_hopelessIn_13 rfl rfl) ?_
    refine ev_ck (fun ha hS => ?_)
    refine ev_callI (iv_V (As := [.int v3]) (st := []) (pc := 14) rfl m_X3_isOn l_X6_121 i_X3_isOn e_X3_isOn ha hS rfl (Nat.le_of_ble_eq_true rfl) rfl dX6_hopelessIn_14) (tX3_isOn G fu v1 v3 h) (by decide) (by decide) (fun x3 h2 => ?_)
    refine ev_br (br_if_eq (tgt := 27) (pc := 17) dX6_hopelessIn_17 (by decide)) (fun _ => ?_) (fun _ => ?_)
    · refine ev_step (st_iconst (pc := 27) dX6_hopelessIn_27 ni_0) ?_
      refine ev_sub (ls' := [(0, .ref (gB G + v0)), (1, .ref (gB G + v1)), (2, .int v2), (3, .int v3)]) [0, 1, 2, 3] rfl ?_
      exact tX6_hopelessIn_28 G fu h0 v0 v1 v2 v3 ((0 : Int32)) k4 hk4 h2
    · refine ev_step (st_aload_n (pc := 20) (j := 0) dX6_hopelessIn_20 rfl rfl) ?_
      refine ev_ck (fun ha hS => ?_)
      refine ev_callI (iv_V (As := []) (st := []) (pc := 21) rfl m_X6_knownByRoles l_X6_124 i_X6_knownByRoles e_X6_knownByRoles ha hS rfl (Nat.le_of_ble_eq_true rfl) rfl dX6_hopelessIn_21) (tX6_knownByRoles G fu v0 h2) (by decide) (by decide) (fun x5 h4 => ?_)
      refine ev_step (st_goto (pc := 24) (tgt := 28) dX6_hopelessIn_24 (by decide)) ?_
      refine ev_sub (ls' := [(0, .ref (gB G + v0)), (1, .ref (gB G + v1)), (2, .int v2), (3, .int v3)]) [0, 1, 2, 3] rfl ?_
      exact tX6_hopelessIn_28 G fu h0 v0 v1 v2 v3 x5 k4 hk4 h4
set_option maxRecDepth 100000 in
set_option maxHeartbeats 4000000 in
theorem tX6_hopelessIn (G : gx) (fu : Nat) (v0 : Nat) (v1 : Nat) (h : mh) : Ct lI G yX6_hopelessIn cX6_hopelessIn 5 (some .int) 3 [.ref (gB G + v0), .ref (gB G + v1)] h (fX6_hopelessIn fu v0 v1 h) := by
  refine ct_ls (ls := [(0, .ref (gB G + v0)), (1, .ref (gB G + v1))]) rfl (by decide) (Nat.le_of_ble_eq_true rfl) ?_
  unfold fX6_hopelessIn
  refine ev_step (st_iconst (pc := 0) dX6_hopelessIn_0 ni_0) ?_
  refine ev_step (st_istore_n (pc := 1) (ls' := [(2, .int ((0 : Int32))), (0, .ref (gB G + v0)), (1, .ref (gB G + v1))]) dX6_hopelessIn_1 rfl (by decide) rfl) ?_
  refine ev_step (st_iconst (pc := 2) dX6_hopelessIn_2 ni_0) ?_
  refine ev_step (st_istore_n (pc := 3) (ls' := [(3, .int ((0 : Int32))), (2, .int ((0 : Int32))), (0, .ref (gB G + v0)), (1, .ref (gB G + v1))]) dX6_hopelessIn_3 rfl (by decide) rfl) ?_
  refine ev_sub (ls' := [(0, .ref (gB G + v0)), (1, .ref (gB G + v1)), (2, .int ((0 : Int32))), (3, .int ((0 : Int32)))]) [2, 3, 1, 0] rfl ?_
  exact tX6_hopelessIn_4 G fu h v0 v1 fu ((0 : Int32)) ((0 : Int32)) h
set_option maxRecDepth 100000 in
set_option maxHeartbeats 4000000 in
theorem tX6_lookAt_132 (G : gx) (fu : Nat) (h0 : mh) (v0 : Nat) (v1 : Nat) (v2 : Int32) (v3 : Int32) (v4 : Int32) (s0 : Nat) (s1 : Int32) (s2 : Int32) (h : mh) : Ev lV G yX6_lookAt cX6_lookAt 5 (none) 3 h0 132 [(0, .ref (gB G + v0)), (1, .ref (gB G + v1)), (2, .int v2), (3, .int v3), (4, .int v4)] [.int s2, .int s1, .ref (gB G + s0)] h (fX6_lookAt_132 fu v0 v1 v2 v3 v4 s0 s1 s2 h) := by
  unfold fX6_lookAt_132
  refine ev_sti (pc := 132) dX6_lookAt_132 (fun h1 => ?_)
  exact ev_vret (pc := 133) dX6_lookAt_133
set_option maxRecDepth 100000 in
set_option maxHeartbeats 4000000 in
theorem tX6_lookAt (G : gx) (fu : Nat) (v0 : Nat) (v1 : Nat) (v2 : Int32) (v3 : Int32) (v4 : Int32) (h : mh) : Ct lV G yX6_lookAt cX6_lookAt 5 (none) 3 [.ref (gB G + v0), .ref (gB G + v1), .int v2, .int v3, .int v4] h (fX6_lookAt fu v0 v1 v2 v3 v4 h) := by
  refine ct_ls (ls := [(0, .ref (gB G + v0)), (1, .ref (gB G + v1)), (2, .int v2), (3, .int v3), (4, .int v4)]) rfl (by decide) (Nat.le_of_ble_eq_true rfl) ?_
  unfold fX6_lookAt
  refine ev_step (st_aload_n (pc := 0) (j := 0) dX6_lookAt_0 rfl rfl) ?_
  refine ev_getR (pc := 1) k_X6_50 rfl dX6_lookAt_1 (fun a1 => ?_)
  refine ev_ck (fun ha hS => ?_)
  refine ev_callV (iv_V (As := []) (st := []) (pc := 4) rfl m_X1_forgetVars l_X6_132 i_X1_forgetVars e_X1_forgetVars ha hS rfl (Nat.le_of_ble_eq_true rfl) rfl dX6_lookAt_4) (tX1_forgetVars G fu a1 h) (by decide) (by decide) (fun h2 => ?_)
  refine ev_step (st_aload_n (pc := 7) (j := 0) dX6_lookAt_7 rfl rfl) ?_
  refine ev_getR (pc := 8) k_X6_50 rfl dX6_lookAt_8 (fun a3 => ?_)
  refine ev_getR (pc := 11) k_X6_135 rfl dX6_lookAt_11 (fun a4 => ?_)
  refine ev_step (st_iconst (pc := 14) dX6_lookAt_14 ni_0) ?_
  refine ev_step (st_aload_n (pc := 15) (j := 0) dX6_lookAt_15 rfl rfl) ?_
  refine ev_getR (pc := 16) k_X6_23 rfl dX6_lookAt_16 (fun a5 => ?_)
  refine ev_step (st_iload_n (pc := 19) (j := 3) dX6_lookAt_19 rfl rfl) ?_
  refine ev_ldi (pc := 20) dX6_lookAt_20 (fun x6 => ?_)
  refine ev_sti (pc := 21) dX6_lookAt_21 (fun h7 => ?_)
  refine ev_step (st_aload_n (pc := 22) (j := 0) dX6_lookAt_22 rfl rfl) ?_
  refine ev_getR (pc := 23) k_X6_50 rfl dX6_lookAt_23 (fun a8 => ?_)
  refine ev_getR (pc := 26) k_X6_135 rfl dX6_lookAt_26 (fun a9 => ?_)
  refine ev_step (st_iconst (pc := 29) dX6_lookAt_29 ni_1) ?_
  refine ev_step (st_aload_n (pc := 30) (j := 1) dX6_lookAt_30 rfl rfl) ?_
  refine ev_getR (pc := 31) k_X6_93 rfl dX6_lookAt_31 (fun a10 => ?_)
  refine ev_step (st_iload_n (pc := 34) (j := 3) dX6_lookAt_34 rfl rfl) ?_
  refine ev_ldi (pc := 35) dX6_lookAt_35 (fun x11 => ?_)
  refine ev_sti (pc := 36) dX6_lookAt_36 (fun h12 => ?_)
  refine ev_step (st_aload_n (pc := 37) (j := 0) dX6_lookAt_37 rfl rfl) ?_
  refine ev_getR (pc := 38) k_X6_50 rfl dX6_lookAt_38 (fun a13 => ?_)
  refine ev_getR (pc := 41) k_X6_135 rfl dX6_lookAt_41 (fun a14 => ?_)
  refine ev_step (st_iconst (pc := 44) dX6_lookAt_44 ni_3) ?_
  refine ev_step (st_aload_n (pc := 45) (j := 1) dX6_lookAt_45 rfl rfl) ?_
  refine ev_getI (pc := 46) k_X6_101 rfl dX6_lookAt_46 (fun x15 => ?_)
  refine ev_sti (pc := 49) dX6_lookAt_49 (fun h16 => ?_)
  refine ev_step (st_aload_n (pc := 50) (j := 0) dX6_lookAt_50 rfl rfl) ?_
  refine ev_getR (pc := 51) k_X6_50 rfl dX6_lookAt_51 (fun a17 => ?_)
  refine ev_getR (pc := 54) k_X6_135 rfl dX6_lookAt_54 (fun a18 => ?_)
  refine ev_step (st_iconst (pc := 57) dX6_lookAt_57 ni_4) ?_
  refine ev_step (st_aload_n (pc := 58) (j := 1) dX6_lookAt_58 rfl rfl) ?_
  refine ev_getR (pc := 59) k_X6_90 rfl dX6_lookAt_59 (fun a19 => ?_)
  refine ev_step (st_iload_n (pc := 62) (j := 2) dX6_lookAt_62 rfl rfl) ?_
  refine ev_ldi (pc := 63) dX6_lookAt_63 (fun x20 => ?_)
  refine ev_sti (pc := 64) dX6_lookAt_64 (fun h21 => ?_)
  refine ev_step (st_aload_n (pc := 65) (j := 0) dX6_lookAt_65 rfl rfl) ?_
  refine ev_getR (pc := 66) k_X6_50 rfl dX6_lookAt_66 (fun a22 => ?_)
  refine ev_getR (pc := 69) k_X6_135 rfl dX6_lookAt_69 (fun a23 => ?_)
  refine ev_step (st_iconst (pc := 72) dX6_lookAt_72 ni_5) ?_
  refine ev_step (st_aload_n (pc := 73) (j := 1) dX6_lookAt_73 rfl rfl) ?_
  refine ev_getR (pc := 74) k_X6_79 rfl dX6_lookAt_74 (fun a24 => ?_)
  refine ev_step (st_iload_n (pc := 77) (j := 2) dX6_lookAt_77 rfl rfl) ?_
  refine ev_ldi (pc := 78) dX6_lookAt_78 (fun x25 => ?_)
  refine ev_callI (iv_S (As := [.int x25]) (st := [.int ((5 : Int32)), .ref (gB G + a23)]) (pc := 79) m_J6_bitCount_0f7a4 l_X6_142 z_J6_bitCount_0f7a4 rfl (Nat.le_of_ble_eq_true rfl) rfl dX6_lookAt_79) (tJ6_bitCount_0f7a4 G fu x25 h21) (by decide) (by decide) (fun x27 h26 => ?_)
  refine ev_sti (pc := 82) dX6_lookAt_82 (fun h28 => ?_)
  refine ev_step (st_aload_n (pc := 83) (j := 0) dX6_lookAt_83 rfl rfl) ?_
  refine ev_getR (pc := 84) k_X6_50 rfl dX6_lookAt_84 (fun a29 => ?_)
  refine ev_getR (pc := 87) k_X6_135 rfl dX6_lookAt_87 (fun a30 => ?_)
  refine ev_step (st_bipush (pc := 90) dX6_lookAt_90 nb_6) ?_
  refine ev_step (st_iload (pc := 92) (j := 4) dX6_lookAt_92 rfl) ?_
  refine ev_callI (iv_S (As := [.int v4]) (st := [.int ((6 : Int32)), .ref (gB G + a30)]) (pc := 94) m_J6_bitCount_0f7a4 l_X6_142 z_J6_bitCount_0f7a4 rfl (Nat.le_of_ble_eq_true rfl) rfl dX6_lookAt_94) (tJ6_bitCount_0f7a4 G fu v4 h28) (by decide) (by decide) (fun x32 h31 => ?_)
  refine ev_sti (pc := 97) dX6_lookAt_97 (fun h33 => ?_)
  refine ev_step (st_aload_n (pc := 98) (j := 0) dX6_lookAt_98 rfl rfl) ?_
  refine ev_getR (pc := 99) k_X6_50 rfl dX6_lookAt_99 (fun a34 => ?_)
  refine ev_getR (pc := 102) k_X6_135 rfl dX6_lookAt_102 (fun a35 => ?_)
  refine ev_step (st_bipush (pc := 105) dX6_lookAt_105 nb_7) ?_
  refine ev_step (st_iload_n (pc := 107) (j := 2) dX6_lookAt_107 rfl rfl) ?_
  refine ev_sti (pc := 108) dX6_lookAt_108 (fun h36 => ?_)
  refine ev_step (st_aload_n (pc := 109) (j := 0) dX6_lookAt_109 rfl rfl) ?_
  refine ev_getR (pc := 110) k_X6_50 rfl dX6_lookAt_110 (fun a37 => ?_)
  refine ev_getR (pc := 113) k_X6_135 rfl dX6_lookAt_113 (fun a38 => ?_)
  refine ev_step (st_bipush (pc := 116) dX6_lookAt_116 nb_8) ?_
  refine ev_step (st_aload_n (pc := 118) (j := 0) dX6_lookAt_118 rfl rfl) ?_
  refine ev_step (st_iload_n (pc := 119) (j := 2) dX6_lookAt_119 rfl rfl) ?_
  refine ev_step (st_iload_n (pc := 120) (j := 3) dX6_lookAt_120 rfl rfl) ?_
  refine ev_ck (fun ha hS => ?_)
  refine ev_callI (iv_V (As := [.int v2, .int v3]) (st := [.int ((8 : Int32)), .ref (gB G + a38)]) (pc := 121) rfl m_X6_isReally l_X6_114 i_X6_isReally e_X6_isReally ha hS rfl (Nat.le_of_ble_eq_true rfl) rfl dX6_lookAt_121) (tX6_isReally G fu v0 v2 v3 h36) (by decide) (by decide) (fun x40 h39 => ?_)
  refine ev_br (br_if_eq (tgt := 131) (pc := 124) dX6_lookAt_124 (by decide)) (fun _ => ?_) (fun _ => ?_)
  · refine ev_step (st_iconst (pc := 131) dX6_lookAt_131 ni_0) ?_
    refine ev_sub (ls' := [(0, .ref (gB G + v0)), (1, .ref (gB G + v1)), (2, .int v2), (3, .int v3), (4, .int v4)]) [0, 1, 2, 3, 4] rfl ?_
    exact tX6_lookAt_132 G fu h v0 v1 v2 v3 v4 a38 ((8 : Int32)) ((0 : Int32)) h39
  · refine ev_step (st_iconst (pc := 127) dX6_lookAt_127 ni_1) ?_
    refine ev_step (st_goto (pc := 128) (tgt := 132) dX6_lookAt_128 (by decide)) ?_
    refine ev_sub (ls' := [(0, .ref (gB G + v0)), (1, .ref (gB G + v1)), (2, .int v2), (3, .int v3), (4, .int v4)]) [0, 1, 2, 3, 4] rfl ?_
    exact tX6_lookAt_132 G fu h v0 v1 v2 v3 v4 a38 ((8 : Int32)) ((1 : Int32)) h39
set_option maxRecDepth 100000 in
set_option maxHeartbeats 4000000 in
theorem tX6_lot (G : gx) (fu : Nat) (v0 : Int32) (v1 : Int32) (v2 : Int32) (h : mh) : Ct lI G yX6_lot cX6_lot 4 (some .int) 2 [.int v0, .int v1, .int v2] h (fX6_lot fu v0 v1 v2 h) := by
  refine ct_ls (ls := [(0, .int v0), (1, .int v1), (2, .int v2)]) rfl (by decide) (Nat.le_of_ble_eq_true rfl) ?_
  unfold fX6_lot
  refine ev_step (st_iload_n (pc := 0) (j := 1) dX6_lot_0 rfl rfl) ?_
  refine ev_step (st_sipush (pc := 1) dX6_lot_1 ns_141) ?_
  refine ev_callI (iv_S (As := [.int v1, .int ((141 : Int32))]) (st := []) (pc := 4) m_X6_stirred l_X6_151 z_X6_stirred rfl (Nat.le_of_ble_eq_true rfl) rfl dX6_lot_4) (tX6_stirred G fu v1 ((141 : Int32)) h) (by decide) (by decide) (fun x2 h1 => ?_)
  refine ev_step (st_iload_n (pc := 7) (j := 2) dX6_lot_7 rfl rfl) ?_
  refine ev_callI (iv_S (As := [.int x2, .int v2]) (st := []) (pc := 8) m_X6_stirred l_X6_151 z_X6_stirred rfl (Nat.le_of_ble_eq_true rfl) rfl dX6_lot_8) (tX6_stirred G fu x2 v2 h1) (by decide) (by decide) (fun x4 h3 => ?_)
  refine ev_step (st_istore_n (pc := 11) (ls' := [(3, .int x4), (0, .int v0), (1, .int v1), (2, .int v2)]) dX6_lot_11 rfl (by decide) rfl) ?_
  refine ev_step (st_iload_n (pc := 12) (j := 1) dX6_lot_12 rfl rfl) ?_
  refine ev_br (br_if_le (tgt := 24) (pc := 13) dX6_lot_13 (by decide)) (fun _ => ?_) (fun _ => ?_)
  · refine ev_step (st_iconst (pc := 24) dX6_lot_24 ni_0) ?_
    exact ev_iret (pc := 25) dX6_lot_25
  · refine ev_step (st_iload_n (pc := 16) (j := 0) dX6_lot_16 rfl rfl) ?_
    refine ev_step (st_iconst (pc := 17) dX6_lot_17 ni_1) ?_
    refine ev_step (st_iushr (pc := 18) dX6_lot_18) ?_
    refine ev_step (st_iload_n (pc := 19) (j := 1) dX6_lot_19 rfl rfl) ?_
    refine ev_rem (pc := 20) dX6_lot_20 (fun x5 => ?_)
    refine ev_step (st_goto (pc := 21) (tgt := 25) dX6_lot_21 (by decide)) ?_
    exact ev_iret (pc := 25) dX6_lot_25
set_option maxRecDepth 100000 in
set_option maxHeartbeats 4000000 in
theorem tX7_takeLetters_78 (G : gx) (fu : Nat) (h0 : mh) (v0 : Nat) (v1 : Nat) (v2 : Int32) (s0 : Nat) (s1 : Int32) (h : mh) : Ev lV G yX7_takeLetters cX7_takeLetters 3 (none) 2 h0 78 [(0, .ref (gB G + v0)), (1, .ref (gB G + v1)), (2, .int v2)] [.int s1, .ref (gB G + s0)] h (fX7_takeLetters_78 fu v0 v1 v2 s0 s1 h) := by
  unfold fX7_takeLetters_78
  refine ev_putI (pc := 78) (p_X7_26 _ rfl) rfl dX7_takeLetters_78 (fun h1 => ?_)
  exact ev_vret (pc := 81) dX7_takeLetters_81
set_option maxRecDepth 100000 in
set_option maxHeartbeats 4000000 in
theorem tX7_takeLetters_55 (G : gx) (fu : Nat) (h0 : mh) (v0 : Nat) (v1 : Nat) (v2 : Int32) (h : mh) : Ev lV G yX7_takeLetters cX7_takeLetters 3 (none) 2 h0 55 [(0, .ref (gB G + v0)), (1, .ref (gB G + v1)), (2, .int v2)] [] h (fX7_takeLetters_55 fu v0 v1 v2 h) := by
  unfold fX7_takeLetters_55
  refine ev_step (st_aload_n (pc := 55) (j := 0) dX7_takeLetters_55 rfl rfl) ?_
  refine ev_step (st_aload_n (pc := 56) (j := 0) dX7_takeLetters_56 rfl rfl) ?_
  refine ev_getI (pc := 57) k_X7_19 rfl dX7_takeLetters_57 (fun x1 => ?_)
  refine ev_step (st_aload_n (pc := 60) (j := 0) dX7_takeLetters_60 rfl rfl) ?_
  refine ev_getI (pc := 61) k_X7_23 rfl dX7_takeLetters_61 (fun x2 => ?_)
  refine ev_step (st_isub (pc := 64) dX7_takeLetters_64) ?_
  refine ev_step (st_bipush (pc := 65) dX7_takeLetters_65 nb_8) ?_
  refine ev_br (br_icmp_le (tgt := 74) (pc := 67) dX7_takeLetters_67 (by decide)) (fun _ => ?_) (fun _ => ?_)
  · refine ev_step (st_aload_n (pc := 74) (j := 0) dX7_takeLetters_74 rfl rfl) ?_
    refine ev_ck (fun ha hS => ?_)
    refine ev_callI (iv_V (As := []) (st := [.ref (gB G + v0)]) (pc := 75) rfl m_X7_sortOfName l_X7_77 i_X7_sortOfName e_X7_sortOfName ha hS rfl (Nat.le_of_ble_eq_true rfl) rfl dX7_takeLetters_75) (tX7_sortOfName G fu v0 h) (by decide) (by decide) (fun x4 h3 => ?_)
    refine ev_sub (ls' := [(0, .ref (gB G + v0)), (1, .ref (gB G + v1)), (2, .int v2)]) [0, 1, 2] rfl ?_
    exact tX7_takeLetters_78 G fu h0 v0 v1 v2 v0 x4 h3
  · refine ev_step (st_iconst (pc := 70) dX7_takeLetters_70 ni_m1) ?_
    refine ev_step (st_goto (pc := 71) (tgt := 78) dX7_takeLetters_71 (by decide)) ?_
    refine ev_sub (ls' := [(0, .ref (gB G + v0)), (1, .ref (gB G + v1)), (2, .int v2)]) [0, 1, 2] rfl ?_
    exact tX7_takeLetters_78 G fu h0 v0 v1 v2 v0 ((-1 : Int32)) h
set_option maxRecDepth 100000 in
set_option maxHeartbeats 4000000 in
theorem tX7_takeLetters_5 (G : gx) (fu : Nat) (h0 : mh) (v0 : Nat) (v1 : Nat) (v2 : Int32) (n : Nat) (h : mh) : Ev lV G yX7_takeLetters cX7_takeLetters 3 (none) 2 h0 5 [(0, .ref (gB G + v0)), (1, .ref (gB G + v1)), (2, .int v2)] [] h (itr (bX7_takeLetters_5 fu v0 v1 v2) n (h)) := by
  refine ev_itr (P := fun (q : mh) (R9 : Option (Unit × mh)) => Ev lV G yX7_takeLetters cX7_takeLetters 3 (none) 2 h0 5 [(0, .ref (gB G + v0)), (1, .ref (gB G + v1)), (2, .int v2)] [] q R9) (fun _ => ev_none) (fun k5 hk9 h => ?_) n (h)
  have hk5 : ∀ (h : mh), Ev lV G yX7_takeLetters cX7_takeLetters 3 (none) 2 h0 5 [(0, .ref (gB G + v0)), (1, .ref (gB G + v1)), (2, .int v2)] [] h (k5 (h)) := fun h => hk9 (h)
  show Ev lV G yX7_takeLetters cX7_takeLetters 3 (none) 2 h0 5 [(0, .ref (gB G + v0)), (1, .ref (gB G + v1)), (2, .int v2)] [] h (bX7_takeLetters_5 fu v0 v1 v2 k5 (h))
  unfold bX7_takeLetters_5
  refine ev_step (st_aload_n (pc := 5) (j := 0) dX7_takeLetters_5 rfl rfl) ?_
  refine ev_getI (pc := 6) k_X7_19 rfl dX7_takeLetters_6 (fun x1 => ?_)
  refine ev_step (st_iload_n (pc := 9) (j := 2) dX7_takeLetters_9 rfl rfl) ?_
  refine ev_br (br_icmp_ge (tgt := 55) (pc := 10) dX7_takeLetters_10 (by decide)) (fun _ => ?_) (fun _ => ?_)
  · refine ev_sub (ls' := [(0, .ref (gB G + v0)), (1, .ref (gB G + v1)), (2, .int v2)]) [0, 1, 2] rfl ?_
    exact tX7_takeLetters_55 G fu h0 v0 v1 v2 h
  · refine ev_step (st_aload_n (pc := 13) (j := 1) dX7_takeLetters_13 rfl rfl) ?_
    refine ev_step (st_aload_n (pc := 14) (j := 0) dX7_takeLetters_14 rfl rfl) ?_
    refine ev_getI (pc := 15) k_X7_19 rfl dX7_takeLetters_15 (fun x2 => ?_)
    refine ev_ldb (pc := 18) dX7_takeLetters_18 (fun x3 => ?_)
    refine ev_callI (iv_S (As := [.int x3]) (st := []) (pc := 19) m_X7_isLetter l_X7_58 z_X7_isLetter rfl (Nat.le_of_ble_eq_true rfl) rfl dX7_takeLetters_19) (tX7_isLetter G fu x3 h) (by decide) (by decide) (fun x5 h4 => ?_)
    refine ev_br (br_if_eq (tgt := 55) (pc := 22) dX7_takeLetters_22 (by decide)) (fun _ => ?_) (fun _ => ?_)
    · refine ev_sub (ls' := [(0, .ref (gB G + v0)), (1, .ref (gB G + v1)), (2, .int v2)]) [0, 1, 2] rfl ?_
      exact tX7_takeLetters_55 G fu h0 v0 v1 v2 h4
    · refine ev_step (st_aload_n (pc := 25) (j := 0) dX7_takeLetters_25 rfl rfl) ?_
      refine ev_step (st_aload_n (pc := 26) (j := 0) dX7_takeLetters_26 rfl rfl) ?_
      refine ev_getL (pc := 27) k_X7_32 rfl dX7_takeLetters_27 (fun x6 => ?_)
      refine ev_step (st_aload_n (pc := 30) (j := 1) dX7_takeLetters_30 rfl rfl) ?_
      refine ev_step (st_aload_n (pc := 31) (j := 0) dX7_takeLetters_31 rfl rfl) ?_
      refine ev_getI (pc := 32) k_X7_19 rfl dX7_takeLetters_32 (fun x7 => ?_)
      refine ev_ldb (pc := 35) dX7_takeLetters_35 (fun x8 => ?_)
      refine ev_callL (iv_S (As := [.long x6, .int x8]) (st := [.ref (gB G + v0)]) (pc := 36) m_X7_withLetter l_X7_48 z_X7_withLetter rfl (Nat.le_of_ble_eq_true rfl) rfl dX7_takeLetters_36) (tX7_withLetter G fu x6 x8 h4) (by decide) (by decide) (fun x10 h9 => ?_)
      refine ev_putL (pc := 39) (p_X7_32 _ rfl) rfl dX7_takeLetters_39 (fun h11 => ?_)
      refine ev_step (st_aload_n (pc := 42) (j := 0) dX7_takeLetters_42 rfl rfl) ?_
      refine ev_step (st_dup (pc := 43) dX7_takeLetters_43 rfl) ?_
      refine ev_getI (pc := 44) k_X7_19 rfl dX7_takeLetters_44 (fun x12 => ?_)
      refine ev_step (st_iconst (pc := 47) dX7_takeLetters_47 ni_1) ?_
      refine ev_step (st_iadd (pc := 48) dX7_takeLetters_48) ?_
      refine ev_putI (pc := 49) (p_X7_19 _ rfl) rfl dX7_takeLetters_49 (fun h13 => ?_)
      refine ev_step (st_goto (pc := 52) (tgt := 5) dX7_takeLetters_52 (by decide)) ?_
      refine ev_sub (ls' := [(0, .ref (gB G + v0)), (1, .ref (gB G + v1)), (2, .int v2)]) [0, 1, 2] rfl ?_
      exact hk5  h13
set_option maxRecDepth 100000 in
set_option maxHeartbeats 4000000 in
theorem tX7_takeLetters (G : gx) (fu : Nat) (v0 : Nat) (v1 : Nat) (v2 : Int32) (h : mh) : Ct lV G yX7_takeLetters cX7_takeLetters 3 (none) 2 [.ref (gB G + v0), .ref (gB G + v1), .int v2] h (fX7_takeLetters fu v0 v1 v2 h) := by
  refine ct_ls (ls := [(0, .ref (gB G + v0)), (1, .ref (gB G + v1)), (2, .int v2)]) rfl (by decide) (Nat.le_of_ble_eq_true rfl) ?_
  unfold fX7_takeLetters
  refine ev_step (st_aload_n (pc := 0) (j := 0) dX7_takeLetters_0 rfl rfl) ?_
  refine ev_step (st_lconst (pc := 1) (v := 0) dX7_takeLetters_1 rfl) ?_
  refine ev_putL (pc := 2) (p_X7_32 _ rfl) rfl dX7_takeLetters_2 (fun h1 => ?_)
  refine ev_sub (ls' := [(0, .ref (gB G + v0)), (1, .ref (gB G + v1)), (2, .int v2)]) [0, 1, 2] rfl ?_
  exact tX7_takeLetters_5 G fu h v0 v1 v2 fu  h1
set_option maxRecDepth 100000 in
set_option maxHeartbeats 4000000 in
theorem tX7_takeDigits_79 (G : gx) (fu : Nat) (h0 : mh) (v0 : Nat) (v1 : Nat) (v2 : Int32) (s0 : Nat) (s1 : Int32) (h : mh) : Ev lV G yX7_takeDigits cX7_takeDigits 3 (none) 2 h0 79 [(0, .ref (gB G + v0)), (1, .ref (gB G + v1)), (2, .int v2)] [.int s1, .ref (gB G + s0)] h (fX7_takeDigits_79 fu v0 v1 v2 s0 s1 h) := by
  unfold fX7_takeDigits_79
  refine ev_putI (pc := 79) (p_X7_26 _ rfl) rfl dX7_takeDigits_79 (fun h1 => ?_)
  exact ev_vret (pc := 82) dX7_takeDigits_82
set_option maxRecDepth 100000 in
set_option maxHeartbeats 4000000 in
theorem tX7_takeDigits_59 (G : gx) (fu : Nat) (h0 : mh) (v0 : Nat) (v1 : Nat) (v2 : Int32) (h : mh) : Ev lV G yX7_takeDigits cX7_takeDigits 3 (none) 2 h0 59 [(0, .ref (gB G + v0)), (1, .ref (gB G + v1)), (2, .int v2)] [] h (fX7_takeDigits_59 fu v0 v1 v2 h) := by
  unfold fX7_takeDigits_59
  refine ev_step (st_aload_n (pc := 59) (j := 0) dX7_takeDigits_59 rfl rfl) ?_
  refine ev_step (st_aload_n (pc := 60) (j := 0) dX7_takeDigits_60 rfl rfl) ?_
  refine ev_getI (pc := 61) k_X7_19 rfl dX7_takeDigits_61 (fun x1 => ?_)
  refine ev_step (st_aload_n (pc := 64) (j := 0) dX7_takeDigits_64 rfl rfl) ?_
  refine ev_getI (pc := 65) k_X7_23 rfl dX7_takeDigits_65 (fun x2 => ?_)
  refine ev_step (st_isub (pc := 68) dX7_takeDigits_68) ?_
  refine ev_step (st_iconst (pc := 69) dX7_takeDigits_69 ni_4) ?_
  refine ev_br (br_icmp_le (tgt := 77) (pc := 70) dX7_takeDigits_70 (by decide)) (fun _ => ?_) (fun _ => ?_)
  · refine ev_step (st_bipush (pc := 77) dX7_takeDigits_77 nb_23) ?_
    refine ev_sub (ls' := [(0, .ref (gB G + v0)), (1, .ref (gB G + v1)), (2, .int v2)]) [0, 1, 2] rfl ?_
    exact tX7_takeDigits_79 G fu h0 v0 v1 v2 v0 ((23 : Int32)) h
  · refine ev_step (st_iconst (pc := 73) dX7_takeDigits_73 ni_m1) ?_
    refine ev_step (st_goto (pc := 74) (tgt := 79) dX7_takeDigits_74 (by decide)) ?_
    refine ev_sub (ls' := [(0, .ref (gB G + v0)), (1, .ref (gB G + v1)), (2, .int v2)]) [0, 1, 2] rfl ?_
    exact tX7_takeDigits_79 G fu h0 v0 v1 v2 v0 ((-1 : Int32)) h
set_option maxRecDepth 100000 in
set_option maxHeartbeats 4000000 in
theorem tX7_takeDigits_5 (G : gx) (fu : Nat) (h0 : mh) (v0 : Nat) (v1 : Nat) (v2 : Int32) (n : Nat) (h : mh) : Ev lV G yX7_takeDigits cX7_takeDigits 3 (none) 2 h0 5 [(0, .ref (gB G + v0)), (1, .ref (gB G + v1)), (2, .int v2)] [] h (itr (bX7_takeDigits_5 fu v0 v1 v2) n (h)) := by
  refine ev_itr (P := fun (q : mh) (R9 : Option (Unit × mh)) => Ev lV G yX7_takeDigits cX7_takeDigits 3 (none) 2 h0 5 [(0, .ref (gB G + v0)), (1, .ref (gB G + v1)), (2, .int v2)] [] q R9) (fun _ => ev_none) (fun k5 hk9 h => ?_) n (h)
  have hk5 : ∀ (h : mh), Ev lV G yX7_takeDigits cX7_takeDigits 3 (none) 2 h0 5 [(0, .ref (gB G + v0)), (1, .ref (gB G + v1)), (2, .int v2)] [] h (k5 (h)) := fun h => hk9 (h)
  show Ev lV G yX7_takeDigits cX7_takeDigits 3 (none) 2 h0 5 [(0, .ref (gB G + v0)), (1, .ref (gB G + v1)), (2, .int v2)] [] h (bX7_takeDigits_5 fu v0 v1 v2 k5 (h))
  unfold bX7_takeDigits_5
  refine ev_step (st_aload_n (pc := 5) (j := 0) dX7_takeDigits_5 rfl rfl) ?_
  refine ev_getI (pc := 6) k_X7_19 rfl dX7_takeDigits_6 (fun x1 => ?_)
  refine ev_step (st_iload_n (pc := 9) (j := 2) dX7_takeDigits_9 rfl rfl) ?_
  refine ev_br (br_icmp_ge (tgt := 59) (pc := 10) dX7_takeDigits_10 (by decide)) (fun _ => ?_) (fun _ => ?_)
  · refine ev_sub (ls' := [(0, .ref (gB G + v0)), (1, .ref (gB G + v1)), (2, .int v2)]) [0, 1, 2] rfl ?_
    exact tX7_takeDigits_59 G fu h0 v0 v1 v2 h
  · refine ev_step (st_aload_n (pc := 13) (j := 1) dX7_takeDigits_13 rfl rfl) ?_
    refine ev_step (st_aload_n (pc := 14) (j := 0) dX7_takeDigits_14 rfl rfl) ?_
    refine ev_getI (pc := 15) k_X7_19 rfl dX7_takeDigits_15 (fun x2 => ?_)
    refine ev_ldb (pc := 18) dX7_takeDigits_18 (fun x3 => ?_)
    refine ev_callI (iv_S (As := [.int x3]) (st := []) (pc := 19) m_X7_isDigit l_X7_65 z_X7_isDigit rfl (Nat.le_of_ble_eq_true rfl) rfl dX7_takeDigits_19) (tX7_isDigit G fu x3 h) (by decide) (by decide) (fun x5 h4 => ?_)
    refine ev_br (br_if_eq (tgt := 59) (pc := 22) dX7_takeDigits_22 (by decide)) (fun _ => ?_) (fun _ => ?_)
    · refine ev_sub (ls' := [(0, .ref (gB G + v0)), (1, .ref (gB G + v1)), (2, .int v2)]) [0, 1, 2] rfl ?_
      exact tX7_takeDigits_59 G fu h0 v0 v1 v2 h4
    · refine ev_step (st_aload_n (pc := 25) (j := 0) dX7_takeDigits_25 rfl rfl) ?_
      refine ev_step (st_aload_n (pc := 26) (j := 0) dX7_takeDigits_26 rfl rfl) ?_
      refine ev_getI (pc := 27) k_X7_29 rfl dX7_takeDigits_27 (fun x6 => ?_)
      refine ev_step (st_bipush (pc := 30) dX7_takeDigits_30 nb_10) ?_
      refine ev_step (st_imul (pc := 32) dX7_takeDigits_32) ?_
      refine ev_step (st_aload_n (pc := 33) (j := 1) dX7_takeDigits_33 rfl rfl) ?_
      refine ev_step (st_aload_n (pc := 34) (j := 0) dX7_takeDigits_34 rfl rfl) ?_
      refine ev_getI (pc := 35) k_X7_19 rfl dX7_takeDigits_35 (fun x7 => ?_)
      refine ev_ldb (pc := 38) dX7_takeDigits_38 (fun x8 => ?_)
      refine ev_step (st_bipush (pc := 39) dX7_takeDigits_39 nb_48) ?_
      refine ev_step (st_isub (pc := 41) dX7_takeDigits_41) ?_
      refine ev_step (st_iadd (pc := 42) dX7_takeDigits_42) ?_
      refine ev_putI (pc := 43) (p_X7_29 _ rfl) rfl dX7_takeDigits_43 (fun h9 => ?_)
      refine ev_step (st_aload_n (pc := 46) (j := 0) dX7_takeDigits_46 rfl rfl) ?_
      refine ev_step (st_dup (pc := 47) dX7_takeDigits_47 rfl) ?_
      refine ev_getI (pc := 48) k_X7_19 rfl dX7_takeDigits_48 (fun x10 => ?_)
      refine ev_step (st_iconst (pc := 51) dX7_takeDigits_51 ni_1) ?_
      refine ev_step (st_iadd (pc := 52) dX7_takeDigits_52) ?_
      refine ev_putI (pc := 53) (p_X7_19 _ rfl) rfl dX7_takeDigits_53 (fun h11 => ?_)
      refine ev_step (st_goto (pc := 56) (tgt := 5) dX7_takeDigits_56 (by decide)) ?_
      refine ev_sub (ls' := [(0, .ref (gB G + v0)), (1, .ref (gB G + v1)), (2, .int v2)]) [0, 1, 2] rfl ?_
      exact hk5  h11
set_option maxRecDepth 100000 in
set_option maxHeartbeats 4000000 in
theorem tX7_takeDigits (G : gx) (fu : Nat) (v0 : Nat) (v1 : Nat) (v2 : Int32) (h : mh) : Ct lV G yX7_takeDigits cX7_takeDigits 3 (none) 2 [.ref (gB G + v0), .ref (gB G + v1), .int v2] h (fX7_takeDigits fu v0 v1 v2 h) := by
  refine ct_ls (ls := [(0, .ref (gB G + v0)), (1, .ref (gB G + v1)), (2, .int v2)]) rfl (by decide) (Nat.le_of_ble_eq_true rfl) ?_
  unfold fX7_takeDigits
  refine ev_step (st_aload_n (pc := 0) (j := 0) dX7_takeDigits_0 rfl rfl) ?_
  refine ev_step (st_iconst (pc := 1) dX7_takeDigits_1 ni_0) ?_
  refine ev_putI (pc := 2) (p_X7_29 _ rfl) rfl dX7_takeDigits_2 (fun h1 => ?_)
  refine ev_sub (ls' := [(0, .ref (gB G + v0)), (1, .ref (gB G + v1)), (2, .int v2)]) [0, 1, 2] rfl ?_
  exact tX7_takeDigits_5 G fu h v0 v1 v2 fu  h1
set_option maxRecDepth 100000 in
set_option maxHeartbeats 4000000 in
theorem tX8_isSo_33 (G : gx) (fu : Nat) (h0 : mh) (v0 : Nat) (v1 : Int32) (v2 : Int32) (v3 : Int32) (v4 : Int32) (s0 : Int32) (k3 : Int32 × mh → Option (Int32 × mh)) (hk3 : ∀ (v4 : Int32) (h : mh), Ev lI G yX8_isSo cX8_isSo 5 (some .boolean) 2 h0 3 [(0, .ref (gB G + v0)), (1, .int v1), (2, .int v2), (3, .int v3), (4, .int v4)] [] h (k3 (v4, h))) (h : mh) : Ev lI G yX8_isSo cX8_isSo 5 (some .boolean) 2 h0 33 [(0, .ref (gB G + v0)), (1, .int v1), (2, .int v2), (3, .int v3), (4, .int v4)] [.int s0] h (fX8_isSo_33 fu k3 v0 v1 v2 v3 v4 s0 h) := by
  unfold fX8_isSo_33
  refine ev_step (st_aload_n (pc := 33) (j := 0) dX8_isSo_33 rfl rfl) ?_
  refine ev_getR (pc := 34) k_X8_15 rfl dX8_isSo_34 (fun a1 => ?_)
  refine ev_step (st_iload (pc := 37) (j := 4) dX8_isSo_37 rfl) ?_
  refine ev_ldi (pc := 39) dX8_isSo_39 (fun x2 => ?_)
  refine ev_callI (iv_S (As := [.int s0, .int x2]) (st := []) (pc := 40) m_X9_holds l_X8_26 z_X9_holds rfl (Nat.le_of_ble_eq_true rfl) rfl dX8_isSo_40) (tX9_holds G fu s0 x2 h) (by decide) (by decide) (fun x4 h3 => ?_)
  refine ev_step (st_aload_n (pc := 43) (j := 0) dX8_isSo_43 rfl rfl) ?_
  refine ev_getR (pc := 44) k_X8_19 rfl dX8_isSo_44 (fun a5 => ?_)
  refine ev_step (st_iload (pc := 47) (j := 4) dX8_isSo_47 rfl) ?_
  refine ev_ldz (pc := 49) dX8_isSo_49 (fun x6 => ?_)
  refine ev_br (br_icmp_eq (tgt := 55) (pc := 50) dX8_isSo_50 (by decide)) (fun _ => ?_) (fun _ => ?_)
  · refine ev_step (st_inc (pc := 55) (j := 4) (ls' := [(4, .int (v4 + (1 : Int32))), (0, .ref (gB G + v0)), (1, .int v1), (2, .int v2), (3, .int v3)]) dX8_isSo_55 rfl ni_1 (by decide) rfl) ?_
    refine ev_step (st_goto (pc := 58) (tgt := 3) dX8_isSo_58 (by decide)) ?_
    refine ev_sub (ls' := [(0, .ref (gB G + v0)), (1, .int v1), (2, .int v2), (3, .int v3), (4, .int (v4 + (1 : Int32)))]) [1, 2, 3, 4, 0] rfl ?_
    exact hk3 (v4 + (1 : Int32)) h3
  · refine ev_step (st_iconst (pc := 53) dX8_isSo_53 ni_0) ?_
    exact ev_zret (pc := 54) dX8_isSo_54
set_option maxRecDepth 100000 in
set_option maxHeartbeats 4000000 in
theorem tX8_isSo_3 (G : gx) (fu : Nat) (h0 : mh) (v0 : Nat) (v1 : Int32) (v2 : Int32) (v3 : Int32) (n : Nat) (v4 : Int32) (h : mh) : Ev lI G yX8_isSo cX8_isSo 5 (some .boolean) 2 h0 3 [(0, .ref (gB G + v0)), (1, .int v1), (2, .int v2), (3, .int v3), (4, .int v4)] [] h (itr (bX8_isSo_3 fu v0 v1 v2 v3) n (v4, h)) := by
  refine ev_itr (P := fun (q : Int32 × mh) (R9 : Option (Int32 × mh)) => Ev lI G yX8_isSo cX8_isSo 5 (some .boolean) 2 h0 3 [(0, .ref (gB G + v0)), (1, .int v1), (2, .int v2), (3, .int v3), (4, .int q.1)] [] q.2 R9) (fun _ => ev_none) (fun k3 hk9 q => ?_) n (v4, h)
  obtain ⟨v4, h⟩ := q
  have hk3 : ∀ (v4 : Int32) (h : mh), Ev lI G yX8_isSo cX8_isSo 5 (some .boolean) 2 h0 3 [(0, .ref (gB G + v0)), (1, .int v1), (2, .int v2), (3, .int v3), (4, .int v4)] [] h (k3 (v4, h)) := fun v4 h => hk9 (v4, h)
  show Ev lI G yX8_isSo cX8_isSo 5 (some .boolean) 2 h0 3 [(0, .ref (gB G + v0)), (1, .int v1), (2, .int v2), (3, .int v3), (4, .int v4)] [] h (bX8_isSo_3 fu v0 v1 v2 v3 k3 (v4, h))
  unfold bX8_isSo_3
  refine ev_step (st_iload (pc := 3) (j := 4) dX8_isSo_3 rfl) ?_
  refine ev_step (st_iload_n (pc := 5) (j := 1) dX8_isSo_5 rfl rfl) ?_
  refine ev_br (br_icmp_ge (tgt := 61) (pc := 6) dX8_isSo_6 (by decide)) (fun _ => ?_) (fun _ => ?_)
  · refine ev_step (st_iconst (pc := 61) dX8_isSo_61 ni_1) ?_
    exact ev_zret (pc := 62) dX8_isSo_62
  · refine ev_step (st_iload (pc := 9) (j := 4) dX8_isSo_9 rfl) ?_
    refine ev_step (st_aload_n (pc := 11) (j := 0) dX8_isSo_11 rfl rfl) ?_
    refine ev_getI (pc := 12) k_X8_22 rfl dX8_isSo_12 (fun x1 => ?_)
    refine ev_br (br_icmp_ge (tgt := 61) (pc := 15) dX8_isSo_15 (by decide)) (fun _ => ?_) (fun _ => ?_)
    · refine ev_step (st_iconst (pc := 61) dX8_isSo_61 ni_1) ?_
      exact ev_zret (pc := 62) dX8_isSo_62
    · refine ev_step (st_aload_n (pc := 18) (j := 0) dX8_isSo_18 rfl rfl) ?_
      refine ev_getR (pc := 19) k_X8_9 rfl dX8_isSo_19 (fun a2 => ?_)
      refine ev_step (st_iload (pc := 22) (j := 4) dX8_isSo_22 rfl) ?_
      refine ev_ldz (pc := 24) dX8_isSo_24 (fun x3 => ?_)
      refine ev_br (br_if_eq (tgt := 32) (pc := 25) dX8_isSo_25 (by decide)) (fun _ => ?_) (fun _ => ?_)
      · refine ev_step (st_iload_n (pc := 32) (j := 2) dX8_isSo_32 rfl rfl) ?_
        refine ev_sub (ls' := [(0, .ref (gB G + v0)), (1, .int v1), (2, .int v2), (3, .int v3), (4, .int v4)]) [0, 1, 2, 3, 4] rfl ?_
        exact tX8_isSo_33 G fu h0 v0 v1 v2 v3 v4 v2 k3 hk3 h
      · refine ev_step (st_iload_n (pc := 28) (j := 3) dX8_isSo_28 rfl rfl) ?_
        refine ev_step (st_goto (pc := 29) (tgt := 33) dX8_isSo_29 (by decide)) ?_
        refine ev_sub (ls' := [(0, .ref (gB G + v0)), (1, .int v1), (2, .int v2), (3, .int v3), (4, .int v4)]) [0, 1, 2, 3, 4] rfl ?_
        exact tX8_isSo_33 G fu h0 v0 v1 v2 v3 v4 v3 k3 hk3 h
set_option maxRecDepth 100000 in
set_option maxHeartbeats 4000000 in
theorem tX8_isSo (G : gx) (fu : Nat) (v0 : Nat) (v1 : Int32) (v2 : Int32) (v3 : Int32) (h : mh) : Ct lI G yX8_isSo cX8_isSo 5 (some .boolean) 2 [.ref (gB G + v0), .int v1, .int v2, .int v3] h (fX8_isSo fu v0 v1 v2 v3 h) := by
  refine ct_ls (ls := [(0, .ref (gB G + v0)), (1, .int v1), (2, .int v2), (3, .int v3)]) rfl (by decide) (Nat.le_of_ble_eq_true rfl) ?_
  unfold fX8_isSo
  refine ev_step (st_iconst (pc := 0) dX8_isSo_0 ni_0) ?_
  refine ev_step (st_istore (pc := 1) (ls' := [(4, .int ((0 : Int32))), (0, .ref (gB G + v0)), (1, .int v1), (2, .int v2), (3, .int v3)]) dX8_isSo_1 (by decide) rfl) ?_
  refine ev_sub (ls' := [(0, .ref (gB G + v0)), (1, .int v1), (2, .int v2), (3, .int v3), (4, .int ((0 : Int32)))]) [1, 2, 3, 4, 0] rfl ?_
  exact tX8_isSo_3 G fu h v0 v1 v2 v3 fu ((0 : Int32)) h
set_option maxRecDepth 100000 in
set_option maxHeartbeats 4000000 in
theorem tX9_feed (G : gx) (fu : Nat) (v0 : Nat) (v1 : Int32) (v2 : Int32) (v3 : Int32) (v4 : Int32) (v5 : Int32) (h : mh) : Ct lI G yX9_feed cX9_feed 6 (some .int) 2 [.ref (gB G + v0), .int v1, .int v2, .int v3, .int v4, .int v5] h (fX9_feed fu v0 v1 v2 v3 v4 v5 h) := by
  refine ct_ls (ls := [(0, .ref (gB G + v0)), (1, .int v1), (2, .int v2), (3, .int v3), (4, .int v4), (5, .int v5)]) rfl (by decide) (Nat.le_of_ble_eq_true rfl) ?_
  unfold fX9_feed
  refine ev_step (st_aload_n (pc := 0) (j := 0) dX9_feed_0 rfl rfl) ?_
  refine ev_getI (pc := 1) k_X9_13 rfl dX9_feed_1 (fun x1 => ?_)
  refine ev_step (st_bipush (pc := 4) dX9_feed_4 nb_20) ?_
  refine ev_step (st_iadd (pc := 6) dX9_feed_6) ?_
  refine ev_step (st_sipush (pc := 7) dX9_feed_7 ns_2000) ?_
  refine ev_br (br_icmp_le (tgt := 15) (pc := 10) dX9_feed_10 (by decide)) (fun _ => ?_) (fun _ => ?_)
  · refine ev_step (st_aload_n (pc := 15) (j := 0) dX9_feed_15 rfl rfl) ?_
    refine ev_step (st_iload_n (pc := 16) (j := 1) dX9_feed_16 rfl rfl) ?_
    refine ev_ck (fun ha hS => ?_)
    refine ev_callV (iv_V (As := [.int v1]) (st := []) (pc := 17) rfl m_X9_putOnTape l_X9_68 i_X9_putOnTape e_X9_putOnTape ha hS rfl (Nat.le_of_ble_eq_true rfl) rfl dX9_feed_17) (tX9_putOnTape G fu v0 v1 h) (by decide) (by decide) (fun h2 => ?_)
    refine ev_step (st_aload_n (pc := 20) (j := 0) dX9_feed_20 rfl rfl) ?_
    refine ev_step (st_iload_n (pc := 21) (j := 2) dX9_feed_21 rfl rfl) ?_
    refine ev_ck (fun ha hS => ?_)
    refine ev_callV (iv_V (As := [.int v2]) (st := []) (pc := 22) rfl m_X9_putOnTape l_X9_68 i_X9_putOnTape e_X9_putOnTape ha hS rfl (Nat.le_of_ble_eq_true rfl) rfl dX9_feed_22) (tX9_putOnTape G fu v0 v2 h2) (by decide) (by decide) (fun h3 => ?_)
    refine ev_step (st_aload_n (pc := 25) (j := 0) dX9_feed_25 rfl rfl) ?_
    refine ev_step (st_iload_n (pc := 26) (j := 3) dX9_feed_26 rfl rfl) ?_
    refine ev_ck (fun ha hS => ?_)
    refine ev_callV (iv_V (As := [.int v3]) (st := []) (pc := 27) rfl m_X9_putOnTape l_X9_68 i_X9_putOnTape e_X9_putOnTape ha hS rfl (Nat.le_of_ble_eq_true rfl) rfl dX9_feed_27) (tX9_putOnTape G fu v0 v3 h3) (by decide) (by decide) (fun h4 => ?_)
    refine ev_step (st_aload_n (pc := 30) (j := 0) dX9_feed_30 rfl rfl) ?_
    refine ev_step (st_iload (pc := 31) (j := 4) dX9_feed_31 rfl) ?_
    refine ev_ck (fun ha hS => ?_)
    refine ev_callV (iv_V (As := [.int v4]) (st := []) (pc := 33) rfl m_X9_putOnTape l_X9_68 i_X9_putOnTape e_X9_putOnTape ha hS rfl (Nat.le_of_ble_eq_true rfl) rfl dX9_feed_33) (tX9_putOnTape G fu v0 v4 h4) (by decide) (by decide) (fun h5 => ?_)
    refine ev_step (st_aload_n (pc := 36) (j := 0) dX9_feed_36 rfl rfl) ?_
    refine ev_step (st_iload (pc := 37) (j := 5) dX9_feed_37 rfl) ?_
    refine ev_ck (fun ha hS => ?_)
    refine ev_callV (iv_V (As := [.int v5]) (st := []) (pc := 39) rfl m_X9_putOnTape l_X9_68 i_X9_putOnTape e_X9_putOnTape ha hS rfl (Nat.le_of_ble_eq_true rfl) rfl dX9_feed_39) (tX9_putOnTape G fu v0 v5 h5) (by decide) (by decide) (fun h6 => ?_)
    refine ev_step (st_aload_n (pc := 42) (j := 0) dX9_feed_42 rfl rfl) ?_
    refine ev_getI (pc := 43) k_X9_13 rfl dX9_feed_43 (fun x7 => ?_)
    exact ev_iret (pc := 46) dX9_feed_46
  · refine ev_step (st_iconst (pc := 13) dX9_feed_13 ni_m1) ?_
    exact ev_iret (pc := 14) dX9_feed_14
set_option maxRecDepth 100000 in
set_option maxHeartbeats 4000000 in
theorem tX9_listener (G : gx) (fu : Nat) (v0 : Nat) (v1 : Int32) (v2 : Int32) (h : mh) : Ct lI G yX9_listener cX9_listener 3 (some .int) 3 [.ref (gB G + v0), .int v1, .int v2] h (fX9_listener fu v0 v1 v2 h) := by
  refine ct_ls (ls := [(0, .ref (gB G + v0)), (1, .int v1), (2, .int v2)]) rfl (by decide) (Nat.le_of_ble_eq_true rfl) ?_
  unfold fX9_listener
  refine ev_step (st_aload_n (pc := 0) (j := 0) dX9_listener_0 rfl rfl) ?_
  refine ev_getR (pc := 1) k_X9_30 rfl dX9_listener_1 (fun a1 => ?_)
  refine ev_step (st_iload_n (pc := 4) (j := 1) dX9_listener_4 rfl rfl) ?_
  refine ev_ck (fun ha hS => ?_)
  refine ev_callI (iv_V (As := [.int v1]) (st := []) (pc := 5) rfl m_X6_hasListener l_X9_112 i_X6_hasListener e_X6_hasListener ha hS rfl (Nat.le_of_ble_eq_true rfl) rfl dX9_listener_5) (tX6_hasListener G fu a1 v1 h) (by decide) (by decide) (fun x3 h2 => ?_)
  refine ev_br (br_if_ne (tgt := 13) (pc := 8) dX9_listener_8 (by decide)) (fun _ => ?_) (fun _ => ?_)
  · refine ev_step (st_iconst (pc := 11) dX9_listener_11 ni_m1) ?_
    exact ev_iret (pc := 12) dX9_listener_12
  · refine ev_step (st_iload_n (pc := 13) (j := 2) dX9_listener_13 rfl rfl) ?_
    refine ev_case (n := 0) (c := (0 : Int32)) (off := 38) (tgt := 52) (pc := 14) (swn_0 _ _) dX9_listener_14 (by decide) (by decide) (by decide) (by decide) (by decide) (fun _ => ?_) (fun q4 => ?_)
    · refine ev_step (st_aload_n (pc := 52) (j := 0) dX9_listener_52 rfl rfl) ?_
      refine ev_getR (pc := 53) k_X9_40 rfl dX9_listener_53 (fun a5 => ?_)
      refine ev_getR (pc := 56) k_X9_115 rfl dX9_listener_56 (fun a6 => ?_)
      refine ev_step (st_iload_n (pc := 59) (j := 1) dX9_listener_59 rfl rfl) ?_
      refine ev_ldi (pc := 60) dX9_listener_60 (fun x7 => ?_)
      exact ev_iret (pc := 61) dX9_listener_61
    refine ev_case (n := 1) (c := (1 : Int32)) (off := 48) (tgt := 62) (pc := 14) q4 dX9_listener_14 (by decide) (by decide) (by decide) (by decide) (by decide) (fun _ => ?_) (fun q8 => ?_)
    · refine ev_step (st_aload_n (pc := 62) (j := 0) dX9_listener_62 rfl rfl) ?_
      refine ev_getR (pc := 63) k_X9_30 rfl dX9_listener_63 (fun a9 => ?_)
      refine ev_getR (pc := 66) k_X9_118 rfl dX9_listener_66 (fun a10 => ?_)
      refine ev_step (st_iload_n (pc := 69) (j := 1) dX9_listener_69 rfl rfl) ?_
      refine ev_ldi (pc := 70) dX9_listener_70 (fun x11 => ?_)
      exact ev_iret (pc := 71) dX9_listener_71
    refine ev_case (n := 2) (c := (2 : Int32)) (off := 58) (tgt := 72) (pc := 14) q8 dX9_listener_14 (by decide) (by decide) (by decide) (by decide) (by decide) (fun _ => ?_) (fun q12 => ?_)
    · refine ev_step (st_aload_n (pc := 72) (j := 0) dX9_listener_72 rfl rfl) ?_
      refine ev_getR (pc := 73) k_X9_40 rfl dX9_listener_73 (fun a13 => ?_)
      refine ev_getR (pc := 76) k_X9_121 rfl dX9_listener_76 (fun a14 => ?_)
      refine ev_step (st_iload_n (pc := 79) (j := 1) dX9_listener_79 rfl rfl) ?_
      refine ev_ldi (pc := 80) dX9_listener_80 (fun x15 => ?_)
      exact ev_iret (pc := 81) dX9_listener_81
    refine ev_case (n := 3) (c := (3 : Int32)) (off := 68) (tgt := 82) (pc := 14) q12 dX9_listener_14 (by decide) (by decide) (by decide) (by decide) (by decide) (fun _ => ?_) (fun q16 => ?_)
    · refine ev_step (st_aload_n (pc := 82) (j := 0) dX9_listener_82 rfl rfl) ?_
      refine ev_getR (pc := 83) k_X9_40 rfl dX9_listener_83 (fun a17 => ?_)
      refine ev_step (st_iload_n (pc := 86) (j := 1) dX9_listener_86 rfl rfl) ?_
      refine ev_ck (fun ha hS => ?_)
      refine ev_callI (iv_V (As := [.int v1]) (st := []) (pc := 87) rfl m_X3_isOn l_X9_124 i_X3_isOn e_X3_isOn ha hS rfl (Nat.le_of_ble_eq_true rfl) rfl dX9_listener_87) (tX3_isOn G fu a17 v1 h2) (by decide) (by decide) (fun x19 h18 => ?_)
      refine ev_br (br_if_eq (tgt := 97) (pc := 90) dX9_listener_90 (by decide)) (fun _ => ?_) (fun _ => ?_)
      · refine ev_step (st_iconst (pc := 97) dX9_listener_97 ni_0) ?_
        exact ev_iret (pc := 98) dX9_listener_98
      · refine ev_step (st_iconst (pc := 93) dX9_listener_93 ni_1) ?_
        refine ev_step (st_goto (pc := 94) (tgt := 98) dX9_listener_94 (by decide)) ?_
        exact ev_iret (pc := 98) dX9_listener_98
    refine ev_case (n := 4) (c := (4 : Int32)) (off := 85) (tgt := 99) (pc := 14) q16 dX9_listener_14 (by decide) (by decide) (by decide) (by decide) (by decide) (fun _ => ?_) (fun q20 => ?_)
    · refine ev_step (st_aload_n (pc := 99) (j := 0) dX9_listener_99 rfl rfl) ?_
      refine ev_getR (pc := 100) k_X9_30 rfl dX9_listener_100 (fun a21 => ?_)
      refine ev_step (st_aload_n (pc := 103) (j := 0) dX9_listener_103 rfl rfl) ?_
      refine ev_getR (pc := 104) k_X9_40 rfl dX9_listener_104 (fun a22 => ?_)
      refine ev_step (st_iload_n (pc := 107) (j := 1) dX9_listener_107 rfl rfl) ?_
      refine ev_ck (fun ha hS => ?_)
      refine ev_callI (iv_V (As := [.ref (gB G + a22), .int v1]) (st := []) (pc := 108) rfl m_X6_hasDone l_X9_127 i_X6_hasDone e_X6_hasDone ha hS rfl (Nat.le_of_ble_eq_true rfl) rfl dX9_listener_108) (tX6_hasDone G fu a21 a22 v1 h2) (by decide) (by decide) (fun x24 h23 => ?_)
      refine ev_br (br_if_eq (tgt := 118) (pc := 111) dX9_listener_111 (by decide)) (fun _ => ?_) (fun _ => ?_)
      · refine ev_step (st_iconst (pc := 118) dX9_listener_118 ni_0) ?_
        exact ev_iret (pc := 119) dX9_listener_119
      · refine ev_step (st_iconst (pc := 114) dX9_listener_114 ni_1) ?_
        refine ev_step (st_goto (pc := 115) (tgt := 119) dX9_listener_115 (by decide)) ?_
        exact ev_iret (pc := 119) dX9_listener_119
    refine ev_case (n := 5) (c := (5 : Int32)) (off := 106) (tgt := 120) (pc := 14) q20 dX9_listener_14 (by decide) (by decide) (by decide) (by decide) (by decide) (fun _ => ?_) (fun q25 => ?_)
    · refine ev_step (st_aload_n (pc := 120) (j := 0) dX9_listener_120 rfl rfl) ?_
      refine ev_getR (pc := 121) k_X9_30 rfl dX9_listener_121 (fun a26 => ?_)
      refine ev_getR (pc := 124) k_X9_131 rfl dX9_listener_124 (fun a27 => ?_)
      refine ev_step (st_iload_n (pc := 127) (j := 1) dX9_listener_127 rfl rfl) ?_
      refine ev_ldi (pc := 128) dX9_listener_128 (fun x28 => ?_)
      exact ev_iret (pc := 129) dX9_listener_129
    refine ev_dflt (n := 6) (tgt := 130) (pc := 14) q25 dX9_listener_14 (by decide) (by decide) ?_
    refine ev_step (st_iconst (pc := 130) dX9_listener_130 ni_m1) ?_
    exact ev_iret (pc := 131) dX9_listener_131
set_option maxRecDepth 100000 in
set_option maxHeartbeats 4000000 in
theorem tX9_announce (G : gx) (fu : Nat) (v0 : Nat) (v1 : Int32) (h : mh) : Ct lI G yX9_announce cX9_announce 2 (some .boolean) 3 [.ref (gB G + v0), .int v1] h (fX9_announce fu v0 v1 h) := by
  refine ct_ls (ls := [(0, .ref (gB G + v0)), (1, .int v1)]) rfl (by decide) (Nat.le_of_ble_eq_true rfl) ?_
  unfold fX9_announce
  refine ev_step (st_aload_n (pc := 0) (j := 0) dX9_announce_0 rfl rfl) ?_
  refine ev_getR (pc := 1) k_X9_30 rfl dX9_announce_1 (fun a1 => ?_)
  refine ev_step (st_iload_n (pc := 4) (j := 1) dX9_announce_4 rfl rfl) ?_
  refine ev_ck (fun ha hS => ?_)
  refine ev_callI (iv_V (As := [.int v1]) (st := []) (pc := 5) rfl m_X6_hasRole l_X9_87 i_X6_hasRole e_X6_hasRole ha hS rfl (Nat.le_of_ble_eq_true rfl) rfl dX9_announce_5) (tX6_hasRole G fu a1 v1 h) (by decide) (by decide) (fun x3 h2 => ?_)
  refine ev_br (br_if_eq (tgt := 34) (pc := 8) dX9_announce_8 (by decide)) (fun _ => ?_) (fun _ => ?_)
  · refine ev_step (st_iconst (pc := 34) dX9_announce_34 ni_0) ?_
    exact ev_zret (pc := 35) dX9_announce_35
  · refine ev_step (st_aload_n (pc := 11) (j := 0) dX9_announce_11 rfl rfl) ?_
    refine ev_getR (pc := 12) k_X9_40 rfl dX9_announce_12 (fun a4 => ?_)
    refine ev_getI (pc := 15) k_X9_156 rfl dX9_announce_15 (fun x5 => ?_)
    refine ev_step (st_iload_n (pc := 18) (j := 1) dX9_announce_18 rfl rfl) ?_
    refine ev_br (br_icmp_eq (tgt := 34) (pc := 19) dX9_announce_19 (by decide)) (fun _ => ?_) (fun _ => ?_)
    · refine ev_step (st_iconst (pc := 34) dX9_announce_34 ni_0) ?_
      exact ev_zret (pc := 35) dX9_announce_35
    · refine ev_step (st_aload_n (pc := 22) (j := 0) dX9_announce_22 rfl rfl) ?_
      refine ev_getR (pc := 23) k_X9_40 rfl dX9_announce_23 (fun a6 => ?_)
      refine ev_getR (pc := 26) k_X9_101 rfl dX9_announce_26 (fun a7 => ?_)
      refine ev_step (st_iload_n (pc := 29) (j := 1) dX9_announce_29 rfl rfl) ?_
      refine ev_ldi (pc := 30) dX9_announce_30 (fun x8 => ?_)
      refine ev_br (br_if_le (tgt := 36) (pc := 31) dX9_announce_31 (by decide)) (fun _ => ?_) (fun _ => ?_)
      · refine ev_step (st_aload_n (pc := 36) (j := 0) dX9_announce_36 rfl rfl) ?_
        refine ev_getR (pc := 37) k_X9_57 rfl dX9_announce_37 (fun a9 => ?_)
        refine ev_step (st_aload_n (pc := 40) (j := 0) dX9_announce_40 rfl rfl) ?_
        refine ev_getR (pc := 41) k_X9_40 rfl dX9_announce_41 (fun a10 => ?_)
        refine ev_ck (fun ha hS => ?_)
        refine ev_callV (iv_V (As := [.ref (gB G + a10)]) (st := []) (pc := 44) rfl m_X2_remember l_X9_204 i_X2_remember e_X2_remember ha hS rfl (Nat.le_of_ble_eq_true rfl) rfl dX9_announce_44) (tX2_remember G fu a9 a10 h2) (by decide) (by decide) (fun h11 => ?_)
        refine ev_step (st_aload_n (pc := 47) (j := 0) dX9_announce_47 rfl rfl) ?_
        refine ev_getR (pc := 48) k_X9_40 rfl dX9_announce_48 (fun a12 => ?_)
        refine ev_step (st_iload_n (pc := 51) (j := 1) dX9_announce_51 rfl rfl) ?_
        refine ev_putI (pc := 52) (p_X9_156 _ rfl) rfl dX9_announce_52 (fun h13 => ?_)
        refine ev_step (st_iconst (pc := 55) dX9_announce_55 ni_1) ?_
        exact ev_zret (pc := 56) dX9_announce_56
      · refine ev_step (st_iconst (pc := 34) dX9_announce_34 ni_0) ?_
        exact ev_zret (pc := 35) dX9_announce_35
set_option maxRecDepth 100000 in
set_option maxHeartbeats 4000000 in
theorem tX9_turn (G : gx) (fu : Nat) (v0 : Nat) (v1 : Int32) (v2 : Int32) (h : mh) : Ct lI G yX9_turn cX9_turn 3 (some .boolean) 3 [.ref (gB G + v0), .int v1, .int v2] h (fX9_turn fu v0 v1 v2 h) := by
  refine ct_ls (ls := [(0, .ref (gB G + v0)), (1, .int v1), (2, .int v2)]) rfl (by decide) (Nat.le_of_ble_eq_true rfl) ?_
  unfold fX9_turn
  refine ev_step (st_aload_n (pc := 0) (j := 0) dX9_turn_0 rfl rfl) ?_
  refine ev_getR (pc := 1) k_X9_30 rfl dX9_turn_1 (fun a1 => ?_)
  refine ev_step (st_iload_n (pc := 4) (j := 1) dX9_turn_4 rfl rfl) ?_
  refine ev_ck (fun ha hS => ?_)
  refine ev_callI (iv_V (As := [.int v1]) (st := []) (pc := 5) rfl m_X6_hasListener l_X9_112 i_X6_hasListener e_X6_hasListener ha hS rfl (Nat.le_of_ble_eq_true rfl) rfl dX9_turn_5) (tX6_hasListener G fu a1 v1 h) (by decide) (by decide) (fun x3 h2 => ?_)
  refine ev_br (br_if_eq (tgt := 23) (pc := 8) dX9_turn_8 (by decide)) (fun _ => ?_) (fun _ => ?_)
  · refine ev_step (st_iconst (pc := 23) dX9_turn_23 ni_0) ?_
    exact ev_zret (pc := 24) dX9_turn_24
  · refine ev_step (st_aload_n (pc := 11) (j := 0) dX9_turn_11 rfl rfl) ?_
    refine ev_getR (pc := 12) k_X9_40 rfl dX9_turn_12 (fun a4 => ?_)
    refine ev_step (st_iload_n (pc := 15) (j := 1) dX9_turn_15 rfl rfl) ?_
    refine ev_ck (fun ha hS => ?_)
    refine ev_callI (iv_V (As := [.int v1]) (st := []) (pc := 16) rfl m_X3_isOn l_X9_124 i_X3_isOn e_X3_isOn ha hS rfl (Nat.le_of_ble_eq_true rfl) rfl dX9_turn_16) (tX3_isOn G fu a4 v1 h2) (by decide) (by decide) (fun x6 h5 => ?_)
    refine ev_step (st_iload_n (pc := 19) (j := 2) dX9_turn_19 rfl rfl) ?_
    refine ev_br (br_icmp_ne (tgt := 25) (pc := 20) dX9_turn_20 (by decide)) (fun _ => ?_) (fun _ => ?_)
    · refine ev_step (st_iconst (pc := 23) dX9_turn_23 ni_0) ?_
      exact ev_zret (pc := 24) dX9_turn_24
    · refine ev_step (st_aload_n (pc := 25) (j := 0) dX9_turn_25 rfl rfl) ?_
      refine ev_getR (pc := 26) k_X9_57 rfl dX9_turn_26 (fun a7 => ?_)
      refine ev_step (st_aload_n (pc := 29) (j := 0) dX9_turn_29 rfl rfl) ?_
      refine ev_getR (pc := 30) k_X9_40 rfl dX9_turn_30 (fun a8 => ?_)
      refine ev_ck (fun ha hS => ?_)
      refine ev_callV (iv_V (As := [.ref (gB G + a8)]) (st := []) (pc := 33) rfl m_X2_remember l_X9_204 i_X2_remember e_X2_remember ha hS rfl (Nat.le_of_ble_eq_true rfl) rfl dX9_turn_33) (tX2_remember G fu a7 a8 h5) (by decide) (by decide) (fun h9 => ?_)
      refine ev_step (st_aload_n (pc := 36) (j := 0) dX9_turn_36 rfl rfl) ?_
      refine ev_getR (pc := 37) k_X9_40 rfl dX9_turn_37 (fun a10 => ?_)
      refine ev_step (st_dup (pc := 40) dX9_turn_40 rfl) ?_
      refine ev_getI (pc := 41) k_X9_166 rfl dX9_turn_41 (fun x11 => ?_)
      refine ev_step (st_iconst (pc := 44) dX9_turn_44 ni_1) ?_
      refine ev_step (st_iload_n (pc := 45) (j := 1) dX9_turn_45 rfl rfl) ?_
      refine ev_step (st_ishl (pc := 46) dX9_turn_46) ?_
      refine ev_step (st_ixor (pc := 47) dX9_turn_47) ?_
      refine ev_putI (pc := 48) (p_X9_166 _ rfl) rfl dX9_turn_48 (fun h12 => ?_)
      refine ev_step (st_iconst (pc := 51) dX9_turn_51 ni_1) ?_
      exact ev_zret (pc := 52) dX9_turn_52
set_option maxRecDepth 100000 in
set_option maxHeartbeats 4000000 in
theorem tX9_inform (G : gx) (fu : Nat) (v0 : Nat) (v1 : Int32) (v2 : Int32) (h : mh) : Ct lI G yX9_inform cX9_inform 3 (some .boolean) 3 [.ref (gB G + v0), .int v1, .int v2] h (fX9_inform fu v0 v1 v2 h) := by
  refine ct_ls (ls := [(0, .ref (gB G + v0)), (1, .int v1), (2, .int v2)]) rfl (by decide) (Nat.le_of_ble_eq_true rfl) ?_
  unfold fX9_inform
  refine ev_step (st_aload_n (pc := 0) (j := 0) dX9_inform_0 rfl rfl) ?_
  refine ev_getR (pc := 1) k_X9_30 rfl dX9_inform_1 (fun a1 => ?_)
  refine ev_step (st_iload_n (pc := 4) (j := 1) dX9_inform_4 rfl rfl) ?_
  refine ev_ck (fun ha hS => ?_)
  refine ev_callI (iv_V (As := [.int v1]) (st := []) (pc := 5) rfl m_X6_hasListener l_X9_112 i_X6_hasListener e_X6_hasListener ha hS rfl (Nat.le_of_ble_eq_true rfl) rfl dX9_inform_5) (tX6_hasListener G fu a1 v1 h) (by decide) (by decide) (fun x3 h2 => ?_)
  refine ev_br (br_if_eq (tgt := 34) (pc := 8) dX9_inform_8 (by decide)) (fun _ => ?_) (fun _ => ?_)
  · refine ev_step (st_iconst (pc := 34) dX9_inform_34 ni_0) ?_
    exact ev_zret (pc := 35) dX9_inform_35
  · refine ev_step (st_iload_n (pc := 11) (j := 2) dX9_inform_11 rfl rfl) ?_
    refine ev_callI (iv_S (As := [.int v2]) (st := []) (pc := 12) m_X9_isFact l_X9_207 z_X9_isFact rfl (Nat.le_of_ble_eq_true rfl) rfl dX9_inform_12) (tX9_isFact G fu v2 h2) (by decide) (by decide) (fun x5 h4 => ?_)
    refine ev_br (br_if_eq (tgt := 34) (pc := 15) dX9_inform_15 (by decide)) (fun _ => ?_) (fun _ => ?_)
    · refine ev_step (st_iconst (pc := 34) dX9_inform_34 ni_0) ?_
      exact ev_zret (pc := 35) dX9_inform_35
    · refine ev_step (st_aload_n (pc := 18) (j := 0) dX9_inform_18 rfl rfl) ?_
      refine ev_getR (pc := 19) k_X9_40 rfl dX9_inform_19 (fun a6 => ?_)
      refine ev_getR (pc := 22) k_X9_115 rfl dX9_inform_22 (fun a7 => ?_)
      refine ev_step (st_iload_n (pc := 25) (j := 1) dX9_inform_25 rfl rfl) ?_
      refine ev_ldi (pc := 26) dX9_inform_26 (fun x8 => ?_)
      refine ev_step (st_iload_n (pc := 27) (j := 2) dX9_inform_27 rfl rfl) ?_
      refine ev_callI (iv_S (As := [.int x8, .int v2]) (st := []) (pc := 28) m_X9_holds l_X9_210 z_X9_holds rfl (Nat.le_of_ble_eq_true rfl) rfl dX9_inform_28) (tX9_holds G fu x8 v2 h4) (by decide) (by decide) (fun x10 h9 => ?_)
      refine ev_br (br_if_eq (tgt := 36) (pc := 31) dX9_inform_31 (by decide)) (fun _ => ?_) (fun _ => ?_)
      · refine ev_step (st_aload_n (pc := 36) (j := 0) dX9_inform_36 rfl rfl) ?_
        refine ev_getR (pc := 37) k_X9_57 rfl dX9_inform_37 (fun a11 => ?_)
        refine ev_step (st_aload_n (pc := 40) (j := 0) dX9_inform_40 rfl rfl) ?_
        refine ev_getR (pc := 41) k_X9_40 rfl dX9_inform_41 (fun a12 => ?_)
        refine ev_ck (fun ha hS => ?_)
        refine ev_callV (iv_V (As := [.ref (gB G + a12)]) (st := []) (pc := 44) rfl m_X2_remember l_X9_204 i_X2_remember e_X2_remember ha hS rfl (Nat.le_of_ble_eq_true rfl) rfl dX9_inform_44) (tX2_remember G fu a11 a12 h9) (by decide) (by decide) (fun h13 => ?_)
        refine ev_step (st_aload_n (pc := 47) (j := 0) dX9_inform_47 rfl rfl) ?_
        refine ev_getR (pc := 48) k_X9_40 rfl dX9_inform_48 (fun a14 => ?_)
        refine ev_getR (pc := 51) k_X9_115 rfl dX9_inform_51 (fun a15 => ?_)
        refine ev_step (st_iload_n (pc := 54) (j := 1) dX9_inform_54 rfl rfl) ?_
        refine ev_step (st_dup2 (pc := 55) dX9_inform_55 rfl rfl) ?_
        refine ev_ldi (pc := 56) dX9_inform_56 (fun x16 => ?_)
        refine ev_step (st_iconst (pc := 57) dX9_inform_57 ni_1) ?_
        refine ev_step (st_iload_n (pc := 58) (j := 2) dX9_inform_58 rfl rfl) ?_
        refine ev_step (st_ishl (pc := 59) dX9_inform_59) ?_
        refine ev_step (st_ior (pc := 60) dX9_inform_60) ?_
        refine ev_sti (pc := 61) dX9_inform_61 (fun h17 => ?_)
        refine ev_step (st_iconst (pc := 62) dX9_inform_62 ni_1) ?_
        exact ev_zret (pc := 63) dX9_inform_63
      · refine ev_step (st_iconst (pc := 34) dX9_inform_34 ni_0) ?_
        exact ev_zret (pc := 35) dX9_inform_35
set_option maxRecDepth 100000 in
set_option maxHeartbeats 4000000 in
theorem tX9_gainOfTalk (G : gx) (fu : Nat) (v0 : Nat) (v1 : Int32) (v2 : Int32) (h : mh) : Ct lI G yX9_gainOfTalk cX9_gainOfTalk 3 (some .int) 2 [.ref (gB G + v0), .int v1, .int v2] h (fX9_gainOfTalk fu v0 v1 v2 h) := by
  refine ct_ls (ls := [(0, .ref (gB G + v0)), (1, .int v1), (2, .int v2)]) rfl (by decide) (Nat.le_of_ble_eq_true rfl) ?_
  unfold fX9_gainOfTalk
  refine ev_step (st_aload_n (pc := 0) (j := 0) dX9_gainOfTalk_0 rfl rfl) ?_
  refine ev_getR (pc := 1) k_X9_40 rfl dX9_gainOfTalk_1 (fun a1 => ?_)
  refine ev_getR (pc := 4) k_X9_115 rfl dX9_gainOfTalk_4 (fun a2 => ?_)
  refine ev_step (st_iload_n (pc := 7) (j := 1) dX9_gainOfTalk_7 rfl rfl) ?_
  refine ev_ldi (pc := 8) dX9_gainOfTalk_8 (fun x3 => ?_)
  refine ev_step (st_aload_n (pc := 9) (j := 0) dX9_gainOfTalk_9 rfl rfl) ?_
  refine ev_getR (pc := 10) k_X9_40 rfl dX9_gainOfTalk_10 (fun a4 => ?_)
  refine ev_getR (pc := 13) k_X9_115 rfl dX9_gainOfTalk_13 (fun a5 => ?_)
  refine ev_step (st_iload_n (pc := 16) (j := 2) dX9_gainOfTalk_16 rfl rfl) ?_
  refine ev_ldi (pc := 17) dX9_gainOfTalk_17 (fun x6 => ?_)
  refine ev_step (st_ixor (pc := 18) dX9_gainOfTalk_18) ?_
  refine ev_callI (iv_S (As := [.int (x3 ^^^ x6)]) (st := []) (pc := 19) m_J6_bitCount_0f7a4 l_X9_177 z_J6_bitCount_0f7a4 rfl (Nat.le_of_ble_eq_true rfl) rfl dX9_gainOfTalk_19) (tJ6_bitCount_0f7a4 G fu (x3 ^^^ x6) h) (by decide) (by decide) (fun x8 h7 => ?_)
  exact ev_iret (pc := 22) dX9_gainOfTalk_22
set_option maxRecDepth 100000 in
set_option maxHeartbeats 4000000 in
theorem tX9_undo (G : gx) (fu : Nat) (v0 : Nat) (h : mh) : Ct lI G yX9_undo cX9_undo 1 (some .boolean) 3 [.ref (gB G + v0)] h (fX9_undo fu v0 h) := by
  refine ct_ls (ls := [(0, .ref (gB G + v0))]) rfl (by decide) (Nat.le_of_ble_eq_true rfl) ?_
  unfold fX9_undo
  refine ev_step (st_aload_n (pc := 0) (j := 0) dX9_undo_0 rfl rfl) ?_
  refine ev_getR (pc := 1) k_X9_57 rfl dX9_undo_1 (fun a1 => ?_)
  refine ev_step (st_aload_n (pc := 4) (j := 0) dX9_undo_4 rfl rfl) ?_
  refine ev_getR (pc := 5) k_X9_40 rfl dX9_undo_5 (fun a2 => ?_)
  refine ev_ck (fun ha hS => ?_)
  refine ev_callI (iv_V (As := [.ref (gB G + a2)]) (st := []) (pc := 8) rfl m_X2_takeBack l_X9_224 i_X2_takeBack e_X2_takeBack ha hS rfl (Nat.le_of_ble_eq_true rfl) rfl dX9_undo_8) (tX2_takeBack G fu a1 a2 h) (by decide) (by decide) (fun x4 h3 => ?_)
  exact ev_zret (pc := 11) dX9_undo_11
set_option maxRecDepth 100000 in
set_option maxHeartbeats 4000000 in
theorem tX9_hold (G : gx) (fu : Nat) (v0 : Nat) (v1 : Int32) (h : mh) : Ct lI G yX9_hold cX9_hold 2 (some .boolean) 3 [.ref (gB G + v0), .int v1] h (fX9_hold fu v0 v1 h) := by
  refine ct_ls (ls := [(0, .ref (gB G + v0)), (1, .int v1)]) rfl (by decide) (Nat.le_of_ble_eq_true rfl) ?_
  unfold fX9_hold
  refine ev_step (st_aload_n (pc := 0) (j := 0) dX9_hold_0 rfl rfl) ?_
  refine ev_getR (pc := 1) k_X9_57 rfl dX9_hold_1 (fun a1 => ?_)
  refine ev_step (st_iload_n (pc := 4) (j := 1) dX9_hold_4 rfl rfl) ?_
  refine ev_step (st_aload_n (pc := 5) (j := 0) dX9_hold_5 rfl rfl) ?_
  refine ev_getR (pc := 6) k_X9_40 rfl dX9_hold_6 (fun a2 => ?_)
  refine ev_ck (fun ha hS => ?_)
  refine ev_callI (iv_V (As := [.int v1, .ref (gB G + a2)]) (st := []) (pc := 9) rfl m_X2_keep l_X9_228 i_X2_keep e_X2_keep ha hS rfl (Nat.le_of_ble_eq_true rfl) rfl dX9_hold_9) (tX2_keep G fu a1 v1 a2 h) (by decide) (by decide) (fun x4 h3 => ?_)
  exact ev_zret (pc := 12) dX9_hold_12
set_option maxRecDepth 100000 in
set_option maxHeartbeats 4000000 in
theorem tX9_restore (G : gx) (fu : Nat) (v0 : Nat) (v1 : Int32) (h : mh) : Ct lI G yX9_restore cX9_restore 2 (some .boolean) 3 [.ref (gB G + v0), .int v1] h (fX9_restore fu v0 v1 h) := by
  refine ct_ls (ls := [(0, .ref (gB G + v0)), (1, .int v1)]) rfl (by decide) (Nat.le_of_ble_eq_true rfl) ?_
  unfold fX9_restore
  refine ev_step (st_aload_n (pc := 0) (j := 0) dX9_restore_0 rfl rfl) ?_
  refine ev_getR (pc := 1) k_X9_57 rfl dX9_restore_1 (fun a1 => ?_)
  refine ev_step (st_iload_n (pc := 4) (j := 1) dX9_restore_4 rfl rfl) ?_
  refine ev_step (st_aload_n (pc := 5) (j := 0) dX9_restore_5 rfl rfl) ?_
  refine ev_getR (pc := 6) k_X9_40 rfl dX9_restore_6 (fun a2 => ?_)
  refine ev_ck (fun ha hS => ?_)
  refine ev_callI (iv_V (As := [.int v1, .ref (gB G + a2)]) (st := []) (pc := 9) rfl m_X2_giveBack l_X9_232 i_X2_giveBack e_X2_giveBack ha hS rfl (Nat.le_of_ble_eq_true rfl) rfl dX9_restore_9) (tX2_giveBack G fu a1 v1 a2 h) (by decide) (by decide) (fun x4 h3 => ?_)
  exact ev_zret (pc := 12) dX9_restore_12
set_option maxRecDepth 100000 in
set_option maxHeartbeats 4000000 in
theorem tX9_holdersOf_37 (G : gx) (fu : Nat) (h0 : mh) (v0 : Nat) (v1 : Int32) (v2 : Int32) (v3 : Int32) (k4 : Int32 × Int32 × mh → Option (Int32 × mh)) (hk4 : ∀ (v2 : Int32) (v3 : Int32) (h : mh), Ev lI G yX9_holdersOf cX9_holdersOf 4 (some .int) 2 h0 4 [(0, .ref (gB G + v0)), (1, .int v1), (2, .int v2), (3, .int v3)] [] h (k4 (v2, v3, h))) (h : mh) : Ev lI G yX9_holdersOf cX9_holdersOf 4 (some .int) 2 h0 37 [(0, .ref (gB G + v0)), (1, .int v1), (2, .int v2), (3, .int v3)] [] h (fX9_holdersOf_37 fu k4 v0 v1 v2 v3 h) := by
  unfold fX9_holdersOf_37
  refine ev_step (st_inc (pc := 37) (j := 3) (ls' := [(3, .int (v3 + (1 : Int32))), (0, .ref (gB G + v0)), (1, .int v1), (2, .int v2)]) dX9_holdersOf_37 rfl ni_1 (by decide) rfl) ?_
  refine ev_step (st_goto (pc := 40) (tgt := 4) dX9_holdersOf_40 (by decide)) ?_
  refine ev_sub (ls' := [(0, .ref (gB G + v0)), (1, .int v1), (2, .int v2), (3, .int (v3 + (1 : Int32)))]) [1, 2, 3, 0] rfl ?_
  exact hk4 v2 (v3 + (1 : Int32)) h
set_option maxRecDepth 100000 in
set_option maxHeartbeats 4000000 in
theorem tX9_holdersOf_4 (G : gx) (fu : Nat) (h0 : mh) (v0 : Nat) (v1 : Int32) (n : Nat) (v2 : Int32) (v3 : Int32) (h : mh) : Ev lI G yX9_holdersOf cX9_holdersOf 4 (some .int) 2 h0 4 [(0, .ref (gB G + v0)), (1, .int v1), (2, .int v2), (3, .int v3)] [] h (itr (bX9_holdersOf_4 fu v0 v1) n (v2, v3, h)) := by
  refine ev_itr (P := fun (q : Int32 × Int32 × mh) (R9 : Option (Int32 × mh)) => Ev lI G yX9_holdersOf cX9_holdersOf 4 (some .int) 2 h0 4 [(0, .ref (gB G + v0)), (1, .int v1), (2, .int q.1), (3, .int q.2.1)] [] q.2.2 R9) (fun _ => ev_none) (fun k4 hk9 q => ?_) n (v2, v3, h)
  obtain ⟨v2, v3, h⟩ := q
  have hk4 : ∀ (v2 : Int32) (v3 : Int32) (h : mh), Ev lI G yX9_holdersOf cX9_holdersOf 4 (some .int) 2 h0 4 [(0, .ref (gB G + v0)), (1, .int v1), (2, .int v2), (3, .int v3)] [] h (k4 (v2, v3, h)) := fun v2 v3 h => hk9 (v2, v3, h)
  show Ev lI G yX9_holdersOf cX9_holdersOf 4 (some .int) 2 h0 4 [(0, .ref (gB G + v0)), (1, .int v1), (2, .int v2), (3, .int v3)] [] h (bX9_holdersOf_4 fu v0 v1 k4 (v2, v3, h))
  unfold bX9_holdersOf_4
  refine ev_step (st_iload_n (pc := 4) (j := 3) dX9_holdersOf_4 rfl rfl) ?_
  refine ev_step (st_aload_n (pc := 5) (j := 0) dX9_holdersOf_5 rfl rfl) ?_
  refine ev_getR (pc := 6) k_X9_30 rfl dX9_holdersOf_6 (fun a1 => ?_)
  refine ev_getI (pc := 9) k_X9_150 rfl dX9_holdersOf_9 (fun x2 => ?_)
  refine ev_br (br_icmp_ge (tgt := 43) (pc := 12) dX9_holdersOf_12 (by decide)) (fun _ => ?_) (fun _ => ?_)
  · refine ev_step (st_iload_n (pc := 43) (j := 2) dX9_holdersOf_43 rfl rfl) ?_
    exact ev_iret (pc := 44) dX9_holdersOf_44
  · refine ev_step (st_aload_n (pc := 15) (j := 0) dX9_holdersOf_15 rfl rfl) ?_
    refine ev_getR (pc := 16) k_X9_40 rfl dX9_holdersOf_16 (fun a3 => ?_)
    refine ev_getR (pc := 19) k_X9_115 rfl dX9_holdersOf_19 (fun a4 => ?_)
    refine ev_step (st_iload_n (pc := 22) (j := 3) dX9_holdersOf_22 rfl rfl) ?_
    refine ev_ldi (pc := 23) dX9_holdersOf_23 (fun x5 => ?_)
    refine ev_step (st_iload_n (pc := 24) (j := 1) dX9_holdersOf_24 rfl rfl) ?_
    refine ev_callI (iv_S (As := [.int x5, .int v1]) (st := []) (pc := 25) m_X9_holds l_X9_210 z_X9_holds rfl (Nat.le_of_ble_eq_true rfl) rfl dX9_holdersOf_25) (tX9_holds G fu x5 v1 h) (by decide) (by decide) (fun x7 h6 => ?_)
    refine ev_br (br_if_eq (tgt := 37) (pc := 28) dX9_holdersOf_28 (by decide)) (fun _ => ?_) (fun _ => ?_)
    · refine ev_sub (ls' := [(0, .ref (gB G + v0)), (1, .int v1), (2, .int v2), (3, .int v3)]) [0, 1, 2, 3] rfl ?_
      exact tX9_holdersOf_37 G fu h0 v0 v1 v2 v3 k4 hk4 h6
    · refine ev_step (st_iload_n (pc := 31) (j := 2) dX9_holdersOf_31 rfl rfl) ?_
      refine ev_step (st_iconst (pc := 32) dX9_holdersOf_32 ni_1) ?_
      refine ev_step (st_iload_n (pc := 33) (j := 3) dX9_holdersOf_33 rfl rfl) ?_
      refine ev_step (st_ishl (pc := 34) dX9_holdersOf_34) ?_
      refine ev_step (st_ior (pc := 35) dX9_holdersOf_35) ?_
      refine ev_top (fun x8 => ?_)
      refine ev_step (st_istore_n (pc := 36) (ls' := [(2, .int x8), (0, .ref (gB G + v0)), (1, .int v1), (3, .int v3)]) dX9_holdersOf_36 rfl (by decide) rfl) ?_
      refine ev_sub (ls' := [(0, .ref (gB G + v0)), (1, .int v1), (2, .int x8), (3, .int v3)]) [1, 2, 0, 3] rfl ?_
      exact tX9_holdersOf_37 G fu h0 v0 v1 x8 v3 k4 hk4 h6
set_option maxRecDepth 100000 in
set_option maxHeartbeats 4000000 in
theorem tX9_holdersOf (G : gx) (fu : Nat) (v0 : Nat) (v1 : Int32) (h : mh) : Ct lI G yX9_holdersOf cX9_holdersOf 4 (some .int) 2 [.ref (gB G + v0), .int v1] h (fX9_holdersOf fu v0 v1 h) := by
  refine ct_ls (ls := [(0, .ref (gB G + v0)), (1, .int v1)]) rfl (by decide) (Nat.le_of_ble_eq_true rfl) ?_
  unfold fX9_holdersOf
  refine ev_step (st_iconst (pc := 0) dX9_holdersOf_0 ni_0) ?_
  refine ev_step (st_istore_n (pc := 1) (ls' := [(2, .int ((0 : Int32))), (0, .ref (gB G + v0)), (1, .int v1)]) dX9_holdersOf_1 rfl (by decide) rfl) ?_
  refine ev_step (st_iconst (pc := 2) dX9_holdersOf_2 ni_0) ?_
  refine ev_step (st_istore_n (pc := 3) (ls' := [(3, .int ((0 : Int32))), (2, .int ((0 : Int32))), (0, .ref (gB G + v0)), (1, .int v1)]) dX9_holdersOf_3 rfl (by decide) rfl) ?_
  refine ev_sub (ls' := [(0, .ref (gB G + v0)), (1, .int v1), (2, .int ((0 : Int32))), (3, .int ((0 : Int32)))]) [2, 3, 1, 0] rfl ?_
  exact tX9_holdersOf_4 G fu h v0 v1 fu ((0 : Int32)) ((0 : Int32)) h
set_option maxRecDepth 100000 in
set_option maxHeartbeats 4000000 in
theorem tX9_rarest_49 (G : gx) (fu : Nat) (h0 : mh) (v0 : Nat) (v1 : Int32) (v2 : Int32) (v3 : Int32) (v4 : Int32) (v5 : Int32) (k19 : Int32 × Int32 × Int32 × mh → Option (Int32 × mh)) (hk19 : ∀ (v2 : Int32) (v3 : Int32) (v4 : Int32) (h : mh), Ev lI G yX9_rarest cX9_rarest 6 (some .int) 3 h0 19 [(0, .ref (gB G + v0)), (1, .int v1), (2, .int v2), (3, .int v3), (4, .int v4)] [] h (k19 (v2, v3, v4, h))) (h : mh) : Ev lI G yX9_rarest cX9_rarest 6 (some .int) 3 h0 49 [(0, .ref (gB G + v0)), (1, .int v1), (2, .int v2), (3, .int v3), (4, .int v4), (5, .int v5)] [] h (fX9_rarest_49 fu k19 v0 v1 v2 v3 v4 v5 h) := by
  unfold fX9_rarest_49
  refine ev_step (st_inc (pc := 49) (j := 4) (ls' := [(4, .int (v4 + (1 : Int32))), (0, .ref (gB G + v0)), (1, .int v1), (2, .int v2), (3, .int v3), (5, .int v5)]) dX9_rarest_49 rfl ni_1 (by decide) rfl) ?_
  refine ev_step (st_goto (pc := 52) (tgt := 19) dX9_rarest_52 (by decide)) ?_
  refine ev_sub (ls' := [(0, .ref (gB G + v0)), (1, .int v1), (2, .int v2), (3, .int v3), (4, .int (v4 + (1 : Int32)))]) [1, 2, 3, 4, 0] rfl ?_
  exact hk19 v2 v3 (v4 + (1 : Int32)) h
set_option maxRecDepth 100000 in
set_option maxHeartbeats 4000000 in
theorem tX9_rarest_55 (G : gx) (fu : Nat) (h0 : mh) (v0 : Nat) (v1 : Int32) (v2 : Int32) (v3 : Int32) (v4 : Int32) (h : mh) : Ev lI G yX9_rarest cX9_rarest 6 (some .int) 3 h0 55 [(0, .ref (gB G + v0)), (1, .int v1), (2, .int v2), (3, .int v3), (4, .int v4)] [] h (fX9_rarest_55 fu v0 v1 v2 v3 v4 h) := by
  unfold fX9_rarest_55
  refine ev_step (st_iload_n (pc := 55) (j := 1) dX9_rarest_55 rfl rfl) ?_
  refine ev_br (br_if_ne (tgt := 63) (pc := 56) dX9_rarest_56 (by decide)) (fun _ => ?_) (fun _ => ?_)
  · refine ev_step (st_iload_n (pc := 59) (j := 2) dX9_rarest_59 rfl rfl) ?_
    refine ev_step (st_goto (pc := 60) (tgt := 64) dX9_rarest_60 (by decide)) ?_
    exact ev_iret (pc := 64) dX9_rarest_64
  · refine ev_step (st_iload_n (pc := 63) (j := 3) dX9_rarest_63 rfl rfl) ?_
    exact ev_iret (pc := 64) dX9_rarest_64
set_option maxRecDepth 100000 in
set_option maxHeartbeats 4000000 in
theorem tX9_rarest_19 (G : gx) (fu : Nat) (h0 : mh) (v0 : Nat) (v1 : Int32) (n : Nat) (v2 : Int32) (v3 : Int32) (v4 : Int32) (h : mh) : Ev lI G yX9_rarest cX9_rarest 6 (some .int) 3 h0 19 [(0, .ref (gB G + v0)), (1, .int v1), (2, .int v2), (3, .int v3), (4, .int v4)] [] h (itr (bX9_rarest_19 fu v0 v1) n (v2, v3, v4, h)) := by
  refine ev_itr (P := fun (q : Int32 × Int32 × Int32 × mh) (R9 : Option (Int32 × mh)) => Ev lI G yX9_rarest cX9_rarest 6 (some .int) 3 h0 19 [(0, .ref (gB G + v0)), (1, .int v1), (2, .int q.1), (3, .int q.2.1), (4, .int q.2.2.1)] [] q.2.2.2 R9) (fun _ => ev_none) (fun k19 hk9 q => ?_) n (v2, v3, v4, h)
  obtain ⟨v2, v3, v4, h⟩ := q
  have hk19 : ∀ (v2 : Int32) (v3 : Int32) (v4 : Int32) (h : mh), Ev lI G yX9_rarest cX9_rarest 6 (some .int) 3 h0 19 [(0, .ref (gB G + v0)), (1, .int v1), (2, .int v2), (3, .int v3), (4, .int v4)] [] h (k19 (v2, v3, v4, h)) := fun v2 v3 v4 h => hk9 (v2, v3, v4, h)
  show Ev lI G yX9_rarest cX9_rarest 6 (some .int) 3 h0 19 [(0, .ref (gB G + v0)), (1, .int v1), (2, .int v2), (3, .int v3), (4, .int v4)] [] h (bX9_rarest_19 fu v0 v1 k19 (v2, v3, v4, h))
  unfold bX9_rarest_19
  refine ev_step (st_iload (pc := 19) (j := 4) dX9_rarest_19 rfl) ?_
  refine ev_step (st_bipush (pc := 21) dX9_rarest_21 nb_8) ?_
  refine ev_br (br_icmp_ge (tgt := 55) (pc := 23) dX9_rarest_23 (by decide)) (fun _ => ?_) (fun _ => ?_)
  · refine ev_sub (ls' := [(0, .ref (gB G + v0)), (1, .int v1), (2, .int v2), (3, .int v3), (4, .int v4)]) [0, 1, 2, 3, 4] rfl ?_
    exact tX9_rarest_55 G fu h0 v0 v1 v2 v3 v4 h
  · refine ev_step (st_aload_n (pc := 26) (j := 0) dX9_rarest_26 rfl rfl) ?_
    refine ev_step (st_iload (pc := 27) (j := 4) dX9_rarest_27 rfl) ?_
    refine ev_ck (fun ha hS => ?_)
    refine ev_callI (iv_V (As := [.int v4]) (st := []) (pc := 29) rfl m_X9_holdersOf l_X9_277 i_X9_holdersOf e_X9_holdersOf ha hS rfl (Nat.le_of_ble_eq_true rfl) rfl dX9_rarest_29) (tX9_holdersOf G fu v0 v4 h) (by decide) (by decide) (fun x2 h1 => ?_)
    refine ev_callI (iv_S (As := [.int x2]) (st := []) (pc := 32) m_J6_bitCount_0f7a4 l_X9_177 z_J6_bitCount_0f7a4 rfl (Nat.le_of_ble_eq_true rfl) rfl dX9_rarest_32) (tJ6_bitCount_0f7a4 G fu x2 h1) (by decide) (by decide) (fun x4 h3 => ?_)
    refine ev_step (st_istore (pc := 35) (ls' := [(5, .int x4), (0, .ref (gB G + v0)), (1, .int v1), (2, .int v2), (3, .int v3), (4, .int v4)]) dX9_rarest_35 (by decide) rfl) ?_
    refine ev_step (st_iload (pc := 37) (j := 0) dX9_rarest_37 rfl) ?_
    refine ev_step (st_iload_n (pc := 39) (j := 4) dX9_rarest_39 rfl rfl) ?_
    refine ev_br (br_icmp_ge (tgt := 49) (pc := 40) dX9_rarest_40 (by decide)) (fun _ => ?_) (fun _ => ?_)
    · refine ev_sub (ls' := [(0, .ref (gB G + v0)), (1, .int v1), (2, .int v2), (3, .int v3), (4, .int v4), (5, .int x4)]) [1, 2, 3, 4, 5, 0] rfl ?_
      exact tX9_rarest_49 G fu h0 v0 v1 v2 v3 v4 x4 k19 hk19 h3
    · refine ev_step (st_iload (pc := 43) (j := 0) dX9_rarest_43 rfl) ?_
      refine ev_step (st_istore_n (pc := 45) (ls' := [(3, .int x4), (5, .int x4), (0, .ref (gB G + v0)), (1, .int v1), (2, .int v2), (4, .int v4)]) dX9_rarest_45 rfl (by decide) rfl) ?_
      refine ev_step (st_iload (pc := 46) (j := 5) dX9_rarest_46 rfl) ?_
      refine ev_step (st_istore_n (pc := 48) (ls' := [(2, .int v4), (3, .int x4), (5, .int x4), (0, .ref (gB G + v0)), (1, .int v1), (4, .int v4)]) dX9_rarest_48 rfl (by decide) rfl) ?_
      refine ev_sub (ls' := [(0, .ref (gB G + v0)), (1, .int v1), (2, .int v4), (3, .int x4), (4, .int v4), (5, .int x4)]) [3, 4, 0, 1, 5, 2] rfl ?_
      exact tX9_rarest_49 G fu h0 v0 v1 v4 x4 v4 x4 k19 hk19 h3
set_option maxRecDepth 100000 in
set_option maxHeartbeats 4000000 in
theorem tX9_rarest (G : gx) (fu : Nat) (v0 : Nat) (v1 : Int32) (h : mh) : Ct lI G yX9_rarest cX9_rarest 6 (some .int) 3 [.ref (gB G + v0), .int v1] h (fX9_rarest fu v0 v1 h) := by
  refine ct_ls (ls := [(0, .ref (gB G + v0)), (1, .int v1)]) rfl (by decide) (Nat.le_of_ble_eq_true rfl) ?_
  unfold fX9_rarest
  refine ev_step (st_iload_n (pc := 0) (j := 1) dX9_rarest_0 rfl rfl) ?_
  refine ev_br (br_if_lt (tgt := 9) (pc := 1) dX9_rarest_1 (by decide)) (fun _ => ?_) (fun _ => ?_)
  · refine ev_step (st_iconst (pc := 9) dX9_rarest_9 ni_m1) ?_
    exact ev_iret (pc := 10) dX9_rarest_10
  · refine ev_step (st_iload_n (pc := 4) (j := 1) dX9_rarest_4 rfl rfl) ?_
    refine ev_step (st_iconst (pc := 5) dX9_rarest_5 ni_1) ?_
    refine ev_br (br_icmp_le (tgt := 11) (pc := 6) dX9_rarest_6 (by decide)) (fun _ => ?_) (fun _ => ?_)
    · refine ev_step (st_iconst (pc := 11) dX9_rarest_11 ni_0) ?_
      refine ev_step (st_istore_n (pc := 12) (ls' := [(2, .int ((0 : Int32))), (0, .ref (gB G + v0)), (1, .int v1)]) dX9_rarest_12 rfl (by decide) rfl) ?_
      refine ev_step (st_bipush (pc := 13) dX9_rarest_13 nb_7) ?_
      refine ev_step (st_istore_n (pc := 15) (ls' := [(3, .int ((7 : Int32))), (2, .int ((0 : Int32))), (0, .ref (gB G + v0)), (1, .int v1)]) dX9_rarest_15 rfl (by decide) rfl) ?_
      refine ev_step (st_iconst (pc := 16) dX9_rarest_16 ni_0) ?_
      refine ev_step (st_istore (pc := 17) (ls' := [(4, .int ((0 : Int32))), (3, .int ((7 : Int32))), (2, .int ((0 : Int32))), (0, .ref (gB G + v0)), (1, .int v1)]) dX9_rarest_17 (by decide) rfl) ?_
      refine ev_sub (ls' := [(0, .ref (gB G + v0)), (1, .int v1), (2, .int ((0 : Int32))), (3, .int ((7 : Int32))), (4, .int ((0 : Int32)))]) [3, 4, 2, 1, 0] rfl ?_
      exact tX9_rarest_19 G fu h v0 v1 fu ((0 : Int32)) ((7 : Int32)) ((0 : Int32)) h
    · refine ev_step (st_iconst (pc := 9) dX9_rarest_9 ni_m1) ?_
      exact ev_iret (pc := 10) dX9_rarest_10
set_option maxRecDepth 100000 in
set_option maxHeartbeats 4000000 in
theorem tX9_together_52 (G : gx) (fu : Nat) (h0 : mh) (v0 : Nat) (v1 : Int32) (v2 : Int32) (v3 : Int32) (v4 : Int32) (k16 : Int32 × Int32 × mh → Option (Int32 × mh)) (hk16 : ∀ (v3 : Int32) (v4 : Int32) (h : mh), Ev lI G yX9_together cX9_together 5 (some .boolean) 2 h0 16 [(0, .ref (gB G + v0)), (1, .int v1), (2, .int v2), (3, .int v3), (4, .int v4)] [] h (k16 (v3, v4, h))) (h : mh) : Ev lI G yX9_together cX9_together 5 (some .boolean) 2 h0 52 [(0, .ref (gB G + v0)), (1, .int v1), (2, .int v2), (3, .int v3), (4, .int v4)] [] h (fX9_together_52 fu k16 v0 v1 v2 v3 v4 h) := by
  unfold fX9_together_52
  refine ev_step (st_inc (pc := 52) (j := 4) (ls' := [(4, .int (v4 + (1 : Int32))), (0, .ref (gB G + v0)), (1, .int v1), (2, .int v2), (3, .int v3)]) dX9_together_52 rfl ni_1 (by decide) rfl) ?_
  refine ev_step (st_goto (pc := 55) (tgt := 16) dX9_together_55 (by decide)) ?_
  refine ev_sub (ls' := [(0, .ref (gB G + v0)), (1, .int v1), (2, .int v2), (3, .int v3), (4, .int (v4 + (1 : Int32)))]) [1, 2, 3, 4, 0] rfl ?_
  exact hk16 v3 (v4 + (1 : Int32)) h
set_option maxRecDepth 100000 in
set_option maxHeartbeats 4000000 in
theorem tX9_together_58 (G : gx) (fu : Nat) (h0 : mh) (v0 : Nat) (v1 : Int32) (v2 : Int32) (v3 : Int32) (v4 : Int32) (h : mh) : Ev lI G yX9_together cX9_together 5 (some .boolean) 2 h0 58 [(0, .ref (gB G + v0)), (1, .int v1), (2, .int v2), (3, .int v3), (4, .int v4)] [] h (fX9_together_58 fu v0 v1 v2 v3 v4 h) := by
  unfold fX9_together_58
  refine ev_step (st_iload_n (pc := 58) (j := 3) dX9_together_58 rfl rfl) ?_
  refine ev_br (br_if_ne (tgt := 66) (pc := 59) dX9_together_59 (by decide)) (fun _ => ?_) (fun _ => ?_)
  · refine ev_step (st_iconst (pc := 62) dX9_together_62 ni_1) ?_
    refine ev_step (st_goto (pc := 63) (tgt := 67) dX9_together_63 (by decide)) ?_
    exact ev_zret (pc := 67) dX9_together_67
  · refine ev_step (st_iconst (pc := 66) dX9_together_66 ni_0) ?_
    exact ev_zret (pc := 67) dX9_together_67
set_option maxRecDepth 100000 in
set_option maxHeartbeats 4000000 in
theorem tX9_together_16 (G : gx) (fu : Nat) (h0 : mh) (v0 : Nat) (v1 : Int32) (v2 : Int32) (n : Nat) (v3 : Int32) (v4 : Int32) (h : mh) : Ev lI G yX9_together cX9_together 5 (some .boolean) 2 h0 16 [(0, .ref (gB G + v0)), (1, .int v1), (2, .int v2), (3, .int v3), (4, .int v4)] [] h (itr (bX9_together_16 fu v0 v1 v2) n (v3, v4, h)) := by
  refine ev_itr (P := fun (q : Int32 × Int32 × mh) (R9 : Option (Int32 × mh)) => Ev lI G yX9_together cX9_together 5 (some .boolean) 2 h0 16 [(0, .ref (gB G + v0)), (1, .int v1), (2, .int v2), (3, .int q.1), (4, .int q.2.1)] [] q.2.2 R9) (fun _ => ev_none) (fun k16 hk9 q => ?_) n (v3, v4, h)
  obtain ⟨v3, v4, h⟩ := q
  have hk16 : ∀ (v3 : Int32) (v4 : Int32) (h : mh), Ev lI G yX9_together cX9_together 5 (some .boolean) 2 h0 16 [(0, .ref (gB G + v0)), (1, .int v1), (2, .int v2), (3, .int v3), (4, .int v4)] [] h (k16 (v3, v4, h)) := fun v3 v4 h => hk9 (v3, v4, h)
  show Ev lI G yX9_together cX9_together 5 (some .boolean) 2 h0 16 [(0, .ref (gB G + v0)), (1, .int v1), (2, .int v2), (3, .int v3), (4, .int v4)] [] h (bX9_together_16 fu v0 v1 v2 k16 (v3, v4, h))
  unfold bX9_together_16
  refine ev_step (st_iload (pc := 16) (j := 4) dX9_together_16 rfl) ?_
  refine ev_step (st_aload_n (pc := 18) (j := 0) dX9_together_18 rfl rfl) ?_
  refine ev_getR (pc := 19) k_X9_30 rfl dX9_together_19 (fun a1 => ?_)
  refine ev_getI (pc := 22) k_X9_150 rfl dX9_together_22 (fun x2 => ?_)
  refine ev_br (br_icmp_ge (tgt := 58) (pc := 25) dX9_together_25 (by decide)) (fun _ => ?_) (fun _ => ?_)
  · refine ev_sub (ls' := [(0, .ref (gB G + v0)), (1, .int v1), (2, .int v2), (3, .int v3), (4, .int v4)]) [0, 1, 2, 3, 4] rfl ?_
    exact tX9_together_58 G fu h0 v0 v1 v2 v3 v4 h
  · refine ev_step (st_iload_n (pc := 28) (j := 2) dX9_together_28 rfl rfl) ?_
    refine ev_step (st_iload (pc := 29) (j := 4) dX9_together_29 rfl) ?_
    refine ev_callI (iv_S (As := [.int v2, .int v4]) (st := []) (pc := 31) m_X9_holds l_X9_210 z_X9_holds rfl (Nat.le_of_ble_eq_true rfl) rfl dX9_together_31) (tX9_holds G fu v2 v4 h) (by decide) (by decide) (fun x4 h3 => ?_)
    refine ev_br (br_if_eq (tgt := 52) (pc := 34) dX9_together_34 (by decide)) (fun _ => ?_) (fun _ => ?_)
    · refine ev_sub (ls' := [(0, .ref (gB G + v0)), (1, .int v1), (2, .int v2), (3, .int v3), (4, .int v4)]) [0, 1, 2, 3, 4] rfl ?_
      exact tX9_together_52 G fu h0 v0 v1 v2 v3 v4 k16 hk16 h3
    · refine ev_step (st_iload_n (pc := 37) (j := 3) dX9_together_37 rfl rfl) ?_
      refine ev_step (st_aload_n (pc := 38) (j := 0) dX9_together_38 rfl rfl) ?_
      refine ev_getR (pc := 39) k_X9_40 rfl dX9_together_39 (fun a5 => ?_)
      refine ev_getR (pc := 42) k_X9_115 rfl dX9_together_42 (fun a6 => ?_)
      refine ev_step (st_iload (pc := 45) (j := 4) dX9_together_45 rfl) ?_
      refine ev_ldi (pc := 47) dX9_together_47 (fun x7 => ?_)
      refine ev_step (st_iconst (pc := 48) dX9_together_48 ni_m1) ?_
      refine ev_step (st_ixor (pc := 49) dX9_together_49) ?_
      refine ev_step (st_iand (pc := 50) dX9_together_50) ?_
      refine ev_top (fun x8 => ?_)
      refine ev_step (st_istore_n (pc := 51) (ls' := [(3, .int x8), (0, .ref (gB G + v0)), (1, .int v1), (2, .int v2), (4, .int v4)]) dX9_together_51 rfl (by decide) rfl) ?_
      refine ev_sub (ls' := [(0, .ref (gB G + v0)), (1, .int v1), (2, .int v2), (3, .int x8), (4, .int v4)]) [1, 2, 3, 0, 4] rfl ?_
      exact tX9_together_52 G fu h0 v0 v1 v2 x8 v4 k16 hk16 h3
set_option maxRecDepth 100000 in
set_option maxHeartbeats 4000000 in
theorem tX9_together (G : gx) (fu : Nat) (v0 : Nat) (v1 : Int32) (v2 : Int32) (h : mh) : Ct lI G yX9_together cX9_together 5 (some .boolean) 2 [.ref (gB G + v0), .int v1, .int v2] h (fX9_together fu v0 v1 v2 h) := by
  refine ct_ls (ls := [(0, .ref (gB G + v0)), (1, .int v1), (2, .int v2)]) rfl (by decide) (Nat.le_of_ble_eq_true rfl) ?_
  unfold fX9_together
  refine ev_step (st_aload_n (pc := 0) (j := 0) dX9_together_0 rfl rfl) ?_
  refine ev_getR (pc := 1) k_X9_30 rfl dX9_together_1 (fun a1 => ?_)
  refine ev_step (st_aload_n (pc := 4) (j := 0) dX9_together_4 rfl rfl) ?_
  refine ev_getR (pc := 5) k_X9_40 rfl dX9_together_5 (fun a2 => ?_)
  refine ev_step (st_iload_n (pc := 8) (j := 1) dX9_together_8 rfl rfl) ?_
  refine ev_ck (fun ha hS => ?_)
  refine ev_callI (iv_V (As := [.ref (gB G + a2), .int v1]) (st := []) (pc := 9) rfl m_X6_lackedBy l_X9_274 i_X6_lackedBy e_X6_lackedBy ha hS rfl (Nat.le_of_ble_eq_true rfl) rfl dX9_together_9) (tX6_lackedBy G fu a1 a2 v1 h) (by decide) (by decide) (fun x4 h3 => ?_)
  refine ev_step (st_istore_n (pc := 12) (ls' := [(3, .int x4), (0, .ref (gB G + v0)), (1, .int v1), (2, .int v2)]) dX9_together_12 rfl (by decide) rfl) ?_
  refine ev_step (st_iconst (pc := 13) dX9_together_13 ni_0) ?_
  refine ev_step (st_istore (pc := 14) (ls' := [(4, .int ((0 : Int32))), (3, .int x4), (0, .ref (gB G + v0)), (1, .int v1), (2, .int v2)]) dX9_together_14 (by decide) rfl) ?_
  refine ev_sub (ls' := [(0, .ref (gB G + v0)), (1, .int v1), (2, .int v2), (3, .int x4), (4, .int ((0 : Int32)))]) [2, 3, 4, 1, 0] rfl ?_
  exact tX9_together_16 G fu h v0 v1 v2 fu x4 ((0 : Int32)) h3
set_option maxRecDepth 100000 in
set_option maxHeartbeats 4000000 in
theorem tX9_rumour_77 (G : gx) (fu : Nat) (h0 : mh) (v0 : Nat) (v1 : Int32) (v2 : Int32) (v3 : Int32) (v4 : Int32) (v5 : Int32) (v6 : Int32) (k19 : Int32 × Int32 × Int32 × mh → Option (Int32 × mh)) (hk19 : ∀ (v2 : Int32) (v3 : Int32) (v4 : Int32) (h : mh), Ev lI G yX9_rumour cX9_rumour 7 (some .int) 3 h0 19 [(0, .ref (gB G + v0)), (1, .int v1), (2, .int v2), (3, .int v3), (4, .int v4)] [] h (k19 (v2, v3, v4, h))) (k37 : Int32 × Int32 × Int32 × mh → Option (Int32 × mh)) (hk37 : ∀ (v2 : Int32) (v3 : Int32) (v5 : Int32) (h : mh), Ev lI G yX9_rumour cX9_rumour 7 (some .int) 3 h0 37 [(0, .ref (gB G + v0)), (1, .int v1), (2, .int v2), (3, .int v3), (4, .int v4), (5, .int v5)] [] h (k37 (v2, v3, v5, h))) (h : mh) : Ev lI G yX9_rumour cX9_rumour 7 (some .int) 3 h0 77 [(0, .ref (gB G + v0)), (1, .int v1), (2, .int v2), (3, .int v3), (4, .int v4), (5, .int v5), (6, .int v6)] [] h (fX9_rumour_77 fu k19 k37 v0 v1 v2 v3 v4 v5 v6 h) := by
  unfold fX9_rumour_77
  refine ev_step (st_inc (pc := 77) (j := 5) (ls' := [(5, .int (v5 + (1 : Int32))), (0, .ref (gB G + v0)), (1, .int v1), (2, .int v2), (3, .int v3), (4, .int v4), (6, .int v6)]) dX9_rumour_77 rfl ni_1 (by decide) rfl) ?_
  refine ev_step (st_goto (pc := 80) (tgt := 37) dX9_rumour_80 (by decide)) ?_
  refine ev_sub (ls' := [(0, .ref (gB G + v0)), (1, .int v1), (2, .int v2), (3, .int v3), (4, .int v4), (5, .int (v5 + (1 : Int32)))]) [1, 2, 3, 4, 5, 0] rfl ?_
  exact hk37 v2 v3 (v5 + (1 : Int32)) h
set_option maxRecDepth 100000 in
set_option maxHeartbeats 4000000 in
theorem tX9_rumour_83 (G : gx) (fu : Nat) (h0 : mh) (v0 : Nat) (v1 : Int32) (v2 : Int32) (v3 : Int32) (v4 : Int32) (v5 : Int32) (k19 : Int32 × Int32 × Int32 × mh → Option (Int32 × mh)) (hk19 : ∀ (v2 : Int32) (v3 : Int32) (v4 : Int32) (h : mh), Ev lI G yX9_rumour cX9_rumour 7 (some .int) 3 h0 19 [(0, .ref (gB G + v0)), (1, .int v1), (2, .int v2), (3, .int v3), (4, .int v4)] [] h (k19 (v2, v3, v4, h))) (h : mh) : Ev lI G yX9_rumour cX9_rumour 7 (some .int) 3 h0 83 [(0, .ref (gB G + v0)), (1, .int v1), (2, .int v2), (3, .int v3), (4, .int v4), (5, .int v5)] [] h (fX9_rumour_83 fu k19 v0 v1 v2 v3 v4 v5 h) := by
  unfold fX9_rumour_83
  refine ev_step (st_inc (pc := 83) (j := 4) (ls' := [(4, .int (v4 + (1 : Int32))), (0, .ref (gB G + v0)), (1, .int v1), (2, .int v2), (3, .int v3), (5, .int v5)]) dX9_rumour_83 rfl ni_1 (by decide) rfl) ?_
  refine ev_step (st_goto (pc := 86) (tgt := 19) dX9_rumour_86 (by decide)) ?_
  refine ev_sub (ls' := [(0, .ref (gB G + v0)), (1, .int v1), (2, .int v2), (3, .int v3), (4, .int (v4 + (1 : Int32)))]) [1, 2, 3, 4, 0] rfl ?_
  exact hk19 v2 v3 (v4 + (1 : Int32)) h
set_option maxRecDepth 100000 in
set_option maxHeartbeats 4000000 in
theorem tX9_rumour_37 (G : gx) (fu : Nat) (h0 : mh) (v0 : Nat) (v1 : Int32) (v4 : Int32) (k19 : Int32 × Int32 × Int32 × mh → Option (Int32 × mh)) (hk19 : ∀ (v2 : Int32) (v3 : Int32) (v4 : Int32) (h : mh), Ev lI G yX9_rumour cX9_rumour 7 (some .int) 3 h0 19 [(0, .ref (gB G + v0)), (1, .int v1), (2, .int v2), (3, .int v3), (4, .int v4)] [] h (k19 (v2, v3, v4, h))) (n : Nat) (v2 : Int32) (v3 : Int32) (v5 : Int32) (h : mh) : Ev lI G yX9_rumour cX9_rumour 7 (some .int) 3 h0 37 [(0, .ref (gB G + v0)), (1, .int v1), (2, .int v2), (3, .int v3), (4, .int v4), (5, .int v5)] [] h (itr (bX9_rumour_37 fu k19 v0 v1 v4) n (v2, v3, v5, h)) := by
  refine ev_itr (P := fun (q : Int32 × Int32 × Int32 × mh) (R9 : Option (Int32 × mh)) => Ev lI G yX9_rumour cX9_rumour 7 (some .int) 3 h0 37 [(0, .ref (gB G + v0)), (1, .int v1), (2, .int q.1), (3, .int q.2.1), (4, .int v4), (5, .int q.2.2.1)] [] q.2.2.2 R9) (fun _ => ev_none) (fun k37 hk9 q => ?_) n (v2, v3, v5, h)
  obtain ⟨v2, v3, v5, h⟩ := q
  have hk37 : ∀ (v2 : Int32) (v3 : Int32) (v5 : Int32) (h : mh), Ev lI G yX9_rumour cX9_rumour 7 (some .int) 3 h0 37 [(0, .ref (gB G + v0)), (1, .int v1), (2, .int v2), (3, .int v3), (4, .int v4), (5, .int v5)] [] h (k37 (v2, v3, v5, h)) := fun v2 v3 v5 h => hk9 (v2, v3, v5, h)
  show Ev lI G yX9_rumour cX9_rumour 7 (some .int) 3 h0 37 [(0, .ref (gB G + v0)), (1, .int v1), (2, .int v2), (3, .int v3), (4, .int v4), (5, .int v5)] [] h (bX9_rumour_37 fu k19 v0 v1 v4 k37 (v2, v3, v5, h))
  unfold bX9_rumour_37
  refine ev_step (st_iload (pc := 37) (j := 5) dX9_rumour_37 rfl) ?_
  refine ev_step (st_aload_n (pc := 39) (j := 0) dX9_rumour_39 rfl rfl) ?_
  refine ev_getR (pc := 40) k_X9_30 rfl dX9_rumour_40 (fun a1 => ?_)
  refine ev_getI (pc := 43) k_X9_150 rfl dX9_rumour_43 (fun x2 => ?_)
  refine ev_br (br_icmp_ge (tgt := 83) (pc := 46) dX9_rumour_46 (by decide)) (fun _ => ?_) (fun _ => ?_)
  · refine ev_sub (ls' := [(0, .ref (gB G + v0)), (1, .int v1), (2, .int v2), (3, .int v3), (4, .int v4), (5, .int v5)]) [0, 1, 2, 3, 4, 5] rfl ?_
    exact tX9_rumour_83 G fu h0 v0 v1 v2 v3 v4 v5 k19 hk19 h
  · refine ev_step (st_aload_n (pc := 49) (j := 0) dX9_rumour_49 rfl rfl) ?_
    refine ev_step (st_iload (pc := 50) (j := 4) dX9_rumour_50 rfl) ?_
    refine ev_step (st_iload (pc := 52) (j := 5) dX9_rumour_52 rfl) ?_
    refine ev_ck (fun ha hS => ?_)
    refine ev_callI (iv_V (As := [.int v4, .int v5]) (st := []) (pc := 54) rfl m_X9_gainOfTalk l_X9_213 i_X9_gainOfTalk e_X9_gainOfTalk ha hS rfl (Nat.le_of_ble_eq_true rfl) rfl dX9_rumour_54) (tX9_gainOfTalk G fu v0 v4 v5 h) (by decide) (by decide) (fun x4 h3 => ?_)
    refine ev_step (st_istore (pc := 57) (ls' := [(6, .int x4), (0, .ref (gB G + v0)), (1, .int v1), (2, .int v2), (3, .int v3), (4, .int v4), (5, .int v5)]) dX9_rumour_57 (by decide) rfl) ?_
    refine ev_step (st_iload (pc := 59) (j := 0) dX9_rumour_59 rfl) ?_
    refine ev_step (st_iload_n (pc := 61) (j := 4) dX9_rumour_61 rfl rfl) ?_
    refine ev_br (br_icmp_le (tgt := 77) (pc := 62) dX9_rumour_62 (by decide)) (fun _ => ?_) (fun _ => ?_)
    · refine ev_sub (ls' := [(0, .ref (gB G + v0)), (1, .int v1), (2, .int v2), (3, .int v3), (4, .int v4), (5, .int v5), (6, .int x4)]) [1, 2, 3, 4, 5, 6, 0] rfl ?_
      exact tX9_rumour_77 G fu h0 v0 v1 v2 v3 v4 v5 x4 k19 hk19 k37 hk37 h3
    · refine ev_step (st_iload (pc := 65) (j := 0) dX9_rumour_65 rfl) ?_
      refine ev_step (st_istore_n (pc := 67) (ls' := [(3, .int x4), (6, .int x4), (0, .ref (gB G + v0)), (1, .int v1), (2, .int v2), (4, .int v4), (5, .int v5)]) dX9_rumour_67 rfl (by decide) rfl) ?_
      refine ev_step (st_bipush (pc := 68) dX9_rumour_68 nb_10) ?_
      refine ev_step (st_iload (pc := 70) (j := 5) dX9_rumour_70 rfl) ?_
      refine ev_step (st_imul (pc := 72) dX9_rumour_72) ?_
      refine ev_step (st_iload (pc := 73) (j := 6) dX9_rumour_73 rfl) ?_
      refine ev_step (st_iadd (pc := 75) dX9_rumour_75) ?_
      refine ev_top (fun x5 => ?_)
      refine ev_step (st_istore_n (pc := 76) (ls' := [(2, .int x5), (3, .int x4), (6, .int x4), (0, .ref (gB G + v0)), (1, .int v1), (4, .int v4), (5, .int v5)]) dX9_rumour_76 rfl (by decide) rfl) ?_
      refine ev_sub (ls' := [(0, .ref (gB G + v0)), (1, .int v1), (2, .int x5), (3, .int x4), (4, .int v4), (5, .int v5), (6, .int x4)]) [3, 4, 0, 1, 5, 6, 2] rfl ?_
      exact tX9_rumour_77 G fu h0 v0 v1 x5 x4 v4 v5 x4 k19 hk19 k37 hk37 h3
set_option maxRecDepth 100000 in
set_option maxHeartbeats 4000000 in
theorem tX9_rumour_89 (G : gx) (fu : Nat) (h0 : mh) (v0 : Nat) (v1 : Int32) (v2 : Int32) (v3 : Int32) (v4 : Int32) (h : mh) : Ev lI G yX9_rumour cX9_rumour 7 (some .int) 3 h0 89 [(0, .ref (gB G + v0)), (1, .int v1), (2, .int v2), (3, .int v3), (4, .int v4)] [] h (fX9_rumour_89 fu v0 v1 v2 v3 v4 h) := by
  unfold fX9_rumour_89
  refine ev_step (st_iload_n (pc := 89) (j := 1) dX9_rumour_89 rfl rfl) ?_
  refine ev_br (br_if_eq (tgt := 97) (pc := 90) dX9_rumour_90 (by decide)) (fun _ => ?_) (fun _ => ?_)
  · refine ev_step (st_iload_n (pc := 97) (j := 2) dX9_rumour_97 rfl rfl) ?_
    refine ev_step (st_goto (pc := 98) (tgt := 102) dX9_rumour_98 (by decide)) ?_
    exact ev_iret (pc := 102) dX9_rumour_102
  · refine ev_step (st_iload_n (pc := 93) (j := 3) dX9_rumour_93 rfl rfl) ?_
    refine ev_br (br_if_ne (tgt := 101) (pc := 94) dX9_rumour_94 (by decide)) (fun _ => ?_) (fun _ => ?_)
    · refine ev_step (st_iload_n (pc := 97) (j := 2) dX9_rumour_97 rfl rfl) ?_
      refine ev_step (st_goto (pc := 98) (tgt := 102) dX9_rumour_98 (by decide)) ?_
      exact ev_iret (pc := 102) dX9_rumour_102
    · refine ev_step (st_iload_n (pc := 101) (j := 3) dX9_rumour_101 rfl rfl) ?_
      exact ev_iret (pc := 102) dX9_rumour_102
set_option maxRecDepth 100000 in
set_option maxHeartbeats 4000000 in
theorem tX9_rumour_19 (G : gx) (fu : Nat) (h0 : mh) (v0 : Nat) (v1 : Int32) (n : Nat) (v2 : Int32) (v3 : Int32) (v4 : Int32) (h : mh) : Ev lI G yX9_rumour cX9_rumour 7 (some .int) 3 h0 19 [(0, .ref (gB G + v0)), (1, .int v1), (2, .int v2), (3, .int v3), (4, .int v4)] [] h (itr (bX9_rumour_19 fu v0 v1) n (v2, v3, v4, h)) := by
  refine ev_itr (P := fun (q : Int32 × Int32 × Int32 × mh) (R9 : Option (Int32 × mh)) => Ev lI G yX9_rumour cX9_rumour 7 (some .int) 3 h0 19 [(0, .ref (gB G + v0)), (1, .int v1), (2, .int q.1), (3, .int q.2.1), (4, .int q.2.2.1)] [] q.2.2.2 R9) (fun _ => ev_none) (fun k19 hk9 q => ?_) n (v2, v3, v4, h)
  obtain ⟨v2, v3, v4, h⟩ := q
  have hk19 : ∀ (v2 : Int32) (v3 : Int32) (v4 : Int32) (h : mh), Ev lI G yX9_rumour cX9_rumour 7 (some .int) 3 h0 19 [(0, .ref (gB G + v0)), (1, .int v1), (2, .int v2), (3, .int v3), (4, .int v4)] [] h (k19 (v2, v3, v4, h)) := fun v2 v3 v4 h => hk9 (v2, v3, v4, h)
  show Ev lI G yX9_rumour cX9_rumour 7 (some .int) 3 h0 19 [(0, .ref (gB G + v0)), (1, .int v1), (2, .int v2), (3, .int v3), (4, .int v4)] [] h (bX9_rumour_19 fu v0 v1 k19 (v2, v3, v4, h))
  unfold bX9_rumour_19
  refine ev_step (st_iload (pc := 19) (j := 4) dX9_rumour_19 rfl) ?_
  refine ev_step (st_aload_n (pc := 21) (j := 0) dX9_rumour_21 rfl rfl) ?_
  refine ev_getR (pc := 22) k_X9_30 rfl dX9_rumour_22 (fun a1 => ?_)
  refine ev_getI (pc := 25) k_X9_150 rfl dX9_rumour_25 (fun x2 => ?_)
  refine ev_br (br_icmp_ge (tgt := 89) (pc := 28) dX9_rumour_28 (by decide)) (fun _ => ?_) (fun _ => ?_)
  · refine ev_sub (ls' := [(0, .ref (gB G + v0)), (1, .int v1), (2, .int v2), (3, .int v3), (4, .int v4)]) [0, 1, 2, 3, 4] rfl ?_
    exact tX9_rumour_89 G fu h0 v0 v1 v2 v3 v4 h
  · refine ev_step (st_iload (pc := 31) (j := 4) dX9_rumour_31 rfl) ?_
    refine ev_step (st_iconst (pc := 33) dX9_rumour_33 ni_1) ?_
    refine ev_step (st_iadd (pc := 34) dX9_rumour_34) ?_
    refine ev_top (fun x3 => ?_)
    refine ev_step (st_istore (pc := 35) (ls' := [(5, .int x3), (0, .ref (gB G + v0)), (1, .int v1), (2, .int v2), (3, .int v3), (4, .int v4)]) dX9_rumour_35 (by decide) rfl) ?_
    refine ev_sub (ls' := [(0, .ref (gB G + v0)), (1, .int v1), (2, .int v2), (3, .int v3), (4, .int v4), (5, .int x3)]) [1, 2, 3, 4, 5, 0] rfl ?_
    exact tX9_rumour_37 G fu h0 v0 v1 v4 k19 hk19 fu v2 v3 x3 h
set_option maxRecDepth 100000 in
set_option maxHeartbeats 4000000 in
theorem tX9_rumour (G : gx) (fu : Nat) (v0 : Nat) (v1 : Int32) (h : mh) : Ct lI G yX9_rumour cX9_rumour 7 (some .int) 3 [.ref (gB G + v0), .int v1] h (fX9_rumour fu v0 v1 h) := by
  refine ct_ls (ls := [(0, .ref (gB G + v0)), (1, .int v1)]) rfl (by decide) (Nat.le_of_ble_eq_true rfl) ?_
  unfold fX9_rumour
  refine ev_step (st_iload_n (pc := 0) (j := 1) dX9_rumour_0 rfl rfl) ?_
  refine ev_br (br_if_lt (tgt := 9) (pc := 1) dX9_rumour_1 (by decide)) (fun _ => ?_) (fun _ => ?_)
  · refine ev_step (st_iconst (pc := 9) dX9_rumour_9 ni_m1) ?_
    exact ev_iret (pc := 10) dX9_rumour_10
  · refine ev_step (st_iload_n (pc := 4) (j := 1) dX9_rumour_4 rfl rfl) ?_
    refine ev_step (st_iconst (pc := 5) dX9_rumour_5 ni_1) ?_
    refine ev_br (br_icmp_le (tgt := 11) (pc := 6) dX9_rumour_6 (by decide)) (fun _ => ?_) (fun _ => ?_)
    · refine ev_step (st_bipush (pc := 11) dX9_rumour_11 nb_m2) ?_
      refine ev_step (st_istore_n (pc := 13) (ls' := [(2, .int ((-2 : Int32))), (0, .ref (gB G + v0)), (1, .int v1)]) dX9_rumour_13 rfl (by decide) rfl) ?_
      refine ev_step (st_iconst (pc := 14) dX9_rumour_14 ni_0) ?_
      refine ev_step (st_istore_n (pc := 15) (ls' := [(3, .int ((0 : Int32))), (2, .int ((-2 : Int32))), (0, .ref (gB G + v0)), (1, .int v1)]) dX9_rumour_15 rfl (by decide) rfl) ?_
      refine ev_step (st_iconst (pc := 16) dX9_rumour_16 ni_0) ?_
      refine ev_step (st_istore (pc := 17) (ls' := [(4, .int ((0 : Int32))), (3, .int ((0 : Int32))), (2, .int ((-2 : Int32))), (0, .ref (gB G + v0)), (1, .int v1)]) dX9_rumour_17 (by decide) rfl) ?_
      refine ev_sub (ls' := [(0, .ref (gB G + v0)), (1, .int v1), (2, .int ((-2 : Int32))), (3, .int ((0 : Int32))), (4, .int ((0 : Int32)))]) [3, 4, 2, 1, 0] rfl ?_
      exact tX9_rumour_19 G fu h v0 v1 fu ((-2 : Int32)) ((0 : Int32)) ((0 : Int32)) h
    · refine ev_step (st_iconst (pc := 9) dX9_rumour_9 ni_m1) ?_
      exact ev_iret (pc := 10) dX9_rumour_10
set_option maxRecDepth 100000 in
set_option maxHeartbeats 4000000 in
theorem tX9_doubles_53 (G : gx) (fu : Nat) (h0 : mh) (v0 : Nat) (v1 : Int32) (v2 : Int32) (v3 : Int32) (k4 : Int32 × Int32 × mh → Option (Int32 × mh)) (hk4 : ∀ (v1 : Int32) (v2 : Int32) (h : mh), Ev lI G yX9_doubles cX9_doubles 4 (some .int) 4 h0 4 [(0, .ref (gB G + v0)), (1, .int v1), (2, .int v2)] [] h (k4 (v1, v2, h))) (k19 : Int32 × Int32 × mh → Option (Int32 × mh)) (hk19 : ∀ (v1 : Int32) (v3 : Int32) (h : mh), Ev lI G yX9_doubles cX9_doubles 4 (some .int) 4 h0 19 [(0, .ref (gB G + v0)), (1, .int v1), (2, .int v2), (3, .int v3)] [] h (k19 (v1, v3, h))) (h : mh) : Ev lI G yX9_doubles cX9_doubles 4 (some .int) 4 h0 53 [(0, .ref (gB G + v0)), (1, .int v1), (2, .int v2), (3, .int v3)] [] h (fX9_doubles_53 fu k4 k19 v0 v1 v2 v3 h) := by
  unfold fX9_doubles_53
  refine ev_step (st_inc (pc := 53) (j := 3) (ls' := [(3, .int (v3 + (1 : Int32))), (0, .ref (gB G + v0)), (1, .int v1), (2, .int v2)]) dX9_doubles_53 rfl ni_1 (by decide) rfl) ?_
  refine ev_step (st_goto (pc := 56) (tgt := 19) dX9_doubles_56 (by decide)) ?_
  refine ev_sub (ls' := [(0, .ref (gB G + v0)), (1, .int v1), (2, .int v2), (3, .int (v3 + (1 : Int32)))]) [1, 2, 3, 0] rfl ?_
  exact hk19 v1 (v3 + (1 : Int32)) h
set_option maxRecDepth 100000 in
set_option maxHeartbeats 4000000 in
theorem tX9_doubles_59 (G : gx) (fu : Nat) (h0 : mh) (v0 : Nat) (v1 : Int32) (v2 : Int32) (v3 : Int32) (k4 : Int32 × Int32 × mh → Option (Int32 × mh)) (hk4 : ∀ (v1 : Int32) (v2 : Int32) (h : mh), Ev lI G yX9_doubles cX9_doubles 4 (some .int) 4 h0 4 [(0, .ref (gB G + v0)), (1, .int v1), (2, .int v2)] [] h (k4 (v1, v2, h))) (h : mh) : Ev lI G yX9_doubles cX9_doubles 4 (some .int) 4 h0 59 [(0, .ref (gB G + v0)), (1, .int v1), (2, .int v2), (3, .int v3)] [] h (fX9_doubles_59 fu k4 v0 v1 v2 v3 h) := by
  unfold fX9_doubles_59
  refine ev_step (st_inc (pc := 59) (j := 2) (ls' := [(2, .int (v2 + (1 : Int32))), (0, .ref (gB G + v0)), (1, .int v1), (3, .int v3)]) dX9_doubles_59 rfl ni_1 (by decide) rfl) ?_
  refine ev_step (st_goto (pc := 62) (tgt := 4) dX9_doubles_62 (by decide)) ?_
  refine ev_sub (ls' := [(0, .ref (gB G + v0)), (1, .int v1), (2, .int (v2 + (1 : Int32)))]) [1, 2, 0] rfl ?_
  exact hk4 v1 (v2 + (1 : Int32)) h
set_option maxRecDepth 100000 in
set_option maxHeartbeats 4000000 in
theorem tX9_doubles_19 (G : gx) (fu : Nat) (h0 : mh) (v0 : Nat) (v2 : Int32) (k4 : Int32 × Int32 × mh → Option (Int32 × mh)) (hk4 : ∀ (v1 : Int32) (v2 : Int32) (h : mh), Ev lI G yX9_doubles cX9_doubles 4 (some .int) 4 h0 4 [(0, .ref (gB G + v0)), (1, .int v1), (2, .int v2)] [] h (k4 (v1, v2, h))) (n : Nat) (v1 : Int32) (v3 : Int32) (h : mh) : Ev lI G yX9_doubles cX9_doubles 4 (some .int) 4 h0 19 [(0, .ref (gB G + v0)), (1, .int v1), (2, .int v2), (3, .int v3)] [] h (itr (bX9_doubles_19 fu k4 v0 v2) n (v1, v3, h)) := by
  refine ev_itr (P := fun (q : Int32 × Int32 × mh) (R9 : Option (Int32 × mh)) => Ev lI G yX9_doubles cX9_doubles 4 (some .int) 4 h0 19 [(0, .ref (gB G + v0)), (1, .int q.1), (2, .int v2), (3, .int q.2.1)] [] q.2.2 R9) (fun _ => ev_none) (fun k19 hk9 q => ?_) n (v1, v3, h)
  obtain ⟨v1, v3, h⟩ := q
  have hk19 : ∀ (v1 : Int32) (v3 : Int32) (h : mh), Ev lI G yX9_doubles cX9_doubles 4 (some .int) 4 h0 19 [(0, .ref (gB G + v0)), (1, .int v1), (2, .int v2), (3, .int v3)] [] h (k19 (v1, v3, h)) := fun v1 v3 h => hk9 (v1, v3, h)
  show Ev lI G yX9_doubles cX9_doubles 4 (some .int) 4 h0 19 [(0, .ref (gB G + v0)), (1, .int v1), (2, .int v2), (3, .int v3)] [] h (bX9_doubles_19 fu k4 v0 v2 k19 (v1, v3, h))
  unfold bX9_doubles_19
  refine ev_step (st_iload_n (pc := 19) (j := 3) dX9_doubles_19 rfl rfl) ?_
  refine ev_step (st_aload_n (pc := 20) (j := 0) dX9_doubles_20 rfl rfl) ?_
  refine ev_getR (pc := 21) k_X9_30 rfl dX9_doubles_21 (fun a1 => ?_)
  refine ev_getI (pc := 24) k_X9_147 rfl dX9_doubles_24 (fun x2 => ?_)
  refine ev_br (br_icmp_ge (tgt := 59) (pc := 27) dX9_doubles_27 (by decide)) (fun _ => ?_) (fun _ => ?_)
  · refine ev_sub (ls' := [(0, .ref (gB G + v0)), (1, .int v1), (2, .int v2), (3, .int v3)]) [0, 1, 2, 3] rfl ?_
    exact tX9_doubles_59 G fu h0 v0 v1 v2 v3 k4 hk4 h
  · refine ev_step (st_aload_n (pc := 30) (j := 0) dX9_doubles_30 rfl rfl) ?_
    refine ev_getR (pc := 31) k_X9_30 rfl dX9_doubles_31 (fun a3 => ?_)
    refine ev_step (st_iload_n (pc := 34) (j := 2) dX9_doubles_34 rfl rfl) ?_
    refine ev_ck (fun ha hS => ?_)
    refine ev_callI (iv_V (As := [.int v2]) (st := []) (pc := 35) rfl m_X6_reallyIt l_X9_104 i_X6_reallyIt e_X6_reallyIt ha hS rfl (Nat.le_of_ble_eq_true rfl) rfl dX9_doubles_35) (tX6_reallyIt G fu a3 v2 h) (by decide) (by decide) (fun x5 h4 => ?_)
    refine ev_step (st_aload_n (pc := 38) (j := 0) dX9_doubles_38 rfl rfl) ?_
    refine ev_getR (pc := 39) k_X9_30 rfl dX9_doubles_39 (fun a6 => ?_)
    refine ev_step (st_iload_n (pc := 42) (j := 3) dX9_doubles_42 rfl rfl) ?_
    refine ev_ck (fun ha hS => ?_)
    refine ev_callI (iv_V (As := [.int v3]) (st := [.int x5]) (pc := 43) rfl m_X6_reallyIt l_X9_104 i_X6_reallyIt e_X6_reallyIt ha hS rfl (Nat.le_of_ble_eq_true rfl) rfl dX9_doubles_43) (tX6_reallyIt G fu a6 v3 h4) (by decide) (by decide) (fun x8 h7 => ?_)
    refine ev_step (st_iand (pc := 46) dX9_doubles_46) ?_
    refine ev_br (br_if_eq (tgt := 53) (pc := 47) dX9_doubles_47 (by decide)) (fun _ => ?_) (fun _ => ?_)
    · refine ev_sub (ls' := [(0, .ref (gB G + v0)), (1, .int v1), (2, .int v2), (3, .int v3)]) [0, 1, 2, 3] rfl ?_
      exact tX9_doubles_53 G fu h0 v0 v1 v2 v3 k4 hk4 k19 hk19 h7
    · refine ev_step (st_inc (pc := 50) (j := 1) (ls' := [(1, .int (v1 + (1 : Int32))), (0, .ref (gB G + v0)), (2, .int v2), (3, .int v3)]) dX9_doubles_50 rfl ni_1 (by decide) rfl) ?_
      refine ev_sub (ls' := [(0, .ref (gB G + v0)), (1, .int (v1 + (1 : Int32))), (2, .int v2), (3, .int v3)]) [1, 0, 2, 3] rfl ?_
      exact tX9_doubles_53 G fu h0 v0 (v1 + (1 : Int32)) v2 v3 k4 hk4 k19 hk19 h7
set_option maxRecDepth 100000 in
set_option maxHeartbeats 4000000 in
theorem tX9_doubles_4 (G : gx) (fu : Nat) (h0 : mh) (v0 : Nat) (n : Nat) (v1 : Int32) (v2 : Int32) (h : mh) : Ev lI G yX9_doubles cX9_doubles 4 (some .int) 4 h0 4 [(0, .ref (gB G + v0)), (1, .int v1), (2, .int v2)] [] h (itr (bX9_doubles_4 fu v0) n (v1, v2, h)) := by
  refine ev_itr (P := fun (q : Int32 × Int32 × mh) (R9 : Option (Int32 × mh)) => Ev lI G yX9_doubles cX9_doubles 4 (some .int) 4 h0 4 [(0, .ref (gB G + v0)), (1, .int q.1), (2, .int q.2.1)] [] q.2.2 R9) (fun _ => ev_none) (fun k4 hk9 q => ?_) n (v1, v2, h)
  obtain ⟨v1, v2, h⟩ := q
  have hk4 : ∀ (v1 : Int32) (v2 : Int32) (h : mh), Ev lI G yX9_doubles cX9_doubles 4 (some .int) 4 h0 4 [(0, .ref (gB G + v0)), (1, .int v1), (2, .int v2)] [] h (k4 (v1, v2, h)) := fun v1 v2 h => hk9 (v1, v2, h)
  show Ev lI G yX9_doubles cX9_doubles 4 (some .int) 4 h0 4 [(0, .ref (gB G + v0)), (1, .int v1), (2, .int v2)] [] h (bX9_doubles_4 fu v0 k4 (v1, v2, h))
  unfold bX9_doubles_4
  refine ev_step (st_iload_n (pc := 4) (j := 2) dX9_doubles_4 rfl rfl) ?_
  refine ev_step (st_aload_n (pc := 5) (j := 0) dX9_doubles_5 rfl rfl) ?_
  refine ev_getR (pc := 6) k_X9_30 rfl dX9_doubles_6 (fun a1 => ?_)
  refine ev_getI (pc := 9) k_X9_147 rfl dX9_doubles_9 (fun x2 => ?_)
  refine ev_br (br_icmp_ge (tgt := 65) (pc := 12) dX9_doubles_12 (by decide)) (fun _ => ?_) (fun _ => ?_)
  · refine ev_step (st_iload_n (pc := 65) (j := 1) dX9_doubles_65 rfl rfl) ?_
    exact ev_iret (pc := 66) dX9_doubles_66
  · refine ev_step (st_iload_n (pc := 15) (j := 2) dX9_doubles_15 rfl rfl) ?_
    refine ev_step (st_iconst (pc := 16) dX9_doubles_16 ni_1) ?_
    refine ev_step (st_iadd (pc := 17) dX9_doubles_17) ?_
    refine ev_top (fun x3 => ?_)
    refine ev_step (st_istore_n (pc := 18) (ls' := [(3, .int x3), (0, .ref (gB G + v0)), (1, .int v1), (2, .int v2)]) dX9_doubles_18 rfl (by decide) rfl) ?_
    refine ev_sub (ls' := [(0, .ref (gB G + v0)), (1, .int v1), (2, .int v2), (3, .int x3)]) [1, 2, 3, 0] rfl ?_
    exact tX9_doubles_19 G fu h0 v0 v2 k4 hk4 fu v1 x3 h
set_option maxRecDepth 100000 in
set_option maxHeartbeats 4000000 in
theorem tX9_doubles (G : gx) (fu : Nat) (v0 : Nat) (h : mh) : Ct lI G yX9_doubles cX9_doubles 4 (some .int) 4 [.ref (gB G + v0)] h (fX9_doubles fu v0 h) := by
  refine ct_ls (ls := [(0, .ref (gB G + v0))]) rfl (by decide) (Nat.le_of_ble_eq_true rfl) ?_
  unfold fX9_doubles
  refine ev_step (st_iconst (pc := 0) dX9_doubles_0 ni_0) ?_
  refine ev_step (st_istore_n (pc := 1) (ls' := [(1, .int ((0 : Int32))), (0, .ref (gB G + v0))]) dX9_doubles_1 rfl (by decide) rfl) ?_
  refine ev_step (st_iconst (pc := 2) dX9_doubles_2 ni_0) ?_
  refine ev_step (st_istore_n (pc := 3) (ls' := [(2, .int ((0 : Int32))), (1, .int ((0 : Int32))), (0, .ref (gB G + v0))]) dX9_doubles_3 rfl (by decide) rfl) ?_
  refine ev_sub (ls' := [(0, .ref (gB G + v0)), (1, .int ((0 : Int32))), (2, .int ((0 : Int32)))]) [2, 1, 0] rfl ?_
  exact tX9_doubles_4 G fu h v0 fu ((0 : Int32)) ((0 : Int32)) h
set_option maxRecDepth 100000 in
set_option maxHeartbeats 4000000 in
theorem tX9_apart_59 (G : gx) (fu : Nat) (h0 : mh) (v0 : Nat) (v1 : Int32) (v2 : Int32) (v3 : Int32) (v4 : Int32) (v5 : Int32) (k20 : Int32 × Int32 × Int32 × mh → Option (Int32 × mh)) (hk20 : ∀ (v2 : Int32) (v3 : Int32) (v4 : Int32) (h : mh), Ev lI G yX9_apart cX9_apart 6 (some .int) 2 h0 20 [(0, .ref (gB G + v0)), (1, .int v1), (2, .int v2), (3, .int v3), (4, .int v4)] [] h (k20 (v2, v3, v4, h))) (h : mh) : Ev lI G yX9_apart cX9_apart 6 (some .int) 2 h0 59 [(0, .ref (gB G + v0)), (1, .int v1), (2, .int v2), (3, .int v3), (4, .int v4), (5, .int v5)] [] h (fX9_apart_59 fu k20 v0 v1 v2 v3 v4 v5 h) := by
  unfold fX9_apart_59
  refine ev_step (st_inc (pc := 59) (j := 4) (ls' := [(4, .int (v4 + (1 : Int32))), (0, .ref (gB G + v0)), (1, .int v1), (2, .int v2), (3, .int v3), (5, .int v5)]) dX9_apart_59 rfl ni_1 (by decide) rfl) ?_
  refine ev_step (st_goto (pc := 62) (tgt := 20) dX9_apart_62 (by decide)) ?_
  refine ev_sub (ls' := [(0, .ref (gB G + v0)), (1, .int v1), (2, .int v2), (3, .int v3), (4, .int (v4 + (1 : Int32)))]) [1, 2, 3, 4, 0] rfl ?_
  exact hk20 v2 v3 (v4 + (1 : Int32)) h
set_option maxRecDepth 100000 in
set_option maxHeartbeats 4000000 in
theorem tX9_apart_65 (G : gx) (fu : Nat) (h0 : mh) (v0 : Nat) (v1 : Int32) (v2 : Int32) (v3 : Int32) (v4 : Int32) (h : mh) : Ev lI G yX9_apart cX9_apart 6 (some .int) 2 h0 65 [(0, .ref (gB G + v0)), (1, .int v1), (2, .int v2), (3, .int v3), (4, .int v4)] [] h (fX9_apart_65 fu v0 v1 v2 v3 v4 h) := by
  unfold fX9_apart_65
  refine ev_step (st_iload_n (pc := 65) (j := 1) dX9_apart_65 rfl rfl) ?_
  refine ev_step (st_iconst (pc := 66) dX9_apart_66 ni_1) ?_
  refine ev_br (br_icmp_eq (tgt := 76) (pc := 67) dX9_apart_67 (by decide)) (fun _ => ?_) (fun _ => ?_)
  · refine ev_step (st_iload_n (pc := 76) (j := 2) dX9_apart_76 rfl rfl) ?_
    refine ev_step (st_goto (pc := 77) (tgt := 81) dX9_apart_77 (by decide)) ?_
    exact ev_iret (pc := 81) dX9_apart_81
  · refine ev_step (st_iload_n (pc := 70) (j := 2) dX9_apart_70 rfl rfl) ?_
    refine ev_step (st_bipush (pc := 71) dX9_apart_71 nb_m2) ?_
    refine ev_br (br_icmp_ne (tgt := 80) (pc := 73) dX9_apart_73 (by decide)) (fun _ => ?_) (fun _ => ?_)
    · refine ev_step (st_iload_n (pc := 76) (j := 2) dX9_apart_76 rfl rfl) ?_
      refine ev_step (st_goto (pc := 77) (tgt := 81) dX9_apart_77 (by decide)) ?_
      exact ev_iret (pc := 81) dX9_apart_81
    · refine ev_step (st_iload_n (pc := 80) (j := 3) dX9_apart_80 rfl rfl) ?_
      exact ev_iret (pc := 81) dX9_apart_81
set_option maxRecDepth 100000 in
set_option maxHeartbeats 4000000 in
theorem tX9_apart_20 (G : gx) (fu : Nat) (h0 : mh) (v0 : Nat) (v1 : Int32) (n : Nat) (v2 : Int32) (v3 : Int32) (v4 : Int32) (h : mh) : Ev lI G yX9_apart cX9_apart 6 (some .int) 2 h0 20 [(0, .ref (gB G + v0)), (1, .int v1), (2, .int v2), (3, .int v3), (4, .int v4)] [] h (itr (bX9_apart_20 fu v0 v1) n (v2, v3, v4, h)) := by
  refine ev_itr (P := fun (q : Int32 × Int32 × Int32 × mh) (R9 : Option (Int32 × mh)) => Ev lI G yX9_apart cX9_apart 6 (some .int) 2 h0 20 [(0, .ref (gB G + v0)), (1, .int v1), (2, .int q.1), (3, .int q.2.1), (4, .int q.2.2.1)] [] q.2.2.2 R9) (fun _ => ev_none) (fun k20 hk9 q => ?_) n (v2, v3, v4, h)
  obtain ⟨v2, v3, v4, h⟩ := q
  have hk20 : ∀ (v2 : Int32) (v3 : Int32) (v4 : Int32) (h : mh), Ev lI G yX9_apart cX9_apart 6 (some .int) 2 h0 20 [(0, .ref (gB G + v0)), (1, .int v1), (2, .int v2), (3, .int v3), (4, .int v4)] [] h (k20 (v2, v3, v4, h)) := fun v2 v3 v4 h => hk9 (v2, v3, v4, h)
  show Ev lI G yX9_apart cX9_apart 6 (some .int) 2 h0 20 [(0, .ref (gB G + v0)), (1, .int v1), (2, .int v2), (3, .int v3), (4, .int v4)] [] h (bX9_apart_20 fu v0 v1 k20 (v2, v3, v4, h))
  unfold bX9_apart_20
  refine ev_step (st_iload (pc := 20) (j := 4) dX9_apart_20 rfl) ?_
  refine ev_step (st_sipush (pc := 22) dX9_apart_22 ns_256) ?_
  refine ev_br (br_icmp_ge (tgt := 65) (pc := 25) dX9_apart_25 (by decide)) (fun _ => ?_) (fun _ => ?_)
  · refine ev_sub (ls' := [(0, .ref (gB G + v0)), (1, .int v1), (2, .int v2), (3, .int v3), (4, .int v4)]) [0, 1, 2, 3, 4] rfl ?_
    exact tX9_apart_65 G fu h0 v0 v1 v2 v3 v4 h
  · refine ev_step (st_iload (pc := 28) (j := 4) dX9_apart_28 rfl) ?_
    refine ev_callI (iv_S (As := [.int v4]) (st := []) (pc := 30) m_J6_bitCount_0f7a4 l_X9_177 z_J6_bitCount_0f7a4 rfl (Nat.le_of_ble_eq_true rfl) rfl dX9_apart_30) (tJ6_bitCount_0f7a4 G fu v4 h) (by decide) (by decide) (fun x2 h1 => ?_)
    refine ev_step (st_istore (pc := 33) (ls' := [(5, .int x2), (0, .ref (gB G + v0)), (1, .int v1), (2, .int v2), (3, .int v3), (4, .int v4)]) dX9_apart_33 (by decide) rfl) ?_
    refine ev_step (st_iload (pc := 35) (j := 0) dX9_apart_35 rfl) ?_
    refine ev_step (st_iload_n (pc := 37) (j := 4) dX9_apart_37 rfl rfl) ?_
    refine ev_br (br_icmp_ge (tgt := 59) (pc := 38) dX9_apart_38 (by decide)) (fun _ => ?_) (fun _ => ?_)
    · refine ev_sub (ls' := [(0, .ref (gB G + v0)), (1, .int v1), (2, .int v2), (3, .int v3), (4, .int v4), (5, .int x2)]) [1, 2, 3, 4, 5, 0] rfl ?_
      exact tX9_apart_59 G fu h0 v0 v1 v2 v3 v4 x2 k20 hk20 h1
    · refine ev_step (st_aload_n (pc := 41) (j := 1) dX9_apart_41 rfl rfl) ?_
      refine ev_getR (pc := 42) k_X9_30 rfl dX9_apart_42 (fun a3 => ?_)
      refine ev_step (st_iload (pc := 45) (j := 5) dX9_apart_45 rfl) ?_
      refine ev_ck (fun ha hS => ?_)
      refine ev_callI (iv_V (As := [.int v4]) (st := []) (pc := 47) rfl m_X6_tellsRolesApart l_X9_289 i_X6_tellsRolesApart e_X6_tellsRolesApart ha hS rfl (Nat.le_of_ble_eq_true rfl) rfl dX9_apart_47) (tX6_tellsRolesApart G fu a3 v4 h1) (by decide) (by decide) (fun x5 h4 => ?_)
      refine ev_br (br_if_eq (tgt := 59) (pc := 50) dX9_apart_50 (by decide)) (fun _ => ?_) (fun _ => ?_)
      · refine ev_sub (ls' := [(0, .ref (gB G + v0)), (1, .int v1), (2, .int v2), (3, .int v3), (4, .int v4), (5, .int x2)]) [1, 2, 3, 4, 5, 0] rfl ?_
        exact tX9_apart_59 G fu h0 v0 v1 v2 v3 v4 x2 k20 hk20 h4
      · refine ev_step (st_iload (pc := 53) (j := 5) dX9_apart_53 rfl) ?_
        refine ev_step (st_istore_n (pc := 55) (ls' := [(2, .int v4), (5, .int x2), (0, .ref (gB G + v0)), (1, .int v1), (3, .int v3), (4, .int v4)]) dX9_apart_55 rfl (by decide) rfl) ?_
        refine ev_step (st_iload (pc := 56) (j := 1) dX9_apart_56 rfl) ?_
        refine ev_step (st_istore_n (pc := 58) (ls' := [(3, .int x2), (2, .int v4), (5, .int x2), (0, .ref (gB G + v0)), (1, .int v1), (4, .int v4)]) dX9_apart_58 rfl (by decide) rfl) ?_
        refine ev_sub (ls' := [(0, .ref (gB G + v0)), (1, .int v1), (2, .int v4), (3, .int x2), (4, .int v4), (5, .int x2)]) [3, 4, 1, 0, 5, 2] rfl ?_
        exact tX9_apart_59 G fu h0 v0 v1 v4 x2 v4 x2 k20 hk20 h4
set_option maxRecDepth 100000 in
set_option maxHeartbeats 4000000 in
theorem tX9_apart (G : gx) (fu : Nat) (v0 : Nat) (v1 : Int32) (h : mh) : Ct lI G yX9_apart cX9_apart 6 (some .int) 2 [.ref (gB G + v0), .int v1] h (fX9_apart fu v0 v1 h) := by
  refine ct_ls (ls := [(0, .ref (gB G + v0)), (1, .int v1)]) rfl (by decide) (Nat.le_of_ble_eq_true rfl) ?_
  unfold fX9_apart
  refine ev_step (st_iload_n (pc := 0) (j := 1) dX9_apart_0 rfl rfl) ?_
  refine ev_br (br_if_lt (tgt := 9) (pc := 1) dX9_apart_1 (by decide)) (fun _ => ?_) (fun _ => ?_)
  · refine ev_step (st_iconst (pc := 9) dX9_apart_9 ni_m1) ?_
    exact ev_iret (pc := 10) dX9_apart_10
  · refine ev_step (st_iload_n (pc := 4) (j := 1) dX9_apart_4 rfl rfl) ?_
    refine ev_step (st_iconst (pc := 5) dX9_apart_5 ni_1) ?_
    refine ev_br (br_icmp_le (tgt := 11) (pc := 6) dX9_apart_6 (by decide)) (fun _ => ?_) (fun _ => ?_)
    · refine ev_step (st_bipush (pc := 11) dX9_apart_11 nb_m2) ?_
      refine ev_step (st_istore_n (pc := 13) (ls' := [(2, .int ((-2 : Int32))), (0, .ref (gB G + v0)), (1, .int v1)]) dX9_apart_13 rfl (by decide) rfl) ?_
      refine ev_step (st_bipush (pc := 14) dX9_apart_14 nb_9) ?_
      refine ev_step (st_istore_n (pc := 16) (ls' := [(3, .int ((9 : Int32))), (2, .int ((-2 : Int32))), (0, .ref (gB G + v0)), (1, .int v1)]) dX9_apart_16 rfl (by decide) rfl) ?_
      refine ev_step (st_iconst (pc := 17) dX9_apart_17 ni_0) ?_
      refine ev_step (st_istore (pc := 18) (ls' := [(4, .int ((0 : Int32))), (3, .int ((9 : Int32))), (2, .int ((-2 : Int32))), (0, .ref (gB G + v0)), (1, .int v1)]) dX9_apart_18 (by decide) rfl) ?_
      refine ev_sub (ls' := [(0, .ref (gB G + v0)), (1, .int v1), (2, .int ((-2 : Int32))), (3, .int ((9 : Int32))), (4, .int ((0 : Int32)))]) [3, 4, 2, 1, 0] rfl ?_
      exact tX9_apart_20 G fu h v0 v1 fu ((-2 : Int32)) ((9 : Int32)) ((0 : Int32)) h
    · refine ev_step (st_iconst (pc := 9) dX9_apart_9 ni_m1) ?_
      exact ev_iret (pc := 10) dX9_apart_10
