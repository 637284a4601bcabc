theorem dX9_tryTonight_0 : decode cX9_tryTonight 0 = .ok (.aload_n 0, 1) := by decide +kernel
theorem dX9_tryTonight_1 : decode cX9_tryTonight 1 = .ok (.getfield 44, 3) := by decide +kernel
theorem dX9_tryTonight_4 : decode cX9_tryTonight 4 = .ok (.aload_n 0, 1) := by decide +kernel
theorem dX9_tryTonight_5 : decode cX9_tryTonight 5 = .ok (.getfield 40, 3) := by decide +kernel
theorem dX9_tryTonight_8 : decode cX9_tryTonight 8 = .ok (.invokevirtual 244, 3) := by decide +kernel
theorem dX9_tryTonight_11 : decode cX9_tryTonight 11 = .ok (.aload_n 0, 1) := by decide +kernel
theorem dX9_tryTonight_12 : decode cX9_tryTonight 12 = .ok (.getfield 30, 3) := by decide +kernel
theorem dX9_tryTonight_15 : decode cX9_tryTonight 15 = .ok (.aload_n 0, 1) := by decide +kernel
theorem dX9_tryTonight_16 : decode cX9_tryTonight 16 = .ok (.getfield 44, 3) := by decide +kernel
theorem dX9_tryTonight_19 : decode cX9_tryTonight 19 = .ok (.iload_n 1, 1) := by decide +kernel
theorem dX9_tryTonight_20 : decode cX9_tryTonight 20 = .ok (.iconst 0, 1) := by decide +kernel
theorem dX9_tryTonight_21 : decode cX9_tryTonight 21 = .ok (.invokevirtual 247, 3) := by decide +kernel
theorem dX9_tryTonight_24 : decode cX9_tryTonight 24 = .ok (.return_, 1) := by decide +kernel
theorem dX9_doneBehind_0 : decode cX9_doneBehind 0 = .ok (.aload_n 0, 1) := by decide +kernel
theorem dX9_doneBehind_1 : decode cX9_doneBehind 1 = .ok (.iload_n 1, 1) := by decide +kernel
theorem dX9_doneBehind_2 : decode cX9_doneBehind 2 = .ok (.invokevirtual 251, 3) := by decide +kernel
theorem dX9_doneBehind_5 : decode cX9_doneBehind 5 = .ok (.aload_n 0, 1) := by decide +kernel
theorem dX9_doneBehind_6 : decode cX9_doneBehind 6 = .ok (.getfield 30, 3) := by decide +kernel
theorem dX9_doneBehind_9 : decode cX9_doneBehind 9 = .ok (.aload_n 0, 1) := by decide +kernel
theorem dX9_doneBehind_10 : decode cX9_doneBehind 10 = .ok (.getfield 44, 3) := by decide +kernel
theorem dX9_doneBehind_13 : decode cX9_doneBehind 13 = .ok (.invokevirtual 163, 3) := by decide +kernel
theorem dX9_doneBehind_16 : decode cX9_doneBehind 16 = .ok (.ireturn, 1) := by decide +kernel
theorem dX9_gainOf_0 : decode cX9_gainOf 0 = .ok (.aload_n 0, 1) := by decide +kernel
theorem dX9_gainOf_1 : decode cX9_gainOf 1 = .ok (.iload_n 1, 1) := by decide +kernel
theorem dX9_gainOf_2 : decode cX9_gainOf 2 = .ok (.invokevirtual 251, 3) := by decide +kernel
theorem dX9_gainOf_5 : decode cX9_gainOf 5 = .ok (.aload_n 0, 1) := by decide +kernel
theorem dX9_gainOf_6 : decode cX9_gainOf 6 = .ok (.getfield 44, 3) := by decide +kernel
theorem dX9_gainOf_9 : decode cX9_gainOf 9 = .ok (.invokevirtual 169, 3) := by decide +kernel
theorem dX9_gainOf_12 : decode cX9_gainOf 12 = .ok (.aload_n 0, 1) := by decide +kernel
theorem dX9_gainOf_13 : decode cX9_gainOf 13 = .ok (.getfield 40, 3) := by decide +kernel
theorem dX9_gainOf_16 : decode cX9_gainOf 16 = .ok (.invokevirtual 169, 3) := by decide +kernel
theorem dX9_gainOf_19 : decode cX9_gainOf 19 = .ok (.isub, 1) := by decide +kernel
theorem dX9_gainOf_20 : decode cX9_gainOf 20 = .ok (.ireturn, 1) := by decide +kernel
theorem dX9_best_0 : decode cX9_best 0 = .ok (.iload_n 1, 1) := by decide +kernel
theorem dX9_best_1 : decode cX9_best 1 = .ok (.ifCond .lt 8, 3) := by decide +kernel
theorem dX9_best_4 : decode cX9_best 4 = .ok (.iload_n 1, 1) := by decide +kernel
theorem dX9_best_5 : decode cX9_best 5 = .ok (.iconst 1, 1) := by decide +kernel
theorem dX9_best_6 : decode cX9_best 6 = .ok (.if_icmp .le 5, 3) := by decide +kernel
theorem dX9_best_9 : decode cX9_best 9 = .ok (.iconst (-1), 1) := by decide +kernel
theorem dX9_best_10 : decode cX9_best 10 = .ok (.ireturn, 1) := by decide +kernel
theorem dX9_best_11 : decode cX9_best 11 = .ok (.bipush (-2), 2) := by decide +kernel
theorem dX9_best_13 : decode cX9_best 13 = .ok (.istore_n 2, 1) := by decide +kernel
theorem dX9_best_14 : decode cX9_best 14 = .ok (.bipush (-2), 2) := by decide +kernel
theorem dX9_best_16 : decode cX9_best 16 = .ok (.istore_n 3, 1) := by decide +kernel
theorem dX9_best_17 : decode cX9_best 17 = .ok (.iconst 0, 1) := by decide +kernel
theorem dX9_best_18 : decode cX9_best 18 = .ok (.istore 4, 2) := by decide +kernel
theorem dX9_best_20 : decode cX9_best 20 = .ok (.iload 4, 2) := by decide +kernel
theorem dX9_best_22 : decode cX9_best 22 = .ok (.aload_n 0, 1) := by decide +kernel
theorem dX9_best_23 : decode cX9_best 23 = .ok (.getfield 30, 3) := by decide +kernel
theorem dX9_best_26 : decode cX9_best 26 = .ok (.getfield 147, 3) := by decide +kernel
theorem dX9_best_29 : decode cX9_best 29 = .ok (.if_icmp .ge 47, 3) := by decide +kernel
theorem dX9_best_32 : decode cX9_best 32 = .ok (.aload_n 0, 1) := by decide +kernel
theorem dX9_best_33 : decode cX9_best 33 = .ok (.getfield 40, 3) := by decide +kernel
theorem dX9_best_36 : decode cX9_best 36 = .ok (.getfield 101, 3) := by decide +kernel
theorem dX9_best_39 : decode cX9_best 39 = .ok (.iload 4, 2) := by decide +kernel
theorem dX9_best_41 : decode cX9_best 41 = .ok (.iaload, 1) := by decide +kernel
theorem dX9_best_42 : decode cX9_best 42 = .ok (.ifCond .le 8, 3) := by decide +kernel
theorem dX9_best_45 : decode cX9_best 45 = .ok (.bipush (-2), 2) := by decide +kernel
theorem dX9_best_47 : decode cX9_best 47 = .ok (.goto 9, 3) := by decide +kernel
theorem dX9_best_50 : decode cX9_best 50 = .ok (.aload_n 0, 1) := by decide +kernel
theorem dX9_best_51 : decode cX9_best 51 = .ok (.iload 4, 2) := by decide +kernel
theorem dX9_best_53 : decode cX9_best 53 = .ok (.invokevirtual 241, 3) := by decide +kernel
theorem dX9_best_56 : decode cX9_best 56 = .ok (.istore 5, 2) := by decide +kernel
theorem dX9_best_58 : decode cX9_best 58 = .ok (.iload 5, 2) := by decide +kernel
theorem dX9_best_60 : decode cX9_best 60 = .ok (.iload_n 3, 1) := by decide +kernel
theorem dX9_best_61 : decode cX9_best 61 = .ok (.if_icmp .le 9, 3) := by decide +kernel
theorem dX9_best_64 : decode cX9_best 64 = .ok (.iload 5, 2) := by decide +kernel
theorem dX9_best_66 : decode cX9_best 66 = .ok (.istore_n 3, 1) := by decide +kernel
theorem dX9_best_67 : decode cX9_best 67 = .ok (.iload 4, 2) := by decide +kernel
theorem dX9_best_69 : decode cX9_best 69 = .ok (.istore_n 2, 1) := by decide +kernel
theorem dX9_best_70 : decode cX9_best 70 = .ok (.iinc 4 1, 3) := by decide +kernel
theorem dX9_best_73 : decode cX9_best 73 = .ok (.goto (-53), 3) := by decide +kernel
theorem dX9_best_76 : decode cX9_best 76 = .ok (.iload_n 1, 1) := by decide +kernel
theorem dX9_best_77 : decode cX9_best 77 = .ok (.ifCond .ne 7, 3) := by decide +kernel
theorem dX9_best_80 : decode cX9_best 80 = .ok (.iload_n 2, 1) := by decide +kernel
theorem dX9_best_81 : decode cX9_best 81 = .ok (.goto 4, 3) := by decide +kernel
theorem dX9_best_84 : decode cX9_best 84 = .ok (.iload_n 3, 1) := by decide +kernel
theorem dX9_best_85 : decode cX9_best 85 = .ok (.ireturn, 1) := by decide +kernel
theorem dX9_sway_0 : decode cX9_sway 0 = .ok (.aload_n 0, 1) := by decide +kernel
theorem dX9_sway_1 : decode cX9_sway 1 = .ok (.getfield 30, 3) := by decide +kernel
theorem dX9_sway_4 : decode cX9_sway 4 = .ok (.iload_n 1, 1) := by decide +kernel
theorem dX9_sway_5 : decode cX9_sway 5 = .ok (.invokevirtual 87, 3) := by decide +kernel
theorem dX9_sway_8 : decode cX9_sway 8 = .ok (.ifCond .ne 7, 3) := by decide +kernel
theorem dX9_sway_11 : decode cX9_sway 11 = .ok (.ldc_w 257, 3) := by decide +kernel
theorem dX9_sway_14 : decode cX9_sway 14 = .ok (.ireturn, 1) := by decide +kernel
theorem dX9_sway_15 : decode cX9_sway 15 = .ok (.aload_n 0, 1) := by decide +kernel
theorem dX9_sway_16 : decode cX9_sway 16 = .ok (.iload_n 1, 1) := by decide +kernel
theorem dX9_sway_17 : decode cX9_sway 17 = .ok (.invokevirtual 251, 3) := by decide +kernel
theorem dX9_sway_20 : decode cX9_sway 20 = .ok (.aload_n 0, 1) := by decide +kernel
theorem dX9_sway_21 : decode cX9_sway 21 = .ok (.getfield 44, 3) := by decide +kernel
theorem dX9_sway_24 : decode cX9_sway 24 = .ok (.invokevirtual 198, 3) := by decide +kernel
theorem dX9_sway_27 : decode cX9_sway 27 = .ok (.aload_n 0, 1) := by decide +kernel
theorem dX9_sway_28 : decode cX9_sway 28 = .ok (.getfield 40, 3) := by decide +kernel
theorem dX9_sway_31 : decode cX9_sway 31 = .ok (.invokevirtual 198, 3) := by decide +kernel
theorem dX9_sway_34 : decode cX9_sway 34 = .ok (.isub, 1) := by decide +kernel
theorem dX9_sway_35 : decode cX9_sway 35 = .ok (.ireturn, 1) := by decide +kernel
theorem dX9_circle_0 : decode cX9_circle 0 = .ok (.aload_n 0, 1) := by decide +kernel
theorem dX9_circle_1 : decode cX9_circle 1 = .ok (.getfield 30, 3) := by decide +kernel
theorem dX9_circle_4 : decode cX9_circle 4 = .ok (.iload_n 1, 1) := by decide +kernel
theorem dX9_circle_5 : decode cX9_circle 5 = .ok (.invokevirtual 112, 3) := by decide +kernel
theorem dX9_circle_8 : decode cX9_circle 8 = .ok (.ifCond .eq 12, 3) := by decide +kernel
theorem dX9_circle_11 : decode cX9_circle 11 = .ok (.iload_n 2, 1) := by decide +kernel
theorem dX9_circle_12 : decode cX9_circle 12 = .ok (.ifCond .lt 8, 3) := by decide +kernel
theorem dX9_circle_15 : decode cX9_circle 15 = .ok (.iload_n 2, 1) := by decide +kernel
theorem dX9_circle_16 : decode cX9_circle 16 = .ok (.iconst 1, 1) := by decide +kernel
theorem dX9_circle_17 : decode cX9_circle 17 = .ok (.if_icmp .le 5, 3) := by decide +kernel
theorem dX9_circle_20 : decode cX9_circle 20 = .ok (.iconst (-1), 1) := by decide +kernel
theorem dX9_circle_21 : decode cX9_circle 21 = .ok (.ireturn, 1) := by decide +kernel
theorem dX9_circle_22 : decode cX9_circle 22 = .ok (.aload_n 0, 1) := by decide +kernel
theorem dX9_circle_23 : decode cX9_circle 23 = .ok (.iload_n 1, 1) := by decide +kernel
theorem dX9_circle_24 : decode cX9_circle 24 = .ok (.invokevirtual 283, 3) := by decide +kernel
theorem dX9_circle_27 : decode cX9_circle 27 = .ok (.istore_n 3, 1) := by decide +kernel
theorem dX9_circle_28 : decode cX9_circle 28 = .ok (.iload_n 2, 1) := by decide +kernel
theorem dX9_circle_29 : decode cX9_circle 29 = .ok (.iconst 1, 1) := by decide +kernel
theorem dX9_circle_30 : decode cX9_circle 30 = .ok (.if_icmp .eq 9, 3) := by decide +kernel
theorem dX9_circle_33 : decode cX9_circle 33 = .ok (.iload_n 3, 1) := by decide +kernel
theorem dX9_circle_34 : decode cX9_circle 34 = .ok (.bipush (-2), 2) := by decide +kernel
theorem dX9_circle_36 : decode cX9_circle 36 = .ok (.if_icmp .ne 7, 3) := by decide +kernel
theorem dX9_circle_39 : decode cX9_circle 39 = .ok (.iload_n 3, 1) := by decide +kernel
theorem dX9_circle_40 : decode cX9_circle 40 = .ok (.goto 7, 3) := by decide +kernel
theorem dX9_circle_43 : decode cX9_circle 43 = .ok (.iload_n 3, 1) := by decide +kernel
theorem dX9_circle_44 : decode cX9_circle 44 = .ok (.invokestatic 177, 3) := by decide +kernel
theorem dX9_circle_47 : decode cX9_circle 47 = .ok (.ireturn, 1) := by decide +kernel
theorem dX9_rolesLeft_0 : decode cX9_rolesLeft 0 = .ok (.iconst 0, 1) := by decide +kernel
theorem dX9_rolesLeft_1 : decode cX9_rolesLeft 1 = .ok (.istore_n 2, 1) := by decide +kernel
theorem dX9_rolesLeft_2 : decode cX9_rolesLeft 2 = .ok (.iconst 0, 1) := by decide +kernel
theorem dX9_rolesLeft_3 : decode cX9_rolesLeft 3 = .ok (.istore_n 3, 1) := by decide +kernel
theorem dX9_rolesLeft_4 : decode cX9_rolesLeft 4 = .ok (.iload_n 3, 1) := by decide +kernel
theorem dX9_rolesLeft_5 : decode cX9_rolesLeft 5 = .ok (.aload_n 0, 1) := by decide +kernel
theorem dX9_rolesLeft_6 : decode cX9_rolesLeft 6 = .ok (.getfield 30, 3) := by decide +kernel
theorem dX9_rolesLeft_9 : decode cX9_rolesLeft 9 = .ok (.getfield 147, 3) := by decide +kernel
theorem dX9_rolesLeft_12 : decode cX9_rolesLeft 12 = .ok (.if_icmp .ge 54, 3) := by decide +kernel
theorem dX9_rolesLeft_15 : decode cX9_rolesLeft 15 = .ok (.aload_n 0, 1) := by decide +kernel
theorem dX9_rolesLeft_16 : decode cX9_rolesLeft 16 = .ok (.iload_n 3, 1) := by decide +kernel
theorem dX9_rolesLeft_17 : decode cX9_rolesLeft 17 = .ok (.invokevirtual 251, 3) := by decide +kernel
theorem dX9_rolesLeft_20 : decode cX9_rolesLeft 20 = .ok (.aload_n 0, 1) := by decide +kernel
theorem dX9_rolesLeft_21 : decode cX9_rolesLeft 21 = .ok (.getfield 64, 3) := by decide +kernel
theorem dX9_rolesLeft_24 : decode cX9_rolesLeft 24 = .ok (.iload_n 1, 1) := by decide +kernel
theorem dX9_rolesLeft_25 : decode cX9_rolesLeft 25 = .ok (.aload_n 0, 1) := by decide +kernel
theorem dX9_rolesLeft_26 : decode cX9_rolesLeft 26 = .ok (.getfield 30, 3) := by decide +kernel
theorem dX9_rolesLeft_29 : decode cX9_rolesLeft 29 = .ok (.aload_n 0, 1) := by decide +kernel
theorem dX9_rolesLeft_30 : decode cX9_rolesLeft 30 = .ok (.getfield 40, 3) := by decide +kernel
theorem dX9_rolesLeft_33 : decode cX9_rolesLeft 33 = .ok (.iload_n 3, 1) := by decide +kernel
theorem dX9_rolesLeft_34 : decode cX9_rolesLeft 34 = .ok (.invokevirtual 108, 3) := by decide +kernel
theorem dX9_rolesLeft_37 : decode cX9_rolesLeft 37 = .ok (.aload_n 0, 1) := by decide +kernel
theorem dX9_rolesLeft_38 : decode cX9_rolesLeft 38 = .ok (.getfield 30, 3) := by decide +kernel
theorem dX9_rolesLeft_41 : decode cX9_rolesLeft 41 = .ok (.aload_n 0, 1) := by decide +kernel
theorem dX9_rolesLeft_42 : decode cX9_rolesLeft 42 = .ok (.getfield 44, 3) := by decide +kernel
theorem dX9_rolesLeft_45 : decode cX9_rolesLeft 45 = .ok (.invokevirtual 163, 3) := by decide +kernel
theorem dX9_rolesLeft_48 : decode cX9_rolesLeft 48 = .ok (.invokevirtual 299, 3) := by decide +kernel
theorem dX9_rolesLeft_51 : decode cX9_rolesLeft 51 = .ok (.ifCond .eq 9, 3) := by decide +kernel
theorem dX9_rolesLeft_54 : decode cX9_rolesLeft 54 = .ok (.iload_n 2, 1) := by decide +kernel
theorem dX9_rolesLeft_55 : decode cX9_rolesLeft 55 = .ok (.iconst 1, 1) := by decide +kernel
theorem dX9_rolesLeft_56 : decode cX9_rolesLeft 56 = .ok (.iload_n 3, 1) := by decide +kernel
theorem dX9_rolesLeft_57 : decode cX9_rolesLeft 57 = .ok (.ishl, 1) := by decide +kernel
theorem dX9_rolesLeft_58 : decode cX9_rolesLeft 58 = .ok (.ior, 1) := by decide +kernel
theorem dX9_rolesLeft_59 : decode cX9_rolesLeft 59 = .ok (.istore_n 2, 1) := by decide +kernel
theorem dX9_rolesLeft_60 : decode cX9_rolesLeft 60 = .ok (.iinc 3 1, 3) := by decide +kernel
theorem dX9_rolesLeft_63 : decode cX9_rolesLeft 63 = .ok (.goto (-59), 3) := by decide +kernel
theorem dX9_rolesLeft_66 : decode cX9_rolesLeft 66 = .ok (.iload_n 2, 1) := by decide +kernel
theorem dX9_rolesLeft_67 : decode cX9_rolesLeft 67 = .ok (.ireturn, 1) := by decide +kernel
theorem dX9_ask_0 : decode cX9_ask 0 = .ok (.iload_n 1, 1) := by decide +kernel
theorem dX9_ask_1 : decode cX9_ask 1 = .ok (.ifCond .lt 14, 3) := by decide +kernel
theorem dX9_ask_4 : decode cX9_ask 4 = .ok (.iload_n 1, 1) := by decide +kernel
theorem dX9_ask_5 : decode cX9_ask 5 = .ok (.aload_n 0, 1) := by decide +kernel
theorem dX9_ask_6 : decode cX9_ask 6 = .ok (.getfield 64, 3) := by decide +kernel
theorem dX9_ask_9 : decode cX9_ask 9 = .ok (.getfield 84, 3) := by decide +kernel
theorem dX9_ask_12 : decode cX9_ask 12 = .ok (.if_icmp .le 5, 3) := by decide +kernel
theorem dX9_ask_15 : decode cX9_ask 15 = .ok (.iconst (-1), 1) := by decide +kernel
theorem dX9_ask_16 : decode cX9_ask 16 = .ok (.ireturn, 1) := by decide +kernel
theorem dX9_ask_17 : decode cX9_ask 17 = .ok (.aload_n 0, 1) := by decide +kernel
theorem dX9_ask_18 : decode cX9_ask 18 = .ok (.iload_n 1, 1) := by decide +kernel
theorem dX9_ask_19 : decode cX9_ask 19 = .ok (.invokevirtual 296, 3) := by decide +kernel
theorem dX9_ask_22 : decode cX9_ask 22 = .ok (.istore_n 2, 1) := by decide +kernel
theorem dX9_ask_23 : decode cX9_ask 23 = .ok (.iload_n 2, 1) := by decide +kernel
theorem dX9_ask_24 : decode cX9_ask 24 = .ok (.ifCond .ne 6, 3) := by decide +kernel
theorem dX9_ask_27 : decode cX9_ask 27 = .ok (.bipush (-2), 2) := by decide +kernel
theorem dX9_ask_29 : decode cX9_ask 29 = .ok (.ireturn, 1) := by decide +kernel
theorem dX9_ask_30 : decode cX9_ask 30 = .ok (.iconst 0, 1) := by decide +kernel
theorem dX9_ask_31 : decode cX9_ask 31 = .ok (.istore_n 3, 1) := by decide +kernel
theorem dX9_ask_32 : decode cX9_ask 32 = .ok (.bipush 7, 2) := by decide +kernel
theorem dX9_ask_34 : decode cX9_ask 34 = .ok (.istore 4, 2) := by decide +kernel
theorem dX9_ask_36 : decode cX9_ask 36 = .ok (.iconst 0, 1) := by decide +kernel
theorem dX9_ask_37 : decode cX9_ask 37 = .ok (.istore 5, 2) := by decide +kernel
theorem dX9_ask_39 : decode cX9_ask 39 = .ok (.iload 5, 2) := by decide +kernel
theorem dX9_ask_41 : decode cX9_ask 41 = .ok (.bipush 8, 2) := by decide +kernel
theorem dX9_ask_43 : decode cX9_ask 43 = .ok (.if_icmp .ge 50, 3) := by decide +kernel
theorem dX9_ask_46 : decode cX9_ask 46 = .ok (.iload_n 2, 1) := by decide +kernel
theorem dX9_ask_47 : decode cX9_ask 47 = .ok (.aload_n 0, 1) := by decide +kernel
theorem dX9_ask_48 : decode cX9_ask 48 = .ok (.iload 5, 2) := by decide +kernel
theorem dX9_ask_50 : decode cX9_ask 50 = .ok (.invokevirtual 303, 3) := by decide +kernel
theorem dX9_ask_53 : decode cX9_ask 53 = .ok (.iand, 1) := by decide +kernel
theorem dX9_ask_54 : decode cX9_ask 54 = .ok (.invokestatic 177, 3) := by decide +kernel
theorem dX9_ask_57 : decode cX9_ask 57 = .ok (.istore 6, 2) := by decide +kernel
theorem dX9_ask_59 : decode cX9_ask 59 = .ok (.iload 6, 2) := by decide +kernel
theorem dX9_ask_61 : decode cX9_ask 61 = .ok (.iload_n 2, 1) := by decide +kernel
theorem dX9_ask_62 : decode cX9_ask 62 = .ok (.invokestatic 177, 3) := by decide +kernel
theorem dX9_ask_65 : decode cX9_ask 65 = .ok (.iload 6, 2) := by decide +kernel
theorem dX9_ask_67 : decode cX9_ask 67 = .ok (.isub, 1) := by decide +kernel
theorem dX9_ask_68 : decode cX9_ask 68 = .ok (.invokestatic 306, 3) := by decide +kernel
theorem dX9_ask_71 : decode cX9_ask 71 = .ok (.istore 7, 2) := by decide +kernel
theorem dX9_ask_73 : decode cX9_ask 73 = .ok (.iload 7, 2) := by decide +kernel
theorem dX9_ask_75 : decode cX9_ask 75 = .ok (.iload 4, 2) := by decide +kernel
theorem dX9_ask_77 : decode cX9_ask 77 = .ok (.if_icmp .ge 10, 3) := by decide +kernel
theorem dX9_ask_80 : decode cX9_ask 80 = .ok (.iload 7, 2) := by decide +kernel
theorem dX9_ask_82 : decode cX9_ask 82 = .ok (.istore 4, 2) := by decide +kernel
theorem dX9_ask_84 : decode cX9_ask 84 = .ok (.iload 5, 2) := by decide +kernel
theorem dX9_ask_86 : decode cX9_ask 86 = .ok (.istore_n 3, 1) := by decide +kernel
theorem dX9_ask_87 : decode cX9_ask 87 = .ok (.iinc 5 1, 3) := by decide +kernel
theorem dX9_ask_90 : decode cX9_ask 90 = .ok (.goto (-51), 3) := by decide +kernel
theorem dX9_ask_93 : decode cX9_ask 93 = .ok (.iload_n 3, 1) := by decide +kernel
theorem dX9_ask_94 : decode cX9_ask 94 = .ok (.ireturn, 1) := by decide +kernel
theorem dX10_tellLaw_0 : decode cX10_tellLaw 0 = .ok (.aload_n 0, 1) := by decide +kernel
theorem dX10_tellLaw_1 : decode cX10_tellLaw 1 = .ok (.iconst 5, 1) := by decide +kernel
theorem dX10_tellLaw_2 : decode cX10_tellLaw 2 = .ok (.invokevirtual 258, 3) := by decide +kernel
theorem dX10_tellLaw_5 : decode cX10_tellLaw 5 = .ok (.aload_n 0, 1) := by decide +kernel
theorem dX10_tellLaw_6 : decode cX10_tellLaw 6 = .ok (.getfield 239, 3) := by decide +kernel
theorem dX10_tellLaw_9 : decode cX10_tellLaw 9 = .ok (.istore_n 2, 1) := by decide +kernel
theorem dX10_tellLaw_10 : decode cX10_tellLaw 10 = .ok (.iconst 0, 1) := by decide +kernel
theorem dX10_tellLaw_11 : decode cX10_tellLaw 11 = .ok (.istore_n 3, 1) := by decide +kernel
theorem dX10_tellLaw_12 : decode cX10_tellLaw 12 = .ok (.aload_n 0, 1) := by decide +kernel
theorem dX10_tellLaw_13 : decode cX10_tellLaw 13 = .ok (.getfield 200, 3) := by decide +kernel
theorem dX10_tellLaw_16 : decode cX10_tellLaw 16 = .ok (.ifCond .ne 113, 3) := by decide +kernel
theorem dX10_tellLaw_19 : decode cX10_tellLaw 19 = .ok (.aload_n 0, 1) := by decide +kernel
theorem dX10_tellLaw_20 : decode cX10_tellLaw 20 = .ok (.bipush 30, 2) := by decide +kernel
theorem dX10_tellLaw_22 : decode cX10_tellLaw 22 = .ok (.invokevirtual 218, 3) := by decide +kernel
theorem dX10_tellLaw_25 : decode cX10_tellLaw 25 = .ok (.ifCond .eq 104, 3) := by decide +kernel
theorem dX10_tellLaw_28 : decode cX10_tellLaw 28 = .ok (.iload_n 3, 1) := by decide +kernel
theorem dX10_tellLaw_29 : decode cX10_tellLaw 29 = .ok (.iconst 4, 1) := by decide +kernel
theorem dX10_tellLaw_30 : decode cX10_tellLaw 30 = .ok (.if_icmp .ne 8, 3) := by decide +kernel
theorem dX10_tellLaw_33 : decode cX10_tellLaw 33 = .ok (.aload_n 0, 1) := by decide +kernel
theorem dX10_tellLaw_34 : decode cX10_tellLaw 34 = .ok (.iconst 2, 1) := by decide +kernel
theorem dX10_tellLaw_35 : decode cX10_tellLaw 35 = .ok (.invokevirtual 215, 3) := by decide +kernel
theorem dX10_tellLaw_38 : decode cX10_tellLaw 38 = .ok (.aload_n 0, 1) := by decide +kernel
theorem dX10_tellLaw_39 : decode cX10_tellLaw 39 = .ok (.getfield 200, 3) := by decide +kernel
theorem dX10_tellLaw_42 : decode cX10_tellLaw 42 = .ok (.ifCond .le 4, 3) := by decide +kernel
theorem dX10_tellLaw_45 : decode cX10_tellLaw 45 = .ok (.return_, 1) := by decide +kernel
theorem dX10_tellLaw_46 : decode cX10_tellLaw 46 = .ok (.iinc 3 1, 3) := by decide +kernel
theorem dX10_tellLaw_49 : decode cX10_tellLaw 49 = .ok (.aload_n 0, 1) := by decide +kernel
theorem dX10_tellLaw_50 : decode cX10_tellLaw 50 = .ok (.invokevirtual 221, 3) := by decide +kernel
theorem dX10_tellLaw_53 : decode cX10_tellLaw 53 = .ok (.aload_n 0, 1) := by decide +kernel
theorem dX10_tellLaw_54 : decode cX10_tellLaw 54 = .ok (.getfield 88, 3) := by decide +kernel
theorem dX10_tellLaw_57 : decode cX10_tellLaw 57 = .ok (.aload_n 0, 1) := by decide +kernel
theorem dX10_tellLaw_58 : decode cX10_tellLaw 58 = .ok (.getfield 239, 3) := by decide +kernel
theorem dX10_tellLaw_61 : decode cX10_tellLaw 61 = .ok (.iconst 1, 1) := by decide +kernel
theorem dX10_tellLaw_62 : decode cX10_tellLaw 62 = .ok (.bastore, 1) := by decide +kernel
theorem dX10_tellLaw_63 : decode cX10_tellLaw 63 = .ok (.aload_n 0, 1) := by decide +kernel
theorem dX10_tellLaw_64 : decode cX10_tellLaw 64 = .ok (.getfield 92, 3) := by decide +kernel
theorem dX10_tellLaw_67 : decode cX10_tellLaw 67 = .ok (.aload_n 0, 1) := by decide +kernel
theorem dX10_tellLaw_68 : decode cX10_tellLaw 68 = .ok (.getfield 239, 3) := by decide +kernel
theorem dX10_tellLaw_71 : decode cX10_tellLaw 71 = .ok (.aload_n 0, 1) := by decide +kernel
theorem dX10_tellLaw_72 : decode cX10_tellLaw 72 = .ok (.getfield 242, 3) := by decide +kernel
theorem dX10_tellLaw_75 : decode cX10_tellLaw 75 = .ok (.iastore, 1) := by decide +kernel
theorem dX10_tellLaw_76 : decode cX10_tellLaw 76 = .ok (.aload_n 0, 1) := by decide +kernel
theorem dX10_tellLaw_77 : decode cX10_tellLaw 77 = .ok (.invokevirtual 287, 3) := by decide +kernel
theorem dX10_tellLaw_80 : decode cX10_tellLaw 80 = .ok (.aload_n 0, 1) := by decide +kernel
theorem dX10_tellLaw_81 : decode cX10_tellLaw 81 = .ok (.bipush 13, 2) := by decide +kernel
theorem dX10_tellLaw_83 : decode cX10_tellLaw 83 = .ok (.invokevirtual 258, 3) := by decide +kernel
theorem dX10_tellLaw_86 : decode cX10_tellLaw 86 = .ok (.aload_n 0, 1) := by decide +kernel
theorem dX10_tellLaw_87 : decode cX10_tellLaw 87 = .ok (.getfield 95, 3) := by decide +kernel
theorem dX10_tellLaw_90 : decode cX10_tellLaw 90 = .ok (.aload_n 0, 1) := by decide +kernel
theorem dX10_tellLaw_91 : decode cX10_tellLaw 91 = .ok (.getfield 239, 3) := by decide +kernel
theorem dX10_tellLaw_94 : decode cX10_tellLaw 94 = .ok (.aload_n 0, 1) := by decide +kernel
theorem dX10_tellLaw_95 : decode cX10_tellLaw 95 = .ok (.getfield 242, 3) := by decide +kernel
theorem dX10_tellLaw_98 : decode cX10_tellLaw 98 = .ok (.iastore, 1) := by decide +kernel
theorem dX10_tellLaw_99 : decode cX10_tellLaw 99 = .ok (.aload_n 0, 1) := by decide +kernel
theorem dX10_tellLaw_100 : decode cX10_tellLaw 100 = .ok (.getfield 200, 3) := by decide +kernel
theorem dX10_tellLaw_103 : decode cX10_tellLaw 103 = .ok (.ifCond .ne 7, 3) := by decide +kernel
theorem dX10_tellLaw_106 : decode cX10_tellLaw 106 = .ok (.aload_n 0, 1) := by decide +kernel
theorem dX10_tellLaw_107 : decode cX10_tellLaw 107 = .ok (.invokevirtual 287, 3) := by decide +kernel
theorem dX10_tellLaw_110 : decode cX10_tellLaw 110 = .ok (.aload_n 0, 1) := by decide +kernel
theorem dX10_tellLaw_111 : decode cX10_tellLaw 111 = .ok (.bipush 31, 2) := by decide +kernel
theorem dX10_tellLaw_113 : decode cX10_tellLaw 113 = .ok (.invokevirtual 258, 3) := by decide +kernel
theorem dX10_tellLaw_116 : decode cX10_tellLaw 116 = .ok (.aload_n 0, 1) := by decide +kernel
theorem dX10_tellLaw_117 : decode cX10_tellLaw 117 = .ok (.invokevirtual 290, 3) := by decide +kernel
theorem dX10_tellLaw_120 : decode cX10_tellLaw 120 = .ok (.aload_n 0, 1) := by decide +kernel
theorem dX10_tellLaw_121 : decode cX10_tellLaw 121 = .ok (.bipush 32, 2) := by decide +kernel
theorem dX10_tellLaw_123 : decode cX10_tellLaw 123 = .ok (.invokevirtual 258, 3) := by decide +kernel
theorem dX10_tellLaw_126 : decode cX10_tellLaw 126 = .ok (.goto (-114), 3) := by decide +kernel
theorem dX10_tellLaw_129 : decode cX10_tellLaw 129 = .ok (.aload_n 0, 1) := by decide +kernel
theorem dX10_tellLaw_130 : decode cX10_tellLaw 130 = .ok (.getfield 88, 3) := by decide +kernel
theorem dX10_tellLaw_133 : decode cX10_tellLaw 133 = .ok (.aload_n 0, 1) := by decide +kernel
theorem dX10_tellLaw_134 : decode cX10_tellLaw 134 = .ok (.getfield 239, 3) := by decide +kernel
theorem dX10_tellLaw_137 : decode cX10_tellLaw 137 = .ok (.iconst 0, 1) := by decide +kernel
theorem dX10_tellLaw_138 : decode cX10_tellLaw 138 = .ok (.bastore, 1) := by decide +kernel
theorem dX10_tellLaw_139 : decode cX10_tellLaw 139 = .ok (.aload_n 0, 1) := by decide +kernel
theorem dX10_tellLaw_140 : decode cX10_tellLaw 140 = .ok (.invokevirtual 290, 3) := by decide +kernel
theorem dX10_tellLaw_143 : decode cX10_tellLaw 143 = .ok (.aload_n 0, 1) := by decide +kernel
theorem dX10_tellLaw_144 : decode cX10_tellLaw 144 = .ok (.iconst 4, 1) := by decide +kernel
theorem dX10_tellLaw_145 : decode cX10_tellLaw 145 = .ok (.invokevirtual 258, 3) := by decide +kernel
theorem dX10_tellLaw_148 : decode cX10_tellLaw 148 = .ok (.aload_n 0, 1) := by decide +kernel
theorem dX10_tellLaw_149 : decode cX10_tellLaw 149 = .ok (.getfield 200, 3) := by decide +kernel
theorem dX10_tellLaw_152 : decode cX10_tellLaw 152 = .ok (.ifCond .le 4, 3) := by decide +kernel
theorem dX10_tellLaw_155 : decode cX10_tellLaw 155 = .ok (.return_, 1) := by decide +kernel
theorem dX10_tellLaw_156 : decode cX10_tellLaw 156 = .ok (.aload_n 0, 1) := by decide +kernel
theorem dX10_tellLaw_157 : decode cX10_tellLaw 157 = .ok (.getfield 82, 3) := by decide +kernel
theorem dX10_tellLaw_160 : decode cX10_tellLaw 160 = .ok (.iconst 4, 1) := by decide +kernel
theorem dX10_tellLaw_161 : decode cX10_tellLaw 161 = .ok (.aload_n 0, 1) := by decide +kernel
theorem dX10_tellLaw_162 : decode cX10_tellLaw 162 = .ok (.getfield 233, 3) := by decide +kernel
theorem dX10_tellLaw_165 : decode cX10_tellLaw 165 = .ok (.imul, 1) := by decide +kernel
theorem dX10_tellLaw_166 : decode cX10_tellLaw 166 = .ok (.iload_n 1, 1) := by decide +kernel
theorem dX10_tellLaw_167 : decode cX10_tellLaw 167 = .ok (.iadd, 1) := by decide +kernel
theorem dX10_tellLaw_168 : decode cX10_tellLaw 168 = .ok (.iload_n 2, 1) := by decide +kernel
theorem dX10_tellLaw_169 : decode cX10_tellLaw 169 = .ok (.iastore, 1) := by decide +kernel
theorem dX10_tellLaw_170 : decode cX10_tellLaw 170 = .ok (.aload_n 0, 1) := by decide +kernel
theorem dX10_tellLaw_171 : decode cX10_tellLaw 171 = .ok (.getfield 85, 3) := by decide +kernel
theorem dX10_tellLaw_174 : decode cX10_tellLaw 174 = .ok (.iconst 4, 1) := by decide +kernel
theorem dX10_tellLaw_175 : decode cX10_tellLaw 175 = .ok (.aload_n 0, 1) := by decide +kernel
theorem dX10_tellLaw_176 : decode cX10_tellLaw 176 = .ok (.getfield 233, 3) := by decide +kernel
theorem dX10_tellLaw_179 : decode cX10_tellLaw 179 = .ok (.imul, 1) := by decide +kernel
theorem dX10_tellLaw_180 : decode cX10_tellLaw 180 = .ok (.iload_n 1, 1) := by decide +kernel
theorem dX10_tellLaw_181 : decode cX10_tellLaw 181 = .ok (.iadd, 1) := by decide +kernel
theorem dX10_tellLaw_182 : decode cX10_tellLaw 182 = .ok (.aload_n 0, 1) := by decide +kernel
theorem dX10_tellLaw_183 : decode cX10_tellLaw 183 = .ok (.getfield 239, 3) := by decide +kernel
theorem dX10_tellLaw_186 : decode cX10_tellLaw 186 = .ok (.iastore, 1) := by decide +kernel
theorem dX10_tellLaw_187 : decode cX10_tellLaw 187 = .ok (.return_, 1) := by decide +kernel
theorem dX0_take_0 : decode cX0_take 0 = .ok (.aload_n 0, 1) := by decide +kernel
theorem dX0_take_1 : decode cX0_take 1 = .ok (.getfield 24, 3) := by decide +kernel
theorem dX0_take_4 : decode cX0_take 4 = .ok (.ifCond .ne 13, 3) := by decide +kernel
theorem dX0_take_7 : decode cX0_take 7 = .ok (.aload_n 0, 1) := by decide +kernel
theorem dX0_take_8 : decode cX0_take 8 = .ok (.aload_n 1, 1) := by decide +kernel
theorem dX0_take_9 : decode cX0_take 9 = .ok (.getfield 44, 3) := by decide +kernel
theorem dX0_take_12 : decode cX0_take 12 = .ok (.aload_n 2, 1) := by decide +kernel
theorem dX0_take_13 : decode cX0_take 13 = .ok (.invokevirtual 49, 3) := by decide +kernel
theorem dX0_take_16 : decode cX0_take 16 = .ok (.ireturn, 1) := by decide +kernel
theorem dX0_take_17 : decode cX0_take 17 = .ok (.aload_n 0, 1) := by decide +kernel
theorem dX0_take_18 : decode cX0_take 18 = .ok (.getfield 28, 3) := by decide +kernel
theorem dX0_take_21 : decode cX0_take 21 = .ok (.ifCond .eq 12, 3) := by decide +kernel
theorem dX0_take_24 : decode cX0_take 24 = .ok (.aload_n 0, 1) := by decide +kernel
theorem dX0_take_25 : decode cX0_take 25 = .ok (.aload_n 1, 1) := by decide +kernel
theorem dX0_take_26 : decode cX0_take 26 = .ok (.aload_n 2, 1) := by decide +kernel
theorem dX0_take_27 : decode cX0_take 27 = .ok (.invokevirtual 53, 3) := by decide +kernel
theorem dX0_take_30 : decode cX0_take 30 = .ok (.goto 12, 3) := by decide +kernel
theorem dX0_take_33 : decode cX0_take 33 = .ok (.aload_n 0, 1) := by decide +kernel
theorem dX0_take_34 : decode cX0_take 34 = .ok (.aload_n 1, 1) := by decide +kernel
theorem dX0_take_35 : decode cX0_take 35 = .ok (.getfield 44, 3) := by decide +kernel
theorem dX0_take_38 : decode cX0_take 38 = .ok (.aload_n 2, 1) := by decide +kernel
theorem dX0_take_39 : decode cX0_take 39 = .ok (.invokevirtual 57, 3) := by decide +kernel
theorem dX0_take_42 : decode cX0_take 42 = .ok (.ireturn, 1) := by decide +kernel
theorem dX6_passEvenings_0 : decode cX6_passEvenings 0 = .ok (.iconst 0, 1) := by decide +kernel
theorem dX6_passEvenings_1 : decode cX6_passEvenings 1 = .ok (.istore_n 3, 1) := by decide +kernel
theorem dX6_passEvenings_2 : decode cX6_passEvenings 2 = .ok (.iload_n 3, 1) := by decide +kernel
theorem dX6_passEvenings_3 : decode cX6_passEvenings 3 = .ok (.iload_n 2, 1) := by decide +kernel
theorem dX6_passEvenings_4 : decode cX6_passEvenings 4 = .ok (.if_icmp .ge 30, 3) := by decide +kernel
theorem dX6_passEvenings_7 : decode cX6_passEvenings 7 = .ok (.aload_n 0, 1) := by decide +kernel
theorem dX6_passEvenings_8 : decode cX6_passEvenings 8 = .ok (.aload_n 1, 1) := by decide +kernel
theorem dX6_passEvenings_9 : decode cX6_passEvenings 9 = .ok (.aload_n 1, 1) := by decide +kernel
theorem dX6_passEvenings_10 : decode cX6_passEvenings 10 = .ok (.getfield 104, 3) := by decide +kernel
theorem dX6_passEvenings_13 : decode cX6_passEvenings 13 = .ok (.aload_n 0, 1) := by decide +kernel
theorem dX6_passEvenings_14 : decode cX6_passEvenings 14 = .ok (.aload_n 0, 1) := by decide +kernel
theorem dX6_passEvenings_15 : decode cX6_passEvenings 15 = .ok (.getfield 60, 3) := by decide +kernel
theorem dX6_passEvenings_18 : decode cX6_passEvenings 18 = .ok (.aload_n 1, 1) := by decide +kernel
theorem dX6_passEvenings_19 : decode cX6_passEvenings 19 = .ok (.getfield 101, 3) := by decide +kernel
theorem dX6_passEvenings_22 : decode cX6_passEvenings 22 = .ok (.invokevirtual 156, 3) := by decide +kernel
theorem dX6_passEvenings_25 : decode cX6_passEvenings 25 = .ok (.invokevirtual 159, 3) := by decide +kernel
theorem dX6_passEvenings_28 : decode cX6_passEvenings 28 = .ok (.iinc 3 1, 3) := by decide +kernel
theorem dX6_passEvenings_31 : decode cX6_passEvenings 31 = .ok (.goto (-29), 3) := by decide +kernel
theorem dX6_passEvenings_34 : decode cX6_passEvenings 34 = .ok (.return_, 1) := by decide +kernel
theorem dX6_passEveningOf_0 : decode cX6_passEveningOf 0 = .ok (.aload_n 0, 1) := by decide +kernel
theorem dX6_passEveningOf_1 : decode cX6_passEveningOf 1 = .ok (.aload_n 1, 1) := by decide +kernel
theorem dX6_passEveningOf_2 : decode cX6_passEveningOf 2 = .ok (.aload_n 1, 1) := by decide +kernel
theorem dX6_passEveningOf_3 : decode cX6_passEveningOf 3 = .ok (.getfield 96, 3) := by decide +kernel
theorem dX6_passEveningOf_6 : decode cX6_passEveningOf 6 = .ok (.iload_n 2, 1) := by decide +kernel
theorem dX6_passEveningOf_7 : decode cX6_passEveningOf 7 = .ok (.iaload, 1) := by decide +kernel
theorem dX6_passEveningOf_8 : decode cX6_passEveningOf 8 = .ok (.ifCond .le 7, 3) := by decide +kernel
theorem dX6_passEveningOf_11 : decode cX6_passEveningOf 11 = .ok (.iconst (-1), 1) := by decide +kernel
theorem dX6_passEveningOf_12 : decode cX6_passEveningOf 12 = .ok (.goto 4, 3) := by decide +kernel
theorem dX6_passEveningOf_15 : decode cX6_passEveningOf 15 = .ok (.iload_n 2, 1) := by decide +kernel
theorem dX6_passEveningOf_16 : decode cX6_passEveningOf 16 = .ok (.iload_n 3, 1) := by decide +kernel
theorem dX6_passEveningOf_17 : decode cX6_passEveningOf 17 = .ok (.invokevirtual 159, 3) := by decide +kernel
theorem dX6_passEveningOf_20 : decode cX6_passEveningOf 20 = .ok (.return_, 1) := by decide +kernel
theorem dX9_evenings_0 : decode cX9_evenings 0 = .ok (.iload_n 1, 1) := by decide +kernel
theorem dX9_evenings_1 : decode cX9_evenings 1 = .ok (.invokestatic 217, 3) := by decide +kernel
theorem dX9_evenings_4 : decode cX9_evenings 4 = .ok (.ifCond .ne 5, 3) := by decide +kernel
theorem dX9_evenings_7 : decode cX9_evenings 7 = .ok (.iconst (-1), 1) := by decide +kernel
theorem dX9_evenings_8 : decode cX9_evenings 8 = .ok (.ireturn, 1) := by decide +kernel
theorem dX9_evenings_9 : decode cX9_evenings 9 = .ok (.iload_n 1, 1) := by decide +kernel
theorem dX9_evenings_10 : decode cX9_evenings 10 = .ok (.ifCond .le 26, 3) := by decide +kernel
theorem dX9_evenings_13 : decode cX9_evenings 13 = .ok (.aload_n 0, 1) := by decide +kernel
theorem dX9_evenings_14 : decode cX9_evenings 14 = .ok (.getfield 57, 3) := by decide +kernel
theorem dX9_evenings_17 : decode cX9_evenings 17 = .ok (.aload_n 0, 1) := by decide +kernel
theorem dX9_evenings_18 : decode cX9_evenings 18 = .ok (.getfield 40, 3) := by decide +kernel
theorem dX9_evenings_21 : decode cX9_evenings 21 = .ok (.invokevirtual 204, 3) := by decide +kernel
theorem dX9_evenings_24 : decode cX9_evenings 24 = .ok (.aload_n 0, 1) := by decide +kernel
theorem dX9_evenings_25 : decode cX9_evenings 25 = .ok (.getfield 30, 3) := by decide +kernel
theorem dX9_evenings_28 : decode cX9_evenings 28 = .ok (.aload_n 0, 1) := by decide +kernel
theorem dX9_evenings_29 : decode cX9_evenings 29 = .ok (.getfield 40, 3) := by decide +kernel
theorem dX9_evenings_32 : decode cX9_evenings 32 = .ok (.iload_n 1, 1) := by decide +kernel
theorem dX9_evenings_33 : decode cX9_evenings 33 = .ok (.invokevirtual 220, 3) := by decide +kernel
theorem dX9_evenings_36 : decode cX9_evenings 36 = .ok (.aload_n 0, 1) := by decide +kernel
theorem dX9_evenings_37 : decode cX9_evenings 37 = .ok (.getfield 40, 3) := by decide +kernel
theorem dX9_evenings_40 : decode cX9_evenings 40 = .ok (.getfield 153, 3) := by decide +kernel
theorem dX9_evenings_43 : decode cX9_evenings 43 = .ok (.ireturn, 1) := by decide +kernel
theorem dX9_tonight_0 : decode cX9_tonight 0 = .ok (.aload_n 0, 1) := by decide +kernel
theorem dX9_tonight_1 : decode cX9_tonight 1 = .ok (.getfield 30, 3) := by decide +kernel
theorem dX9_tonight_4 : decode cX9_tonight 4 = .ok (.iload_n 1, 1) := by decide +kernel
theorem dX9_tonight_5 : decode cX9_tonight 5 = .ok (.invokevirtual 87, 3) := by decide +kernel
theorem dX9_tonight_8 : decode cX9_tonight 8 = .ok (.ifCond .eq 12, 3) := by decide +kernel
theorem dX9_tonight_11 : decode cX9_tonight 11 = .ok (.iload_n 2, 1) := by decide +kernel
theorem dX9_tonight_12 : decode cX9_tonight 12 = .ok (.ifCond .lt 8, 3) := by decide +kernel
theorem dX9_tonight_15 : decode cX9_tonight 15 = .ok (.iload_n 2, 1) := by decide +kernel
theorem dX9_tonight_16 : decode cX9_tonight 16 = .ok (.iconst 3, 1) := by decide +kernel
theorem dX9_tonight_17 : decode cX9_tonight 17 = .ok (.if_icmp .le 5, 3) := by decide +kernel
theorem dX9_tonight_20 : decode cX9_tonight 20 = .ok (.iconst (-1), 1) := by decide +kernel
theorem dX9_tonight_21 : decode cX9_tonight 21 = .ok (.ireturn, 1) := by decide +kernel
theorem dX9_tonight_22 : decode cX9_tonight 22 = .ok (.iload_n 2, 1) := by decide +kernel
theorem dX9_tonight_23 : decode cX9_tonight 23 = .ok (.tableswitch 58 0 2 #[25, 38, 52], 25) := by decide +kernel
theorem dX9_tonight_48 : decode cX9_tonight 48 = .ok (.aload_n 0, 1) := by decide +kernel
theorem dX9_tonight_49 : decode cX9_tonight 49 = .ok (.getfield 30, 3) := by decide +kernel
theorem dX9_tonight_52 : decode cX9_tonight 52 = .ok (.aload_n 0, 1) := by decide +kernel
theorem dX9_tonight_53 : decode cX9_tonight 53 = .ok (.getfield 40, 3) := by decide +kernel
theorem dX9_tonight_56 : decode cX9_tonight 56 = .ok (.iload_n 1, 1) := by decide +kernel
theorem dX9_tonight_57 : decode cX9_tonight 57 = .ok (.invokevirtual 108, 3) := by decide +kernel
theorem dX9_tonight_60 : decode cX9_tonight 60 = .ok (.ireturn, 1) := by decide +kernel
theorem dX9_tonight_61 : decode cX9_tonight 61 = .ok (.aload_n 0, 1) := by decide +kernel
theorem dX9_tonight_62 : decode cX9_tonight 62 = .ok (.iload_n 1, 1) := by decide +kernel
theorem dX9_tonight_63 : decode cX9_tonight 63 = .ok (.invokevirtual 235, 3) := by decide +kernel
theorem dX9_tonight_66 : decode cX9_tonight 66 = .ok (.aload_n 0, 1) := by decide +kernel
theorem dX9_tonight_67 : decode cX9_tonight 67 = .ok (.getfield 40, 3) := by decide +kernel
theorem dX9_tonight_70 : decode cX9_tonight 70 = .ok (.getfield 166, 3) := by decide +kernel
theorem dX9_tonight_73 : decode cX9_tonight 73 = .ok (.iand, 1) := by decide +kernel
theorem dX9_tonight_74 : decode cX9_tonight 74 = .ok (.ireturn, 1) := by decide +kernel
theorem dX9_tonight_75 : decode cX9_tonight 75 = .ok (.aload_n 0, 1) := by decide +kernel
theorem dX9_tonight_76 : decode cX9_tonight 76 = .ok (.iload_n 1, 1) := by decide +kernel
theorem dX9_tonight_77 : decode cX9_tonight 77 = .ok (.invokevirtual 238, 3) := by decide +kernel
theorem dX9_tonight_80 : decode cX9_tonight 80 = .ok (.ireturn, 1) := by decide +kernel
theorem dX9_tonight_81 : decode cX9_tonight 81 = .ok (.aload_n 0, 1) := by decide +kernel
theorem dX9_tonight_82 : decode cX9_tonight 82 = .ok (.iload_n 1, 1) := by decide +kernel
theorem dX9_tonight_83 : decode cX9_tonight 83 = .ok (.invokevirtual 241, 3) := by decide +kernel
theorem dX9_tonight_86 : decode cX9_tonight 86 = .ok (.ireturn, 1) := by decide +kernel
theorem dX9_series_0 : decode cX9_series 0 = .ok (.aload_n 0, 1) := by decide +kernel
theorem dX9_series_1 : decode cX9_series 1 = .ok (.getfield 30, 3) := by decide +kernel
theorem dX9_series_4 : decode cX9_series 4 = .ok (.iload_n 1, 1) := by decide +kernel
theorem dX9_series_5 : decode cX9_series 5 = .ok (.invokevirtual 87, 3) := by decide +kernel
theorem dX9_series_8 : decode cX9_series 8 = .ok (.ifCond .eq 15, 3) := by decide +kernel
theorem dX9_series_11 : decode cX9_series 11 = .ok (.iload_n 2, 1) := by decide +kernel
theorem dX9_series_12 : decode cX9_series 12 = .ok (.iconst 1, 1) := by decide +kernel
theorem dX9_series_13 : decode cX9_series 13 = .ok (.if_icmp .lt 10, 3) := by decide +kernel
theorem dX9_series_16 : decode cX9_series 16 = .ok (.iload_n 2, 1) := by decide +kernel
theorem dX9_series_17 : decode cX9_series 17 = .ok (.invokestatic 217, 3) := by decide +kernel
theorem dX9_series_20 : decode cX9_series 20 = .ok (.ifCond .ne 5, 3) := by decide +kernel
theorem dX9_series_23 : decode cX9_series 23 = .ok (.iconst (-1), 1) := by decide +kernel
theorem dX9_series_24 : decode cX9_series 24 = .ok (.ireturn, 1) := by decide +kernel
theorem dX9_series_25 : decode cX9_series 25 = .ok (.aload_n 0, 1) := by decide +kernel
theorem dX9_series_26 : decode cX9_series 26 = .ok (.getfield 44, 3) := by decide +kernel
theorem dX9_series_29 : decode cX9_series 29 = .ok (.aload_n 0, 1) := by decide +kernel
theorem dX9_series_30 : decode cX9_series 30 = .ok (.getfield 40, 3) := by decide +kernel
theorem dX9_series_33 : decode cX9_series 33 = .ok (.invokevirtual 244, 3) := by decide +kernel
theorem dX9_series_36 : decode cX9_series 36 = .ok (.iconst 0, 1) := by decide +kernel
theorem dX9_series_37 : decode cX9_series 37 = .ok (.istore_n 3, 1) := by decide +kernel
theorem dX9_series_38 : decode cX9_series 38 = .ok (.iload_n 3, 1) := by decide +kernel
theorem dX9_series_39 : decode cX9_series 39 = .ok (.iload_n 2, 1) := by decide +kernel
theorem dX9_series_40 : decode cX9_series 40 = .ok (.if_icmp .ge 22, 3) := by decide +kernel
theorem dX9_series_43 : decode cX9_series 43 = .ok (.aload_n 0, 1) := by decide +kernel
theorem dX9_series_44 : decode cX9_series 44 = .ok (.getfield 30, 3) := by decide +kernel
theorem dX9_series_47 : decode cX9_series 47 = .ok (.aload_n 0, 1) := by decide +kernel
theorem dX9_series_48 : decode cX9_series 48 = .ok (.getfield 44, 3) := by decide +kernel
theorem dX9_series_51 : decode cX9_series 51 = .ok (.iload_n 1, 1) := by decide +kernel
theorem dX9_series_52 : decode cX9_series 52 = .ok (.iconst 0, 1) := by decide +kernel
theorem dX9_series_53 : decode cX9_series 53 = .ok (.invokevirtual 264, 3) := by decide +kernel
theorem dX9_series_56 : decode cX9_series 56 = .ok (.iinc 3 1, 3) := by decide +kernel
theorem dX9_series_59 : decode cX9_series 59 = .ok (.goto (-21), 3) := by decide +kernel
theorem dX9_series_62 : decode cX9_series 62 = .ok (.aload_n 0, 1) := by decide +kernel
theorem dX9_series_63 : decode cX9_series 63 = .ok (.getfield 44, 3) := by decide +kernel
theorem dX9_series_66 : decode cX9_series 66 = .ok (.invokevirtual 169, 3) := by decide +kernel
theorem dX9_series_69 : decode cX9_series 69 = .ok (.aload_n 0, 1) := by decide +kernel
theorem dX9_series_70 : decode cX9_series 70 = .ok (.getfield 40, 3) := by decide +kernel
theorem dX9_series_73 : decode cX9_series 73 = .ok (.invokevirtual 169, 3) := by decide +kernel
theorem dX9_series_76 : decode cX9_series 76 = .ok (.isub, 1) := by decide +kernel
theorem dX9_series_77 : decode cX9_series 77 = .ok (.ireturn, 1) := by decide +kernel
theorem dX9_longOf_0 : decode cX9_longOf 0 = .ok (.aload_n 0, 1) := by decide +kernel
theorem dX9_longOf_1 : decode cX9_longOf 1 = .ok (.getfield 30, 3) := by decide +kernel
theorem dX9_longOf_4 : decode cX9_longOf 4 = .ok (.iload_n 1, 1) := by decide +kernel
theorem dX9_longOf_5 : decode cX9_longOf 5 = .ok (.invokevirtual 112, 3) := by decide +kernel
theorem dX9_longOf_8 : decode cX9_longOf 8 = .ok (.ifCond .eq 14, 3) := by decide +kernel
theorem dX9_longOf_11 : decode cX9_longOf 11 = .ok (.aload_n 0, 1) := by decide +kernel
theorem dX9_longOf_12 : decode cX9_longOf 12 = .ok (.getfield 30, 3) := by decide +kernel
theorem dX9_longOf_15 : decode cX9_longOf 15 = .ok (.iload_n 2, 1) := by decide +kernel
theorem dX9_longOf_16 : decode cX9_longOf 16 = .ok (.invokevirtual 87, 3) := by decide +kernel
theorem dX9_longOf_19 : decode cX9_longOf 19 = .ok (.ifCond .ne 5, 3) := by decide +kernel
theorem dX9_longOf_22 : decode cX9_longOf 22 = .ok (.iconst (-1), 1) := by decide +kernel
theorem dX9_longOf_23 : decode cX9_longOf 23 = .ok (.ireturn, 1) := by decide +kernel
theorem dX9_longOf_24 : decode cX9_longOf 24 = .ok (.aload_n 0, 1) := by decide +kernel
theorem dX9_longOf_25 : decode cX9_longOf 25 = .ok (.getfield 44, 3) := by decide +kernel
theorem dX9_longOf_28 : decode cX9_longOf 28 = .ok (.aload_n 0, 1) := by decide +kernel
theorem dX9_longOf_29 : decode cX9_longOf 29 = .ok (.getfield 40, 3) := by decide +kernel
theorem dX9_longOf_32 : decode cX9_longOf 32 = .ok (.invokevirtual 244, 3) := by decide +kernel
theorem dX9_longOf_35 : decode cX9_longOf 35 = .ok (.iconst 0, 1) := by decide +kernel
theorem dX9_longOf_36 : decode cX9_longOf 36 = .ok (.istore_n 3, 1) := by decide +kernel
theorem dX9_longOf_37 : decode cX9_longOf 37 = .ok (.iload_n 3, 1) := by decide +kernel
theorem dX9_longOf_38 : decode cX9_longOf 38 = .ok (.bipush 30, 2) := by decide +kernel
theorem dX9_longOf_40 : decode cX9_longOf 40 = .ok (.if_icmp .ge 39, 3) := by decide +kernel
theorem dX9_longOf_43 : decode cX9_longOf 43 = .ok (.aload_n 0, 1) := by decide +kernel
theorem dX9_longOf_44 : decode cX9_longOf 44 = .ok (.getfield 30, 3) := by decide +kernel
theorem dX9_longOf_47 : decode cX9_longOf 47 = .ok (.aload_n 0, 1) := by decide +kernel
theorem dX9_longOf_48 : decode cX9_longOf 48 = .ok (.getfield 44, 3) := by decide +kernel
theorem dX9_longOf_51 : decode cX9_longOf 51 = .ok (.iload_n 1, 1) := by decide +kernel
theorem dX9_longOf_52 : decode cX9_longOf 52 = .ok (.invokevirtual 127, 3) := by decide +kernel
theorem dX9_longOf_55 : decode cX9_longOf 55 = .ok (.ifCond .eq 5, 3) := by decide +kernel
theorem dX9_longOf_58 : decode cX9_longOf 58 = .ok (.iload_n 3, 1) := by decide +kernel
theorem dX9_longOf_59 : decode cX9_longOf 59 = .ok (.ireturn, 1) := by decide +kernel
theorem dX9_longOf_60 : decode cX9_longOf 60 = .ok (.aload_n 0, 1) := by decide +kernel
theorem dX9_longOf_61 : decode cX9_longOf 61 = .ok (.getfield 30, 3) := by decide +kernel
theorem dX9_longOf_64 : decode cX9_longOf 64 = .ok (.aload_n 0, 1) := by decide +kernel
theorem dX9_longOf_65 : decode cX9_longOf 65 = .ok (.getfield 44, 3) := by decide +kernel
theorem dX9_longOf_68 : decode cX9_longOf 68 = .ok (.iload_n 2, 1) := by decide +kernel
theorem dX9_longOf_69 : decode cX9_longOf 69 = .ok (.iconst 0, 1) := by decide +kernel
theorem dX9_longOf_70 : decode cX9_longOf 70 = .ok (.invokevirtual 264, 3) := by decide +kernel
theorem dX9_longOf_73 : decode cX9_longOf 73 = .ok (.iinc 3 1, 3) := by decide +kernel
theorem dX9_longOf_76 : decode cX9_longOf 76 = .ok (.goto (-39), 3) := by decide +kernel
theorem dX9_longOf_79 : decode cX9_longOf 79 = .ok (.aload_n 0, 1) := by decide +kernel
theorem dX9_longOf_80 : decode cX9_longOf 80 = .ok (.getfield 30, 3) := by decide +kernel
theorem dX9_longOf_83 : decode cX9_longOf 83 = .ok (.aload_n 0, 1) := by decide +kernel
theorem dX9_longOf_84 : decode cX9_longOf 84 = .ok (.getfield 44, 3) := by decide +kernel
theorem dX9_longOf_87 : decode cX9_longOf 87 = .ok (.iload_n 1, 1) := by decide +kernel
theorem dX9_longOf_88 : decode cX9_longOf 88 = .ok (.invokevirtual 127, 3) := by decide +kernel
theorem dX9_longOf_91 : decode cX9_longOf 91 = .ok (.ifCond .eq 8, 3) := by decide +kernel
theorem dX9_longOf_94 : decode cX9_longOf 94 = .ok (.bipush 30, 2) := by decide +kernel
theorem dX9_longOf_96 : decode cX9_longOf 96 = .ok (.goto 5, 3) := by decide +kernel
theorem dX9_longOf_99 : decode cX9_longOf 99 = .ok (.bipush (-2), 2) := by decide +kernel
theorem dX9_longOf_101 : decode cX9_longOf 101 = .ok (.ireturn, 1) := by decide +kernel
theorem dX9_tryEvenings_0 : decode cX9_tryEvenings 0 = .ok (.aload_n 0, 1) := by decide +kernel
theorem dX9_tryEvenings_1 : decode cX9_tryEvenings 1 = .ok (.getfield 44, 3) := by decide +kernel
theorem dX9_tryEvenings_4 : decode cX9_tryEvenings 4 = .ok (.aload_n 0, 1) := by decide +kernel
theorem dX9_tryEvenings_5 : decode cX9_tryEvenings 5 = .ok (.getfield 40, 3) := by decide +kernel
theorem dX9_tryEvenings_8 : decode cX9_tryEvenings 8 = .ok (.invokevirtual 244, 3) := by decide +kernel
theorem dX9_tryEvenings_11 : decode cX9_tryEvenings 11 = .ok (.aload_n 0, 1) := by decide +kernel
theorem dX9_tryEvenings_12 : decode cX9_tryEvenings 12 = .ok (.getfield 30, 3) := by decide +kernel
theorem dX9_tryEvenings_15 : decode cX9_tryEvenings 15 = .ok (.aload_n 0, 1) := by decide +kernel
theorem dX9_tryEvenings_16 : decode cX9_tryEvenings 16 = .ok (.getfield 44, 3) := by decide +kernel
theorem dX9_tryEvenings_19 : decode cX9_tryEvenings 19 = .ok (.iload_n 1, 1) := by decide +kernel
theorem dX9_tryEvenings_20 : decode cX9_tryEvenings 20 = .ok (.invokevirtual 220, 3) := by decide +kernel
theorem dX9_tryEvenings_23 : decode cX9_tryEvenings 23 = .ok (.return_, 1) := by decide +kernel
theorem dX9_tryRow_0 : decode cX9_tryRow 0 = .ok (.aload_n 0, 1) := by decide +kernel
theorem dX9_tryRow_1 : decode cX9_tryRow 1 = .ok (.getfield 44, 3) := by decide +kernel
theorem dX9_tryRow_4 : decode cX9_tryRow 4 = .ok (.aload_n 0, 1) := by decide +kernel
theorem dX9_tryRow_5 : decode cX9_tryRow 5 = .ok (.getfield 40, 3) := by decide +kernel
theorem dX9_tryRow_8 : decode cX9_tryRow 8 = .ok (.invokevirtual 244, 3) := by decide +kernel
theorem dX9_tryRow_11 : decode cX9_tryRow 11 = .ok (.iconst 0, 1) := by decide +kernel
theorem dX9_tryRow_12 : decode cX9_tryRow 12 = .ok (.istore 4, 2) := by decide +kernel
theorem dX9_tryRow_14 : decode cX9_tryRow 14 = .ok (.iload 4, 2) := by decide +kernel
theorem dX9_tryRow_16 : decode cX9_tryRow 16 = .ok (.iload_n 2, 1) := by decide +kernel
theorem dX9_tryRow_17 : decode cX9_tryRow 17 = .ok (.if_icmp .ge 36, 3) := by decide +kernel
theorem dX9_tryRow_20 : decode cX9_tryRow 20 = .ok (.aload_n 0, 1) := by decide +kernel
theorem dX9_tryRow_21 : decode cX9_tryRow 21 = .ok (.getfield 30, 3) := by decide +kernel
theorem dX9_tryRow_24 : decode cX9_tryRow 24 = .ok (.aload_n 0, 1) := by decide +kernel
theorem dX9_tryRow_25 : decode cX9_tryRow 25 = .ok (.getfield 44, 3) := by decide +kernel
theorem dX9_tryRow_28 : decode cX9_tryRow 28 = .ok (.iload_n 1, 1) := by decide +kernel
theorem dX9_tryRow_29 : decode cX9_tryRow 29 = .ok (.aload_n 0, 1) := by decide +kernel
theorem dX9_tryRow_30 : decode cX9_tryRow 30 = .ok (.getfield 30, 3) := by decide +kernel
theorem dX9_tryRow_33 : decode cX9_tryRow 33 = .ok (.iload_n 3, 1) := by decide +kernel
theorem dX9_tryRow_34 : decode cX9_tryRow 34 = .ok (.aload_n 0, 1) := by decide +kernel
theorem dX9_tryRow_35 : decode cX9_tryRow 35 = .ok (.getfield 44, 3) := by decide +kernel
theorem dX9_tryRow_38 : decode cX9_tryRow 38 = .ok (.getfield 153, 3) := by decide +kernel
theorem dX9_tryRow_41 : decode cX9_tryRow 41 = .ok (.invokevirtual 185, 3) := by decide +kernel
theorem dX9_tryRow_44 : decode cX9_tryRow 44 = .ok (.invokevirtual 264, 3) := by decide +kernel
theorem dX9_tryRow_47 : decode cX9_tryRow 47 = .ok (.iinc 4 1, 3) := by decide +kernel
theorem dX9_tryRow_50 : decode cX9_tryRow 50 = .ok (.goto (-36), 3) := by decide +kernel
theorem dX9_tryRow_53 : decode cX9_tryRow 53 = .ok (.return_, 1) := by decide +kernel
theorem dX9_who_0 : decode cX9_who 0 = .ok (.iload_n 1, 1) := by decide +kernel
theorem dX9_who_1 : decode cX9_who 1 = .ok (.ifCond .lt 23, 3) := by decide +kernel
theorem dX9_who_4 : decode cX9_who 4 = .ok (.iload_n 1, 1) := by decide +kernel
theorem dX9_who_5 : decode cX9_who 5 = .ok (.aload_n 0, 1) := by decide +kernel
theorem dX9_who_6 : decode cX9_who 6 = .ok (.getfield 64, 3) := by decide +kernel
theorem dX9_who_9 : decode cX9_who 9 = .ok (.getfield 84, 3) := by decide +kernel
theorem dX9_who_12 : decode cX9_who 12 = .ok (.if_icmp .gt 12, 3) := by decide +kernel
theorem dX9_who_15 : decode cX9_who 15 = .ok (.iload_n 2, 1) := by decide +kernel
theorem dX9_who_16 : decode cX9_who 16 = .ok (.ifCond .lt 8, 3) := by decide +kernel
theorem dX9_who_19 : decode cX9_who 19 = .ok (.iload_n 2, 1) := by decide +kernel
theorem dX9_who_20 : decode cX9_who 20 = .ok (.iconst 1, 1) := by decide +kernel
theorem dX9_who_21 : decode cX9_who 21 = .ok (.if_icmp .le 5, 3) := by decide +kernel
theorem dX9_who_24 : decode cX9_who 24 = .ok (.iconst (-1), 1) := by decide +kernel
theorem dX9_who_25 : decode cX9_who 25 = .ok (.ireturn, 1) := by decide +kernel
theorem dX9_who_26 : decode cX9_who 26 = .ok (.aload_n 0, 1) := by decide +kernel
theorem dX9_who_27 : decode cX9_who 27 = .ok (.iload_n 1, 1) := by decide +kernel
theorem dX9_who_28 : decode cX9_who 28 = .ok (.invokevirtual 296, 3) := by decide +kernel
theorem dX9_who_31 : decode cX9_who 31 = .ok (.istore_n 3, 1) := by decide +kernel
theorem dX9_who_32 : decode cX9_who 32 = .ok (.iload_n 2, 1) := by decide +kernel
theorem dX9_who_33 : decode cX9_who 33 = .ok (.ifCond .ne 10, 3) := by decide +kernel
theorem dX9_who_36 : decode cX9_who 36 = .ok (.iload_n 3, 1) := by decide +kernel
theorem dX9_who_37 : decode cX9_who 37 = .ok (.invokestatic 177, 3) := by decide +kernel
theorem dX9_who_40 : decode cX9_who 40 = .ok (.goto 4, 3) := by decide +kernel
theorem dX9_who_43 : decode cX9_who 43 = .ok (.iload_n 3, 1) := by decide +kernel
theorem dX9_who_44 : decode cX9_who 44 = .ok (.ireturn, 1) := by decide +kernel
theorem dX10_tellOne_0 : decode cX10_tellOne 0 = .ok (.aload_n 0, 1) := by decide +kernel
theorem dX10_tellOne_1 : decode cX10_tellOne 1 = .ok (.getfield 20, 3) := by decide +kernel
theorem dX10_tellOne_4 : decode cX10_tellOne 4 = .ok (.aload_n 0, 1) := by decide +kernel
theorem dX10_tellOne_5 : decode cX10_tellOne 5 = .ok (.getfield 203, 3) := by decide +kernel
theorem dX10_tellOne_8 : decode cX10_tellOne 8 = .ok (.iaload, 1) := by decide +kernel
theorem dX10_tellOne_9 : decode cX10_tellOne 9 = .ok (.tableswitch 379 20 29 #[55, 165, 292, 379, 379, 379, 379, 321, 340, 359], 55) := by decide +kernel
theorem dX10_tellOne_64 : decode cX10_tellOne 64 = .ok (.aload_n 0, 1) := by decide +kernel
theorem dX10_tellOne_65 : decode cX10_tellOne 65 = .ok (.aload_n 0, 1) := by decide +kernel
theorem dX10_tellOne_66 : decode cX10_tellOne 66 = .ok (.getfield 46, 3) := by decide +kernel
theorem dX10_tellOne_69 : decode cX10_tellOne 69 = .ok (.aload_n 0, 1) := by decide +kernel
theorem dX10_tellOne_70 : decode cX10_tellOne 70 = .ok (.getfield 233, 3) := by decide +kernel
theorem dX10_tellOne_73 : decode cX10_tellOne 73 = .ok (.iaload, 1) := by decide +kernel
theorem dX10_tellOne_74 : decode cX10_tellOne 74 = .ok (.bipush 6, 2) := by decide +kernel
theorem dX10_tellOne_76 : decode cX10_tellOne 76 = .ok (.invokevirtual 261, 3) := by decide +kernel
theorem dX10_tellOne_79 : decode cX10_tellOne 79 = .ok (.aload_n 0, 1) := by decide +kernel
theorem dX10_tellOne_80 : decode cX10_tellOne 80 = .ok (.getfield 200, 3) := by decide +kernel
theorem dX10_tellOne_83 : decode cX10_tellOne 83 = .ok (.ifCond .le 4, 3) := by decide +kernel
theorem dX10_tellOne_86 : decode cX10_tellOne 86 = .ok (.return_, 1) := by decide +kernel
theorem dX10_tellOne_87 : decode cX10_tellOne 87 = .ok (.bipush 6, 2) := by decide +kernel
theorem dX10_tellOne_89 : decode cX10_tellOne 89 = .ok (.aload_n 0, 1) := by decide +kernel
theorem dX10_tellOne_90 : decode cX10_tellOne 90 = .ok (.getfield 233, 3) := by decide +kernel
theorem dX10_tellOne_93 : decode cX10_tellOne 93 = .ok (.imul, 1) := by decide +kernel
theorem dX10_tellOne_94 : decode cX10_tellOne 94 = .ok (.aload_n 0, 1) := by decide +kernel
theorem dX10_tellOne_95 : decode cX10_tellOne 95 = .ok (.getfield 46, 3) := by decide +kernel
theorem dX10_tellOne_98 : decode cX10_tellOne 98 = .ok (.aload_n 0, 1) := by decide +kernel
theorem dX10_tellOne_99 : decode cX10_tellOne 99 = .ok (.getfield 233, 3) := by decide +kernel
theorem dX10_tellOne_102 : decode cX10_tellOne 102 = .ok (.iaload, 1) := by decide +kernel
theorem dX10_tellOne_103 : decode cX10_tellOne 103 = .ok (.iadd, 1) := by decide +kernel
theorem dX10_tellOne_104 : decode cX10_tellOne 104 = .ok (.istore_n 1, 1) := by decide +kernel
theorem dX10_tellOne_105 : decode cX10_tellOne 105 = .ok (.aload_n 0, 1) := by decide +kernel
theorem dX10_tellOne_106 : decode cX10_tellOne 106 = .ok (.invokevirtual 265, 3) := by decide +kernel
theorem dX10_tellOne_109 : decode cX10_tellOne 109 = .ok (.istore_n 2, 1) := by decide +kernel
theorem dX10_tellOne_110 : decode cX10_tellOne 110 = .ok (.aload_n 0, 1) := by decide +kernel
theorem dX10_tellOne_111 : decode cX10_tellOne 111 = .ok (.getfield 49, 3) := by decide +kernel
theorem dX10_tellOne_114 : decode cX10_tellOne 114 = .ok (.iload_n 1, 1) := by decide +kernel
theorem dX10_tellOne_115 : decode cX10_tellOne 115 = .ok (.aload_n 0, 1) := by decide +kernel
theorem dX10_tellOne_116 : decode cX10_tellOne 116 = .ok (.iconst 0, 1) := by decide +kernel
theorem dX10_tellOne_117 : decode cX10_tellOne 117 = .ok (.sipush 255, 3) := by decide +kernel
theorem dX10_tellOne_120 : decode cX10_tellOne 120 = .ok (.invokevirtual 254, 3) := by decide +kernel
theorem dX10_tellOne_123 : decode cX10_tellOne 123 = .ok (.iastore, 1) := by decide +kernel
theorem dX10_tellOne_124 : decode cX10_tellOne 124 = .ok (.aload_n 0, 1) := by decide +kernel
theorem dX10_tellOne_125 : decode cX10_tellOne 125 = .ok (.getfield 52, 3) := by decide +kernel
theorem dX10_tellOne_128 : decode cX10_tellOne 128 = .ok (.iload_n 1, 1) := by decide +kernel
theorem dX10_tellOne_129 : decode cX10_tellOne 129 = .ok (.aload_n 0, 1) := by decide +kernel
theorem dX10_tellOne_130 : decode cX10_tellOne 130 = .ok (.iconst 0, 1) := by decide +kernel
theorem dX10_tellOne_131 : decode cX10_tellOne 131 = .ok (.bipush 9, 2) := by decide +kernel
theorem dX10_tellOne_133 : decode cX10_tellOne 133 = .ok (.invokevirtual 254, 3) := by decide +kernel
theorem dX10_tellOne_136 : decode cX10_tellOne 136 = .ok (.iastore, 1) := by decide +kernel
theorem dX10_tellOne_137 : decode cX10_tellOne 137 = .ok (.aload_n 0, 1) := by decide +kernel
theorem dX10_tellOne_138 : decode cX10_tellOne 138 = .ok (.iload_n 2, 1) := by decide +kernel
theorem dX10_tellOne_139 : decode cX10_tellOne 139 = .ok (.aload_n 0, 1) := by decide +kernel
theorem dX10_tellOne_140 : decode cX10_tellOne 140 = .ok (.getfield 46, 3) := by decide +kernel
theorem dX10_tellOne_143 : decode cX10_tellOne 143 = .ok (.aload_n 0, 1) := by decide +kernel
theorem dX10_tellOne_144 : decode cX10_tellOne 144 = .ok (.getfield 233, 3) := by decide +kernel
theorem dX10_tellOne_147 : decode cX10_tellOne 147 = .ok (.iaload, 1) := by decide +kernel
theorem dX10_tellOne_148 : decode cX10_tellOne 148 = .ok (.invokevirtual 269, 3) := by decide +kernel
theorem dX10_tellOne_151 : decode cX10_tellOne 151 = .ok (.aload_n 0, 1) := by decide +kernel
theorem dX10_tellOne_152 : decode cX10_tellOne 152 = .ok (.getfield 200, 3) := by decide +kernel
theorem dX10_tellOne_155 : decode cX10_tellOne 155 = .ok (.ifCond .ne 286, 3) := by decide +kernel
theorem dX10_tellOne_158 : decode cX10_tellOne 158 = .ok (.aload_n 0, 1) := by decide +kernel
theorem dX10_tellOne_159 : decode cX10_tellOne 159 = .ok (.getfield 46, 3) := by decide +kernel
theorem dX10_tellOne_162 : decode cX10_tellOne 162 = .ok (.aload_n 0, 1) := by decide +kernel
theorem dX10_tellOne_163 : decode cX10_tellOne 163 = .ok (.getfield 233, 3) := by decide +kernel
theorem dX10_tellOne_166 : decode cX10_tellOne 166 = .ok (.dup2, 1) := by decide +kernel
theorem dX10_tellOne_167 : decode cX10_tellOne 167 = .ok (.iaload, 1) := by decide +kernel
theorem dX10_tellOne_168 : decode cX10_tellOne 168 = .ok (.iconst 1, 1) := by decide +kernel
theorem dX10_tellOne_169 : decode cX10_tellOne 169 = .ok (.iadd, 1) := by decide +kernel
theorem dX10_tellOne_170 : decode cX10_tellOne 170 = .ok (.iastore, 1) := by decide +kernel
theorem dX10_tellOne_171 : decode cX10_tellOne 171 = .ok (.goto 270, 3) := by decide +kernel
theorem dX10_tellOne_174 : decode cX10_tellOne 174 = .ok (.aload_n 0, 1) := by decide +kernel
theorem dX10_tellOne_175 : decode cX10_tellOne 175 = .ok (.aload_n 0, 1) := by decide +kernel
theorem dX10_tellOne_176 : decode cX10_tellOne 176 = .ok (.getfield 55, 3) := by decide +kernel
theorem dX10_tellOne_179 : decode cX10_tellOne 179 = .ok (.aload_n 0, 1) := by decide +kernel
theorem dX10_tellOne_180 : decode cX10_tellOne 180 = .ok (.getfield 233, 3) := by decide +kernel
theorem dX10_tellOne_183 : decode cX10_tellOne 183 = .ok (.iaload, 1) := by decide +kernel
theorem dX10_tellOne_184 : decode cX10_tellOne 184 = .ok (.bipush 6, 2) := by decide +kernel
theorem dX10_tellOne_186 : decode cX10_tellOne 186 = .ok (.invokevirtual 261, 3) := by decide +kernel
theorem dX10_tellOne_189 : decode cX10_tellOne 189 = .ok (.aload_n 0, 1) := by decide +kernel
theorem dX10_tellOne_190 : decode cX10_tellOne 190 = .ok (.getfield 200, 3) := by decide +kernel
theorem dX10_tellOne_193 : decode cX10_tellOne 193 = .ok (.ifCond .le 4, 3) := by decide +kernel
theorem dX10_tellOne_196 : decode cX10_tellOne 196 = .ok (.return_, 1) := by decide +kernel
theorem dX10_tellOne_197 : decode cX10_tellOne 197 = .ok (.bipush 6, 2) := by decide +kernel
theorem dX10_tellOne_199 : decode cX10_tellOne 199 = .ok (.aload_n 0, 1) := by decide +kernel
theorem dX10_tellOne_200 : decode cX10_tellOne 200 = .ok (.getfield 233, 3) := by decide +kernel
theorem dX10_tellOne_203 : decode cX10_tellOne 203 = .ok (.imul, 1) := by decide +kernel
theorem dX10_tellOne_204 : decode cX10_tellOne 204 = .ok (.aload_n 0, 1) := by decide +kernel
theorem dX10_tellOne_205 : decode cX10_tellOne 205 = .ok (.getfield 55, 3) := by decide +kernel
theorem dX10_tellOne_208 : decode cX10_tellOne 208 = .ok (.aload_n 0, 1) := by decide +kernel
theorem dX10_tellOne_209 : decode cX10_tellOne 209 = .ok (.getfield 233, 3) := by decide +kernel
theorem dX10_tellOne_212 : decode cX10_tellOne 212 = .ok (.iaload, 1) := by decide +kernel
theorem dX10_tellOne_213 : decode cX10_tellOne 213 = .ok (.iadd, 1) := by decide +kernel
theorem dX10_tellOne_214 : decode cX10_tellOne 214 = .ok (.istore_n 1, 1) := by decide +kernel
theorem dX10_tellOne_215 : decode cX10_tellOne 215 = .ok (.aload_n 0, 1) := by decide +kernel
theorem dX10_tellOne_216 : decode cX10_tellOne 216 = .ok (.invokevirtual 265, 3) := by decide +kernel
theorem dX10_tellOne_219 : decode cX10_tellOne 219 = .ok (.istore_n 2, 1) := by decide +kernel
theorem dX10_tellOne_220 : decode cX10_tellOne 220 = .ok (.aload_n 0, 1) := by decide +kernel
theorem dX10_tellOne_221 : decode cX10_tellOne 221 = .ok (.getfield 58, 3) := by decide +kernel
theorem dX10_tellOne_224 : decode cX10_tellOne 224 = .ok (.iload_n 1, 1) := by decide +kernel
theorem dX10_tellOne_225 : decode cX10_tellOne 225 = .ok (.aload_n 0, 1) := by decide +kernel
theorem dX10_tellOne_226 : decode cX10_tellOne 226 = .ok (.iconst 0, 1) := by decide +kernel
theorem dX10_tellOne_227 : decode cX10_tellOne 227 = .ok (.sipush 255, 3) := by decide +kernel
theorem dX10_tellOne_230 : decode cX10_tellOne 230 = .ok (.invokevirtual 254, 3) := by decide +kernel
theorem dX10_tellOne_233 : decode cX10_tellOne 233 = .ok (.iastore, 1) := by decide +kernel
theorem dX10_tellOne_234 : decode cX10_tellOne 234 = .ok (.aload_n 0, 1) := by decide +kernel
theorem dX10_tellOne_235 : decode cX10_tellOne 235 = .ok (.getfield 61, 3) := by decide +kernel
theorem dX10_tellOne_238 : decode cX10_tellOne 238 = .ok (.iload_n 1, 1) := by decide +kernel
theorem dX10_tellOne_239 : decode cX10_tellOne 239 = .ok (.aload_n 0, 1) := by decide +kernel
theorem dX10_tellOne_240 : decode cX10_tellOne 240 = .ok (.iconst 0, 1) := by decide +kernel
theorem dX10_tellOne_241 : decode cX10_tellOne 241 = .ok (.sipush 255, 3) := by decide +kernel
theorem dX10_tellOne_244 : decode cX10_tellOne 244 = .ok (.invokevirtual 254, 3) := by decide +kernel
theorem dX10_tellOne_247 : decode cX10_tellOne 247 = .ok (.iastore, 1) := by decide +kernel
theorem dX10_tellOne_248 : decode cX10_tellOne 248 = .ok (.aload_n 0, 1) := by decide +kernel
theorem dX10_tellOne_249 : decode cX10_tellOne 249 = .ok (.getfield 64, 3) := by decide +kernel
theorem dX10_tellOne_252 : decode cX10_tellOne 252 = .ok (.iload_n 1, 1) := by decide +kernel
theorem dX10_tellOne_253 : decode cX10_tellOne 253 = .ok (.aload_n 0, 1) := by decide +kernel
theorem dX10_tellOne_254 : decode cX10_tellOne 254 = .ok (.iconst 0, 1) := by decide +kernel
theorem dX10_tellOne_255 : decode cX10_tellOne 255 = .ok (.bipush 99, 2) := by decide +kernel
theorem dX10_tellOne_257 : decode cX10_tellOne 257 = .ok (.invokevirtual 254, 3) := by decide +kernel
theorem dX10_tellOne_260 : decode cX10_tellOne 260 = .ok (.iastore, 1) := by decide +kernel
theorem dX10_tellOne_261 : decode cX10_tellOne 261 = .ok (.aload_n 0, 1) := by decide +kernel
theorem dX10_tellOne_262 : decode cX10_tellOne 262 = .ok (.iload_n 2, 1) := by decide +kernel
theorem dX10_tellOne_263 : decode cX10_tellOne 263 = .ok (.bipush 10, 2) := by decide +kernel
theorem dX10_tellOne_265 : decode cX10_tellOne 265 = .ok (.aload_n 0, 1) := by decide +kernel
theorem dX10_tellOne_266 : decode cX10_tellOne 266 = .ok (.getfield 55, 3) := by decide +kernel
theorem dX10_tellOne_269 : decode cX10_tellOne 269 = .ok (.aload_n 0, 1) := by decide +kernel
theorem dX10_tellOne_270 : decode cX10_tellOne 270 = .ok (.getfield 233, 3) := by decide +kernel
theorem dX10_tellOne_273 : decode cX10_tellOne 273 = .ok (.iaload, 1) := by decide +kernel
theorem dX10_tellOne_274 : decode cX10_tellOne 274 = .ok (.iadd, 1) := by decide +kernel
theorem dX10_tellOne_275 : decode cX10_tellOne 275 = .ok (.invokevirtual 269, 3) := by decide +kernel
theorem dX10_tellOne_278 : decode cX10_tellOne 278 = .ok (.aload_n 0, 1) := by decide +kernel
theorem dX10_tellOne_279 : decode cX10_tellOne 279 = .ok (.getfield 200, 3) := by decide +kernel
theorem dX10_tellOne_282 : decode cX10_tellOne 282 = .ok (.ifCond .ne 159, 3) := by decide +kernel
theorem dX10_tellOne_285 : decode cX10_tellOne 285 = .ok (.aload_n 0, 1) := by decide +kernel
theorem dX10_tellOne_286 : decode cX10_tellOne 286 = .ok (.getfield 55, 3) := by decide +kernel
theorem dX10_tellOne_289 : decode cX10_tellOne 289 = .ok (.aload_n 0, 1) := by decide +kernel
theorem dX10_tellOne_290 : decode cX10_tellOne 290 = .ok (.getfield 233, 3) := by decide +kernel
theorem dX10_tellOne_293 : decode cX10_tellOne 293 = .ok (.dup2, 1) := by decide +kernel
theorem dX10_tellOne_294 : decode cX10_tellOne 294 = .ok (.iaload, 1) := by decide +kernel
theorem dX10_tellOne_295 : decode cX10_tellOne 295 = .ok (.iconst 1, 1) := by decide +kernel
theorem dX10_tellOne_296 : decode cX10_tellOne 296 = .ok (.iadd, 1) := by decide +kernel
theorem dX10_tellOne_297 : decode cX10_tellOne 297 = .ok (.iastore, 1) := by decide +kernel
theorem dX10_tellOne_298 : decode cX10_tellOne 298 = .ok (.goto 143, 3) := by decide +kernel
theorem dX10_tellOne_301 : decode cX10_tellOne 301 = .ok (.aload_n 0, 1) := by decide +kernel
theorem dX10_tellOne_302 : decode cX10_tellOne 302 = .ok (.aload_n 0, 1) := by decide +kernel
theorem dX10_tellOne_303 : decode cX10_tellOne 303 = .ok (.getfield 70, 3) := by decide +kernel
theorem dX10_tellOne_306 : decode cX10_tellOne 306 = .ok (.aload_n 0, 1) := by decide +kernel
theorem dX10_tellOne_307 : decode cX10_tellOne 307 = .ok (.getfield 233, 3) := by decide +kernel
theorem dX10_tellOne_310 : decode cX10_tellOne 310 = .ok (.iaload, 1) := by decide +kernel
theorem dX10_tellOne_311 : decode cX10_tellOne 311 = .ok (.bipush 6, 2) := by decide +kernel
theorem dX10_tellOne_313 : decode cX10_tellOne 313 = .ok (.invokevirtual 261, 3) := by decide +kernel
theorem dX10_tellOne_316 : decode cX10_tellOne 316 = .ok (.aload_n 0, 1) := by decide +kernel
theorem dX10_tellOne_317 : decode cX10_tellOne 317 = .ok (.getfield 200, 3) := by decide +kernel
theorem dX10_tellOne_320 : decode cX10_tellOne 320 = .ok (.ifCond .ne 121, 3) := by decide +kernel
theorem dX10_tellOne_323 : decode cX10_tellOne 323 = .ok (.aload_n 0, 1) := by decide +kernel
theorem dX10_tellOne_324 : decode cX10_tellOne 324 = .ok (.invokevirtual 272, 3) := by decide +kernel
theorem dX10_tellOne_327 : decode cX10_tellOne 327 = .ok (.goto 114, 3) := by decide +kernel
theorem dX10_tellOne_330 : decode cX10_tellOne 330 = .ok (.aload_n 0, 1) := by decide +kernel
theorem dX10_tellOne_331 : decode cX10_tellOne 331 = .ok (.getfield 73, 3) := by decide +kernel
theorem dX10_tellOne_334 : decode cX10_tellOne 334 = .ok (.aload_n 0, 1) := by decide +kernel
theorem dX10_tellOne_335 : decode cX10_tellOne 335 = .ok (.getfield 233, 3) := by decide +kernel
theorem dX10_tellOne_338 : decode cX10_tellOne 338 = .ok (.aload_n 0, 1) := by decide +kernel
theorem dX10_tellOne_339 : decode cX10_tellOne 339 = .ok (.iconst 0, 1) := by decide +kernel
theorem dX10_tellOne_340 : decode cX10_tellOne 340 = .ok (.bipush 100, 2) := by decide +kernel
theorem dX10_tellOne_342 : decode cX10_tellOne 342 = .ok (.invokevirtual 275, 3) := by decide +kernel
theorem dX10_tellOne_345 : decode cX10_tellOne 345 = .ok (.iastore, 1) := by decide +kernel
theorem dX10_tellOne_346 : decode cX10_tellOne 346 = .ok (.goto 95, 3) := by decide +kernel
theorem dX10_tellOne_349 : decode cX10_tellOne 349 = .ok (.aload_n 0, 1) := by decide +kernel
theorem dX10_tellOne_350 : decode cX10_tellOne 350 = .ok (.getfield 76, 3) := by decide +kernel
theorem dX10_tellOne_353 : decode cX10_tellOne 353 = .ok (.aload_n 0, 1) := by decide +kernel
theorem dX10_tellOne_354 : decode cX10_tellOne 354 = .ok (.getfield 233, 3) := by decide +kernel
theorem dX10_tellOne_357 : decode cX10_tellOne 357 = .ok (.aload_n 0, 1) := by decide +kernel
theorem dX10_tellOne_358 : decode cX10_tellOne 358 = .ok (.iconst 1, 1) := by decide +kernel
theorem dX10_tellOne_359 : decode cX10_tellOne 359 = .ok (.bipush 99, 2) := by decide +kernel
theorem dX10_tellOne_361 : decode cX10_tellOne 361 = .ok (.invokevirtual 275, 3) := by decide +kernel
theorem dX10_tellOne_364 : decode cX10_tellOne 364 = .ok (.iastore, 1) := by decide +kernel
theorem dX10_tellOne_365 : decode cX10_tellOne 365 = .ok (.goto 76, 3) := by decide +kernel
theorem dX10_tellOne_368 : decode cX10_tellOne 368 = .ok (.aload_n 0, 1) := by decide +kernel
theorem dX10_tellOne_369 : decode cX10_tellOne 369 = .ok (.getfield 79, 3) := by decide +kernel
theorem dX10_tellOne_372 : decode cX10_tellOne 372 = .ok (.aload_n 0, 1) := by decide +kernel
theorem dX10_tellOne_373 : decode cX10_tellOne 373 = .ok (.getfield 233, 3) := by decide +kernel
theorem dX10_tellOne_376 : decode cX10_tellOne 376 = .ok (.aload_n 0, 1) := by decide +kernel
theorem dX10_tellOne_377 : decode cX10_tellOne 377 = .ok (.iconst 0, 1) := by decide +kernel
theorem dX10_tellOne_378 : decode cX10_tellOne 378 = .ok (.sipush 9999, 3) := by decide +kernel
theorem dX10_tellOne_381 : decode cX10_tellOne 381 = .ok (.invokevirtual 275, 3) := by decide +kernel
theorem dX10_tellOne_384 : decode cX10_tellOne 384 = .ok (.iastore, 1) := by decide +kernel
theorem dX10_tellOne_385 : decode cX10_tellOne 385 = .ok (.goto 56, 3) := by decide +kernel
theorem dX10_tellOne_388 : decode cX10_tellOne 388 = .ok (.aload_n 0, 1) := by decide +kernel
theorem dX10_tellOne_389 : decode cX10_tellOne 389 = .ok (.getfield 20, 3) := by decide +kernel
theorem dX10_tellOne_392 : decode cX10_tellOne 392 = .ok (.aload_n 0, 1) := by decide +kernel
theorem dX10_tellOne_393 : decode cX10_tellOne 393 = .ok (.getfield 203, 3) := by decide +kernel
theorem dX10_tellOne_396 : decode cX10_tellOne 396 = .ok (.iaload, 1) := by decide +kernel
theorem dX10_tellOne_397 : decode cX10_tellOne 397 = .ok (.bipush 23, 2) := by decide +kernel
theorem dX10_tellOne_399 : decode cX10_tellOne 399 = .ok (.isub, 1) := by decide +kernel
theorem dX10_tellOne_400 : decode cX10_tellOne 400 = .ok (.istore_n 1, 1) := by decide +kernel
theorem dX10_tellOne_401 : decode cX10_tellOne 401 = .ok (.iload_n 1, 1) := by decide +kernel
theorem dX10_tellOne_402 : decode cX10_tellOne 402 = .ok (.ifCond .lt 17, 3) := by decide +kernel
theorem dX10_tellOne_405 : decode cX10_tellOne 405 = .ok (.aload_n 0, 1) := by decide +kernel
theorem dX10_tellOne_406 : decode cX10_tellOne 406 = .ok (.getfield 20, 3) := by decide +kernel
theorem dX10_tellOne_409 : decode cX10_tellOne 409 = .ok (.aload_n 0, 1) := by decide +kernel
theorem dX10_tellOne_410 : decode cX10_tellOne 410 = .ok (.getfield 203, 3) := by decide +kernel
theorem dX10_tellOne_413 : decode cX10_tellOne 413 = .ok (.iaload, 1) := by decide +kernel
theorem dX10_tellOne_414 : decode cX10_tellOne 414 = .ok (.bipush 26, 2) := by decide +kernel
theorem dX10_tellOne_416 : decode cX10_tellOne 416 = .ok (.if_icmp .le 8, 3) := by decide +kernel
theorem dX10_tellOne_419 : decode cX10_tellOne 419 = .ok (.aload_n 0, 1) := by decide +kernel
theorem dX10_tellOne_420 : decode cX10_tellOne 420 = .ok (.iconst 1, 1) := by decide +kernel
theorem dX10_tellOne_421 : decode cX10_tellOne 421 = .ok (.invokevirtual 215, 3) := by decide +kernel
theorem dX10_tellOne_424 : decode cX10_tellOne 424 = .ok (.aload_n 0, 1) := by decide +kernel
theorem dX10_tellOne_425 : decode cX10_tellOne 425 = .ok (.getfield 200, 3) := by decide +kernel
theorem dX10_tellOne_428 : decode cX10_tellOne 428 = .ok (.ifCond .le 4, 3) := by decide +kernel
theorem dX10_tellOne_431 : decode cX10_tellOne 431 = .ok (.return_, 1) := by decide +kernel
theorem dX10_tellOne_432 : decode cX10_tellOne 432 = .ok (.aload_n 0, 1) := by decide +kernel
theorem dX10_tellOne_433 : decode cX10_tellOne 433 = .ok (.invokevirtual 221, 3) := by decide +kernel
theorem dX10_tellOne_436 : decode cX10_tellOne 436 = .ok (.aload_n 0, 1) := by decide +kernel
theorem dX10_tellOne_437 : decode cX10_tellOne 437 = .ok (.iload_n 1, 1) := by decide +kernel
theorem dX10_tellOne_438 : decode cX10_tellOne 438 = .ok (.invokevirtual 278, 3) := by decide +kernel
theorem dX10_tellOne_441 : decode cX10_tellOne 441 = .ok (.return_, 1) := by decide +kernel
theorem dX9_faith_0 : decode cX9_faith 0 = .ok (.iload_n 1, 1) := by decide +kernel
theorem dX9_faith_1 : decode cX9_faith 1 = .ok (.invokestatic 217, 3) := by decide +kernel
theorem dX9_faith_4 : decode cX9_faith 4 = .ok (.ifCond .ne 5, 3) := by decide +kernel
theorem dX9_faith_7 : decode cX9_faith 7 = .ok (.iconst (-1), 1) := by decide +kernel
theorem dX9_faith_8 : decode cX9_faith 8 = .ok (.ireturn, 1) := by decide +kernel
theorem dX9_faith_9 : decode cX9_faith 9 = .ok (.aload_n 0, 1) := by decide +kernel
theorem dX9_faith_10 : decode cX9_faith 10 = .ok (.iload_n 1, 1) := by decide +kernel
theorem dX9_faith_11 : decode cX9_faith 11 = .ok (.invokevirtual 267, 3) := by decide +kernel
theorem dX9_faith_14 : decode cX9_faith 14 = .ok (.aload_n 0, 1) := by decide +kernel
theorem dX9_faith_15 : decode cX9_faith 15 = .ok (.getfield 44, 3) := by decide +kernel
theorem dX9_faith_18 : decode cX9_faith 18 = .ok (.invokevirtual 198, 3) := by decide +kernel
theorem dX9_faith_21 : decode cX9_faith 21 = .ok (.ireturn, 1) := by decide +kernel
theorem dX9_then_0 : decode cX9_then 0 = .ok (.aload_n 0, 1) := by decide +kernel
theorem dX9_then_1 : decode cX9_then 1 = .ok (.getfield 30, 3) := by decide +kernel
theorem dX9_then_4 : decode cX9_then 4 = .ok (.iload_n 1, 1) := by decide +kernel
theorem dX9_then_5 : decode cX9_then 5 = .ok (.invokevirtual 112, 3) := by decide +kernel
theorem dX9_then_8 : decode cX9_then 8 = .ok (.ifCond .eq 19, 3) := by decide +kernel
theorem dX9_then_11 : decode cX9_then 11 = .ok (.iload_n 2, 1) := by decide +kernel
theorem dX9_then_12 : decode cX9_then 12 = .ok (.invokestatic 217, 3) := by decide +kernel
theorem dX9_then_15 : decode cX9_then 15 = .ok (.ifCond .eq 12, 3) := by decide +kernel
theorem dX9_then_18 : decode cX9_then 18 = .ok (.iload_n 3, 1) := by decide +kernel
theorem dX9_then_19 : decode cX9_then 19 = .ok (.ifCond .lt 8, 3) := by decide +kernel
theorem dX9_then_22 : decode cX9_then 22 = .ok (.iload_n 3, 1) := by decide +kernel
theorem dX9_then_23 : decode cX9_then 23 = .ok (.iconst 1, 1) := by decide +kernel
theorem dX9_then_24 : decode cX9_then 24 = .ok (.if_icmp .le 5, 3) := by decide +kernel
theorem dX9_then_27 : decode cX9_then 27 = .ok (.iconst (-1), 1) := by decide +kernel
theorem dX9_then_28 : decode cX9_then 28 = .ok (.ireturn, 1) := by decide +kernel
theorem dX9_then_29 : decode cX9_then 29 = .ok (.aload_n 0, 1) := by decide +kernel
theorem dX9_then_30 : decode cX9_then 30 = .ok (.iload_n 2, 1) := by decide +kernel
theorem dX9_then_31 : decode cX9_then 31 = .ok (.invokevirtual 267, 3) := by decide +kernel
theorem dX9_then_34 : decode cX9_then 34 = .ok (.iload_n 3, 1) := by decide +kernel
theorem dX9_then_35 : decode cX9_then 35 = .ok (.ifCond .ne 15, 3) := by decide +kernel
theorem dX9_then_38 : decode cX9_then 38 = .ok (.aload_n 0, 1) := by decide +kernel
theorem dX9_then_39 : decode cX9_then 39 = .ok (.getfield 44, 3) := by decide +kernel
theorem dX9_then_42 : decode cX9_then 42 = .ok (.getfield 115, 3) := by decide +kernel
theorem dX9_then_45 : decode cX9_then 45 = .ok (.iload_n 1, 1) := by decide +kernel
theorem dX9_then_46 : decode cX9_then 46 = .ok (.iaload, 1) := by decide +kernel
theorem dX9_then_47 : decode cX9_then 47 = .ok (.goto 12, 3) := by decide +kernel
theorem dX9_then_50 : decode cX9_then 50 = .ok (.aload_n 0, 1) := by decide +kernel
theorem dX9_then_51 : decode cX9_then 51 = .ok (.getfield 44, 3) := by decide +kernel
theorem dX9_then_54 : decode cX9_then 54 = .ok (.getfield 121, 3) := by decide +kernel
theorem dX9_then_57 : decode cX9_then 57 = .ok (.iload_n 1, 1) := by decide +kernel
theorem dX9_then_58 : decode cX9_then 58 = .ok (.iaload, 1) := by decide +kernel
theorem dX9_then_59 : decode cX9_then 59 = .ok (.ireturn, 1) := by decide +kernel
theorem dX9_quietIn_0 : decode cX9_quietIn 0 = .ok (.aload_n 0, 1) := by decide +kernel
theorem dX9_quietIn_1 : decode cX9_quietIn 1 = .ok (.getfield 30, 3) := by decide +kernel
theorem dX9_quietIn_4 : decode cX9_quietIn 4 = .ok (.iload_n 1, 1) := by decide +kernel
theorem dX9_quietIn_5 : decode cX9_quietIn 5 = .ok (.invokevirtual 87, 3) := by decide +kernel
theorem dX9_quietIn_8 : decode cX9_quietIn 8 = .ok (.ifCond .eq 10, 3) := by decide +kernel
theorem dX9_quietIn_11 : decode cX9_quietIn 11 = .ok (.iload_n 2, 1) := by decide +kernel
theorem dX9_quietIn_12 : decode cX9_quietIn 12 = .ok (.invokestatic 217, 3) := by decide +kernel
theorem dX9_quietIn_15 : decode cX9_quietIn 15 = .ok (.ifCond .ne 5, 3) := by decide +kernel
theorem dX9_quietIn_18 : decode cX9_quietIn 18 = .ok (.iconst (-1), 1) := by decide +kernel
theorem dX9_quietIn_19 : decode cX9_quietIn 19 = .ok (.ireturn, 1) := by decide +kernel
theorem dX9_quietIn_20 : decode cX9_quietIn 20 = .ok (.aload_n 0, 1) := by decide +kernel
theorem dX9_quietIn_21 : decode cX9_quietIn 21 = .ok (.iload_n 2, 1) := by decide +kernel
theorem dX9_quietIn_22 : decode cX9_quietIn 22 = .ok (.invokevirtual 267, 3) := by decide +kernel
theorem dX9_quietIn_25 : decode cX9_quietIn 25 = .ok (.aload_n 0, 1) := by decide +kernel
theorem dX9_quietIn_26 : decode cX9_quietIn 26 = .ok (.getfield 44, 3) := by decide +kernel
theorem dX9_quietIn_29 : decode cX9_quietIn 29 = .ok (.getfield 101, 3) := by decide +kernel
theorem dX9_quietIn_32 : decode cX9_quietIn 32 = .ok (.iload_n 1, 1) := by decide +kernel
theorem dX9_quietIn_33 : decode cX9_quietIn 33 = .ok (.iaload, 1) := by decide +kernel
theorem dX9_quietIn_34 : decode cX9_quietIn 34 = .ok (.ireturn, 1) := by decide +kernel
theorem dX9_sure_0 : decode cX9_sure 0 = .ok (.aload_n 0, 1) := by decide +kernel
theorem dX9_sure_1 : decode cX9_sure 1 = .ok (.getfield 30, 3) := by decide +kernel
theorem dX9_sure_4 : decode cX9_sure 4 = .ok (.iload_n 1, 1) := by decide +kernel
theorem dX9_sure_5 : decode cX9_sure 5 = .ok (.invokevirtual 112, 3) := by decide +kernel
theorem dX9_sure_8 : decode cX9_sure 8 = .ok (.ifCond .eq 21, 3) := by decide +kernel
theorem dX9_sure_11 : decode cX9_sure 11 = .ok (.aload_n 0, 1) := by decide +kernel
theorem dX9_sure_12 : decode cX9_sure 12 = .ok (.getfield 30, 3) := by decide +kernel
theorem dX9_sure_15 : decode cX9_sure 15 = .ok (.iload_n 2, 1) := by decide +kernel
theorem dX9_sure_16 : decode cX9_sure 16 = .ok (.invokevirtual 87, 3) := by decide +kernel
theorem dX9_sure_19 : decode cX9_sure 19 = .ok (.ifCond .eq 10, 3) := by decide +kernel
theorem dX9_sure_22 : decode cX9_sure 22 = .ok (.iload_n 3, 1) := by decide +kernel
theorem dX9_sure_23 : decode cX9_sure 23 = .ok (.invokestatic 217, 3) := by decide +kernel
theorem dX9_sure_26 : decode cX9_sure 26 = .ok (.ifCond .ne 5, 3) := by decide +kernel
theorem dX9_sure_29 : decode cX9_sure 29 = .ok (.iconst (-1), 1) := by decide +kernel
theorem dX9_sure_30 : decode cX9_sure 30 = .ok (.ireturn, 1) := by decide +kernel
theorem dX9_sure_31 : decode cX9_sure 31 = .ok (.iload 4, 2) := by decide +kernel
theorem dX9_sure_33 : decode cX9_sure 33 = .ok (.iconst 1, 1) := by decide +kernel
theorem dX9_sure_34 : decode cX9_sure 34 = .ok (.if_icmp .lt 10, 3) := by decide +kernel
theorem dX9_sure_37 : decode cX9_sure 37 = .ok (.iload 4, 2) := by decide +kernel
theorem dX9_sure_39 : decode cX9_sure 39 = .ok (.bipush 20, 2) := by decide +kernel
theorem dX9_sure_41 : decode cX9_sure 41 = .ok (.if_icmp .le 5, 3) := by decide +kernel
theorem dX9_sure_44 : decode cX9_sure 44 = .ok (.iconst (-1), 1) := by decide +kernel
theorem dX9_sure_45 : decode cX9_sure 45 = .ok (.ireturn, 1) := by decide +kernel
theorem dX9_sure_46 : decode cX9_sure 46 = .ok (.iconst 0, 1) := by decide +kernel
theorem dX9_sure_47 : decode cX9_sure 47 = .ok (.istore 5, 2) := by decide +kernel
theorem dX9_sure_49 : decode cX9_sure 49 = .ok (.iconst 0, 1) := by decide +kernel
theorem dX9_sure_50 : decode cX9_sure 50 = .ok (.istore 6, 2) := by decide +kernel
theorem dX9_sure_52 : decode cX9_sure 52 = .ok (.iload 6, 2) := by decide +kernel
theorem dX9_sure_54 : decode cX9_sure 54 = .ok (.iload 4, 2) := by decide +kernel
theorem dX9_sure_56 : decode cX9_sure 56 = .ok (.if_icmp .ge 43, 3) := by decide +kernel
theorem dX9_sure_59 : decode cX9_sure 59 = .ok (.aload_n 0, 1) := by decide +kernel
theorem dX9_sure_60 : decode cX9_sure 60 = .ok (.iload_n 2, 1) := by decide +kernel
theorem dX9_sure_61 : decode cX9_sure 61 = .ok (.iload_n 3, 1) := by decide +kernel
theorem dX9_sure_62 : decode cX9_sure 62 = .ok (.aload_n 0, 1) := by decide +kernel
theorem dX9_sure_63 : decode cX9_sure 63 = .ok (.getfield 30, 3) := by decide +kernel
theorem dX9_sure_66 : decode cX9_sure 66 = .ok (.getfield 182, 3) := by decide +kernel
theorem dX9_sure_69 : decode cX9_sure 69 = .ok (.iload 6, 2) := by decide +kernel
theorem dX9_sure_71 : decode cX9_sure 71 = .ok (.iadd, 1) := by decide +kernel
theorem dX9_sure_72 : decode cX9_sure 72 = .ok (.invokevirtual 270, 3) := by decide +kernel
theorem dX9_sure_75 : decode cX9_sure 75 = .ok (.aload_n 0, 1) := by decide +kernel
theorem dX9_sure_76 : decode cX9_sure 76 = .ok (.getfield 30, 3) := by decide +kernel
theorem dX9_sure_79 : decode cX9_sure 79 = .ok (.aload_n 0, 1) := by decide +kernel
theorem dX9_sure_80 : decode cX9_sure 80 = .ok (.getfield 44, 3) := by decide +kernel
theorem dX9_sure_83 : decode cX9_sure 83 = .ok (.iload_n 1, 1) := by decide +kernel
theorem dX9_sure_84 : decode cX9_sure 84 = .ok (.invokevirtual 127, 3) := by decide +kernel
theorem dX9_sure_87 : decode cX9_sure 87 = .ok (.ifCond .eq 6, 3) := by decide +kernel
theorem dX9_sure_90 : decode cX9_sure 90 = .ok (.iinc 5 1, 3) := by decide +kernel
theorem dX9_sure_93 : decode cX9_sure 93 = .ok (.iinc 6 1, 3) := by decide +kernel
theorem dX9_sure_96 : decode cX9_sure 96 = .ok (.goto (-44), 3) := by decide +kernel
theorem dX9_sure_99 : decode cX9_sure 99 = .ok (.iload 5, 2) := by decide +kernel
theorem dX9_sure_101 : decode cX9_sure 101 = .ok (.ireturn, 1) := by decide +kernel
set_option maxRecDepth 100000 in
set_option maxHeartbeats 4000000 in
theorem tX9_tryTonight (G : gx) (fu : Nat) (v0 : Nat) (v1 : Int32) (h : mh) : Ct lV G yX9_tryTonight cX9_tryTonight 2 (none) 6 [.ref (gB G + v0), .int v1] h (fX9_tryTonight fu v0 v1 h) := by
  refine ct_ls (ls := [(0, .ref (gB G + v0)), (1, .int v1)]) rfl (by decide) (Nat.le_of_ble_eq_true rfl) ?_
  unfold fX9_tryTonight
  refine ev_step (st_aload_n (pc := 0) (j := 0) dX9_tryTonight_0 rfl rfl) ?_
  refine ev_getR (pc := 1) k_X9_44 rfl dX9_tryTonight_1 (fun a1 => ?_)
  refine ev_step (st_aload_n (pc := 4) (j := 0) dX9_tryTonight_4 rfl rfl) ?_
  refine ev_getR (pc := 5) k_X9_40 rfl dX9_tryTonight_5 (fun a2 => ?_)
  refine ev_ck (fun ha hS => ?_)
  refine ev_callV (iv_V (As := [.ref (gB G + a2)]) (st := []) (pc := 8) rfl m_X3_become l_X9_244 i_X3_become e_X3_become ha hS rfl (Nat.le_of_ble_eq_true rfl) rfl dX9_tryTonight_8) (tX3_become G fu a1 a2 h) (by decide) (by decide) (fun h3 => ?_)
  refine ev_step (st_aload_n (pc := 11) (j := 0) dX9_tryTonight_11 rfl rfl) ?_
  refine ev_getR (pc := 12) k_X9_30 rfl dX9_tryTonight_12 (fun a4 => ?_)
  refine ev_step (st_aload_n (pc := 15) (j := 0) dX9_tryTonight_15 rfl rfl) ?_
  refine ev_getR (pc := 16) k_X9_44 rfl dX9_tryTonight_16 (fun a5 => ?_)
  refine ev_step (st_iload_n (pc := 19) (j := 1) dX9_tryTonight_19 rfl rfl) ?_
  refine ev_step (st_iconst (pc := 20) dX9_tryTonight_20 ni_0) ?_
  refine ev_ck (fun ha hS => ?_)
  refine ev_callV (iv_V (As := [.ref (gB G + a5), .int v1, .int ((0 : Int32))]) (st := []) (pc := 21) rfl m_X6_passEvening l_X9_247 i_X6_passEvening e_X6_passEvening ha hS rfl (Nat.le_of_ble_eq_true rfl) rfl dX9_tryTonight_21) (tX6_passEvening G fu a4 a5 v1 ((0 : Int32)) h3) (by decide) (by decide) (fun h6 => ?_)
  exact ev_vret (pc := 24) dX9_tryTonight_24
set_option maxRecDepth 100000 in
set_option maxHeartbeats 4000000 in
theorem tX9_doneBehind (G : gx) (fu : Nat) (v0 : Nat) (v1 : Int32) (h : mh) : Ct lI G yX9_doneBehind cX9_doneBehind 2 (some .int) 7 [.ref (gB G + v0), .int v1] h (fX9_doneBehind fu v0 v1 h) := by
  refine ct_ls (ls := [(0, .ref (gB G + v0)), (1, .int v1)]) rfl (by decide) (Nat.le_of_ble_eq_true rfl) ?_
  unfold fX9_doneBehind
  refine ev_step (st_aload_n (pc := 0) (j := 0) dX9_doneBehind_0 rfl rfl) ?_
  refine ev_step (st_iload_n (pc := 1) (j := 1) dX9_doneBehind_1 rfl rfl) ?_
  refine ev_ck (fun ha hS => ?_)
  refine ev_callV (iv_V (As := [.int v1]) (st := []) (pc := 2) rfl m_X9_tryTonight l_X9_251 i_X9_tryTonight e_X9_tryTonight ha hS rfl (Nat.le_of_ble_eq_true rfl) rfl dX9_doneBehind_2) (tX9_tryTonight G fu v0 v1 h) (by decide) (by decide) (fun h1 => ?_)
  refine ev_step (st_aload_n (pc := 5) (j := 0) dX9_doneBehind_5 rfl rfl) ?_
  refine ev_getR (pc := 6) k_X9_30 rfl dX9_doneBehind_6 (fun a2 => ?_)
  refine ev_step (st_aload_n (pc := 9) (j := 0) dX9_doneBehind_9 rfl rfl) ?_
  refine ev_getR (pc := 10) k_X9_44 rfl dX9_doneBehind_10 (fun a3 => ?_)
  refine ev_ck (fun ha hS => ?_)
  refine ev_callI (iv_V (As := [.ref (gB G + a3)]) (st := []) (pc := 13) rfl m_X6_doneBy l_X9_163 i_X6_doneBy e_X6_doneBy ha hS rfl (Nat.le_of_ble_eq_true rfl) rfl dX9_doneBehind_13) (tX6_doneBy G fu a2 a3 h1) (by decide) (by decide) (fun x5 h4 => ?_)
  exact ev_iret (pc := 16) dX9_doneBehind_16
set_option maxRecDepth 100000 in
set_option maxHeartbeats 4000000 in
theorem tX9_gainOf (G : gx) (fu : Nat) (v0 : Nat) (v1 : Int32) (h : mh) : Ct lI G yX9_gainOf cX9_gainOf 2 (some .int) 7 [.ref (gB G + v0), .int v1] h (fX9_gainOf fu v0 v1 h) := by
  refine ct_ls (ls := [(0, .ref (gB G + v0)), (1, .int v1)]) rfl (by decide) (Nat.le_of_ble_eq_true rfl) ?_
  unfold fX9_gainOf
  refine ev_step (st_aload_n (pc := 0) (j := 0) dX9_gainOf_0 rfl rfl) ?_
  refine ev_step (st_iload_n (pc := 1) (j := 1) dX9_gainOf_1 rfl rfl) ?_
  refine ev_ck (fun ha hS => ?_)
  refine ev_callV (iv_V (As := [.int v1]) (st := []) (pc := 2) rfl m_X9_tryTonight l_X9_251 i_X9_tryTonight e_X9_tryTonight ha hS rfl (Nat.le_of_ble_eq_true rfl) rfl dX9_gainOf_2) (tX9_tryTonight G fu v0 v1 h) (by decide) (by decide) (fun h1 => ?_)
  refine ev_step (st_aload_n (pc := 5) (j := 0) dX9_gainOf_5 rfl rfl) ?_
  refine ev_getR (pc := 6) k_X9_44 rfl dX9_gainOf_6 (fun a2 => ?_)
  refine ev_ck (fun ha hS => ?_)
  refine ev_callI (iv_V (As := []) (st := []) (pc := 9) rfl m_X3_factsKnown l_X9_169 i_X3_factsKnown e_X3_factsKnown ha hS rfl (Nat.le_of_ble_eq_true rfl) rfl dX9_gainOf_9) (tX3_factsKnown G fu a2 h1) (by decide) (by decide) (fun x4 h3 => ?_)
  refine ev_step (st_aload_n (pc := 12) (j := 0) dX9_gainOf_12 rfl rfl) ?_
  refine ev_getR (pc := 13) k_X9_40 rfl dX9_gainOf_13 (fun a5 => ?_)
  refine ev_ck (fun ha hS => ?_)
  refine ev_callI (iv_V (As := []) (st := [.int x4]) (pc := 16) rfl m_X3_factsKnown l_X9_169 i_X3_factsKnown e_X3_factsKnown ha hS rfl (Nat.le_of_ble_eq_true rfl) rfl dX9_gainOf_16) (tX3_factsKnown G fu a5 h3) (by decide) (by decide) (fun x7 h6 => ?_)
  refine ev_step (st_isub (pc := 19) dX9_gainOf_19) ?_
  exact ev_iret (pc := 20) dX9_gainOf_20
set_option maxRecDepth 100000 in
set_option maxHeartbeats 4000000 in
theorem tX9_best_70 (G : gx) (fu : Nat) (h0 : mh) (v0 : Nat) (v1 : Int32) (v2 : Int32) (v3 : Int32) (v4 : Int32) (v5 : Int32) (k20 : Int32 × Int32 × Int32 × mh → Option (Int32 × mh)) (hk20 : ∀ (v2 : Int32) (v3 : Int32) (v4 : Int32) (h : mh), Ev lI G yX9_best cX9_best 6 (some .int) 8 h0 20 [(0, .ref (gB G + v0)), (1, .int v1), (2, .int v2), (3, .int v3), (4, .int v4)] [] h (k20 (v2, v3, v4, h))) (h : mh) : Ev lI G yX9_best cX9_best 6 (some .int) 8 h0 70 [(0, .ref (gB G + v0)), (1, .int v1), (2, .int v2), (3, .int v3), (4, .int v4), (5, .int v5)] [] h (fX9_best_70 fu k20 v0 v1 v2 v3 v4 v5 h) := by
  unfold fX9_best_70
  refine ev_step (st_inc (pc := 70) (j := 4) (ls' := [(4, .int (v4 + (1 : Int32))), (0, .ref (gB G + v0)), (1, .int v1), (2, .int v2), (3, .int v3), (5, .int v5)]) dX9_best_70 rfl ni_1 (by decide) rfl) ?_
  refine ev_step (st_goto (pc := 73) (tgt := 20) dX9_best_73 (by decide)) ?_
  refine ev_sub (ls' := [(0, .ref (gB G + v0)), (1, .int v1), (2, .int v2), (3, .int v3), (4, .int (v4 + (1 : Int32)))]) [1, 2, 3, 4, 0] rfl ?_
  exact hk20 v2 v3 (v4 + (1 : Int32)) h
set_option maxRecDepth 100000 in
set_option maxHeartbeats 4000000 in
theorem tX9_best_56 (G : gx) (fu : Nat) (h0 : mh) (v0 : Nat) (v1 : Int32) (v2 : Int32) (v3 : Int32) (v4 : Int32) (s0 : Int32) (k20 : Int32 × Int32 × Int32 × mh → Option (Int32 × mh)) (hk20 : ∀ (v2 : Int32) (v3 : Int32) (v4 : Int32) (h : mh), Ev lI G yX9_best cX9_best 6 (some .int) 8 h0 20 [(0, .ref (gB G + v0)), (1, .int v1), (2, .int v2), (3, .int v3), (4, .int v4)] [] h (k20 (v2, v3, v4, h))) (h : mh) : Ev lI G yX9_best cX9_best 6 (some .int) 8 h0 56 [(0, .ref (gB G + v0)), (1, .int v1), (2, .int v2), (3, .int v3), (4, .int v4)] [.int s0] h (fX9_best_56 fu k20 v0 v1 v2 v3 v4 s0 h) := by
  unfold fX9_best_56
  refine ev_step (st_istore (pc := 56) (ls' := [(5, .int s0), (0, .ref (gB G + v0)), (1, .int v1), (2, .int v2), (3, .int v3), (4, .int v4)]) dX9_best_56 (by decide) rfl) ?_
  refine ev_step (st_iload (pc := 58) (j := 0) dX9_best_58 rfl) ?_
  refine ev_step (st_iload_n (pc := 60) (j := 4) dX9_best_60 rfl rfl) ?_
  refine ev_br (br_icmp_le (tgt := 70) (pc := 61) dX9_best_61 (by decide)) (fun _ => ?_) (fun _ => ?_)
  · refine ev_sub (ls' := [(0, .ref (gB G + v0)), (1, .int v1), (2, .int v2), (3, .int v3), (4, .int v4), (5, .int s0)]) [1, 2, 3, 4, 5, 0] rfl ?_
    exact tX9_best_70 G fu h0 v0 v1 v2 v3 v4 s0 k20 hk20 h
  · refine ev_step (st_iload (pc := 64) (j := 0) dX9_best_64 rfl) ?_
    refine ev_step (st_istore_n (pc := 66) (ls' := [(3, .int s0), (5, .int s0), (0, .ref (gB G + v0)), (1, .int v1), (2, .int v2), (4, .int v4)]) dX9_best_66 rfl (by decide) rfl) ?_
    refine ev_step (st_iload (pc := 67) (j := 5) dX9_best_67 rfl) ?_
    refine ev_step (st_istore_n (pc := 69) (ls' := [(2, .int v4), (3, .int s0), (5, .int s0), (0, .ref (gB G + v0)), (1, .int v1), (4, .int v4)]) dX9_best_69 rfl (by decide) rfl) ?_
    refine ev_sub (ls' := [(0, .ref (gB G + v0)), (1, .int v1), (2, .int v4), (3, .int s0), (4, .int v4), (5, .int s0)]) [3, 4, 0, 1, 5, 2] rfl ?_
    exact tX9_best_70 G fu h0 v0 v1 v4 s0 v4 s0 k20 hk20 h
set_option maxRecDepth 100000 in
set_option maxHeartbeats 4000000 in
theorem tX9_best_76 (G : gx) (fu : Nat) (h0 : mh) (v0 : Nat) (v1 : Int32) (v2 : Int32) (v3 : Int32) (v4 : Int32) (h : mh) : Ev lI G yX9_best cX9_best 6 (some .int) 8 h0 76 [(0, .ref (gB G + v0)), (1, .int v1), (2, .int v2), (3, .int v3), (4, .int v4)] [] h (fX9_best_76 fu v0 v1 v2 v3 v4 h) := by
  unfold fX9_best_76
  refine ev_step (st_iload_n (pc := 76) (j := 1) dX9_best_76 rfl rfl) ?_
  refine ev_br (br_if_ne (tgt := 84) (pc := 77) dX9_best_77 (by decide)) (fun _ => ?_) (fun _ => ?_)
  · refine ev_step (st_iload_n (pc := 80) (j := 2) dX9_best_80 rfl rfl) ?_
    refine ev_step (st_goto (pc := 81) (tgt := 85) dX9_best_81 (by decide)) ?_
    exact ev_iret (pc := 85) dX9_best_85
  · refine ev_step (st_iload_n (pc := 84) (j := 3) dX9_best_84 rfl rfl) ?_
    exact ev_iret (pc := 85) dX9_best_85
set_option maxRecDepth 100000 in
set_option maxHeartbeats 4000000 in
theorem tX9_best_20 (G : gx) (fu : Nat) (h0 : mh) (v0 : Nat) (v1 : Int32) (n : Nat) (v2 : Int32) (v3 : Int32) (v4 : Int32) (h : mh) : Ev lI G yX9_best cX9_best 6 (some .int) 8 h0 20 [(0, .ref (gB G + v0)), (1, .int v1), (2, .int v2), (3, .int v3), (4, .int v4)] [] h (itr (bX9_best_20 fu v0 v1) n (v2, v3, v4, h)) := by
  refine ev_itr (P := fun (q : Int32 × Int32 × Int32 × mh) (R9 : Option (Int32 × mh)) => Ev lI G yX9_best cX9_best 6 (some .int) 8 h0 20 [(0, .ref (gB G + v0)), (1, .int v1), (2, .int q.1), (3, .int q.2.1), (4, .int q.2.2.1)] [] q.2.2.2 R9) (fun _ => ev_none) (fun k20 hk9 q => ?_) n (v2, v3, v4, h)
  obtain ⟨v2, v3, v4, h⟩ := q
  have hk20 : ∀ (v2 : Int32) (v3 : Int32) (v4 : Int32) (h : mh), Ev lI G yX9_best cX9_best 6 (some .int) 8 h0 20 [(0, .ref (gB G + v0)), (1, .int v1), (2, .int v2), (3, .int v3), (4, .int v4)] [] h (k20 (v2, v3, v4, h)) := fun v2 v3 v4 h => hk9 (v2, v3, v4, h)
  show Ev lI G yX9_best cX9_best 6 (some .int) 8 h0 20 [(0, .ref (gB G + v0)), (1, .int v1), (2, .int v2), (3, .int v3), (4, .int v4)] [] h (bX9_best_20 fu v0 v1 k20 (v2, v3, v4, h))
  unfold bX9_best_20
  refine ev_step (st_iload (pc := 20) (j := 4) dX9_best_20 rfl) ?_
  refine ev_step (st_aload_n (pc := 22) (j := 0) dX9_best_22 rfl rfl) ?_
  refine ev_getR (pc := 23) k_X9_30 rfl dX9_best_23 (fun a1 => ?_)
  refine ev_getI (pc := 26) k_X9_147 rfl dX9_best_26 (fun x2 => ?_)
  refine ev_br (br_icmp_ge (tgt := 76) (pc := 29) dX9_best_29 (by decide)) (fun _ => ?_) (fun _ => ?_)
  · refine ev_sub (ls' := [(0, .ref (gB G + v0)), (1, .int v1), (2, .int v2), (3, .int v3), (4, .int v4)]) [0, 1, 2, 3, 4] rfl ?_
    exact tX9_best_76 G fu h0 v0 v1 v2 v3 v4 h
  · refine ev_step (st_aload_n (pc := 32) (j := 0) dX9_best_32 rfl rfl) ?_
    refine ev_getR (pc := 33) k_X9_40 rfl dX9_best_33 (fun a3 => ?_)
    refine ev_getR (pc := 36) k_X9_101 rfl dX9_best_36 (fun a4 => ?_)
    refine ev_step (st_iload (pc := 39) (j := 4) dX9_best_39 rfl) ?_
    refine ev_ldi (pc := 41) dX9_best_41 (fun x5 => ?_)
    refine ev_br (br_if_le (tgt := 50) (pc := 42) dX9_best_42 (by decide)) (fun _ => ?_) (fun _ => ?_)
    · refine ev_step (st_aload_n (pc := 50) (j := 0) dX9_best_50 rfl rfl) ?_
      refine ev_step (st_iload (pc := 51) (j := 4) dX9_best_51 rfl) ?_
      refine ev_ck (fun ha hS => ?_)
      refine ev_callI (iv_V (As := [.int v4]) (st := []) (pc := 53) rfl m_X9_gainOf l_X9_241 i_X9_gainOf e_X9_gainOf ha hS rfl (Nat.le_of_ble_eq_true rfl) rfl dX9_best_53) (tX9_gainOf G fu v0 v4 h) (by decide) (by decide) (fun x7 h6 => ?_)
      refine ev_sub (ls' := [(0, .ref (gB G + v0)), (1, .int v1), (2, .int v2), (3, .int v3), (4, .int v4)]) [0, 1, 2, 3, 4] rfl ?_
      exact tX9_best_56 G fu h0 v0 v1 v2 v3 v4 x7 k20 hk20 h6
    · refine ev_step (st_bipush (pc := 45) dX9_best_45 nb_m2) ?_
      refine ev_step (st_goto (pc := 47) (tgt := 56) dX9_best_47 (by decide)) ?_
      refine ev_sub (ls' := [(0, .ref (gB G + v0)), (1, .int v1), (2, .int v2), (3, .int v3), (4, .int v4)]) [0, 1, 2, 3, 4] rfl ?_
      exact tX9_best_56 G fu h0 v0 v1 v2 v3 v4 ((-2 : Int32)) k20 hk20 h
set_option maxRecDepth 100000 in
set_option maxHeartbeats 4000000 in
theorem tX9_best (G : gx) (fu : Nat) (v0 : Nat) (v1 : Int32) (h : mh) : Ct lI G yX9_best cX9_best 6 (some .int) 8 [.ref (gB G + v0), .int v1] h (fX9_best fu v0 v1 h) := by
  refine ct_ls (ls := [(0, .ref (gB G + v0)), (1, .int v1)]) rfl (by decide) (Nat.le_of_ble_eq_true rfl) ?_
  unfold fX9_best
  refine ev_step (st_iload_n (pc := 0) (j := 1) dX9_best_0 rfl rfl) ?_
  refine ev_br (br_if_lt (tgt := 9) (pc := 1) dX9_best_1 (by decide)) (fun _ => ?_) (fun _ => ?_)
  · refine ev_step (st_iconst (pc := 9) dX9_best_9 ni_m1) ?_
    exact ev_iret (pc := 10) dX9_best_10
  · refine ev_step (st_iload_n (pc := 4) (j := 1) dX9_best_4 rfl rfl) ?_
    refine ev_step (st_iconst (pc := 5) dX9_best_5 ni_1) ?_
    refine ev_br (br_icmp_le (tgt := 11) (pc := 6) dX9_best_6 (by decide)) (fun _ => ?_) (fun _ => ?_)
    · refine ev_step (st_bipush (pc := 11) dX9_best_11 nb_m2) ?_
      refine ev_step (st_istore_n (pc := 13) (ls' := [(2, .int ((-2 : Int32))), (0, .ref (gB G + v0)), (1, .int v1)]) dX9_best_13 rfl (by decide) rfl) ?_
      refine ev_step (st_bipush (pc := 14) dX9_best_14 nb_m2) ?_
      refine ev_step (st_istore_n (pc := 16) (ls' := [(3, .int ((-2 : Int32))), (2, .int ((-2 : Int32))), (0, .ref (gB G + v0)), (1, .int v1)]) dX9_best_16 rfl (by decide) rfl) ?_
      refine ev_step (st_iconst (pc := 17) dX9_best_17 ni_0) ?_
      refine ev_step (st_istore (pc := 18) (ls' := [(4, .int ((0 : Int32))), (3, .int ((-2 : Int32))), (2, .int ((-2 : Int32))), (0, .ref (gB G + v0)), (1, .int v1)]) dX9_best_18 (by decide) rfl) ?_
      refine ev_sub (ls' := [(0, .ref (gB G + v0)), (1, .int v1), (2, .int ((-2 : Int32))), (3, .int ((-2 : Int32))), (4, .int ((0 : Int32)))]) [3, 4, 2, 1, 0] rfl ?_
      exact tX9_best_20 G fu h v0 v1 fu ((-2 : Int32)) ((-2 : Int32)) ((0 : Int32)) h
    · refine ev_step (st_iconst (pc := 9) dX9_best_9 ni_m1) ?_
      exact ev_iret (pc := 10) dX9_best_10
set_option maxRecDepth 100000 in
set_option maxHeartbeats 4000000 in
theorem tX9_sway (G : gx) (fu : Nat) (v0 : Nat) (v1 : Int32) (h : mh) : Ct lI G yX9_sway cX9_sway 2 (some .int) 7 [.ref (gB G + v0), .int v1] h (fX9_sway fu v0 v1 h) := by
  refine ct_ls (ls := [(0, .ref (gB G + v0)), (1, .int v1)]) rfl (by decide) (Nat.le_of_ble_eq_true rfl) ?_
  unfold fX9_sway
  refine ev_step (st_aload_n (pc := 0) (j := 0) dX9_sway_0 rfl rfl) ?_
  refine ev_getR (pc := 1) k_X9_30 rfl dX9_sway_1 (fun a1 => ?_)
  refine ev_step (st_iload_n (pc := 4) (j := 1) dX9_sway_4 rfl rfl) ?_
  refine ev_ck (fun ha hS => ?_)
  refine ev_callI (iv_V (As := [.int v1]) (st := []) (pc := 5) rfl m_X6_hasRole l_X9_87 i_X6_hasRole e_X6_hasRole ha hS rfl (Nat.le_of_ble_eq_true rfl) rfl dX9_sway_5) (tX6_hasRole G fu a1 v1 h) (by decide) (by decide) (fun x3 h2 => ?_)
  refine ev_br (br_if_ne (tgt := 15) (pc := 8) dX9_sway_8 (by decide)) (fun _ => ?_) (fun _ => ?_)
  · refine ev_step (st_ldcw (pc := 11) dX9_sway_11 cc_X9_257) ?_
    exact ev_iret (pc := 14) dX9_sway_14
  · refine ev_step (st_aload_n (pc := 15) (j := 0) dX9_sway_15 rfl rfl) ?_
    refine ev_step (st_iload_n (pc := 16) (j := 1) dX9_sway_16 rfl rfl) ?_
    refine ev_ck (fun ha hS => ?_)
    refine ev_callV (iv_V (As := [.int v1]) (st := []) (pc := 17) rfl m_X9_tryTonight l_X9_251 i_X9_tryTonight e_X9_tryTonight ha hS rfl (Nat.le_of_ble_eq_true rfl) rfl dX9_sway_17) (tX9_tryTonight G fu v0 v1 h2) (by decide) (by decide) (fun h4 => ?_)
    refine ev_step (st_aload_n (pc := 20) (j := 0) dX9_sway_20 rfl rfl) ?_
    refine ev_getR (pc := 21) k_X9_44 rfl dX9_sway_21 (fun a5 => ?_)
    refine ev_ck (fun ha hS => ?_)
    refine ev_callI (iv_V (As := []) (st := []) (pc := 24) rfl m_X3_beliefOfAll l_X9_198 i_X3_beliefOfAll e_X3_beliefOfAll ha hS rfl (Nat.le_of_ble_eq_true rfl) rfl dX9_sway_24) (tX3_beliefOfAll G fu a5 h4) (by decide) (by decide) (fun x7 h6 => ?_)
    refine ev_step (st_aload_n (pc := 27) (j := 0) dX9_sway_27 rfl rfl) ?_
    refine ev_getR (pc := 28) k_X9_40 rfl dX9_sway_28 (fun a8 => ?_)
    refine ev_ck (fun ha hS => ?_)
    refine ev_callI (iv_V (As := []) (st := [.int x7]) (pc := 31) rfl m_X3_beliefOfAll l_X9_198 i_X3_beliefOfAll e_X3_beliefOfAll ha hS rfl (Nat.le_of_ble_eq_true rfl) rfl dX9_sway_31) (tX3_beliefOfAll G fu a8 h6) (by decide) (by decide) (fun x10 h9 => ?_)
    refine ev_step (st_isub (pc := 34) dX9_sway_34) ?_
    exact ev_iret (pc := 35) dX9_sway_35
set_option maxRecDepth 100000 in
set_option maxHeartbeats 4000000 in
theorem tX9_circle (G : gx) (fu : Nat) (v0 : Nat) (v1 : Int32) (v2 : Int32) (h : mh) : Ct lI G yX9_circle cX9_circle 4 (some .int) 4 [.ref (gB G + v0), .int v1, .int v2] h (fX9_circle fu v0 v1 v2 h) := by
  refine ct_ls (ls := [(0, .ref (gB G + v0)), (1, .int v1), (2, .int v2)]) rfl (by decide) (Nat.le_of_ble_eq_true rfl) ?_
  unfold fX9_circle
  refine ev_step (st_aload_n (pc := 0) (j := 0) dX9_circle_0 rfl rfl) ?_
  refine ev_getR (pc := 1) k_X9_30 rfl dX9_circle_1 (fun a1 => ?_)
  refine ev_step (st_iload_n (pc := 4) (j := 1) dX9_circle_4 rfl rfl) ?_
  refine ev_ck (fun ha hS => ?_)
  refine ev_callI (iv_V (As := [.int v1]) (st := []) (pc := 5) rfl m_X6_hasListener l_X9_112 i_X6_hasListener e_X6_hasListener ha hS rfl (Nat.le_of_ble_eq_true rfl) rfl dX9_circle_5) (tX6_hasListener G fu a1 v1 h) (by decide) (by decide) (fun x3 h2 => ?_)
  refine ev_br (br_if_eq (tgt := 20) (pc := 8) dX9_circle_8 (by decide)) (fun _ => ?_) (fun _ => ?_)
  · refine ev_step (st_iconst (pc := 20) dX9_circle_20 ni_m1) ?_
    exact ev_iret (pc := 21) dX9_circle_21
  · refine ev_step (st_iload_n (pc := 11) (j := 2) dX9_circle_11 rfl rfl) ?_
    refine ev_br (br_if_lt (tgt := 20) (pc := 12) dX9_circle_12 (by decide)) (fun _ => ?_) (fun _ => ?_)
    · refine ev_step (st_iconst (pc := 20) dX9_circle_20 ni_m1) ?_
      exact ev_iret (pc := 21) dX9_circle_21
    · refine ev_step (st_iload_n (pc := 15) (j := 2) dX9_circle_15 rfl rfl) ?_
      refine ev_step (st_iconst (pc := 16) dX9_circle_16 ni_1) ?_
      refine ev_br (br_icmp_le (tgt := 22) (pc := 17) dX9_circle_17 (by decide)) (fun _ => ?_) (fun _ => ?_)
      · refine ev_step (st_aload_n (pc := 22) (j := 0) dX9_circle_22 rfl rfl) ?_
        refine ev_step (st_iload_n (pc := 23) (j := 1) dX9_circle_23 rfl rfl) ?_
        refine ev_ck (fun ha hS => ?_)
        refine ev_callI (iv_V (As := [.int v1]) (st := []) (pc := 24) rfl m_X9_circleOf l_X9_283 i_X9_circleOf e_X9_circleOf ha hS rfl (Nat.le_of_ble_eq_true rfl) rfl dX9_circle_24) (tX9_circleOf G fu v0 v1 h2) (by decide) (by decide) (fun x5 h4 => ?_)
        refine ev_step (st_istore_n (pc := 27) (ls' := [(3, .int x5), (0, .ref (gB G + v0)), (1, .int v1), (2, .int v2)]) dX9_circle_27 rfl (by decide) rfl) ?_
        refine ev_step (st_iload_n (pc := 28) (j := 3) dX9_circle_28 rfl rfl) ?_
        refine ev_step (st_iconst (pc := 29) dX9_circle_29 ni_1) ?_
        refine ev_br (br_icmp_eq (tgt := 39) (pc := 30) dX9_circle_30 (by decide)) (fun _ => ?_) (fun _ => ?_)
        · refine ev_step (st_iload_n (pc := 39) (j := 0) dX9_circle_39 rfl rfl) ?_
          refine ev_step (st_goto (pc := 40) (tgt := 47) dX9_circle_40 (by decide)) ?_
          exact ev_iret (pc := 47) dX9_circle_47
        · refine ev_step (st_iload_n (pc := 33) (j := 0) dX9_circle_33 rfl rfl) ?_
          refine ev_step (st_bipush (pc := 34) dX9_circle_34 nb_m2) ?_
          refine ev_br (br_icmp_ne (tgt := 43) (pc := 36) dX9_circle_36 (by decide)) (fun _ => ?_) (fun _ => ?_)
          · refine ev_step (st_iload_n (pc := 39) (j := 0) dX9_circle_39 rfl rfl) ?_
            refine ev_step (st_goto (pc := 40) (tgt := 47) dX9_circle_40 (by decide)) ?_
            exact ev_iret (pc := 47) dX9_circle_47
          · refine ev_step (st_iload_n (pc := 43) (j := 0) dX9_circle_43 rfl rfl) ?_
            refine ev_callI (iv_S (As := [.int x5]) (st := []) (pc := 44) m_J6_bitCount_0f7a4 l_X9_177 z_J6_bitCount_0f7a4 rfl (Nat.le_of_ble_eq_true rfl) rfl dX9_circle_44) (tJ6_bitCount_0f7a4 G fu x5 h4) (by decide) (by decide) (fun x7 h6 => ?_)
            exact ev_iret (pc := 47) dX9_circle_47
      · refine ev_step (st_iconst (pc := 20) dX9_circle_20 ni_m1) ?_
        exact ev_iret (pc := 21) dX9_circle_21
set_option maxRecDepth 100000 in
set_option maxHeartbeats 4000000 in
theorem tX9_rolesLeft_60 (G : gx) (fu : Nat) (h0 : mh) (v0 : Nat) (v1 : Int32) (v2 : Int32) (v3 : Int32) (k4 : Int32 × Int32 × mh → Option (Int32 × mh)) (hk4 : ∀ (v2 : Int32) (v3 : Int32) (h : mh), Ev lI G yX9_rolesLeft cX9_rolesLeft 4 (some .int) 7 h0 4 [(0, .ref (gB G + v0)), (1, .int v1), (2, .int v2), (3, .int v3)] [] h (k4 (v2, v3, h))) (h : mh) : Ev lI G yX9_rolesLeft cX9_rolesLeft 4 (some .int) 7 h0 60 [(0, .ref (gB G + v0)), (1, .int v1), (2, .int v2), (3, .int v3)] [] h (fX9_rolesLeft_60 fu k4 v0 v1 v2 v3 h) := by
  unfold fX9_rolesLeft_60
  refine ev_step (st_inc (pc := 60) (j := 3) (ls' := [(3, .int (v3 + (1 : Int32))), (0, .ref (gB G + v0)), (1, .int v1), (2, .int v2)]) dX9_rolesLeft_60 rfl ni_1 (by decide) rfl) ?_
  refine ev_step (st_goto (pc := 63) (tgt := 4) dX9_rolesLeft_63 (by decide)) ?_
  refine ev_sub (ls' := [(0, .ref (gB G + v0)), (1, .int v1), (2, .int v2), (3, .int (v3 + (1 : Int32)))]) [1, 2, 3, 0] rfl ?_
  exact hk4 v2 (v3 + (1 : Int32)) h
set_option maxRecDepth 100000 in
set_option maxHeartbeats 4000000 in
theorem tX9_rolesLeft_4 (G : gx) (fu : Nat) (h0 : mh) (v0 : Nat) (v1 : Int32) (n : Nat) (v2 : Int32) (v3 : Int32) (h : mh) : Ev lI G yX9_rolesLeft cX9_rolesLeft 4 (some .int) 7 h0 4 [(0, .ref (gB G + v0)), (1, .int v1), (2, .int v2), (3, .int v3)] [] h (itr (bX9_rolesLeft_4 fu v0 v1) n (v2, v3, h)) := by
  refine ev_itr (P := fun (q : Int32 × Int32 × mh) (R9 : Option (Int32 × mh)) => Ev lI G yX9_rolesLeft cX9_rolesLeft 4 (some .int) 7 h0 4 [(0, .ref (gB G + v0)), (1, .int v1), (2, .int q.1), (3, .int q.2.1)] [] q.2.2 R9) (fun _ => ev_none) (fun k4 hk9 q => ?_) n (v2, v3, h)
  obtain ⟨v2, v3, h⟩ := q
  have hk4 : ∀ (v2 : Int32) (v3 : Int32) (h : mh), Ev lI G yX9_rolesLeft cX9_rolesLeft 4 (some .int) 7 h0 4 [(0, .ref (gB G + v0)), (1, .int v1), (2, .int v2), (3, .int v3)] [] h (k4 (v2, v3, h)) := fun v2 v3 h => hk9 (v2, v3, h)
  show Ev lI G yX9_rolesLeft cX9_rolesLeft 4 (some .int) 7 h0 4 [(0, .ref (gB G + v0)), (1, .int v1), (2, .int v2), (3, .int v3)] [] h (bX9_rolesLeft_4 fu v0 v1 k4 (v2, v3, h))
  unfold bX9_rolesLeft_4
  refine ev_step (st_iload_n (pc := 4) (j := 3) dX9_rolesLeft_4 rfl rfl) ?_
  refine ev_step (st_aload_n (pc := 5) (j := 0) dX9_rolesLeft_5 rfl rfl) ?_
  refine ev_getR (pc := 6) k_X9_30 rfl dX9_rolesLeft_6 (fun a1 => ?_)
  refine ev_getI (pc := 9) k_X9_147 rfl dX9_rolesLeft_9 (fun x2 => ?_)
  refine ev_br (br_icmp_ge (tgt := 66) (pc := 12) dX9_rolesLeft_12 (by decide)) (fun _ => ?_) (fun _ => ?_)
  · refine ev_step (st_iload_n (pc := 66) (j := 2) dX9_rolesLeft_66 rfl rfl) ?_
    exact ev_iret (pc := 67) dX9_rolesLeft_67
  · refine ev_step (st_aload_n (pc := 15) (j := 0) dX9_rolesLeft_15 rfl rfl) ?_
    refine ev_step (st_iload_n (pc := 16) (j := 3) dX9_rolesLeft_16 rfl rfl) ?_
    refine ev_ck (fun ha hS => ?_)
    refine ev_callV (iv_V (As := [.int v3]) (st := []) (pc := 17) rfl m_X9_tryTonight l_X9_251 i_X9_tryTonight e_X9_tryTonight ha hS rfl (Nat.le_of_ble_eq_true rfl) rfl dX9_rolesLeft_17) (tX9_tryTonight G fu v0 v3 h) (by decide) (by decide) (fun h3 => ?_)
    refine ev_step (st_aload_n (pc := 20) (j := 0) dX9_rolesLeft_20 rfl rfl) ?_
    refine ev_getR (pc := 21) k_X9_64 rfl dX9_rolesLeft_21 (fun a4 => ?_)
    refine ev_step (st_iload_n (pc := 24) (j := 1) dX9_rolesLeft_24 rfl rfl) ?_
    refine ev_step (st_aload_n (pc := 25) (j := 0) dX9_rolesLeft_25 rfl rfl) ?_
    refine ev_getR (pc := 26) k_X9_30 rfl dX9_rolesLeft_26 (fun a5 => ?_)
    refine ev_step (st_aload_n (pc := 29) (j := 0) dX9_rolesLeft_29 rfl rfl) ?_
    refine ev_getR (pc := 30) k_X9_40 rfl dX9_rolesLeft_30 (fun a6 => ?_)
    refine ev_step (st_iload_n (pc := 33) (j := 3) dX9_rolesLeft_33 rfl rfl) ?_
    refine ev_ck (fun ha hS => ?_)
    refine ev_callI (iv_V (As := [.ref (gB G + a6), .int v3]) (st := [.int v1, .ref (gB G + a4)]) (pc := 34) rfl m_X6_saidBy l_X9_108 i_X6_saidBy e_X6_saidBy ha hS rfl (Nat.le_of_ble_eq_true rfl) rfl dX9_rolesLeft_34) (tX6_saidBy G fu a5 a6 v3 h3) (by decide) (by decide) (fun x8 h7 => ?_)
    refine ev_step (st_aload_n (pc := 37) (j := 0) dX9_rolesLeft_37 rfl rfl) ?_
    refine ev_getR (pc := 38) k_X9_30 rfl dX9_rolesLeft_38 (fun a9 => ?_)
    refine ev_step (st_aload_n (pc := 41) (j := 0) dX9_rolesLeft_41 rfl rfl) ?_
    refine ev_getR (pc := 42) k_X9_44 rfl dX9_rolesLeft_42 (fun a10 => ?_)
    refine ev_ck (fun ha hS => ?_)
    refine ev_callI (iv_V (As := [.ref (gB G + a10)]) (st := [.int x8, .int v1, .ref (gB G + a4)]) (pc := 45) rfl m_X6_doneBy l_X9_163 i_X6_doneBy e_X6_doneBy ha hS rfl (Nat.le_of_ble_eq_true rfl) rfl dX9_rolesLeft_45) (tX6_doneBy G fu a9 a10 h7) (by decide) (by decide) (fun x12 h11 => ?_)
    refine ev_ck (fun ha hS => ?_)
    refine ev_callI (iv_V (As := [.int v1, .int x8, .int x12]) (st := []) (pc := 48) rfl m_X8_isSo l_X9_299 i_X8_isSo e_X8_isSo ha hS rfl (Nat.le_of_ble_eq_true rfl) rfl dX9_rolesLeft_48) (tX8_isSo G fu a4 v1 x8 x12 h11) (by decide) (by decide) (fun x14 h13 => ?_)
    refine ev_br (br_if_eq (tgt := 60) (pc := 51) dX9_rolesLeft_51 (by decide)) (fun _ => ?_) (fun _ => ?_)
    · refine ev_sub (ls' := [(0, .ref (gB G + v0)), (1, .int v1), (2, .int v2), (3, .int v3)]) [0, 1, 2, 3] rfl ?_
      exact tX9_rolesLeft_60 G fu h0 v0 v1 v2 v3 k4 hk4 h13
    · refine ev_step (st_iload_n (pc := 54) (j := 2) dX9_rolesLeft_54 rfl rfl) ?_
      refine ev_step (st_iconst (pc := 55) dX9_rolesLeft_55 ni_1) ?_
      refine ev_step (st_iload_n (pc := 56) (j := 3) dX9_rolesLeft_56 rfl rfl) ?_
      refine ev_step (st_ishl (pc := 57) dX9_rolesLeft_57) ?_
      refine ev_step (st_ior (pc := 58) dX9_rolesLeft_58) ?_
      refine ev_top (fun x15 => ?_)
      refine ev_step (st_istore_n (pc := 59) (ls' := [(2, .int x15), (0, .ref (gB G + v0)), (1, .int v1), (3, .int v3)]) dX9_rolesLeft_59 rfl (by decide) rfl) ?_
      refine ev_sub (ls' := [(0, .ref (gB G + v0)), (1, .int v1), (2, .int x15), (3, .int v3)]) [1, 2, 0, 3] rfl ?_
      exact tX9_rolesLeft_60 G fu h0 v0 v1 x15 v3 k4 hk4 h13
set_option maxRecDepth 100000 in
set_option maxHeartbeats 4000000 in
theorem tX9_rolesLeft (G : gx) (fu : Nat) (v0 : Nat) (v1 : Int32) (h : mh) : Ct lI G yX9_rolesLeft cX9_rolesLeft 4 (some .int) 7 [.ref (gB G + v0), .int v1] h (fX9_rolesLeft fu v0 v1 h) := by
  refine ct_ls (ls := [(0, .ref (gB G + v0)), (1, .int v1)]) rfl (by decide) (Nat.le_of_ble_eq_true rfl) ?_
  unfold fX9_rolesLeft
  refine ev_step (st_iconst (pc := 0) dX9_rolesLeft_0 ni_0) ?_
  refine ev_step (st_istore_n (pc := 1) (ls' := [(2, .int ((0 : Int32))), (0, .ref (gB G + v0)), (1, .int v1)]) dX9_rolesLeft_1 rfl (by decide) rfl) ?_
  refine ev_step (st_iconst (pc := 2) dX9_rolesLeft_2 ni_0) ?_
  refine ev_step (st_istore_n (pc := 3) (ls' := [(3, .int ((0 : Int32))), (2, .int ((0 : Int32))), (0, .ref (gB G + v0)), (1, .int v1)]) dX9_rolesLeft_3 rfl (by decide) rfl) ?_
  refine ev_sub (ls' := [(0, .ref (gB G + v0)), (1, .int v1), (2, .int ((0 : Int32))), (3, .int ((0 : Int32)))]) [2, 3, 1, 0] rfl ?_
  exact tX9_rolesLeft_4 G fu h v0 v1 fu ((0 : Int32)) ((0 : Int32)) h
set_option maxRecDepth 100000 in
set_option maxHeartbeats 4000000 in
theorem tX9_ask_87 (G : gx) (fu : Nat) (h0 : mh) (v0 : Nat) (v1 : Int32) (v2 : Int32) (v3 : Int32) (v4 : Int32) (v5 : Int32) (v6 : Int32) (v7 : Int32) (k39 : Int32 × Int32 × Int32 × mh → Option (Int32 × mh)) (hk39 : ∀ (v3 : Int32) (v4 : Int32) (v5 : Int32) (h : mh), Ev lI G yX9_ask cX9_ask 8 (some .int) 8 h0 39 [(0, .ref (gB G + v0)), (1, .int v1), (2, .int v2), (3, .int v3), (4, .int v4), (5, .int v5)] [] h (k39 (v3, v4, v5, h))) (h : mh) : Ev lI G yX9_ask cX9_ask 8 (some .int) 8 h0 87 [(0, .ref (gB G + v0)), (1, .int v1), (2, .int v2), (3, .int v3), (4, .int v4), (5, .int v5), (6, .int v6), (7, .int v7)] [] h (fX9_ask_87 fu k39 v0 v1 v2 v3 v4 v5 v6 v7 h) := by
  unfold fX9_ask_87
  refine ev_step (st_inc (pc := 87) (j := 5) (ls' := [(5, .int (v5 + (1 : Int32))), (0, .ref (gB G + v0)), (1, .int v1), (2, .int v2), (3, .int v3), (4, .int v4), (6, .int v6), (7, .int v7)]) dX9_ask_87 rfl ni_1 (by decide) rfl) ?_
  refine ev_step (st_goto (pc := 90) (tgt := 39) dX9_ask_90 (by decide)) ?_
  refine ev_sub (ls' := [(0, .ref (gB G + v0)), (1, .int v1), (2, .int v2), (3, .int v3), (4, .int v4), (5, .int (v5 + (1 : Int32)))]) [1, 2, 3, 4, 5, 0] rfl ?_
  exact hk39 v3 v4 (v5 + (1 : Int32)) h
set_option maxRecDepth 100000 in
set_option maxHeartbeats 4000000 in
theorem tX9_ask_39 (G : gx) (fu : Nat) (h0 : mh) (v0 : Nat) (v1 : Int32) (v2 : Int32) (n : Nat) (v3 : Int32) (v4 : Int32) (v5 : Int32) (h : mh) : Ev lI G yX9_ask cX9_ask 8 (some .int) 8 h0 39 [(0, .ref (gB G + v0)), (1, .int v1), (2, .int v2), (3, .int v3), (4, .int v4), (5, .int v5)] [] h (itr (bX9_ask_39 fu v0 v1 v2) n (v3, v4, v5, h)) := by
  refine ev_itr (P := fun (q : Int32 × Int32 × Int32 × mh) (R9 : Option (Int32 × mh)) => Ev lI G yX9_ask cX9_ask 8 (some .int) 8 h0 39 [(0, .ref (gB G + v0)), (1, .int v1), (2, .int v2), (3, .int q.1), (4, .int q.2.1), (5, .int q.2.2.1)] [] q.2.2.2 R9) (fun _ => ev_none) (fun k39 hk9 q => ?_) n (v3, v4, v5, h)
  obtain ⟨v3, v4, v5, h⟩ := q
  have hk39 : ∀ (v3 : Int32) (v4 : Int32) (v5 : Int32) (h : mh), Ev lI G yX9_ask cX9_ask 8 (some .int) 8 h0 39 [(0, .ref (gB G + v0)), (1, .int v1), (2, .int v2), (3, .int v3), (4, .int v4), (5, .int v5)] [] h (k39 (v3, v4, v5, h)) := fun v3 v4 v5 h => hk9 (v3, v4, v5, h)
  show Ev lI G yX9_ask cX9_ask 8 (some .int) 8 h0 39 [(0, .ref (gB G + v0)), (1, .int v1), (2, .int v2), (3, .int v3), (4, .int v4), (5, .int v5)] [] h (bX9_ask_39 fu v0 v1 v2 k39 (v3, v4, v5, h))
  unfold bX9_ask_39
  refine ev_step (st_iload (pc := 39) (j := 5) dX9_ask_39 rfl) ?_
  refine ev_step (st_bipush (pc := 41) dX9_ask_41 nb_8) ?_
  refine ev_br (br_icmp_ge (tgt := 93) (pc := 43) dX9_ask_43 (by decide)) (fun _ => ?_) (fun _ => ?_)
  · refine ev_step (st_iload_n (pc := 93) (j := 3) dX9_ask_93 rfl rfl) ?_
    exact ev_iret (pc := 94) dX9_ask_94
  · refine ev_step (st_iload_n (pc := 46) (j := 2) dX9_ask_46 rfl rfl) ?_
    refine ev_step (st_aload_n (pc := 47) (j := 0) dX9_ask_47 rfl rfl) ?_
    refine ev_step (st_iload (pc := 48) (j := 5) dX9_ask_48 rfl) ?_
    refine ev_ck (fun ha hS => ?_)
    refine ev_callI (iv_V (As := [.int v5]) (st := [.int v2]) (pc := 50) rfl m_X9_rolesSaying l_X9_303 i_X9_rolesSaying e_X9_rolesSaying ha hS rfl (Nat.le_of_ble_eq_true rfl) rfl dX9_ask_50) (tX9_rolesSaying G fu v0 v5 h) (by decide) (by decide) (fun x2 h1 => ?_)
    refine ev_step (st_iand (pc := 53) dX9_ask_53) ?_
    refine ev_callI (iv_S (As := [.int (v2 &&& x2)]) (st := []) (pc := 54) m_J6_bitCount_0f7a4 l_X9_177 z_J6_bitCount_0f7a4 rfl (Nat.le_of_ble_eq_true rfl) rfl dX9_ask_54) (tJ6_bitCount_0f7a4 G fu (v2 &&& x2) h1) (by decide) (by decide) (fun x4 h3 => ?_)
    refine ev_step (st_istore (pc := 57) (ls' := [(6, .int x4), (0, .ref (gB G + v0)), (1, .int v1), (2, .int v2), (3, .int v3), (4, .int v4), (5, .int v5)]) dX9_ask_57 (by decide) rfl) ?_
    refine ev_step (st_iload (pc := 59) (j := 0) dX9_ask_59 rfl) ?_
    refine ev_step (st_iload_n (pc := 61) (j := 3) dX9_ask_61 rfl rfl) ?_
    refine ev_callI (iv_S (As := [.int v2]) (st := [.int x4]) (pc := 62) m_J6_bitCount_0f7a4 l_X9_177 z_J6_bitCount_0f7a4 rfl (Nat.le_of_ble_eq_true rfl) rfl dX9_ask_62) (tJ6_bitCount_0f7a4 G fu v2 h3) (by decide) (by decide) (fun x6 h5 => ?_)
    refine ev_step (st_iload (pc := 65) (j := 0) dX9_ask_65 rfl) ?_
    refine ev_step (st_isub (pc := 67) dX9_ask_67) ?_
    refine ev_mmax (pc := 68) mm_X9_306 (by decide) (Nat.le_of_ble_eq_true rfl) dX9_ask_68 ?_
    refine ev_top (fun x7 => ?_)
    refine ev_step (st_istore (pc := 71) (ls' := [(7, .int x7), (6, .int x4), (0, .ref (gB G + v0)), (1, .int v1), (2, .int v2), (3, .int v3), (4, .int v4), (5, .int v5)]) dX9_ask_71 (by decide) rfl) ?_
    refine ev_step (st_iload (pc := 73) (j := 0) dX9_ask_73 rfl) ?_
    refine ev_step (st_iload (pc := 75) (j := 6) dX9_ask_75 rfl) ?_
    refine ev_br (br_icmp_ge (tgt := 87) (pc := 77) dX9_ask_77 (by decide)) (fun _ => ?_) (fun _ => ?_)
    · refine ev_sub (ls' := [(0, .ref (gB G + v0)), (1, .int v1), (2, .int v2), (3, .int v3), (4, .int v4), (5, .int v5), (6, .int x4), (7, .int x7)]) [2, 3, 4, 5, 6, 7, 1, 0] rfl ?_
      exact tX9_ask_87 G fu h0 v0 v1 v2 v3 v4 v5 x4 x7 k39 hk39 h5
    · refine ev_step (st_iload (pc := 80) (j := 0) dX9_ask_80 rfl) ?_
      refine ev_step (st_istore (pc := 82) (ls' := [(4, .int x7), (7, .int x7), (6, .int x4), (0, .ref (gB G + v0)), (1, .int v1), (2, .int v2), (3, .int v3), (5, .int v5)]) dX9_ask_82 (by decide) rfl) ?_
      refine ev_step (st_iload (pc := 84) (j := 7) dX9_ask_84 rfl) ?_
      refine ev_step (st_istore_n (pc := 86) (ls' := [(3, .int v5), (4, .int x7), (7, .int x7), (6, .int x4), (0, .ref (gB G + v0)), (1, .int v1), (2, .int v2), (5, .int v5)]) dX9_ask_86 rfl (by decide) rfl) ?_
      refine ev_sub (ls' := [(0, .ref (gB G + v0)), (1, .int v1), (2, .int v2), (3, .int v5), (4, .int x7), (5, .int v5), (6, .int x4), (7, .int x7)]) [4, 5, 6, 0, 1, 7, 3, 2] rfl ?_
      exact tX9_ask_87 G fu h0 v0 v1 v2 v5 x7 v5 x4 x7 k39 hk39 h5
set_option maxRecDepth 100000 in
set_option maxHeartbeats 4000000 in
theorem tX9_ask (G : gx) (fu : Nat) (v0 : Nat) (v1 : Int32) (h : mh) : Ct lI G yX9_ask cX9_ask 8 (some .int) 8 [.ref (gB G + v0), .int v1] h (fX9_ask fu v0 v1 h) := by
  refine ct_ls (ls := [(0, .ref (gB G + v0)), (1, .int v1)]) rfl (by decide) (Nat.le_of_ble_eq_true rfl) ?_
  unfold fX9_ask
  refine ev_step (st_iload_n (pc := 0) (j := 1) dX9_ask_0 rfl rfl) ?_
  refine ev_br (br_if_lt (tgt := 15) (pc := 1) dX9_ask_1 (by decide)) (fun _ => ?_) (fun _ => ?_)
  · refine ev_step (st_iconst (pc := 15) dX9_ask_15 ni_m1) ?_
    exact ev_iret (pc := 16) dX9_ask_16
  · refine ev_step (st_iload_n (pc := 4) (j := 1) dX9_ask_4 rfl rfl) ?_
    refine ev_step (st_aload_n (pc := 5) (j := 0) dX9_ask_5 rfl rfl) ?_
    refine ev_getR (pc := 6) k_X9_64 rfl dX9_ask_6 (fun a1 => ?_)
    refine ev_getI (pc := 9) k_X9_84 rfl dX9_ask_9 (fun x2 => ?_)
    refine ev_br (br_icmp_le (tgt := 17) (pc := 12) dX9_ask_12 (by decide)) (fun _ => ?_) (fun _ => ?_)
    · refine ev_step (st_aload_n (pc := 17) (j := 0) dX9_ask_17 rfl rfl) ?_
      refine ev_step (st_iload_n (pc := 18) (j := 1) dX9_ask_18 rfl rfl) ?_
      refine ev_ck (fun ha hS => ?_)
      refine ev_callI (iv_V (As := [.int v1]) (st := []) (pc := 19) rfl m_X9_rolesLeft l_X9_296 i_X9_rolesLeft e_X9_rolesLeft ha hS rfl (Nat.le_of_ble_eq_true rfl) rfl dX9_ask_19) (tX9_rolesLeft G fu v0 v1 h) (by decide) (by decide) (fun x4 h3 => ?_)
      refine ev_step (st_istore_n (pc := 22) (ls' := [(2, .int x4), (0, .ref (gB G + v0)), (1, .int v1)]) dX9_ask_22 rfl (by decide) rfl) ?_
      refine ev_step (st_iload_n (pc := 23) (j := 0) dX9_ask_23 rfl rfl) ?_
      refine ev_br (br_if_ne (tgt := 30) (pc := 24) dX9_ask_24 (by decide)) (fun _ => ?_) (fun _ => ?_)
      · refine ev_step (st_bipush (pc := 27) dX9_ask_27 nb_m2) ?_
        exact ev_iret (pc := 29) dX9_ask_29
      · refine ev_step (st_iconst (pc := 30) dX9_ask_30 ni_0) ?_
        refine ev_step (st_istore_n (pc := 31) (ls' := [(3, .int ((0 : Int32))), (2, .int x4), (0, .ref (gB G + v0)), (1, .int v1)]) dX9_ask_31 rfl (by decide) rfl) ?_
        refine ev_step (st_bipush (pc := 32) dX9_ask_32 nb_7) ?_
        refine ev_step (st_istore (pc := 34) (ls' := [(4, .int ((7 : Int32))), (3, .int ((0 : Int32))), (2, .int x4), (0, .ref (gB G + v0)), (1, .int v1)]) dX9_ask_34 (by decide) rfl) ?_
        refine ev_step (st_iconst (pc := 36) dX9_ask_36 ni_0) ?_
        refine ev_step (st_istore (pc := 37) (ls' := [(5, .int ((0 : Int32))), (4, .int ((7 : Int32))), (3, .int ((0 : Int32))), (2, .int x4), (0, .ref (gB G + v0)), (1, .int v1)]) dX9_ask_37 (by decide) rfl) ?_
        refine ev_sub (ls' := [(0, .ref (gB G + v0)), (1, .int v1), (2, .int x4), (3, .int ((0 : Int32))), (4, .int ((7 : Int32))), (5, .int ((0 : Int32)))]) [4, 5, 3, 2, 1, 0] rfl ?_
        exact tX9_ask_39 G fu h v0 v1 x4 fu ((0 : Int32)) ((7 : Int32)) ((0 : Int32)) h3
    · refine ev_step (st_iconst (pc := 15) dX9_ask_15 ni_m1) ?_
      exact ev_iret (pc := 16) dX9_ask_16
set_option maxRecDepth 100000 in
set_option maxHeartbeats 4000000 in
theorem tX10_tellLaw_110 (G : gx) (fu : Nat) (h0 : mh) (v0 : Nat) (v1 : Int32) (v2 : Int32) (v3 : Int32) (k12 : Int32 × mh → Option (Unit × mh)) (hk12 : ∀ (v3 : Int32) (h : mh), Ev lV G yX10_tellLaw cX10_tellLaw 4 (none) 6 h0 12 [(0, .ref (gB G + v0)), (1, .int v1), (2, .int v2), (3, .int v3)] [] h (k12 (v3, h))) (h : mh) : Ev lV G yX10_tellLaw cX10_tellLaw 4 (none) 6 h0 110 [(0, .ref (gB G + v0)), (1, .int v1), (2, .int v2), (3, .int v3)] [] h (fX10_tellLaw_110 fu k12 v0 v1 v2 v3 h) := by
  unfold fX10_tellLaw_110
  refine ev_step (st_aload_n (pc := 110) (j := 0) dX10_tellLaw_110 rfl rfl) ?_
  refine ev_step (st_bipush (pc := 111) dX10_tellLaw_111 nb_31) ?_
  refine ev_ck (fun ha hS => ?_)
  refine ev_callV (iv_V (As := [.int ((31 : Int32))]) (st := []) (pc := 113) rfl m_X10_must l_X10_258 i_X10_must e_X10_must ha hS rfl (Nat.le_of_ble_eq_true rfl) rfl dX10_tellLaw_113) (tX10_must G fu v0 ((31 : Int32)) h) (by decide) (by decide) (fun h1 => ?_)
  refine ev_step (st_aload_n (pc := 116) (j := 0) dX10_tellLaw_116 rfl rfl) ?_
  refine ev_ck (fun ha hS => ?_)
  refine ev_callV (iv_V (As := []) (st := []) (pc := 117) rfl m_X10_term l_X10_290 i_X10_term e_X10_term ha hS rfl (Nat.le_of_ble_eq_true rfl) rfl dX10_tellLaw_117) (tX10_term G fu v0 h1) (by decide) (by decide) (fun h2 => ?_)
  refine ev_step (st_aload_n (pc := 120) (j := 0) dX10_tellLaw_120 rfl rfl) ?_
  refine ev_step (st_bipush (pc := 121) dX10_tellLaw_121 nb_32) ?_
  refine ev_ck (fun ha hS => ?_)
  refine ev_callV (iv_V (As := [.int ((32 : Int32))]) (st := []) (pc := 123) rfl m_X10_must l_X10_258 i_X10_must e_X10_must ha hS rfl (Nat.le_of_ble_eq_true rfl) rfl dX10_tellLaw_123) (tX10_must G fu v0 ((32 : Int32)) h2) (by decide) (by decide) (fun h3 => ?_)
  refine ev_step (st_goto (pc := 126) (tgt := 12) dX10_tellLaw_126 (by decide)) ?_
  refine ev_sub (ls' := [(0, .ref (gB G + v0)), (1, .int v1), (2, .int v2), (3, .int v3)]) [0, 1, 2, 3] rfl ?_
  exact hk12 v3 h3
set_option maxRecDepth 100000 in
set_option maxHeartbeats 4000000 in
theorem tX10_tellLaw_38 (G : gx) (fu : Nat) (h0 : mh) (v0 : Nat) (v1 : Int32) (v2 : Int32) (v3 : Int32) (k12 : Int32 × mh → Option (Unit × mh)) (hk12 : ∀ (v3 : Int32) (h : mh), Ev lV G yX10_tellLaw cX10_tellLaw 4 (none) 6 h0 12 [(0, .ref (gB G + v0)), (1, .int v1), (2, .int v2), (3, .int v3)] [] h (k12 (v3, h))) (h : mh) : Ev lV G yX10_tellLaw cX10_tellLaw 4 (none) 6 h0 38 [(0, .ref (gB G + v0)), (1, .int v1), (2, .int v2), (3, .int v3)] [] h (fX10_tellLaw_38 fu k12 v0 v1 v2 v3 h) := by
  unfold fX10_tellLaw_38
  refine ev_step (st_aload_n (pc := 38) (j := 0) dX10_tellLaw_38 rfl rfl) ?_
  refine ev_getI (pc := 39) k_X10_200 rfl dX10_tellLaw_39 (fun x1 => ?_)
  refine ev_br (br_if_le (tgt := 46) (pc := 42) dX10_tellLaw_42 (by decide)) (fun _ => ?_) (fun _ => ?_)
  · refine ev_step (st_inc (pc := 46) (j := 3) (ls' := [(3, .int (v3 + (1 : Int32))), (0, .ref (gB G + v0)), (1, .int v1), (2, .int v2)]) dX10_tellLaw_46 rfl ni_1 (by decide) rfl) ?_
    refine ev_step (st_aload_n (pc := 49) (j := 1) dX10_tellLaw_49 rfl rfl) ?_
    refine ev_ck (fun ha hS => ?_)
    refine ev_callV (iv_V (As := []) (st := []) (pc := 50) rfl m_X10_goesOn l_X10_221 i_X10_goesOn e_X10_goesOn ha hS rfl (Nat.le_of_ble_eq_true rfl) rfl dX10_tellLaw_50) (tX10_goesOn G fu v0 h) (by decide) (by decide) (fun h2 => ?_)
    refine ev_step (st_aload_n (pc := 53) (j := 1) dX10_tellLaw_53 rfl rfl) ?_
    refine ev_getR (pc := 54) k_X10_88 rfl dX10_tellLaw_54 (fun a3 => ?_)
    refine ev_step (st_aload_n (pc := 57) (j := 1) dX10_tellLaw_57 rfl rfl) ?_
    refine ev_getI (pc := 58) k_X10_239 rfl dX10_tellLaw_58 (fun x4 => ?_)
    refine ev_step (st_iconst (pc := 61) dX10_tellLaw_61 ni_1) ?_
    refine ev_stz (pc := 62) dX10_tellLaw_62 (fun h5 => ?_)
    refine ev_step (st_aload_n (pc := 63) (j := 1) dX10_tellLaw_63 rfl rfl) ?_
    refine ev_getR (pc := 64) k_X10_92 rfl dX10_tellLaw_64 (fun a6 => ?_)
    refine ev_step (st_aload_n (pc := 67) (j := 1) dX10_tellLaw_67 rfl rfl) ?_
    refine ev_getI (pc := 68) k_X10_239 rfl dX10_tellLaw_68 (fun x7 => ?_)
    refine ev_step (st_aload_n (pc := 71) (j := 1) dX10_tellLaw_71 rfl rfl) ?_
    refine ev_getI (pc := 72) k_X10_242 rfl dX10_tellLaw_72 (fun x8 => ?_)
    refine ev_sti (pc := 75) dX10_tellLaw_75 (fun h9 => ?_)
    refine ev_step (st_aload_n (pc := 76) (j := 1) dX10_tellLaw_76 rfl rfl) ?_
    refine ev_ck (fun ha hS => ?_)
    refine ev_callV (iv_V (As := []) (st := []) (pc := 77) rfl m_X10_expression l_X10_287 i_X10_expression e_X10_expression ha hS rfl (Nat.le_of_ble_eq_true rfl) rfl dX10_tellLaw_77) (tX10_expression G fu v0 h9) (by decide) (by decide) (fun h10 => ?_)
    refine ev_step (st_aload_n (pc := 80) (j := 1) dX10_tellLaw_80 rfl rfl) ?_
    refine ev_step (st_bipush (pc := 81) dX10_tellLaw_81 nb_13) ?_
    refine ev_ck (fun ha hS => ?_)
    refine ev_callV (iv_V (As := [.int ((13 : Int32))]) (st := []) (pc := 83) rfl m_X10_must l_X10_258 i_X10_must e_X10_must ha hS rfl (Nat.le_of_ble_eq_true rfl) rfl dX10_tellLaw_83) (tX10_must G fu v0 ((13 : Int32)) h10) (by decide) (by decide) (fun h11 => ?_)
    refine ev_step (st_aload_n (pc := 86) (j := 1) dX10_tellLaw_86 rfl rfl) ?_
    refine ev_getR (pc := 87) k_X10_95 rfl dX10_tellLaw_87 (fun a12 => ?_)
    refine ev_step (st_aload_n (pc := 90) (j := 1) dX10_tellLaw_90 rfl rfl) ?_
    refine ev_getI (pc := 91) k_X10_239 rfl dX10_tellLaw_91 (fun x13 => ?_)
    refine ev_step (st_aload_n (pc := 94) (j := 1) dX10_tellLaw_94 rfl rfl) ?_
    refine ev_getI (pc := 95) k_X10_242 rfl dX10_tellLaw_95 (fun x14 => ?_)
    refine ev_sti (pc := 98) dX10_tellLaw_98 (fun h15 => ?_)
    refine ev_step (st_aload_n (pc := 99) (j := 1) dX10_tellLaw_99 rfl rfl) ?_
    refine ev_getI (pc := 100) k_X10_200 rfl dX10_tellLaw_100 (fun x16 => ?_)
    refine ev_br (br_if_ne (tgt := 110) (pc := 103) dX10_tellLaw_103 (by decide)) (fun _ => ?_) (fun _ => ?_)
    · refine ev_step (st_aload_n (pc := 106) (j := 1) dX10_tellLaw_106 rfl rfl) ?_
      refine ev_ck (fun ha hS => ?_)
      refine ev_callV (iv_V (As := []) (st := []) (pc := 107) rfl m_X10_expression l_X10_287 i_X10_expression e_X10_expression ha hS rfl (Nat.le_of_ble_eq_true rfl) rfl dX10_tellLaw_107) (tX10_expression G fu v0 h15) (by decide) (by decide) (fun h17 => ?_)
      refine ev_sub (ls' := [(0, .ref (gB G + v0)), (1, .int v1), (2, .int v2), (3, .int (v3 + (1 : Int32)))]) [1, 2, 3, 0] rfl ?_
      exact tX10_tellLaw_110 G fu h0 v0 v1 v2 (v3 + (1 : Int32)) k12 hk12 h17
    · refine ev_sub (ls' := [(0, .ref (gB G + v0)), (1, .int v1), (2, .int v2), (3, .int (v3 + (1 : Int32)))]) [1, 2, 3, 0] rfl ?_
      exact tX10_tellLaw_110 G fu h0 v0 v1 v2 (v3 + (1 : Int32)) k12 hk12 h15
  · exact ev_vret (pc := 45) dX10_tellLaw_45
set_option maxRecDepth 100000 in
set_option maxHeartbeats 4000000 in
theorem tX10_tellLaw_129 (G : gx) (fu : Nat) (h0 : mh) (v0 : Nat) (v1 : Int32) (v2 : Int32) (v3 : Int32) (h : mh) : Ev lV G yX10_tellLaw cX10_tellLaw 4 (none) 6 h0 129 [(0, .ref (gB G + v0)), (1, .int v1), (2, .int v2), (3, .int v3)] [] h (fX10_tellLaw_129 fu v0 v1 v2 v3 h) := by
  unfold fX10_tellLaw_129
  refine ev_step (st_aload_n (pc := 129) (j := 0) dX10_tellLaw_129 rfl rfl) ?_
  refine ev_getR (pc := 130) k_X10_88 rfl dX10_tellLaw_130 (fun a1 => ?_)
  refine ev_step (st_aload_n (pc := 133) (j := 0) dX10_tellLaw_133 rfl rfl) ?_
  refine ev_getI (pc := 134) k_X10_239 rfl dX10_tellLaw_134 (fun x2 => ?_)
  refine ev_step (st_iconst (pc := 137) dX10_tellLaw_137 ni_0) ?_
  refine ev_stz (pc := 138) dX10_tellLaw_138 (fun h3 => ?_)
  refine ev_step (st_aload_n (pc := 139) (j := 0) dX10_tellLaw_139 rfl rfl) ?_
  refine ev_ck (fun ha hS => ?_)
  refine ev_callV (iv_V (As := []) (st := []) (pc := 140) rfl m_X10_term l_X10_290 i_X10_term e_X10_term ha hS rfl (Nat.le_of_ble_eq_true rfl) rfl dX10_tellLaw_140) (tX10_term G fu v0 h3) (by decide) (by decide) (fun h4 => ?_)
  refine ev_step (st_aload_n (pc := 143) (j := 0) dX10_tellLaw_143 rfl rfl) ?_
  refine ev_step (st_iconst (pc := 144) dX10_tellLaw_144 ni_4) ?_
  refine ev_ck (fun ha hS => ?_)
  refine ev_callV (iv_V (As := [.int ((4 : Int32))]) (st := []) (pc := 145) rfl m_X10_must l_X10_258 i_X10_must e_X10_must ha hS rfl (Nat.le_of_ble_eq_true rfl) rfl dX10_tellLaw_145) (tX10_must G fu v0 ((4 : Int32)) h4) (by decide) (by decide) (fun h5 => ?_)
  refine ev_step (st_aload_n (pc := 148) (j := 0) dX10_tellLaw_148 rfl rfl) ?_
  refine ev_getI (pc := 149) k_X10_200 rfl dX10_tellLaw_149 (fun x6 => ?_)
  refine ev_br (br_if_le (tgt := 156) (pc := 152) dX10_tellLaw_152 (by decide)) (fun _ => ?_) (fun _ => ?_)
  · refine ev_step (st_aload_n (pc := 156) (j := 0) dX10_tellLaw_156 rfl rfl) ?_
    refine ev_getR (pc := 157) k_X10_82 rfl dX10_tellLaw_157 (fun a7 => ?_)
    refine ev_step (st_iconst (pc := 160) dX10_tellLaw_160 ni_4) ?_
    refine ev_step (st_aload_n (pc := 161) (j := 0) dX10_tellLaw_161 rfl rfl) ?_
    refine ev_getI (pc := 162) k_X10_233 rfl dX10_tellLaw_162 (fun x8 => ?_)
    refine ev_step (st_imul (pc := 165) dX10_tellLaw_165) ?_
    refine ev_step (st_iload_n (pc := 166) (j := 1) dX10_tellLaw_166 rfl rfl) ?_
    refine ev_step (st_iadd (pc := 167) dX10_tellLaw_167) ?_
    refine ev_step (st_iload_n (pc := 168) (j := 2) dX10_tellLaw_168 rfl rfl) ?_
    refine ev_sti (pc := 169) dX10_tellLaw_169 (fun h9 => ?_)
    refine ev_step (st_aload_n (pc := 170) (j := 0) dX10_tellLaw_170 rfl rfl) ?_
    refine ev_getR (pc := 171) k_X10_85 rfl dX10_tellLaw_171 (fun a10 => ?_)
    refine ev_step (st_iconst (pc := 174) dX10_tellLaw_174 ni_4) ?_
    refine ev_step (st_aload_n (pc := 175) (j := 0) dX10_tellLaw_175 rfl rfl) ?_
    refine ev_getI (pc := 176) k_X10_233 rfl dX10_tellLaw_176 (fun x11 => ?_)
    refine ev_step (st_imul (pc := 179) dX10_tellLaw_179) ?_
    refine ev_step (st_iload_n (pc := 180) (j := 1) dX10_tellLaw_180 rfl rfl) ?_
    refine ev_step (st_iadd (pc := 181) dX10_tellLaw_181) ?_
    refine ev_step (st_aload_n (pc := 182) (j := 0) dX10_tellLaw_182 rfl rfl) ?_
    refine ev_getI (pc := 183) k_X10_239 rfl dX10_tellLaw_183 (fun x12 => ?_)
    refine ev_sti (pc := 186) dX10_tellLaw_186 (fun h13 => ?_)
    exact ev_vret (pc := 187) dX10_tellLaw_187
  · exact ev_vret (pc := 155) dX10_tellLaw_155
set_option maxRecDepth 100000 in
set_option maxHeartbeats 4000000 in
theorem tX10_tellLaw_12 (G : gx) (fu : Nat) (h0 : mh) (v0 : Nat) (v1 : Int32) (v2 : Int32) (n : Nat) (v3 : Int32) (h : mh) : Ev lV G yX10_tellLaw cX10_tellLaw 4 (none) 6 h0 12 [(0, .ref (gB G + v0)), (1, .int v1), (2, .int v2), (3, .int v3)] [] h (itr (bX10_tellLaw_12 fu v0 v1 v2) n (v3, h)) := by
  refine ev_itr (P := fun (q : Int32 × mh) (R9 : Option (Unit × mh)) => Ev lV G yX10_tellLaw cX10_tellLaw 4 (none) 6 h0 12 [(0, .ref (gB G + v0)), (1, .int v1), (2, .int v2), (3, .int q.1)] [] q.2 R9) (fun _ => ev_none) (fun k12 hk9 q => ?_) n (v3, h)
  obtain ⟨v3, h⟩ := q
  have hk12 : ∀ (v3 : Int32) (h : mh), Ev lV G yX10_tellLaw cX10_tellLaw 4 (none) 6 h0 12 [(0, .ref (gB G + v0)), (1, .int v1), (2, .int v2), (3, .int v3)] [] h (k12 (v3, h)) := fun v3 h => hk9 (v3, h)
  show Ev lV G yX10_tellLaw cX10_tellLaw 4 (none) 6 h0 12 [(0, .ref (gB G + v0)), (1, .int v1), (2, .int v2), (3, .int v3)] [] h (bX10_tellLaw_12 fu v0 v1 v2 k12 (v3, h))
  unfold bX10_tellLaw_12
  refine ev_step (st_aload_n (pc := 12) (j := 0) dX10_tellLaw_12 rfl rfl) ?_
  refine ev_getI (pc := 13) k_X10_200 rfl dX10_tellLaw_13 (fun x1 => ?_)
  refine ev_br (br_if_ne (tgt := 129) (pc := 16) dX10_tellLaw_16 (by decide)) (fun _ => ?_) (fun _ => ?_)
  · refine ev_step (st_aload_n (pc := 19) (j := 0) dX10_tellLaw_19 rfl rfl) ?_
    refine ev_step (st_bipush (pc := 20) dX10_tellLaw_20 nb_30) ?_
    refine ev_ck (fun ha hS => ?_)
    refine ev_callI (iv_V (As := [.int ((30 : Int32))]) (st := []) (pc := 22) rfl m_X10_is l_X10_218 i_X10_is e_X10_is ha hS rfl (Nat.le_of_ble_eq_true rfl) rfl dX10_tellLaw_22) (tX10_is G fu v0 ((30 : Int32)) h) (by decide) (by decide) (fun x3 h2 => ?_)
    refine ev_br (br_if_eq (tgt := 129) (pc := 25) dX10_tellLaw_25 (by decide)) (fun _ => ?_) (fun _ => ?_)
    · refine ev_sub (ls' := [(0, .ref (gB G + v0)), (1, .int v1), (2, .int v2), (3, .int v3)]) [0, 1, 2, 3] rfl ?_
      exact tX10_tellLaw_129 G fu h0 v0 v1 v2 v3 h2
    · refine ev_step (st_iload_n (pc := 28) (j := 3) dX10_tellLaw_28 rfl rfl) ?_
      refine ev_step (st_iconst (pc := 29) dX10_tellLaw_29 ni_4) ?_
      refine ev_br (br_icmp_ne (tgt := 38) (pc := 30) dX10_tellLaw_30 (by decide)) (fun _ => ?_) (fun _ => ?_)
      · refine ev_step (st_aload_n (pc := 33) (j := 0) dX10_tellLaw_33 rfl rfl) ?_
        refine ev_step (st_iconst (pc := 34) dX10_tellLaw_34 ni_2) ?_
        refine ev_ck (fun ha hS => ?_)
        refine ev_callV (iv_V (As := [.int ((2 : Int32))]) (st := []) (pc := 35) rfl m_X10_fail l_X10_215 i_X10_fail e_X10_fail ha hS rfl (Nat.le_of_ble_eq_true rfl) rfl dX10_tellLaw_35) (tX10_fail G fu v0 ((2 : Int32)) h2) (by decide) (by decide) (fun h4 => ?_)
        refine ev_sub (ls' := [(0, .ref (gB G + v0)), (1, .int v1), (2, .int v2), (3, .int v3)]) [0, 1, 2, 3] rfl ?_
        exact tX10_tellLaw_38 G fu h0 v0 v1 v2 v3 k12 hk12 h4
      · refine ev_sub (ls' := [(0, .ref (gB G + v0)), (1, .int v1), (2, .int v2), (3, .int v3)]) [0, 1, 2, 3] rfl ?_
        exact tX10_tellLaw_38 G fu h0 v0 v1 v2 v3 k12 hk12 h2
  · refine ev_sub (ls' := [(0, .ref (gB G + v0)), (1, .int v1), (2, .int v2), (3, .int v3)]) [0, 1, 2, 3] rfl ?_
    exact tX10_tellLaw_129 G fu h0 v0 v1 v2 v3 h
set_option maxRecDepth 100000 in
set_option maxHeartbeats 4000000 in
theorem tX10_tellLaw (G : gx) (fu : Nat) (v0 : Nat) (v1 : Int32) (h : mh) : Ct lV G yX10_tellLaw cX10_tellLaw 4 (none) 6 [.ref (gB G + v0), .int v1] h (fX10_tellLaw fu v0 v1 h) := by
  refine ct_ls (ls := [(0, .ref (gB G + v0)), (1, .int v1)]) rfl (by decide) (Nat.le_of_ble_eq_true rfl) ?_
  unfold fX10_tellLaw
  refine ev_step (st_aload_n (pc := 0) (j := 0) dX10_tellLaw_0 rfl rfl) ?_
  refine ev_step (st_iconst (pc := 1) dX10_tellLaw_1 ni_5) ?_
  refine ev_ck (fun ha hS => ?_)
  refine ev_callV (iv_V (As := [.int ((5 : Int32))]) (st := []) (pc := 2) rfl m_X10_must l_X10_258 i_X10_must e_X10_must ha hS rfl (Nat.le_of_ble_eq_true rfl) rfl dX10_tellLaw_2) (tX10_must G fu v0 ((5 : Int32)) h) (by decide) (by decide) (fun h1 => ?_)
  refine ev_step (st_aload_n (pc := 5) (j := 0) dX10_tellLaw_5 rfl rfl) ?_
  refine ev_getI (pc := 6) k_X10_239 rfl dX10_tellLaw_6 (fun x2 => ?_)
  refine ev_step (st_istore_n (pc := 9) (ls' := [(2, .int x2), (0, .ref (gB G + v0)), (1, .int v1)]) dX10_tellLaw_9 rfl (by decide) rfl) ?_
  refine ev_step (st_iconst (pc := 10) dX10_tellLaw_10 ni_0) ?_
  refine ev_step (st_istore_n (pc := 11) (ls' := [(3, .int ((0 : Int32))), (2, .int x2), (0, .ref (gB G + v0)), (1, .int v1)]) dX10_tellLaw_11 rfl (by decide) rfl) ?_
  refine ev_sub (ls' := [(0, .ref (gB G + v0)), (1, .int v1), (2, .int x2), (3, .int ((0 : Int32)))]) [2, 3, 1, 0] rfl ?_
  exact tX10_tellLaw_12 G fu h v0 v1 x2 fu ((0 : Int32)) h1
set_option maxRecDepth 100000 in
set_option maxHeartbeats 4000000 in
theorem tX0_take (G : gx) (fu : Nat) (v0 : Nat) (v1 : Nat) (v2 : Nat) (h : mh) : Ct lI G yX0_take cX0_take 3 (some .int) 5 [.ref (gB G + v0), .ref (gB G + v1), .ref (gB G + v2)] h (fX0_take fu v0 v1 v2 h) := by
  refine ct_ls (ls := [(0, .ref (gB G + v0)), (1, .ref (gB G + v1)), (2, .ref (gB G + v2))]) rfl (by decide) (Nat.le_of_ble_eq_true rfl) ?_
  unfold fX0_take
  refine ev_step (st_aload_n (pc := 0) (j := 0) dX0_take_0 rfl rfl) ?_
  refine ev_getI (pc := 1) k_X0_24 rfl dX0_take_1 (fun x1 => ?_)
  refine ev_br (br_if_ne (tgt := 17) (pc := 4) dX0_take_4 (by decide)) (fun _ => ?_) (fun _ => ?_)
  · refine ev_step (st_aload_n (pc := 7) (j := 0) dX0_take_7 rfl rfl) ?_
    refine ev_step (st_aload_n (pc := 8) (j := 1) dX0_take_8 rfl rfl) ?_
    refine ev_getI (pc := 9) k_X0_44 rfl dX0_take_9 (fun x2 => ?_)
    refine ev_step (st_aload_n (pc := 12) (j := 2) dX0_take_12 rfl rfl) ?_
    refine ev_ck (fun ha hS => ?_)
    refine ev_callI (iv_V (As := [.int x2, .ref (gB G + v2)]) (st := []) (pc := 13) rfl m_X0_begin l_X0_49 i_X0_begin e_X0_begin ha hS rfl (Nat.le_of_ble_eq_true rfl) rfl dX0_take_13) (tX0_begin G fu v0 x2 v2 h) (by decide) (by decide) (fun x4 h3 => ?_)
    exact ev_iret (pc := 16) dX0_take_16
  · refine ev_step (st_aload_n (pc := 17) (j := 0) dX0_take_17 rfl rfl) ?_
    refine ev_getI (pc := 18) k_X0_28 rfl dX0_take_18 (fun x5 => ?_)
    refine ev_br (br_if_eq (tgt := 33) (pc := 21) dX0_take_21 (by decide)) (fun _ => ?_) (fun _ => ?_)
    · refine ev_step (st_aload_n (pc := 33) (j := 0) dX0_take_33 rfl rfl) ?_
      refine ev_step (st_aload_n (pc := 34) (j := 1) dX0_take_34 rfl rfl) ?_
      refine ev_getI (pc := 35) k_X0_44 rfl dX0_take_35 (fun x6 => ?_)
      refine ev_step (st_aload_n (pc := 38) (j := 2) dX0_take_38 rfl rfl) ?_
      refine ev_ck (fun ha hS => ?_)
      refine ev_callI (iv_V (As := [.int x6, .ref (gB G + v2)]) (st := []) (pc := 39) rfl m_X0_takeBehindUnit l_X0_57 i_X0_takeBehindUnit e_X0_takeBehindUnit ha hS rfl (Nat.le_of_ble_eq_true rfl) rfl dX0_take_39) (tX0_takeBehindUnit G fu v0 x6 v2 h) (by decide) (by decide) (fun x8 h7 => ?_)
      exact ev_iret (pc := 42) dX0_take_42
    · refine ev_step (st_aload_n (pc := 24) (j := 0) dX0_take_24 rfl rfl) ?_
      refine ev_step (st_aload_n (pc := 25) (j := 1) dX0_take_25 rfl rfl) ?_
      refine ev_step (st_aload_n (pc := 26) (j := 2) dX0_take_26 rfl rfl) ?_
      refine ev_ck (fun ha hS => ?_)
      refine ev_callI (iv_V (As := [.ref (gB G + v1), .ref (gB G + v2)]) (st := []) (pc := 27) rfl m_X0_takeUnit l_X0_53 i_X0_takeUnit e_X0_takeUnit ha hS rfl (Nat.le_of_ble_eq_true rfl) rfl dX0_take_27) (tX0_takeUnit G fu v0 v1 v2 h) (by decide) (by decide) (fun x10 h9 => ?_)
      refine ev_step (st_goto (pc := 30) (tgt := 42) dX0_take_30 (by decide)) ?_
      exact ev_iret (pc := 42) dX0_take_42
set_option maxRecDepth 100000 in
set_option maxHeartbeats 4000000 in
theorem tX6_passEvenings_2 (G : gx) (fu : Nat) (h0 : mh) (v0 : Nat) (v1 : Nat) (v2 : Int32) (n : Nat) (v3 : Int32) (h : mh) : Ev lV G yX6_passEvenings cX6_passEvenings 4 (none) 6 h0 2 [(0, .ref (gB G + v0)), (1, .ref (gB G + v1)), (2, .int v2), (3, .int v3)] [] h (itr (bX6_passEvenings_2 fu v0 v1 v2) n (v3, h)) := by
  refine ev_itr (P := fun (q : Int32 × mh) (R9 : Option (Unit × mh)) => Ev lV G yX6_passEvenings cX6_passEvenings 4 (none) 6 h0 2 [(0, .ref (gB G + v0)), (1, .ref (gB G + v1)), (2, .int v2), (3, .int q.1)] [] q.2 R9) (fun _ => ev_none) (fun k2 hk9 q => ?_) n (v3, h)
  obtain ⟨v3, h⟩ := q
  have hk2 : ∀ (v3 : Int32) (h : mh), Ev lV G yX6_passEvenings cX6_passEvenings 4 (none) 6 h0 2 [(0, .ref (gB G + v0)), (1, .ref (gB G + v1)), (2, .int v2), (3, .int v3)] [] h (k2 (v3, h)) := fun v3 h => hk9 (v3, h)
  show Ev lV G yX6_passEvenings cX6_passEvenings 4 (none) 6 h0 2 [(0, .ref (gB G + v0)), (1, .ref (gB G + v1)), (2, .int v2), (3, .int v3)] [] h (bX6_passEvenings_2 fu v0 v1 v2 k2 (v3, h))
  unfold bX6_passEvenings_2
  refine ev_step (st_iload_n (pc := 2) (j := 3) dX6_passEvenings_2 rfl rfl) ?_
  refine ev_step (st_iload_n (pc := 3) (j := 2) dX6_passEvenings_3 rfl rfl) ?_
  refine ev_br (br_icmp_ge (tgt := 34) (pc := 4) dX6_passEvenings_4 (by decide)) (fun _ => ?_) (fun _ => ?_)
  · exact ev_vret (pc := 34) dX6_passEvenings_34
  · refine ev_step (st_aload_n (pc := 7) (j := 0) dX6_passEvenings_7 rfl rfl) ?_
    refine ev_step (st_aload_n (pc := 8) (j := 1) dX6_passEvenings_8 rfl rfl) ?_
    refine ev_step (st_aload_n (pc := 9) (j := 1) dX6_passEvenings_9 rfl rfl) ?_
    refine ev_getI (pc := 10) k_X6_104 rfl dX6_passEvenings_10 (fun x1 => ?_)
    refine ev_step (st_aload_n (pc := 13) (j := 0) dX6_passEvenings_13 rfl rfl) ?_
    refine ev_step (st_aload_n (pc := 14) (j := 0) dX6_passEvenings_14 rfl rfl) ?_
    refine ev_getI (pc := 15) k_X6_60 rfl dX6_passEvenings_15 (fun x2 => ?_)
    refine ev_step (st_aload_n (pc := 18) (j := 1) dX6_passEvenings_18 rfl rfl) ?_
    refine ev_getI (pc := 19) k_X6_101 rfl dX6_passEvenings_19 (fun x3 => ?_)
    refine ev_ck (fun ha hS => ?_)
    refine ev_callI (iv_V (As := [.int x2, .int x3]) (st := [.int x1, .ref (gB G + v1), .ref (gB G + v0)]) (pc := 22) rfl m_X6_crackles l_X6_156 i_X6_crackles e_X6_crackles ha hS rfl (Nat.le_of_ble_eq_true rfl) rfl dX6_passEvenings_22) (tX6_crackles G fu v0 x2 x3 h) (by decide) (by decide) (fun x5 h4 => ?_)
    refine ev_ck (fun ha hS => ?_)
    refine ev_callV (iv_V (As := [.ref (gB G + v1), .int x1, .int x5]) (st := []) (pc := 25) rfl m_X6_passEvening l_X6_159 i_X6_passEvening e_X6_passEvening ha hS rfl (Nat.le_of_ble_eq_true rfl) rfl dX6_passEvenings_25) (tX6_passEvening G fu v0 v1 x1 x5 h4) (by decide) (by decide) (fun h6 => ?_)
    refine ev_step (st_inc (pc := 28) (j := 3) (ls' := [(3, .int (v3 + (1 : Int32))), (0, .ref (gB G + v0)), (1, .ref (gB G + v1)), (2, .int v2)]) dX6_passEvenings_28 rfl ni_1 (by decide) rfl) ?_
    refine ev_step (st_goto (pc := 31) (tgt := 2) dX6_passEvenings_31 (by decide)) ?_
    refine ev_sub (ls' := [(0, .ref (gB G + v0)), (1, .ref (gB G + v1)), (2, .int v2), (3, .int (v3 + (1 : Int32)))]) [1, 2, 3, 0] rfl ?_
    exact hk2 (v3 + (1 : Int32)) h6
set_option maxRecDepth 100000 in
set_option maxHeartbeats 4000000 in
theorem tX6_passEvenings (G : gx) (fu : Nat) (v0 : Nat) (v1 : Nat) (v2 : Int32) (h : mh) : Ct lV G yX6_passEvenings cX6_passEvenings 4 (none) 6 [.ref (gB G + v0), .ref (gB G + v1), .int v2] h (fX6_passEvenings fu v0 v1 v2 h) := by
  refine ct_ls (ls := [(0, .ref (gB G + v0)), (1, .ref (gB G + v1)), (2, .int v2)]) rfl (by decide) (Nat.le_of_ble_eq_true rfl) ?_
  unfold fX6_passEvenings
  refine ev_step (st_iconst (pc := 0) dX6_passEvenings_0 ni_0) ?_
  refine ev_step (st_istore_n (pc := 1) (ls' := [(3, .int ((0 : Int32))), (0, .ref (gB G + v0)), (1, .ref (gB G + v1)), (2, .int v2)]) dX6_passEvenings_1 rfl (by decide) rfl) ?_
  refine ev_sub (ls' := [(0, .ref (gB G + v0)), (1, .ref (gB G + v1)), (2, .int v2), (3, .int ((0 : Int32)))]) [1, 2, 3, 0] rfl ?_
  exact tX6_passEvenings_2 G fu h v0 v1 v2 fu ((0 : Int32)) h
set_option maxRecDepth 100000 in
set_option maxHeartbeats 4000000 in
theorem tX6_passEveningOf_16 (G : gx) (fu : Nat) (h0 : mh) (v0 : Nat) (v1 : Nat) (v2 : Int32) (v3 : Int32) (s0 : Nat) (s1 : Nat) (s2 : Int32) (h : mh) : Ev lV G yX6_passEveningOf cX6_passEveningOf 4 (none) 6 h0 16 [(0, .ref (gB G + v0)), (1, .ref (gB G + v1)), (2, .int v2), (3, .int v3)] [.int s2, .ref (gB G + s1), .ref (gB G + s0)] h (fX6_passEveningOf_16 fu v0 v1 v2 v3 s0 s1 s2 h) := by
  unfold fX6_passEveningOf_16
  refine ev_step (st_iload_n (pc := 16) (j := 3) dX6_passEveningOf_16 rfl rfl) ?_
  refine ev_ck (fun ha hS => ?_)
  refine ev_callV (iv_V (As := [.ref (gB G + s1), .int s2, .int v3]) (st := []) (pc := 17) rfl m_X6_passEvening l_X6_159 i_X6_passEvening e_X6_passEvening ha hS rfl (Nat.le_of_ble_eq_true rfl) rfl dX6_passEveningOf_17) (tX6_passEvening G fu s0 s1 s2 v3 h) (by decide) (by decide) (fun h1 => ?_)
  exact ev_vret (pc := 20) dX6_passEveningOf_20
set_option maxRecDepth 100000 in
set_option maxHeartbeats 4000000 in
theorem tX6_passEveningOf (G : gx) (fu : Nat) (v0 : Nat) (v1 : Nat) (v2 : Int32) (v3 : Int32) (h : mh) : Ct lV G yX6_passEveningOf cX6_passEveningOf 4 (none) 6 [.ref (gB G + v0), .ref (gB G + v1), .int v2, .int v3] h (fX6_passEveningOf fu v0 v1 v2 v3 h) := by
  refine ct_ls (ls := [(0, .ref (gB G + v0)), (1, .ref (gB G + v1)), (2, .int v2), (3, .int v3)]) rfl (by decide) (Nat.le_of_ble_eq_true rfl) ?_
  unfold fX6_passEveningOf
  refine ev_step (st_aload_n (pc := 0) (j := 0) dX6_passEveningOf_0 rfl rfl) ?_
  refine ev_step (st_aload_n (pc := 1) (j := 1) dX6_passEveningOf_1 rfl rfl) ?_
  refine ev_step (st_aload_n (pc := 2) (j := 1) dX6_passEveningOf_2 rfl rfl) ?_
  refine ev_getR (pc := 3) k_X6_96 rfl dX6_passEveningOf_3 (fun a1 => ?_)
  refine ev_step (st_iload_n (pc := 6) (j := 2) dX6_passEveningOf_6 rfl rfl) ?_
  refine ev_ldi (pc := 7) dX6_passEveningOf_7 (fun x2 => ?_)
  refine ev_br (br_if_le (tgt := 15) (pc := 8) dX6_passEveningOf_8 (by decide)) (fun _ => ?_) (fun _ => ?_)
  · refine ev_step (st_iload_n (pc := 15) (j := 2) dX6_passEveningOf_15 rfl rfl) ?_
    refine ev_sub (ls' := [(0, .ref (gB G + v0)), (1, .ref (gB G + v1)), (2, .int v2), (3, .int v3)]) [0, 1, 2, 3] rfl ?_
    exact tX6_passEveningOf_16 G fu h v0 v1 v2 v3 v0 v1 v2 h
  · refine ev_step (st_iconst (pc := 11) dX6_passEveningOf_11 ni_m1) ?_
    refine ev_step (st_goto (pc := 12) (tgt := 16) dX6_passEveningOf_12 (by decide)) ?_
    refine ev_sub (ls' := [(0, .ref (gB G + v0)), (1, .ref (gB G + v1)), (2, .int v2), (3, .int v3)]) [0, 1, 2, 3] rfl ?_
    exact tX6_passEveningOf_16 G fu h v0 v1 v2 v3 v0 v1 ((-1 : Int32)) h
set_option maxRecDepth 100000 in
set_option maxHeartbeats 4000000 in
theorem tX9_evenings_36 (G : gx) (fu : Nat) (h0 : mh) (v0 : Nat) (v1 : Int32) (h : mh) : Ev lI G yX9_evenings cX9_evenings 2 (some .int) 7 h0 36 [(0, .ref (gB G + v0)), (1, .int v1)] [] h (fX9_evenings_36 fu v0 v1 h) := by
  unfold fX9_evenings_36
  refine ev_step (st_aload_n (pc := 36) (j := 0) dX9_evenings_36 rfl rfl) ?_
  refine ev_getR (pc := 37) k_X9_40 rfl dX9_evenings_37 (fun a1 => ?_)
  refine ev_getI (pc := 40) k_X9_153 rfl dX9_evenings_40 (fun x2 => ?_)
  exact ev_iret (pc := 43) dX9_evenings_43
set_option maxRecDepth 100000 in
set_option maxHeartbeats 4000000 in
theorem tX9_evenings (G : gx) (fu : Nat) (v0 : Nat) (v1 : Int32) (h : mh) : Ct lI G yX9_evenings cX9_evenings 2 (some .int) 7 [.ref (gB G + v0), .int v1] h (fX9_evenings fu v0 v1 h) := by
  refine ct_ls (ls := [(0, .ref (gB G + v0)), (1, .int v1)]) rfl (by decide) (Nat.le_of_ble_eq_true rfl) ?_
  unfold fX9_evenings
  refine ev_step (st_iload_n (pc := 0) (j := 1) dX9_evenings_0 rfl rfl) ?_
  refine ev_callI (iv_S (As := [.int v1]) (st := []) (pc := 1) m_X9_isNumberOfEvenings l_X9_217 z_X9_isNumberOfEvenings rfl (Nat.le_of_ble_eq_true rfl) rfl dX9_evenings_1) (tX9_isNumberOfEvenings G fu v1 h) (by decide) (by decide) (fun x2 h1 => ?_)
  refine ev_br (br_if_ne (tgt := 9) (pc := 4) dX9_evenings_4 (by decide)) (fun _ => ?_) (fun _ => ?_)
  · refine ev_step (st_iconst (pc := 7) dX9_evenings_7 ni_m1) ?_
    exact ev_iret (pc := 8) dX9_evenings_8
  · refine ev_step (st_iload_n (pc := 9) (j := 1) dX9_evenings_9 rfl rfl) ?_
    refine ev_br (br_if_le (tgt := 36) (pc := 10) dX9_evenings_10 (by decide)) (fun _ => ?_) (fun _ => ?_)
    · refine ev_sub (ls' := [(0, .ref (gB G + v0)), (1, .int v1)]) [0, 1] rfl ?_
      exact tX9_evenings_36 G fu h v0 v1 h1
    · refine ev_step (st_aload_n (pc := 13) (j := 0) dX9_evenings_13 rfl rfl) ?_
      refine ev_getR (pc := 14) k_X9_57 rfl dX9_evenings_14 (fun a3 => ?_)
      refine ev_step (st_aload_n (pc := 17) (j := 0) dX9_evenings_17 rfl rfl) ?_
      refine ev_getR (pc := 18) k_X9_40 rfl dX9_evenings_18 (fun a4 => ?_)
      refine ev_ck (fun ha hS => ?_)
      refine ev_callV (iv_V (As := [.ref (gB G + a4)]) (st := []) (pc := 21) rfl m_X2_remember l_X9_204 i_X2_remember e_X2_remember ha hS rfl (Nat.le_of_ble_eq_true rfl) rfl dX9_evenings_21) (tX2_remember G fu a3 a4 h1) (by decide) (by decide) (fun h5 => ?_)
      refine ev_step (st_aload_n (pc := 24) (j := 0) dX9_evenings_24 rfl rfl) ?_
      refine ev_getR (pc := 25) k_X9_30 rfl dX9_evenings_25 (fun a6 => ?_)
      refine ev_step (st_aload_n (pc := 28) (j := 0) dX9_evenings_28 rfl rfl) ?_
      refine ev_getR (pc := 29) k_X9_40 rfl dX9_evenings_29 (fun a7 => ?_)
      refine ev_step (st_iload_n (pc := 32) (j := 1) dX9_evenings_32 rfl rfl) ?_
      refine ev_ck (fun ha hS => ?_)
      refine ev_callV (iv_V (As := [.ref (gB G + a7), .int v1]) (st := []) (pc := 33) rfl m_X6_passEvenings l_X9_220 i_X6_passEvenings e_X6_passEvenings ha hS rfl (Nat.le_of_ble_eq_true rfl) rfl dX9_evenings_33) (tX6_passEvenings G fu a6 a7 v1 h5) (by decide) (by decide) (fun h8 => ?_)
      refine ev_sub (ls' := [(0, .ref (gB G + v0)), (1, .int v1)]) [0, 1] rfl ?_
      exact tX9_evenings_36 G fu h v0 v1 h8
set_option maxRecDepth 100000 in
set_option maxHeartbeats 4000000 in
theorem tX9_tonight (G : gx) (fu : Nat) (v0 : Nat) (v1 : Int32) (v2 : Int32) (h : mh) : Ct lI G yX9_tonight cX9_tonight 3 (some .int) 8 [.ref (gB G + v0), .int v1, .int v2] h (fX9_tonight fu v0 v1 v2 h) := by
  refine ct_ls (ls := [(0, .ref (gB G + v0)), (1, .int v1), (2, .int v2)]) rfl (by decide) (Nat.le_of_ble_eq_true rfl) ?_
  unfold fX9_tonight
  refine ev_step (st_aload_n (pc := 0) (j := 0) dX9_tonight_0 rfl rfl) ?_
  refine ev_getR (pc := 1) k_X9_30 rfl dX9_tonight_1 (fun a1 => ?_)
  refine ev_step (st_iload_n (pc := 4) (j := 1) dX9_tonight_4 rfl rfl) ?_
  refine ev_ck (fun ha hS => ?_)
  refine ev_callI (iv_V (As := [.int v1]) (st := []) (pc := 5) rfl m_X6_hasRole l_X9_87 i_X6_hasRole e_X6_hasRole ha hS rfl (Nat.le_of_ble_eq_true rfl) rfl dX9_tonight_5) (tX6_hasRole G fu a1 v1 h) (by decide) (by decide) (fun x3 h2 => ?_)
  refine ev_br (br_if_eq (tgt := 20) (pc := 8) dX9_tonight_8 (by decide)) (fun _ => ?_) (fun _ => ?_)
  · refine ev_step (st_iconst (pc := 20) dX9_tonight_20 ni_m1) ?_
    exact ev_iret (pc := 21) dX9_tonight_21
  · refine ev_step (st_iload_n (pc := 11) (j := 2) dX9_tonight_11 rfl rfl) ?_
    refine ev_br (br_if_lt (tgt := 20) (pc := 12) dX9_tonight_12 (by decide)) (fun _ => ?_) (fun _ => ?_)
    · refine ev_step (st_iconst (pc := 20) dX9_tonight_20 ni_m1) ?_
      exact ev_iret (pc := 21) dX9_tonight_21
    · refine ev_step (st_iload_n (pc := 15) (j := 2) dX9_tonight_15 rfl rfl) ?_
      refine ev_step (st_iconst (pc := 16) dX9_tonight_16 ni_3) ?_
      refine ev_br (br_icmp_le (tgt := 22) (pc := 17) dX9_tonight_17 (by decide)) (fun _ => ?_) (fun _ => ?_)
      · refine ev_step (st_iload_n (pc := 22) (j := 2) dX9_tonight_22 rfl rfl) ?_
        refine ev_case (n := 0) (c := (0 : Int32)) (off := 25) (tgt := 48) (pc := 23) (swn_0 _ _) dX9_tonight_23 (by decide) (by decide) (by decide) (by decide) (by decide) (fun _ => ?_) (fun q4 => ?_)
        · refine ev_step (st_aload_n (pc := 48) (j := 0) dX9_tonight_48 rfl rfl) ?_
          refine ev_getR (pc := 49) k_X9_30 rfl dX9_tonight_49 (fun a5 => ?_)
          refine ev_step (st_aload_n (pc := 52) (j := 0) dX9_tonight_52 rfl rfl) ?_
          refine ev_getR (pc := 53) k_X9_40 rfl dX9_tonight_53 (fun a6 => ?_)
          refine ev_step (st_iload_n (pc := 56) (j := 1) dX9_tonight_56 rfl rfl) ?_
          refine ev_ck (fun ha hS => ?_)
          refine ev_callI (iv_V (As := [.ref (gB G + a6), .int v1]) (st := []) (pc := 57) rfl m_X6_saidBy l_X9_108 i_X6_saidBy e_X6_saidBy ha hS rfl (Nat.le_of_ble_eq_true rfl) rfl dX9_tonight_57) (tX6_saidBy G fu a5 a6 v1 h2) (by decide) (by decide) (fun x8 h7 => ?_)
          exact ev_iret (pc := 60) dX9_tonight_60
        refine ev_case (n := 1) (c := (1 : Int32)) (off := 38) (tgt := 61) (pc := 23) q4 dX9_tonight_23 (by decide) (by decide) (by decide) (by decide) (by decide) (fun _ => ?_) (fun q9 => ?_)
        · refine ev_step (st_aload_n (pc := 61) (j := 0) dX9_tonight_61 rfl rfl) ?_
          refine ev_step (st_iload_n (pc := 62) (j := 1) dX9_tonight_62 rfl rfl) ?_
          refine ev_ck (fun ha hS => ?_)
          refine ev_callI (iv_V (As := [.int v1]) (st := []) (pc := 63) rfl m_X9_trusting l_X9_235 i_X9_trusting e_X9_trusting ha hS rfl (Nat.le_of_ble_eq_true rfl) rfl dX9_tonight_63) (tX9_trusting G fu v0 v1 h2) (by decide) (by decide) (fun x11 h10 => ?_)
          refine ev_step (st_aload_n (pc := 66) (j := 0) dX9_tonight_66 rfl rfl) ?_
          refine ev_getR (pc := 67) k_X9_40 rfl dX9_tonight_67 (fun a12 => ?_)
          refine ev_getI (pc := 70) k_X9_166 rfl dX9_tonight_70 (fun x13 => ?_)
          refine ev_step (st_iand (pc := 73) dX9_tonight_73) ?_
          exact ev_iret (pc := 74) dX9_tonight_74
        refine ev_case (n := 2) (c := (2 : Int32)) (off := 52) (tgt := 75) (pc := 23) q9 dX9_tonight_23 (by decide) (by decide) (by decide) (by decide) (by decide) (fun _ => ?_) (fun q14 => ?_)
        · refine ev_step (st_aload_n (pc := 75) (j := 0) dX9_tonight_75 rfl rfl) ?_
          refine ev_step (st_iload_n (pc := 76) (j := 1) dX9_tonight_76 rfl rfl) ?_
          refine ev_ck (fun ha hS => ?_)
          refine ev_callI (iv_V (As := [.int v1]) (st := []) (pc := 77) rfl m_X9_doneBehind l_X9_238 i_X9_doneBehind e_X9_doneBehind ha hS rfl (Nat.le_of_ble_eq_true rfl) rfl dX9_tonight_77) (tX9_doneBehind G fu v0 v1 h2) (by decide) (by decide) (fun x16 h15 => ?_)
          exact ev_iret (pc := 80) dX9_tonight_80
        refine ev_dflt (n := 3) (tgt := 81) (pc := 23) q14 dX9_tonight_23 (by decide) (by decide) ?_
        refine ev_step (st_aload_n (pc := 81) (j := 0) dX9_tonight_81 rfl rfl) ?_
        refine ev_step (st_iload_n (pc := 82) (j := 1) dX9_tonight_82 rfl rfl) ?_
        refine ev_ck (fun ha hS => ?_)
        refine ev_callI (iv_V (As := [.int v1]) (st := []) (pc := 83) rfl m_X9_gainOf l_X9_241 i_X9_gainOf e_X9_gainOf ha hS rfl (Nat.le_of_ble_eq_true rfl) rfl dX9_tonight_83) (tX9_gainOf G fu v0 v1 h2) (by decide) (by decide) (fun x18 h17 => ?_)
        exact ev_iret (pc := 86) dX9_tonight_86
      · refine ev_step (st_iconst (pc := 20) dX9_tonight_20 ni_m1) ?_
        exact ev_iret (pc := 21) dX9_tonight_21
set_option maxRecDepth 100000 in
set_option maxHeartbeats 4000000 in
theorem tX9_series_62 (G : gx) (fu : Nat) (h0 : mh) (v0 : Nat) (v1 : Int32) (v2 : Int32) (v3 : Int32) (h : mh) : Ev lI G yX9_series cX9_series 4 (some .int) 7 h0 62 [(0, .ref (gB G + v0)), (1, .int v1), (2, .int v2), (3, .int v3)] [] h (fX9_series_62 fu v0 v1 v2 v3 h) := by
  unfold fX9_series_62
  refine ev_step (st_aload_n (pc := 62) (j := 0) dX9_series_62 rfl rfl) ?_
  refine ev_getR (pc := 63) k_X9_44 rfl dX9_series_63 (fun a1 => ?_)
  refine ev_ck (fun ha hS => ?_)
  refine ev_callI (iv_V (As := []) (st := []) (pc := 66) rfl m_X3_factsKnown l_X9_169 i_X3_factsKnown e_X3_factsKnown ha hS rfl (Nat.le_of_ble_eq_true rfl) rfl dX9_series_66) (tX3_factsKnown G fu a1 h) (by decide) (by decide) (fun x3 h2 => ?_)
  refine ev_step (st_aload_n (pc := 69) (j := 0) dX9_series_69 rfl rfl) ?_
  refine ev_getR (pc := 70) k_X9_40 rfl dX9_series_70 (fun a4 => ?_)
  refine ev_ck (fun ha hS => ?_)
  refine ev_callI (iv_V (As := []) (st := [.int x3]) (pc := 73) rfl m_X3_factsKnown l_X9_169 i_X3_factsKnown e_X3_factsKnown ha hS rfl (Nat.le_of_ble_eq_true rfl) rfl dX9_series_73) (tX3_factsKnown G fu a4 h2) (by decide) (by decide) (fun x6 h5 => ?_)
  refine ev_step (st_isub (pc := 76) dX9_series_76) ?_
  exact ev_iret (pc := 77) dX9_series_77
set_option maxRecDepth 100000 in
set_option maxHeartbeats 4000000 in
theorem tX9_series_38 (G : gx) (fu : Nat) (h0 : mh) (v0 : Nat) (v1 : Int32) (v2 : Int32) (n : Nat) (v3 : Int32) (h : mh) : Ev lI G yX9_series cX9_series 4 (some .int) 7 h0 38 [(0, .ref (gB G + v0)), (1, .int v1), (2, .int v2), (3, .int v3)] [] h (itr (bX9_series_38 fu v0 v1 v2) n (v3, h)) := by
  refine ev_itr (P := fun (q : Int32 × mh) (R9 : Option (Int32 × mh)) => Ev lI G yX9_series cX9_series 4 (some .int) 7 h0 38 [(0, .ref (gB G + v0)), (1, .int v1), (2, .int v2), (3, .int q.1)] [] q.2 R9) (fun _ => ev_none) (fun k38 hk9 q => ?_) n (v3, h)
  obtain ⟨v3, h⟩ := q
  have hk38 : ∀ (v3 : Int32) (h : mh), Ev lI G yX9_series cX9_series 4 (some .int) 7 h0 38 [(0, .ref (gB G + v0)), (1, .int v1), (2, .int v2), (3, .int v3)] [] h (k38 (v3, h)) := fun v3 h => hk9 (v3, h)
  show Ev lI G yX9_series cX9_series 4 (some .int) 7 h0 38 [(0, .ref (gB G + v0)), (1, .int v1), (2, .int v2), (3, .int v3)] [] h (bX9_series_38 fu v0 v1 v2 k38 (v3, h))
  unfold bX9_series_38
  refine ev_step (st_iload_n (pc := 38) (j := 3) dX9_series_38 rfl rfl) ?_
  refine ev_step (st_iload_n (pc := 39) (j := 2) dX9_series_39 rfl rfl) ?_
  refine ev_br (br_icmp_ge (tgt := 62) (pc := 40) dX9_series_40 (by decide)) (fun _ => ?_) (fun _ => ?_)
  · refine ev_sub (ls' := [(0, .ref (gB G + v0)), (1, .int v1), (2, .int v2), (3, .int v3)]) [0, 1, 2, 3] rfl ?_
    exact tX9_series_62 G fu h0 v0 v1 v2 v3 h
  · refine ev_step (st_aload_n (pc := 43) (j := 0) dX9_series_43 rfl rfl) ?_
    refine ev_getR (pc := 44) k_X9_30 rfl dX9_series_44 (fun a1 => ?_)
    refine ev_step (st_aload_n (pc := 47) (j := 0) dX9_series_47 rfl rfl) ?_
    refine ev_getR (pc := 48) k_X9_44 rfl dX9_series_48 (fun a2 => ?_)
    refine ev_step (st_iload_n (pc := 51) (j := 1) dX9_series_51 rfl rfl) ?_
    refine ev_step (st_iconst (pc := 52) dX9_series_52 ni_0) ?_
    refine ev_ck (fun ha hS => ?_)
    refine ev_callV (iv_V (As := [.ref (gB G + a2), .int v1, .int ((0 : Int32))]) (st := []) (pc := 53) rfl m_X6_passEveningOf l_X9_264 i_X6_passEveningOf e_X6_passEveningOf ha hS rfl (Nat.le_of_ble_eq_true rfl) rfl dX9_series_53) (tX6_passEveningOf G fu a1 a2 v1 ((0 : Int32)) h) (by decide) (by decide) (fun h3 => ?_)
    refine ev_step (st_inc (pc := 56) (j := 3) (ls' := [(3, .int (v3 + (1 : Int32))), (0, .ref (gB G + v0)), (1, .int v1), (2, .int v2)]) dX9_series_56 rfl ni_1 (by decide) rfl) ?_
    refine ev_step (st_goto (pc := 59) (tgt := 38) dX9_series_59 (by decide)) ?_
    refine ev_sub (ls' := [(0, .ref (gB G + v0)), (1, .int v1), (2, .int v2), (3, .int (v3 + (1 : Int32)))]) [1, 2, 3, 0] rfl ?_
    exact hk38 (v3 + (1 : Int32)) h3
set_option maxRecDepth 100000 in
set_option maxHeartbeats 4000000 in
theorem tX9_series (G : gx) (fu : Nat) (v0 : Nat) (v1 : Int32) (v2 : Int32) (h : mh) : Ct lI G yX9_series cX9_series 4 (some .int) 7 [.ref (gB G + v0), .int v1, .int v2] h (fX9_series fu v0 v1 v2 h) := by
  refine ct_ls (ls := [(0, .ref (gB G + v0)), (1, .int v1), (2, .int v2)]) rfl (by decide) (Nat.le_of_ble_eq_true rfl) ?_
  unfold fX9_series
  refine ev_step (st_aload_n (pc := 0) (j := 0) dX9_series_0 rfl rfl) ?_
  refine ev_getR (pc := 1) k_X9_30 rfl dX9_series_1 (fun a1 => ?_)
  refine ev_step (st_iload_n (pc := 4) (j := 1) dX9_series_4 rfl rfl) ?_
  refine ev_ck (fun ha hS => ?_)
  refine ev_callI (iv_V (As := [.int v1]) (st := []) (pc := 5) rfl m_X6_hasRole l_X9_87 i_X6_hasRole e_X6_hasRole ha hS rfl (Nat.le_of_ble_eq_true rfl) rfl dX9_series_5) (tX6_hasRole G fu a1 v1 h) (by decide) (by decide) (fun x3 h2 => ?_)
  refine ev_br (br_if_eq (tgt := 23) (pc := 8) dX9_series_8 (by decide)) (fun _ => ?_) (fun _ => ?_)
  · refine ev_step (st_iconst (pc := 23) dX9_series_23 ni_m1) ?_
    exact ev_iret (pc := 24) dX9_series_24
  · refine ev_step (st_iload_n (pc := 11) (j := 2) dX9_series_11 rfl rfl) ?_
    refine ev_step (st_iconst (pc := 12) dX9_series_12 ni_1) ?_
    refine ev_br (br_icmp_lt (tgt := 23) (pc := 13) dX9_series_13 (by decide)) (fun _ => ?_) (fun _ => ?_)
    · refine ev_step (st_iconst (pc := 23) dX9_series_23 ni_m1) ?_
      exact ev_iret (pc := 24) dX9_series_24
    · refine ev_step (st_iload_n (pc := 16) (j := 2) dX9_series_16 rfl rfl) ?_
      refine ev_callI (iv_S (As := [.int v2]) (st := []) (pc := 17) m_X9_isNumberOfEvenings l_X9_217 z_X9_isNumberOfEvenings rfl (Nat.le_of_ble_eq_true rfl) rfl dX9_series_17) (tX9_isNumberOfEvenings G fu v2 h2) (by decide) (by decide) (fun x5 h4 => ?_)
      refine ev_br (br_if_ne (tgt := 25) (pc := 20) dX9_series_20 (by decide)) (fun _ => ?_) (fun _ => ?_)
      · refine ev_step (st_iconst (pc := 23) dX9_series_23 ni_m1) ?_
        exact ev_iret (pc := 24) dX9_series_24
      · refine ev_step (st_aload_n (pc := 25) (j := 0) dX9_series_25 rfl rfl) ?_
        refine ev_getR (pc := 26) k_X9_44 rfl dX9_series_26 (fun a6 => ?_)
        refine ev_step (st_aload_n (pc := 29) (j := 0) dX9_series_29 rfl rfl) ?_
        refine ev_getR (pc := 30) k_X9_40 rfl dX9_series_30 (fun a7 => ?_)
        refine ev_ck (fun ha hS => ?_)
        refine ev_callV (iv_V (As := [.ref (gB G + a7)]) (st := []) (pc := 33) rfl m_X3_become l_X9_244 i_X3_become e_X3_become ha hS rfl (Nat.le_of_ble_eq_true rfl) rfl dX9_series_33) (tX3_become G fu a6 a7 h4) (by decide) (by decide) (fun h8 => ?_)
        refine ev_step (st_iconst (pc := 36) dX9_series_36 ni_0) ?_
        refine ev_step (st_istore_n (pc := 37) (ls' := [(3, .int ((0 : Int32))), (0, .ref (gB G + v0)), (1, .int v1), (2, .int v2)]) dX9_series_37 rfl (by decide) rfl) ?_
        refine ev_sub (ls' := [(0, .ref (gB G + v0)), (1, .int v1), (2, .int v2), (3, .int ((0 : Int32)))]) [1, 2, 3, 0] rfl ?_
        exact tX9_series_38 G fu h v0 v1 v2 fu ((0 : Int32)) h8
set_option maxRecDepth 100000 in
set_option maxHeartbeats 4000000 in
theorem tX9_longOf_79 (G : gx) (fu : Nat) (h0 : mh) (v0 : Nat) (v1 : Int32) (v2 : Int32) (v3 : Int32) (h : mh) : Ev lI G yX9_longOf cX9_longOf 4 (some .int) 7 h0 79 [(0, .ref (gB G + v0)), (1, .int v1), (2, .int v2), (3, .int v3)] [] h (fX9_longOf_79 fu v0 v1 v2 v3 h) := by
  unfold fX9_longOf_79
  refine ev_step (st_aload_n (pc := 79) (j := 0) dX9_longOf_79 rfl rfl) ?_
  refine ev_getR (pc := 80) k_X9_30 rfl dX9_longOf_80 (fun a1 => ?_)
  refine ev_step (st_aload_n (pc := 83) (j := 0) dX9_longOf_83 rfl rfl) ?_
  refine ev_getR (pc := 84) k_X9_44 rfl dX9_longOf_84 (fun a2 => ?_)
  refine ev_step (st_iload_n (pc := 87) (j := 1) dX9_longOf_87 rfl rfl) ?_
  refine ev_ck (fun ha hS => ?_)
  refine ev_callI (iv_V (As := [.ref (gB G + a2), .int v1]) (st := []) (pc := 88) rfl m_X6_hasDone l_X9_127 i_X6_hasDone e_X6_hasDone ha hS rfl (Nat.le_of_ble_eq_true rfl) rfl dX9_longOf_88) (tX6_hasDone G fu a1 a2 v1 h) (by decide) (by decide) (fun x4 h3 => ?_)
  refine ev_br (br_if_eq (tgt := 99) (pc := 91) dX9_longOf_91 (by decide)) (fun _ => ?_) (fun _ => ?_)
  · refine ev_step (st_bipush (pc := 99) dX9_longOf_99 nb_m2) ?_
    exact ev_iret (pc := 101) dX9_longOf_101
  · refine ev_step (st_bipush (pc := 94) dX9_longOf_94 nb_30) ?_
    refine ev_step (st_goto (pc := 96) (tgt := 101) dX9_longOf_96 (by decide)) ?_
    exact ev_iret (pc := 101) dX9_longOf_101
set_option maxRecDepth 100000 in
set_option maxHeartbeats 4000000 in
theorem tX9_longOf_37 (G : gx) (fu : Nat) (h0 : mh) (v0 : Nat) (v1 : Int32) (v2 : Int32) (n : Nat) (v3 : Int32) (h : mh) : Ev lI G yX9_longOf cX9_longOf 4 (some .int) 7 h0 37 [(0, .ref (gB G + v0)), (1, .int v1), (2, .int v2), (3, .int v3)] [] h (itr (bX9_longOf_37 fu v0 v1 v2) n (v3, h)) := by
  refine ev_itr (P := fun (q : Int32 × mh) (R9 : Option (Int32 × mh)) => Ev lI G yX9_longOf cX9_longOf 4 (some .int) 7 h0 37 [(0, .ref (gB G + v0)), (1, .int v1), (2, .int v2), (3, .int q.1)] [] q.2 R9) (fun _ => ev_none) (fun k37 hk9 q => ?_) n (v3, h)
  obtain ⟨v3, h⟩ := q
  have hk37 : ∀ (v3 : Int32) (h : mh), Ev lI G yX9_longOf cX9_longOf 4 (some .int) 7 h0 37 [(0, .ref (gB G + v0)), (1, .int v1), (2, .int v2), (3, .int v3)] [] h (k37 (v3, h)) := fun v3 h => hk9 (v3, h)
  show Ev lI G yX9_longOf cX9_longOf 4 (some .int) 7 h0 37 [(0, .ref (gB G + v0)), (1, .int v1), (2, .int v2), (3, .int v3)] [] h (bX9_longOf_37 fu v0 v1 v2 k37 (v3, h))
  unfold bX9_longOf_37
  refine ev_step (st_iload_n (pc := 37) (j := 3) dX9_longOf_37 rfl rfl) ?_
  refine ev_step (st_bipush (pc := 38) dX9_longOf_38 nb_30) ?_
  refine ev_br (br_icmp_ge (tgt := 79) (pc := 40) dX9_longOf_40 (by decide)) (fun _ => ?_) (fun _ => ?_)
  · refine ev_sub (ls' := [(0, .ref (gB G + v0)), (1, .int v1), (2, .int v2), (3, .int v3)]) [0, 1, 2, 3] rfl ?_
    exact tX9_longOf_79 G fu h0 v0 v1 v2 v3 h
  · refine ev_step (st_aload_n (pc := 43) (j := 0) dX9_longOf_43 rfl rfl) ?_
    refine ev_getR (pc := 44) k_X9_30 rfl dX9_longOf_44 (fun a1 => ?_)
    refine ev_step (st_aload_n (pc := 47) (j := 0) dX9_longOf_47 rfl rfl) ?_
    refine ev_getR (pc := 48) k_X9_44 rfl dX9_longOf_48 (fun a2 => ?_)
    refine ev_step (st_iload_n (pc := 51) (j := 1) dX9_longOf_51 rfl rfl) ?_
    refine ev_ck (fun ha hS => ?_)
    refine ev_callI (iv_V (As := [.ref (gB G + a2), .int v1]) (st := []) (pc := 52) rfl m_X6_hasDone l_X9_127 i_X6_hasDone e_X6_hasDone ha hS rfl (Nat.le_of_ble_eq_true rfl) rfl dX9_longOf_52) (tX6_hasDone G fu a1 a2 v1 h) (by decide) (by decide) (fun x4 h3 => ?_)
    refine ev_br (br_if_eq (tgt := 60) (pc := 55) dX9_longOf_55 (by decide)) (fun _ => ?_) (fun _ => ?_)
    · refine ev_step (st_aload_n (pc := 60) (j := 0) dX9_longOf_60 rfl rfl) ?_
      refine ev_getR (pc := 61) k_X9_30 rfl dX9_longOf_61 (fun a5 => ?_)
      refine ev_step (st_aload_n (pc := 64) (j := 0) dX9_longOf_64 rfl rfl) ?_
      refine ev_getR (pc := 65) k_X9_44 rfl dX9_longOf_65 (fun a6 => ?_)
      refine ev_step (st_iload_n (pc := 68) (j := 2) dX9_longOf_68 rfl rfl) ?_
      refine ev_step (st_iconst (pc := 69) dX9_longOf_69 ni_0) ?_
      refine ev_ck (fun ha hS => ?_)
      refine ev_callV (iv_V (As := [.ref (gB G + a6), .int v2, .int ((0 : Int32))]) (st := []) (pc := 70) rfl m_X6_passEveningOf l_X9_264 i_X6_passEveningOf e_X6_passEveningOf ha hS rfl (Nat.le_of_ble_eq_true rfl) rfl dX9_longOf_70) (tX6_passEveningOf G fu a5 a6 v2 ((0 : Int32)) h3) (by decide) (by decide) (fun h7 => ?_)
      refine ev_step (st_inc (pc := 73) (j := 3) (ls' := [(3, .int (v3 + (1 : Int32))), (0, .ref (gB G + v0)), (1, .int v1), (2, .int v2)]) dX9_longOf_73 rfl ni_1 (by decide) rfl) ?_
      refine ev_step (st_goto (pc := 76) (tgt := 37) dX9_longOf_76 (by decide)) ?_
      refine ev_sub (ls' := [(0, .ref (gB G + v0)), (1, .int v1), (2, .int v2), (3, .int (v3 + (1 : Int32)))]) [1, 2, 3, 0] rfl ?_
      exact hk37 (v3 + (1 : Int32)) h7
    · refine ev_step (st_iload_n (pc := 58) (j := 3) dX9_longOf_58 rfl rfl) ?_
      exact ev_iret (pc := 59) dX9_longOf_59
set_option maxRecDepth 100000 in
set_option maxHeartbeats 4000000 in
theorem tX9_longOf (G : gx) (fu : Nat) (v0 : Nat) (v1 : Int32) (v2 : Int32) (h : mh) : Ct lI G yX9_longOf cX9_longOf 4 (some .int) 7 [.ref (gB G + v0), .int v1, .int v2] h (fX9_longOf fu v0 v1 v2 h) := by
  refine ct_ls (ls := [(0, .ref (gB G + v0)), (1, .int v1), (2, .int v2)]) rfl (by decide) (Nat.le_of_ble_eq_true rfl) ?_
  unfold fX9_longOf
  refine ev_step (st_aload_n (pc := 0) (j := 0) dX9_longOf_0 rfl rfl) ?_
  refine ev_getR (pc := 1) k_X9_30 rfl dX9_longOf_1 (fun a1 => ?_)
  refine ev_step (st_iload_n (pc := 4) (j := 1) dX9_longOf_4 rfl rfl) ?_
  refine ev_ck (fun ha hS => ?_)
  refine ev_callI (iv_V (As := [.int v1]) (st := []) (pc := 5) rfl m_X6_hasListener l_X9_112 i_X6_hasListener e_X6_hasListener ha hS rfl (Nat.le_of_ble_eq_true rfl) rfl dX9_longOf_5) (tX6_hasListener G fu a1 v1 h) (by decide) (by decide) (fun x3 h2 => ?_)
  refine ev_br (br_if_eq (tgt := 22) (pc := 8) dX9_longOf_8 (by decide)) (fun _ => ?_) (fun _ => ?_)
  · refine ev_step (st_iconst (pc := 22) dX9_longOf_22 ni_m1) ?_
    exact ev_iret (pc := 23) dX9_longOf_23
  · refine ev_step (st_aload_n (pc := 11) (j := 0) dX9_longOf_11 rfl rfl) ?_
    refine ev_getR (pc := 12) k_X9_30 rfl dX9_longOf_12 (fun a4 => ?_)
    refine ev_step (st_iload_n (pc := 15) (j := 2) dX9_longOf_15 rfl rfl) ?_
    refine ev_ck (fun ha hS => ?_)
    refine ev_callI (iv_V (As := [.int v2]) (st := []) (pc := 16) rfl m_X6_hasRole l_X9_87 i_X6_hasRole e_X6_hasRole ha hS rfl (Nat.le_of_ble_eq_true rfl) rfl dX9_longOf_16) (tX6_hasRole G fu a4 v2 h2) (by decide) (by decide) (fun x6 h5 => ?_)
    refine ev_br (br_if_ne (tgt := 24) (pc := 19) dX9_longOf_19 (by decide)) (fun _ => ?_) (fun _ => ?_)
    · refine ev_step (st_iconst (pc := 22) dX9_longOf_22 ni_m1) ?_
      exact ev_iret (pc := 23) dX9_longOf_23
    · refine ev_step (st_aload_n (pc := 24) (j := 0) dX9_longOf_24 rfl rfl) ?_
      refine ev_getR (pc := 25) k_X9_44 rfl dX9_longOf_25 (fun a7 => ?_)
      refine ev_step (st_aload_n (pc := 28) (j := 0) dX9_longOf_28 rfl rfl) ?_
      refine ev_getR (pc := 29) k_X9_40 rfl dX9_longOf_29 (fun a8 => ?_)
      refine ev_ck (fun ha hS => ?_)
      refine ev_callV (iv_V (As := [.ref (gB G + a8)]) (st := []) (pc := 32) rfl m_X3_become l_X9_244 i_X3_become e_X3_become ha hS rfl (Nat.le_of_ble_eq_true rfl) rfl dX9_longOf_32) (tX3_become G fu a7 a8 h5) (by decide) (by decide) (fun h9 => ?_)
      refine ev_step (st_iconst (pc := 35) dX9_longOf_35 ni_0) ?_
      refine ev_step (st_istore_n (pc := 36) (ls' := [(3, .int ((0 : Int32))), (0, .ref (gB G + v0)), (1, .int v1), (2, .int v2)]) dX9_longOf_36 rfl (by decide) rfl) ?_
      refine ev_sub (ls' := [(0, .ref (gB G + v0)), (1, .int v1), (2, .int v2), (3, .int ((0 : Int32)))]) [1, 2, 3, 0] rfl ?_
      exact tX9_longOf_37 G fu h v0 v1 v2 fu ((0 : Int32)) h9
set_option maxRecDepth 100000 in
set_option maxHeartbeats 4000000 in
theorem tX9_tryEvenings (G : gx) (fu : Nat) (v0 : Nat) (v1 : Int32) (h : mh) : Ct lV G yX9_tryEvenings cX9_tryEvenings 2 (none) 7 [.ref (gB G + v0), .int v1] h (fX9_tryEvenings fu v0 v1 h) := by
  refine ct_ls (ls := [(0, .ref (gB G + v0)), (1, .int v1)]) rfl (by decide) (Nat.le_of_ble_eq_true rfl) ?_
  unfold fX9_tryEvenings
  refine ev_step (st_aload_n (pc := 0) (j := 0) dX9_tryEvenings_0 rfl rfl) ?_
  refine ev_getR (pc := 1) k_X9_44 rfl dX9_tryEvenings_1 (fun a1 => ?_)
  refine ev_step (st_aload_n (pc := 4) (j := 0) dX9_tryEvenings_4 rfl rfl) ?_
  refine ev_getR (pc := 5) k_X9_40 rfl dX9_tryEvenings_5 (fun a2 => ?_)
  refine ev_ck (fun ha hS => ?_)
  refine ev_callV (iv_V (As := [.ref (gB G + a2)]) (st := []) (pc := 8) rfl m_X3_become l_X9_244 i_X3_become e_X3_become ha hS rfl (Nat.le_of_ble_eq_true rfl) rfl dX9_tryEvenings_8) (tX3_become G fu a1 a2 h) (by decide) (by decide) (fun h3 => ?_)
  refine ev_step (st_aload_n (pc := 11) (j := 0) dX9_tryEvenings_11 rfl rfl) ?_
  refine ev_getR (pc := 12) k_X9_30 rfl dX9_tryEvenings_12 (fun a4 => ?_)
  refine ev_step (st_aload_n (pc := 15) (j := 0) dX9_tryEvenings_15 rfl rfl) ?_
  refine ev_getR (pc := 16) k_X9_44 rfl dX9_tryEvenings_16 (fun a5 => ?_)
  refine ev_step (st_iload_n (pc := 19) (j := 1) dX9_tryEvenings_19 rfl rfl) ?_
  refine ev_ck (fun ha hS => ?_)
  refine ev_callV (iv_V (As := [.ref (gB G + a5), .int v1]) (st := []) (pc := 20) rfl m_X6_passEvenings l_X9_220 i_X6_passEvenings e_X6_passEvenings ha hS rfl (Nat.le_of_ble_eq_true rfl) rfl dX9_tryEvenings_20) (tX6_passEvenings G fu a4 a5 v1 h3) (by decide) (by decide) (fun h6 => ?_)
  exact ev_vret (pc := 23) dX9_tryEvenings_23
set_option maxRecDepth 100000 in
set_option maxHeartbeats 4000000 in
theorem tX9_tryRow_14 (G : gx) (fu : Nat) (h0 : mh) (v0 : Nat) (v1 : Int32) (v2 : Int32) (v3 : Int32) (n : Nat) (v4 : Int32) (h : mh) : Ev lV G yX9_tryRow cX9_tryRow 5 (none) 7 h0 14 [(0, .ref (gB G + v0)), (1, .int v1), (2, .int v2), (3, .int v3), (4, .int v4)] [] h (itr (bX9_tryRow_14 fu v0 v1 v2 v3) n (v4, h)) := by
  refine ev_itr (P := fun (q : Int32 × mh) (R9 : Option (Unit × mh)) => Ev lV G yX9_tryRow cX9_tryRow 5 (none) 7 h0 14 [(0, .ref (gB G + v0)), (1, .int v1), (2, .int v2), (3, .int v3), (4, .int q.1)] [] q.2 R9) (fun _ => ev_none) (fun k14 hk9 q => ?_) n (v4, h)
  obtain ⟨v4, h⟩ := q
  have hk14 : ∀ (v4 : Int32) (h : mh), Ev lV G yX9_tryRow cX9_tryRow 5 (none) 7 h0 14 [(0, .ref (gB G + v0)), (1, .int v1), (2, .int v2), (3, .int v3), (4, .int v4)] [] h (k14 (v4, h)) := fun v4 h => hk9 (v4, h)
  show Ev lV G yX9_tryRow cX9_tryRow 5 (none) 7 h0 14 [(0, .ref (gB G + v0)), (1, .int v1), (2, .int v2), (3, .int v3), (4, .int v4)] [] h (bX9_tryRow_14 fu v0 v1 v2 v3 k14 (v4, h))
  unfold bX9_tryRow_14
  refine ev_step (st_iload (pc := 14) (j := 4) dX9_tryRow_14 rfl) ?_
  refine ev_step (st_iload_n (pc := 16) (j := 2) dX9_tryRow_16 rfl rfl) ?_
  refine ev_br (br_icmp_ge (tgt := 53) (pc := 17) dX9_tryRow_17 (by decide)) (fun _ => ?_) (fun _ => ?_)
  · exact ev_vret (pc := 53) dX9_tryRow_53
  · refine ev_step (st_aload_n (pc := 20) (j := 0) dX9_tryRow_20 rfl rfl) ?_
    refine ev_getR (pc := 21) k_X9_30 rfl dX9_tryRow_21 (fun a1 => ?_)
    refine ev_step (st_aload_n (pc := 24) (j := 0) dX9_tryRow_24 rfl rfl) ?_
    refine ev_getR (pc := 25) k_X9_44 rfl dX9_tryRow_25 (fun a2 => ?_)
    refine ev_step (st_iload_n (pc := 28) (j := 1) dX9_tryRow_28 rfl rfl) ?_
    refine ev_step (st_aload_n (pc := 29) (j := 0) dX9_tryRow_29 rfl rfl) ?_
    refine ev_getR (pc := 30) k_X9_30 rfl dX9_tryRow_30 (fun a3 => ?_)
    refine ev_step (st_iload_n (pc := 33) (j := 3) dX9_tryRow_33 rfl rfl) ?_
    refine ev_step (st_aload_n (pc := 34) (j := 0) dX9_tryRow_34 rfl rfl) ?_
    refine ev_getR (pc := 35) k_X9_44 rfl dX9_tryRow_35 (fun a4 => ?_)
    refine ev_getI (pc := 38) k_X9_153 rfl dX9_tryRow_38 (fun x5 => ?_)
    refine ev_ck (fun ha hS => ?_)
    refine ev_callI (iv_V (As := [.int v3, .int x5]) (st := [.int v1, .ref (gB G + a2), .ref (gB G + a1)]) (pc := 41) rfl m_X6_crackles l_X9_185 i_X6_crackles e_X6_crackles ha hS rfl (Nat.le_of_ble_eq_true rfl) rfl dX9_tryRow_41) (tX6_crackles G fu a3 v3 x5 h) (by decide) (by decide) (fun x7 h6 => ?_)
    refine ev_ck (fun ha hS => ?_)
    refine ev_callV (iv_V (As := [.ref (gB G + a2), .int v1, .int x7]) (st := []) (pc := 44) rfl m_X6_passEveningOf l_X9_264 i_X6_passEveningOf e_X6_passEveningOf ha hS rfl (Nat.le_of_ble_eq_true rfl) rfl dX9_tryRow_44) (tX6_passEveningOf G fu a1 a2 v1 x7 h6) (by decide) (by decide) (fun h8 => ?_)
    refine ev_step (st_inc (pc := 47) (j := 4) (ls' := [(4, .int (v4 + (1 : Int32))), (0, .ref (gB G + v0)), (1, .int v1), (2, .int v2), (3, .int v3)]) dX9_tryRow_47 rfl ni_1 (by decide) rfl) ?_
    refine ev_step (st_goto (pc := 50) (tgt := 14) dX9_tryRow_50 (by decide)) ?_
    refine ev_sub (ls' := [(0, .ref (gB G + v0)), (1, .int v1), (2, .int v2), (3, .int v3), (4, .int (v4 + (1 : Int32)))]) [1, 2, 3, 4, 0] rfl ?_
    exact hk14 (v4 + (1 : Int32)) h8
set_option maxRecDepth 100000 in
set_option maxHeartbeats 4000000 in
theorem tX9_tryRow (G : gx) (fu : Nat) (v0 : Nat) (v1 : Int32) (v2 : Int32) (v3 : Int32) (h : mh) : Ct lV G yX9_tryRow cX9_tryRow 5 (none) 7 [.ref (gB G + v0), .int v1, .int v2, .int v3] h (fX9_tryRow fu v0 v1 v2 v3 h) := by
  refine ct_ls (ls := [(0, .ref (gB G + v0)), (1, .int v1), (2, .int v2), (3, .int v3)]) rfl (by decide) (Nat.le_of_ble_eq_true rfl) ?_
  unfold fX9_tryRow
  refine ev_step (st_aload_n (pc := 0) (j := 0) dX9_tryRow_0 rfl rfl) ?_
  refine ev_getR (pc := 1) k_X9_44 rfl dX9_tryRow_1 (fun a1 => ?_)
  refine ev_step (st_aload_n (pc := 4) (j := 0) dX9_tryRow_4 rfl rfl) ?_
  refine ev_getR (pc := 5) k_X9_40 rfl dX9_tryRow_5 (fun a2 => ?_)
  refine ev_ck (fun ha hS => ?_)
  refine ev_callV (iv_V (As := [.ref (gB G + a2)]) (st := []) (pc := 8) rfl m_X3_become l_X9_244 i_X3_become e_X3_become ha hS rfl (Nat.le_of_ble_eq_true rfl) rfl dX9_tryRow_8) (tX3_become G fu a1 a2 h) (by decide) (by decide) (fun h3 => ?_)
  refine ev_step (st_iconst (pc := 11) dX9_tryRow_11 ni_0) ?_
  refine ev_step (st_istore (pc := 12) (ls' := [(4, .int ((0 : Int32))), (0, .ref (gB G + v0)), (1, .int v1), (2, .int v2), (3, .int v3)]) dX9_tryRow_12 (by decide) rfl) ?_
  refine ev_sub (ls' := [(0, .ref (gB G + v0)), (1, .int v1), (2, .int v2), (3, .int v3), (4, .int ((0 : Int32)))]) [1, 2, 3, 4, 0] rfl ?_
  exact tX9_tryRow_14 G fu h v0 v1 v2 v3 fu ((0 : Int32)) h3
set_option maxRecDepth 100000 in
set_option maxHeartbeats 4000000 in
theorem tX9_who (G : gx) (fu : Nat) (v0 : Nat) (v1 : Int32) (v2 : Int32) (h : mh) : Ct lI G yX9_who cX9_who 4 (some .int) 8 [.ref (gB G + v0), .int v1, .int v2] h (fX9_who fu v0 v1 v2 h) := by
  refine ct_ls (ls := [(0, .ref (gB G + v0)), (1, .int v1), (2, .int v2)]) rfl (by decide) (Nat.le_of_ble_eq_true rfl) ?_
  unfold fX9_who
  refine ev_step (st_iload_n (pc := 0) (j := 1) dX9_who_0 rfl rfl) ?_
  refine ev_br (br_if_lt (tgt := 24) (pc := 1) dX9_who_1 (by decide)) (fun _ => ?_) (fun _ => ?_)
  · refine ev_step (st_iconst (pc := 24) dX9_who_24 ni_m1) ?_
    exact ev_iret (pc := 25) dX9_who_25
  · refine ev_step (st_iload_n (pc := 4) (j := 1) dX9_who_4 rfl rfl) ?_
    refine ev_step (st_aload_n (pc := 5) (j := 0) dX9_who_5 rfl rfl) ?_
    refine ev_getR (pc := 6) k_X9_64 rfl dX9_who_6 (fun a1 => ?_)
    refine ev_getI (pc := 9) k_X9_84 rfl dX9_who_9 (fun x2 => ?_)
    refine ev_br (br_icmp_gt (tgt := 24) (pc := 12) dX9_who_12 (by decide)) (fun _ => ?_) (fun _ => ?_)
    · refine ev_step (st_iconst (pc := 24) dX9_who_24 ni_m1) ?_
      exact ev_iret (pc := 25) dX9_who_25
    · refine ev_step (st_iload_n (pc := 15) (j := 2) dX9_who_15 rfl rfl) ?_
      refine ev_br (br_if_lt (tgt := 24) (pc := 16) dX9_who_16 (by decide)) (fun _ => ?_) (fun _ => ?_)
      · refine ev_step (st_iconst (pc := 24) dX9_who_24 ni_m1) ?_
        exact ev_iret (pc := 25) dX9_who_25
      · refine ev_step (st_iload_n (pc := 19) (j := 2) dX9_who_19 rfl rfl) ?_
        refine ev_step (st_iconst (pc := 20) dX9_who_20 ni_1) ?_
        refine ev_br (br_icmp_le (tgt := 26) (pc := 21) dX9_who_21 (by decide)) (fun _ => ?_) (fun _ => ?_)
        · refine ev_step (st_aload_n (pc := 26) (j := 0) dX9_who_26 rfl rfl) ?_
          refine ev_step (st_iload_n (pc := 27) (j := 1) dX9_who_27 rfl rfl) ?_
          refine ev_ck (fun ha hS => ?_)
          refine ev_callI (iv_V (As := [.int v1]) (st := []) (pc := 28) rfl m_X9_rolesLeft l_X9_296 i_X9_rolesLeft e_X9_rolesLeft ha hS rfl (Nat.le_of_ble_eq_true rfl) rfl dX9_who_28) (tX9_rolesLeft G fu v0 v1 h) (by decide) (by decide) (fun x4 h3 => ?_)
          refine ev_step (st_istore_n (pc := 31) (ls' := [(3, .int x4), (0, .ref (gB G + v0)), (1, .int v1), (2, .int v2)]) dX9_who_31 rfl (by decide) rfl) ?_
          refine ev_step (st_iload_n (pc := 32) (j := 3) dX9_who_32 rfl rfl) ?_
          refine ev_br (br_if_ne (tgt := 43) (pc := 33) dX9_who_33 (by decide)) (fun _ => ?_) (fun _ => ?_)
          · refine ev_step (st_iload_n (pc := 36) (j := 0) dX9_who_36 rfl rfl) ?_
            refine ev_callI (iv_S (As := [.int x4]) (st := []) (pc := 37) m_J6_bitCount_0f7a4 l_X9_177 z_J6_bitCount_0f7a4 rfl (Nat.le_of_ble_eq_true rfl) rfl dX9_who_37) (tJ6_bitCount_0f7a4 G fu x4 h3) (by decide) (by decide) (fun x6 h5 => ?_)
            refine ev_step (st_goto (pc := 40) (tgt := 44) dX9_who_40 (by decide)) ?_
            exact ev_iret (pc := 44) dX9_who_44
          · refine ev_step (st_iload_n (pc := 43) (j := 0) dX9_who_43 rfl rfl) ?_
            exact ev_iret (pc := 44) dX9_who_44
        · refine ev_step (st_iconst (pc := 24) dX9_who_24 ni_m1) ?_
          exact ev_iret (pc := 25) dX9_who_25
set_option maxRecDepth 100000 in
set_option maxHeartbeats 4000000 in
theorem tX10_tellOne_424 (G : gx) (fu : Nat) (h0 : mh) (v0 : Nat) (v1 : Int32) (h : mh) : Ev lV G yX10_tellOne cX10_tellOne 3 (none) 7 h0 424 [(0, .ref (gB G + v0)), (1, .int v1)] [] h (fX10_tellOne_424 fu v0 v1 h) := by
  unfold fX10_tellOne_424
  refine ev_step (st_aload_n (pc := 424) (j := 0) dX10_tellOne_424 rfl rfl) ?_
  refine ev_getI (pc := 425) k_X10_200 rfl dX10_tellOne_425 (fun x1 => ?_)
  refine ev_br (br_if_le (tgt := 432) (pc := 428) dX10_tellOne_428 (by decide)) (fun _ => ?_) (fun _ => ?_)
  · refine ev_step (st_aload_n (pc := 432) (j := 0) dX10_tellOne_432 rfl rfl) ?_
    refine ev_ck (fun ha hS => ?_)
    refine ev_callV (iv_V (As := []) (st := []) (pc := 433) rfl m_X10_goesOn l_X10_221 i_X10_goesOn e_X10_goesOn ha hS rfl (Nat.le_of_ble_eq_true rfl) rfl dX10_tellOne_433) (tX10_goesOn G fu v0 h) (by decide) (by decide) (fun h2 => ?_)
    refine ev_step (st_aload_n (pc := 436) (j := 0) dX10_tellOne_436 rfl rfl) ?_
    refine ev_step (st_iload_n (pc := 437) (j := 1) dX10_tellOne_437 rfl rfl) ?_
    refine ev_ck (fun ha hS => ?_)
    refine ev_callV (iv_V (As := [.int v1]) (st := []) (pc := 438) rfl m_X10_tellLaw l_X10_278 i_X10_tellLaw e_X10_tellLaw ha hS rfl (Nat.le_of_ble_eq_true rfl) rfl dX10_tellOne_438) (tX10_tellLaw G fu v0 v1 h2) (by decide) (by decide) (fun h3 => ?_)
    exact ev_vret (pc := 441) dX10_tellOne_441
  · exact ev_vret (pc := 431) dX10_tellOne_431
set_option maxRecDepth 100000 in
set_option maxHeartbeats 4000000 in
theorem tX10_tellOne_419 (G : gx) (fu : Nat) (h0 : mh) (v0 : Nat) (v1 : Int32) (h : mh) : Ev lV G yX10_tellOne cX10_tellOne 3 (none) 7 h0 419 [(0, .ref (gB G + v0)), (1, .int v1)] [] h (fX10_tellOne_419 fu v0 v1 h) := by
  unfold fX10_tellOne_419
  refine ev_step (st_aload_n (pc := 419) (j := 0) dX10_tellOne_419 rfl rfl) ?_
  refine ev_step (st_iconst (pc := 420) dX10_tellOne_420 ni_1) ?_
  refine ev_ck (fun ha hS => ?_)
  refine ev_callV (iv_V (As := [.int ((1 : Int32))]) (st := []) (pc := 421) rfl m_X10_fail l_X10_215 i_X10_fail e_X10_fail ha hS rfl (Nat.le_of_ble_eq_true rfl) rfl dX10_tellOne_421) (tX10_fail G fu v0 ((1 : Int32)) h) (by decide) (by decide) (fun h1 => ?_)
  refine ev_sub (ls' := [(0, .ref (gB G + v0)), (1, .int v1)]) [0, 1] rfl ?_
  exact tX10_tellOne_424 G fu h0 v0 v1 h1
set_option maxRecDepth 100000 in
set_option maxHeartbeats 4000000 in
theorem tX10_tellOne_388 (G : gx) (fu : Nat) (h0 : mh) (v0 : Nat) (h : mh) : Ev lV G yX10_tellOne cX10_tellOne 3 (none) 7 h0 388 [(0, .ref (gB G + v0))] [] h (fX10_tellOne_388 fu v0 h) := by
  unfold fX10_tellOne_388
  refine ev_step (st_aload_n (pc := 388) (j := 0) dX10_tellOne_388 rfl rfl) ?_
  refine ev_getR (pc := 389) k_X10_20 rfl dX10_tellOne_389 (fun a1 => ?_)
  refine ev_step (st_aload_n (pc := 392) (j := 0) dX10_tellOne_392 rfl rfl) ?_
  refine ev_getI (pc := 393) k_X10_203 rfl dX10_tellOne_393 (fun x2 => ?_)
  refine ev_ldi (pc := 396) dX10_tellOne_396 (fun x3 => ?_)
  refine ev_step (st_bipush (pc := 397) dX10_tellOne_397 nb_23) ?_
  refine ev_step (st_isub (pc := 399) dX10_tellOne_399) ?_
  refine ev_top (fun x4 => ?_)
  refine ev_step (st_istore_n (pc := 400) (ls' := [(1, .int x4), (0, .ref (gB G + v0))]) dX10_tellOne_400 rfl (by decide) rfl) ?_
  refine ev_step (st_iload_n (pc := 401) (j := 0) dX10_tellOne_401 rfl rfl) ?_
  refine ev_br (br_if_lt (tgt := 419) (pc := 402) dX10_tellOne_402 (by decide)) (fun _ => ?_) (fun _ => ?_)
  · refine ev_sub (ls' := [(0, .ref (gB G + v0)), (1, .int x4)]) [1, 0] rfl ?_
    exact tX10_tellOne_419 G fu h0 v0 x4 h
  · refine ev_step (st_aload_n (pc := 405) (j := 1) dX10_tellOne_405 rfl rfl) ?_
    refine ev_getR (pc := 406) k_X10_20 rfl dX10_tellOne_406 (fun a5 => ?_)
    refine ev_step (st_aload_n (pc := 409) (j := 1) dX10_tellOne_409 rfl rfl) ?_
    refine ev_getI (pc := 410) k_X10_203 rfl dX10_tellOne_410 (fun x6 => ?_)
    refine ev_ldi (pc := 413) dX10_tellOne_413 (fun x7 => ?_)
    refine ev_step (st_bipush (pc := 414) dX10_tellOne_414 nb_26) ?_
    refine ev_br (br_icmp_le (tgt := 424) (pc := 416) dX10_tellOne_416 (by decide)) (fun _ => ?_) (fun _ => ?_)
    · refine ev_sub (ls' := [(0, .ref (gB G + v0)), (1, .int x4)]) [1, 0] rfl ?_
      exact tX10_tellOne_424 G fu h0 v0 x4 h
    · refine ev_sub (ls' := [(0, .ref (gB G + v0)), (1, .int x4)]) [1, 0] rfl ?_
      exact tX10_tellOne_419 G fu h0 v0 x4 h
set_option maxRecDepth 100000 in
set_option maxHeartbeats 4000000 in
theorem tX10_tellOne (G : gx) (fu : Nat) (v0 : Nat) (h : mh) : Ct lV G yX10_tellOne cX10_tellOne 3 (none) 7 [.ref (gB G + v0)] h (fX10_tellOne fu v0 h) := by
  refine ct_ls (ls := [(0, .ref (gB G + v0))]) rfl (by decide) (Nat.le_of_ble_eq_true rfl) ?_
  unfold fX10_tellOne
  refine ev_step (st_aload_n (pc := 0) (j := 0) dX10_tellOne_0 rfl rfl) ?_
  refine ev_getR (pc := 1) k_X10_20 rfl dX10_tellOne_1 (fun a1 => ?_)
  refine ev_step (st_aload_n (pc := 4) (j := 0) dX10_tellOne_4 rfl rfl) ?_
  refine ev_getI (pc := 5) k_X10_203 rfl dX10_tellOne_5 (fun x2 => ?_)
  refine ev_ldi (pc := 8) dX10_tellOne_8 (fun x3 => ?_)
  refine ev_case (n := 0) (c := (20 : Int32)) (off := 55) (tgt := 64) (pc := 9) (swn_0 _ _) dX10_tellOne_9 (by decide) (by decide) (by decide) (by decide) (by decide) (fun _ => ?_) (fun q4 => ?_)
  · refine ev_step (st_aload_n (pc := 64) (j := 0) dX10_tellOne_64 rfl rfl) ?_
    refine ev_step (st_aload_n (pc := 65) (j := 0) dX10_tellOne_65 rfl rfl) ?_
    refine ev_getR (pc := 66) k_X10_46 rfl dX10_tellOne_66 (fun a5 => ?_)
    refine ev_step (st_aload_n (pc := 69) (j := 0) dX10_tellOne_69 rfl rfl) ?_
    refine ev_getI (pc := 70) k_X10_233 rfl dX10_tellOne_70 (fun x6 => ?_)
    refine ev_ldi (pc := 73) dX10_tellOne_73 (fun x7 => ?_)
    refine ev_step (st_bipush (pc := 74) dX10_tellOne_74 nb_6) ?_
    refine ev_ck (fun ha hS => ?_)
    refine ev_callV (iv_V (As := [.int x7, .int ((6 : Int32))]) (st := []) (pc := 76) rfl m_X10_roomFor l_X10_261 i_X10_roomFor e_X10_roomFor ha hS rfl (Nat.le_of_ble_eq_true rfl) rfl dX10_tellOne_76) (tX10_roomFor G fu v0 x7 ((6 : Int32)) h) (by decide) (by decide) (fun h8 => ?_)
    refine ev_step (st_aload_n (pc := 79) (j := 0) dX10_tellOne_79 rfl rfl) ?_
    refine ev_getI (pc := 80) k_X10_200 rfl dX10_tellOne_80 (fun x9 => ?_)
    refine ev_br (br_if_le (tgt := 87) (pc := 83) dX10_tellOne_83 (by decide)) (fun _ => ?_) (fun _ => ?_)
    · refine ev_step (st_bipush (pc := 87) dX10_tellOne_87 nb_6) ?_
      refine ev_step (st_aload_n (pc := 89) (j := 0) dX10_tellOne_89 rfl rfl) ?_
      refine ev_getI (pc := 90) k_X10_233 rfl dX10_tellOne_90 (fun x10 => ?_)
      refine ev_step (st_imul (pc := 93) dX10_tellOne_93) ?_
      refine ev_step (st_aload_n (pc := 94) (j := 0) dX10_tellOne_94 rfl rfl) ?_
      refine ev_getR (pc := 95) k_X10_46 rfl dX10_tellOne_95 (fun a11 => ?_)
      refine ev_step (st_aload_n (pc := 98) (j := 0) dX10_tellOne_98 rfl rfl) ?_
      refine ev_getI (pc := 99) k_X10_233 rfl dX10_tellOne_99 (fun x12 => ?_)
      refine ev_ldi (pc := 102) dX10_tellOne_102 (fun x13 => ?_)
      refine ev_step (st_iadd (pc := 103) dX10_tellOne_103) ?_
      refine ev_top (fun x14 => ?_)
      refine ev_step (st_istore_n (pc := 104) (ls' := [(1, .int x14), (0, .ref (gB G + v0))]) dX10_tellOne_104 rfl (by decide) rfl) ?_
      refine ev_step (st_aload_n (pc := 105) (j := 1) dX10_tellOne_105 rfl rfl) ?_
      refine ev_ck (fun ha hS => ?_)
      refine ev_callI (iv_V (As := []) (st := []) (pc := 106) rfl m_X10_named l_X10_265 i_X10_named e_X10_named ha hS rfl (Nat.le_of_ble_eq_true rfl) rfl dX10_tellOne_106) (tX10_named G fu v0 h8) (by decide) (by decide) (fun x16 h15 => ?_)
      refine ev_step (st_istore_n (pc := 109) (ls' := [(2, .int x16), (1, .int x14), (0, .ref (gB G + v0))]) dX10_tellOne_109 rfl (by decide) rfl) ?_
      refine ev_step (st_aload_n (pc := 110) (j := 2) dX10_tellOne_110 rfl rfl) ?_
      refine ev_getR (pc := 111) k_X10_49 rfl dX10_tellOne_111 (fun a17 => ?_)
      refine ev_step (st_iload_n (pc := 114) (j := 1) dX10_tellOne_114 rfl rfl) ?_
      refine ev_step (st_aload_n (pc := 115) (j := 2) dX10_tellOne_115 rfl rfl) ?_
      refine ev_step (st_iconst (pc := 116) dX10_tellOne_116 ni_0) ?_
      refine ev_step (st_sipush (pc := 117) dX10_tellOne_117 ns_255) ?_
      refine ev_ck (fun ha hS => ?_)
      refine ev_callI (iv_V (As := [.int ((0 : Int32)), .int ((255 : Int32))]) (st := [.int x14, .ref (gB G + a17)]) (pc := 120) rfl m_X10_bounded l_X10_254 i_X10_bounded e_X10_bounded ha hS rfl (Nat.le_of_ble_eq_true rfl) rfl dX10_tellOne_120) (tX10_bounded G fu v0 ((0 : Int32)) ((255 : Int32)) h15) (by decide) (by decide) (fun x19 h18 => ?_)
      refine ev_sti (pc := 123) dX10_tellOne_123 (fun h20 => ?_)
      refine ev_step (st_aload_n (pc := 124) (j := 2) dX10_tellOne_124 rfl rfl) ?_
      refine ev_getR (pc := 125) k_X10_52 rfl dX10_tellOne_125 (fun a21 => ?_)
      refine ev_step (st_iload_n (pc := 128) (j := 1) dX10_tellOne_128 rfl rfl) ?_
      refine ev_step (st_aload_n (pc := 129) (j := 2) dX10_tellOne_129 rfl rfl) ?_
      refine ev_step (st_iconst (pc := 130) dX10_tellOne_130 ni_0) ?_
      refine ev_step (st_bipush (pc := 131) dX10_tellOne_131 nb_9) ?_
      refine ev_ck (fun ha hS => ?_)
      refine ev_callI (iv_V (As := [.int ((0 : Int32)), .int ((9 : Int32))]) (st := [.int x14, .ref (gB G + a21)]) (pc := 133) rfl m_X10_bounded l_X10_254 i_X10_bounded e_X10_bounded ha hS rfl (Nat.le_of_ble_eq_true rfl) rfl dX10_tellOne_133) (tX10_bounded G fu v0 ((0 : Int32)) ((9 : Int32)) h20) (by decide) (by decide) (fun x23 h22 => ?_)
      refine ev_sti (pc := 136) dX10_tellOne_136 (fun h24 => ?_)
      refine ev_step (st_aload_n (pc := 137) (j := 2) dX10_tellOne_137 rfl rfl) ?_
      refine ev_step (st_iload_n (pc := 138) (j := 0) dX10_tellOne_138 rfl rfl) ?_
      refine ev_step (st_aload_n (pc := 139) (j := 2) dX10_tellOne_139 rfl rfl) ?_
      refine ev_getR (pc := 140) k_X10_46 rfl dX10_tellOne_140 (fun a25 => ?_)
      refine ev_step (st_aload_n (pc := 143) (j := 2) dX10_tellOne_143 rfl rfl) ?_
      refine ev_getI (pc := 144) k_X10_233 rfl dX10_tellOne_144 (fun x26 => ?_)
      refine ev_ldi (pc := 147) dX10_tellOne_147 (fun x27 => ?_)
      refine ev_ck (fun ha hS => ?_)
      refine ev_callV (iv_V (As := [.int x16, .int x27]) (st := []) (pc := 148) rfl m_X10_endsName l_X10_269 i_X10_endsName e_X10_endsName ha hS rfl (Nat.le_of_ble_eq_true rfl) rfl dX10_tellOne_148) (tX10_endsName G fu v0 x16 x27 h24) (by decide) (by decide) (fun h28 => ?_)
      refine ev_step (st_aload_n (pc := 151) (j := 2) dX10_tellOne_151 rfl rfl) ?_
      refine ev_getI (pc := 152) k_X10_200 rfl dX10_tellOne_152 (fun x29 => ?_)
      refine ev_br (br_if_ne (tgt := 441) (pc := 155) dX10_tellOne_155 (by decide)) (fun _ => ?_) (fun _ => ?_)
      · refine ev_step (st_aload_n (pc := 158) (j := 2) dX10_tellOne_158 rfl rfl) ?_
        refine ev_getR (pc := 159) k_X10_46 rfl dX10_tellOne_159 (fun a30 => ?_)
        refine ev_step (st_aload_n (pc := 162) (j := 2) dX10_tellOne_162 rfl rfl) ?_
        refine ev_getI (pc := 163) k_X10_233 rfl dX10_tellOne_163 (fun x31 => ?_)
        refine ev_step (st_dup2 (pc := 166) dX10_tellOne_166 rfl rfl) ?_
        refine ev_ldi (pc := 167) dX10_tellOne_167 (fun x32 => ?_)
        refine ev_step (st_iconst (pc := 168) dX10_tellOne_168 ni_1) ?_
        refine ev_step (st_iadd (pc := 169) dX10_tellOne_169) ?_
        refine ev_sti (pc := 170) dX10_tellOne_170 (fun h33 => ?_)
        refine ev_step (st_goto (pc := 171) (tgt := 441) dX10_tellOne_171 (by decide)) ?_
        exact ev_vret (pc := 441) dX10_tellOne_441
      · exact ev_vret (pc := 441) dX10_tellOne_441
    · exact ev_vret (pc := 86) dX10_tellOne_86
  refine ev_case (n := 1) (c := (21 : Int32)) (off := 165) (tgt := 174) (pc := 9) q4 dX10_tellOne_9 (by decide) (by decide) (by decide) (by decide) (by decide) (fun _ => ?_) (fun q34 => ?_)
  · refine ev_step (st_aload_n (pc := 174) (j := 0) dX10_tellOne_174 rfl rfl) ?_
    refine ev_step (st_aload_n (pc := 175) (j := 0) dX10_tellOne_175 rfl rfl) ?_
    refine ev_getR (pc := 176) k_X10_55 rfl dX10_tellOne_176 (fun a35 => ?_)
    refine ev_step (st_aload_n (pc := 179) (j := 0) dX10_tellOne_179 rfl rfl) ?_
    refine ev_getI (pc := 180) k_X10_233 rfl dX10_tellOne_180 (fun x36 => ?_)
    refine ev_ldi (pc := 183) dX10_tellOne_183 (fun x37 => ?_)
    refine ev_step (st_bipush (pc := 184) dX10_tellOne_184 nb_6) ?_
    refine ev_ck (fun ha hS => ?_)
    refine ev_callV (iv_V (As := [.int x37, .int ((6 : Int32))]) (st := []) (pc := 186) rfl m_X10_roomFor l_X10_261 i_X10_roomFor e_X10_roomFor ha hS rfl (Nat.le_of_ble_eq_true rfl) rfl dX10_tellOne_186) (tX10_roomFor G fu v0 x37 ((6 : Int32)) h) (by decide) (by decide) (fun h38 => ?_)
    refine ev_step (st_aload_n (pc := 189) (j := 0) dX10_tellOne_189 rfl rfl) ?_
    refine ev_getI (pc := 190) k_X10_200 rfl dX10_tellOne_190 (fun x39 => ?_)
    refine ev_br (br_if_le (tgt := 197) (pc := 193) dX10_tellOne_193 (by decide)) (fun _ => ?_) (fun _ => ?_)
    · refine ev_step (st_bipush (pc := 197) dX10_tellOne_197 nb_6) ?_
      refine ev_step (st_aload_n (pc := 199) (j := 0) dX10_tellOne_199 rfl rfl) ?_
      refine ev_getI (pc := 200) k_X10_233 rfl dX10_tellOne_200 (fun x40 => ?_)
      refine ev_step (st_imul (pc := 203) dX10_tellOne_203) ?_
      refine ev_step (st_aload_n (pc := 204) (j := 0) dX10_tellOne_204 rfl rfl) ?_
      refine ev_getR (pc := 205) k_X10_55 rfl dX10_tellOne_205 (fun a41 => ?_)
      refine ev_step (st_aload_n (pc := 208) (j := 0) dX10_tellOne_208 rfl rfl) ?_
      refine ev_getI (pc := 209) k_X10_233 rfl dX10_tellOne_209 (fun x42 => ?_)
      refine ev_ldi (pc := 212) dX10_tellOne_212 (fun x43 => ?_)
      refine ev_step (st_iadd (pc := 213) dX10_tellOne_213) ?_
      refine ev_top (fun x44 => ?_)
      refine ev_step (st_istore_n (pc := 214) (ls' := [(1, .int x44), (0, .ref (gB G + v0))]) dX10_tellOne_214 rfl (by decide) rfl) ?_
      refine ev_step (st_aload_n (pc := 215) (j := 1) dX10_tellOne_215 rfl rfl) ?_
      refine ev_ck (fun ha hS => ?_)
      refine ev_callI (iv_V (As := []) (st := []) (pc := 216) rfl m_X10_named l_X10_265 i_X10_named e_X10_named ha hS rfl (Nat.le_of_ble_eq_true rfl) rfl dX10_tellOne_216) (tX10_named G fu v0 h38) (by decide) (by decide) (fun x46 h45 => ?_)
      refine ev_step (st_istore_n (pc := 219) (ls' := [(2, .int x46), (1, .int x44), (0, .ref (gB G + v0))]) dX10_tellOne_219 rfl (by decide) rfl) ?_
      refine ev_step (st_aload_n (pc := 220) (j := 2) dX10_tellOne_220 rfl rfl) ?_
      refine ev_getR (pc := 221) k_X10_58 rfl dX10_tellOne_221 (fun a47 => ?_)
      refine ev_step (st_iload_n (pc := 224) (j := 1) dX10_tellOne_224 rfl rfl) ?_
      refine ev_step (st_aload_n (pc := 225) (j := 2) dX10_tellOne_225 rfl rfl) ?_
      refine ev_step (st_iconst (pc := 226) dX10_tellOne_226 ni_0) ?_
      refine ev_step (st_sipush (pc := 227) dX10_tellOne_227 ns_255) ?_
      refine ev_ck (fun ha hS => ?_)
      refine ev_callI (iv_V (As := [.int ((0 : Int32)), .int ((255 : Int32))]) (st := [.int x44, .ref (gB G + a47)]) (pc := 230) rfl m_X10_bounded l_X10_254 i_X10_bounded e_X10_bounded ha hS rfl (Nat.le_of_ble_eq_true rfl) rfl dX10_tellOne_230) (tX10_bounded G fu v0 ((0 : Int32)) ((255 : Int32)) h45) (by decide) (by decide) (fun x49 h48 => ?_)
      refine ev_sti (pc := 233) dX10_tellOne_233 (fun h50 => ?_)
      refine ev_step (st_aload_n (pc := 234) (j := 2) dX10_tellOne_234 rfl rfl) ?_
      refine ev_getR (pc := 235) k_X10_61 rfl dX10_tellOne_235 (fun a51 => ?_)
      refine ev_step (st_iload_n (pc := 238) (j := 1) dX10_tellOne_238 rfl rfl) ?_
      refine ev_step (st_aload_n (pc := 239) (j := 2) dX10_tellOne_239 rfl rfl) ?_
      refine ev_step (st_iconst (pc := 240) dX10_tellOne_240 ni_0) ?_
      refine ev_step (st_sipush (pc := 241) dX10_tellOne_241 ns_255) ?_
      refine ev_ck (fun ha hS => ?_)
      refine ev_callI (iv_V (As := [.int ((0 : Int32)), .int ((255 : Int32))]) (st := [.int x44, .ref (gB G + a51)]) (pc := 244) rfl m_X10_bounded l_X10_254 i_X10_bounded e_X10_bounded ha hS rfl (Nat.le_of_ble_eq_true rfl) rfl dX10_tellOne_244) (tX10_bounded G fu v0 ((0 : Int32)) ((255 : Int32)) h50) (by decide) (by decide) (fun x53 h52 => ?_)
      refine ev_sti (pc := 247) dX10_tellOne_247 (fun h54 => ?_)
      refine ev_step (st_aload_n (pc := 248) (j := 2) dX10_tellOne_248 rfl rfl) ?_
      refine ev_getR (pc := 249) k_X10_64 rfl dX10_tellOne_249 (fun a55 => ?_)
      refine ev_step (st_iload_n (pc := 252) (j := 1) dX10_tellOne_252 rfl rfl) ?_
      refine ev_step (st_aload_n (pc := 253) (j := 2) dX10_tellOne_253 rfl rfl) ?_
      refine ev_step (st_iconst (pc := 254) dX10_tellOne_254 ni_0) ?_
      refine ev_step (st_bipush (pc := 255) dX10_tellOne_255 nb_99) ?_
      refine ev_ck (fun ha hS => ?_)
      refine ev_callI (iv_V (As := [.int ((0 : Int32)), .int ((99 : Int32))]) (st := [.int x44, .ref (gB G + a55)]) (pc := 257) rfl m_X10_bounded l_X10_254 i_X10_bounded e_X10_bounded ha hS rfl (Nat.le_of_ble_eq_true rfl) rfl dX10_tellOne_257) (tX10_bounded G fu v0 ((0 : Int32)) ((99 : Int32)) h54) (by decide) (by decide) (fun x57 h56 => ?_)
      refine ev_sti (pc := 260) dX10_tellOne_260 (fun h58 => ?_)
      refine ev_step (st_aload_n (pc := 261) (j := 2) dX10_tellOne_261 rfl rfl) ?_
      refine ev_step (st_iload_n (pc := 262) (j := 0) dX10_tellOne_262 rfl rfl) ?_
      refine ev_step (st_bipush (pc := 263) dX10_tellOne_263 nb_10) ?_
      refine ev_step (st_aload_n (pc := 265) (j := 2) dX10_tellOne_265 rfl rfl) ?_
      refine ev_getR (pc := 266) k_X10_55 rfl dX10_tellOne_266 (fun a59 => ?_)
      refine ev_step (st_aload_n (pc := 269) (j := 2) dX10_tellOne_269 rfl rfl) ?_
      refine ev_getI (pc := 270) k_X10_233 rfl dX10_tellOne_270 (fun x60 => ?_)
      refine ev_ldi (pc := 273) dX10_tellOne_273 (fun x61 => ?_)
      refine ev_step (st_iadd (pc := 274) dX10_tellOne_274) ?_
      refine ev_ck (fun ha hS => ?_)
      refine ev_callV (iv_V (As := [.int x46, .int (((10 : Int32)) + x61)]) (st := []) (pc := 275) rfl m_X10_endsName l_X10_269 i_X10_endsName e_X10_endsName ha hS rfl (Nat.le_of_ble_eq_true rfl) rfl dX10_tellOne_275) (tX10_endsName G fu v0 x46 (((10 : Int32)) + x61) h58) (by decide) (by decide) (fun h62 => ?_)
      refine ev_step (st_aload_n (pc := 278) (j := 2) dX10_tellOne_278 rfl rfl) ?_
      refine ev_getI (pc := 279) k_X10_200 rfl dX10_tellOne_279 (fun x63 => ?_)
      refine ev_br (br_if_ne (tgt := 441) (pc := 282) dX10_tellOne_282 (by decide)) (fun _ => ?_) (fun _ => ?_)
      · refine ev_step (st_aload_n (pc := 285) (j := 2) dX10_tellOne_285 rfl rfl) ?_
        refine ev_getR (pc := 286) k_X10_55 rfl dX10_tellOne_286 (fun a64 => ?_)
        refine ev_step (st_aload_n (pc := 289) (j := 2) dX10_tellOne_289 rfl rfl) ?_
        refine ev_getI (pc := 290) k_X10_233 rfl dX10_tellOne_290 (fun x65 => ?_)
        refine ev_step (st_dup2 (pc := 293) dX10_tellOne_293 rfl rfl) ?_
        refine ev_ldi (pc := 294) dX10_tellOne_294 (fun x66 => ?_)
        refine ev_step (st_iconst (pc := 295) dX10_tellOne_295 ni_1) ?_
        refine ev_step (st_iadd (pc := 296) dX10_tellOne_296) ?_
        refine ev_sti (pc := 297) dX10_tellOne_297 (fun h67 => ?_)
        refine ev_step (st_goto (pc := 298) (tgt := 441) dX10_tellOne_298 (by decide)) ?_
        exact ev_vret (pc := 441) dX10_tellOne_441
      · exact ev_vret (pc := 441) dX10_tellOne_441
    · exact ev_vret (pc := 196) dX10_tellOne_196
  refine ev_case (n := 2) (c := (22 : Int32)) (off := 292) (tgt := 301) (pc := 9) q34 dX10_tellOne_9 (by decide) (by decide) (by decide) (by decide) (by decide) (fun _ => ?_) (fun q68 => ?_)
  · refine ev_step (st_aload_n (pc := 301) (j := 0) dX10_tellOne_301 rfl rfl) ?_
    refine ev_step (st_aload_n (pc := 302) (j := 0) dX10_tellOne_302 rfl rfl) ?_
    refine ev_getR (pc := 303) k_X10_70 rfl dX10_tellOne_303 (fun a69 => ?_)
    refine ev_step (st_aload_n (pc := 306) (j := 0) dX10_tellOne_306 rfl rfl) ?_
    refine ev_getI (pc := 307) k_X10_233 rfl dX10_tellOne_307 (fun x70 => ?_)
    refine ev_ldi (pc := 310) dX10_tellOne_310 (fun x71 => ?_)
    refine ev_step (st_bipush (pc := 311) dX10_tellOne_311 nb_6) ?_
    refine ev_ck (fun ha hS => ?_)
    refine ev_callV (iv_V (As := [.int x71, .int ((6 : Int32))]) (st := []) (pc := 313) rfl m_X10_roomFor l_X10_261 i_X10_roomFor e_X10_roomFor ha hS rfl (Nat.le_of_ble_eq_true rfl) rfl dX10_tellOne_313) (tX10_roomFor G fu v0 x71 ((6 : Int32)) h) (by decide) (by decide) (fun h72 => ?_)
    refine ev_step (st_aload_n (pc := 316) (j := 0) dX10_tellOne_316 rfl rfl) ?_
    refine ev_getI (pc := 317) k_X10_200 rfl dX10_tellOne_317 (fun x73 => ?_)
    refine ev_br (br_if_ne (tgt := 441) (pc := 320) dX10_tellOne_320 (by decide)) (fun _ => ?_) (fun _ => ?_)
    · refine ev_step (st_aload_n (pc := 323) (j := 0) dX10_tellOne_323 rfl rfl) ?_
      refine ev_ck (fun ha hS => ?_)
      refine ev_callV (iv_V (As := []) (st := []) (pc := 324) rfl m_X10_tellReally l_X10_272 i_X10_tellReally e_X10_tellReally ha hS rfl (Nat.le_of_ble_eq_true rfl) rfl dX10_tellOne_324) (tX10_tellReally G fu v0 h72) (by decide) (by decide) (fun h74 => ?_)
      refine ev_step (st_goto (pc := 327) (tgt := 441) dX10_tellOne_327 (by decide)) ?_
      exact ev_vret (pc := 441) dX10_tellOne_441
    · exact ev_vret (pc := 441) dX10_tellOne_441
  refine ev_case (n := 3) (c := (23 : Int32)) (off := 379) (tgt := 388) (pc := 9) q68 dX10_tellOne_9 (by decide) (by decide) (by decide) (by decide) (by decide) (fun _ => ?_) (fun q75 => ?_)
  · refine ev_sub (ls' := [(0, .ref (gB G + v0))]) [0] rfl ?_
    exact tX10_tellOne_388 G fu h v0 h
  refine ev_case (n := 4) (c := (24 : Int32)) (off := 379) (tgt := 388) (pc := 9) q75 dX10_tellOne_9 (by decide) (by decide) (by decide) (by decide) (by decide) (fun _ => ?_) (fun q76 => ?_)
  · refine ev_sub (ls' := [(0, .ref (gB G + v0))]) [0] rfl ?_
    exact tX10_tellOne_388 G fu h v0 h
  refine ev_case (n := 5) (c := (25 : Int32)) (off := 379) (tgt := 388) (pc := 9) q76 dX10_tellOne_9 (by decide) (by decide) (by decide) (by decide) (by decide) (fun _ => ?_) (fun q77 => ?_)
  · refine ev_sub (ls' := [(0, .ref (gB G + v0))]) [0] rfl ?_
    exact tX10_tellOne_388 G fu h v0 h
  refine ev_case (n := 6) (c := (26 : Int32)) (off := 379) (tgt := 388) (pc := 9) q77 dX10_tellOne_9 (by decide) (by decide) (by decide) (by decide) (by decide) (fun _ => ?_) (fun q78 => ?_)
  · refine ev_sub (ls' := [(0, .ref (gB G + v0))]) [0] rfl ?_
    exact tX10_tellOne_388 G fu h v0 h
  refine ev_case (n := 7) (c := (27 : Int32)) (off := 321) (tgt := 330) (pc := 9) q78 dX10_tellOne_9 (by decide) (by decide) (by decide) (by decide) (by decide) (fun _ => ?_) (fun q79 => ?_)
  · refine ev_step (st_aload_n (pc := 330) (j := 0) dX10_tellOne_330 rfl rfl) ?_
    refine ev_getR (pc := 331) k_X10_73 rfl dX10_tellOne_331 (fun a80 => ?_)
    refine ev_step (st_aload_n (pc := 334) (j := 0) dX10_tellOne_334 rfl rfl) ?_
    refine ev_getI (pc := 335) k_X10_233 rfl dX10_tellOne_335 (fun x81 => ?_)
    refine ev_step (st_aload_n (pc := 338) (j := 0) dX10_tellOne_338 rfl rfl) ?_
    refine ev_step (st_iconst (pc := 339) dX10_tellOne_339 ni_0) ?_
    refine ev_step (st_bipush (pc := 340) dX10_tellOne_340 nb_100) ?_
    refine ev_ck (fun ha hS => ?_)
    refine ev_callI (iv_V (As := [.int ((0 : Int32)), .int ((100 : Int32))]) (st := [.int x81, .ref (gB G + a80)]) (pc := 342) rfl m_X10_toldInt l_X10_275 i_X10_toldInt e_X10_toldInt ha hS rfl (Nat.le_of_ble_eq_true rfl) rfl dX10_tellOne_342) (tX10_toldInt G fu v0 ((0 : Int32)) ((100 : Int32)) h) (by decide) (by decide) (fun x83 h82 => ?_)
    refine ev_sti (pc := 345) dX10_tellOne_345 (fun h84 => ?_)
    refine ev_step (st_goto (pc := 346) (tgt := 441) dX10_tellOne_346 (by decide)) ?_
    exact ev_vret (pc := 441) dX10_tellOne_441
  refine ev_case (n := 8) (c := (28 : Int32)) (off := 340) (tgt := 349) (pc := 9) q79 dX10_tellOne_9 (by decide) (by decide) (by decide) (by decide) (by decide) (fun _ => ?_) (fun q85 => ?_)
  · refine ev_step (st_aload_n (pc := 349) (j := 0) dX10_tellOne_349 rfl rfl) ?_
    refine ev_getR (pc := 350) k_X10_76 rfl dX10_tellOne_350 (fun a86 => ?_)
    refine ev_step (st_aload_n (pc := 353) (j := 0) dX10_tellOne_353 rfl rfl) ?_
    refine ev_getI (pc := 354) k_X10_233 rfl dX10_tellOne_354 (fun x87 => ?_)
    refine ev_step (st_aload_n (pc := 357) (j := 0) dX10_tellOne_357 rfl rfl) ?_
    refine ev_step (st_iconst (pc := 358) dX10_tellOne_358 ni_1) ?_
    refine ev_step (st_bipush (pc := 359) dX10_tellOne_359 nb_99) ?_
    refine ev_ck (fun ha hS => ?_)
    refine ev_callI (iv_V (As := [.int ((1 : Int32)), .int ((99 : Int32))]) (st := [.int x87, .ref (gB G + a86)]) (pc := 361) rfl m_X10_toldInt l_X10_275 i_X10_toldInt e_X10_toldInt ha hS rfl (Nat.le_of_ble_eq_true rfl) rfl dX10_tellOne_361) (tX10_toldInt G fu v0 ((1 : Int32)) ((99 : Int32)) h) (by decide) (by decide) (fun x89 h88 => ?_)
    refine ev_sti (pc := 364) dX10_tellOne_364 (fun h90 => ?_)
    refine ev_step (st_goto (pc := 365) (tgt := 441) dX10_tellOne_365 (by decide)) ?_
    exact ev_vret (pc := 441) dX10_tellOne_441
  refine ev_case (n := 9) (c := (29 : Int32)) (off := 359) (tgt := 368) (pc := 9) q85 dX10_tellOne_9 (by decide) (by decide) (by decide) (by decide) (by decide) (fun _ => ?_) (fun q91 => ?_)
  · refine ev_step (st_aload_n (pc := 368) (j := 0) dX10_tellOne_368 rfl rfl) ?_
    refine ev_getR (pc := 369) k_X10_79 rfl dX10_tellOne_369 (fun a92 => ?_)
    refine ev_step (st_aload_n (pc := 372) (j := 0) dX10_tellOne_372 rfl rfl) ?_
    refine ev_getI (pc := 373) k_X10_233 rfl dX10_tellOne_373 (fun x93 => ?_)
    refine ev_step (st_aload_n (pc := 376) (j := 0) dX10_tellOne_376 rfl rfl) ?_
    refine ev_step (st_iconst (pc := 377) dX10_tellOne_377 ni_0) ?_
    refine ev_step (st_sipush (pc := 378) dX10_tellOne_378 ns_9999) ?_
    refine ev_ck (fun ha hS => ?_)
    refine ev_callI (iv_V (As := [.int ((0 : Int32)), .int ((9999 : Int32))]) (st := [.int x93, .ref (gB G + a92)]) (pc := 381) rfl m_X10_toldInt l_X10_275 i_X10_toldInt e_X10_toldInt ha hS rfl (Nat.le_of_ble_eq_true rfl) rfl dX10_tellOne_381) (tX10_toldInt G fu v0 ((0 : Int32)) ((9999 : Int32)) h) (by decide) (by decide) (fun x95 h94 => ?_)
    refine ev_sti (pc := 384) dX10_tellOne_384 (fun h96 => ?_)
    refine ev_step (st_goto (pc := 385) (tgt := 441) dX10_tellOne_385 (by decide)) ?_
    exact ev_vret (pc := 441) dX10_tellOne_441
  refine ev_dflt (n := 10) (tgt := 388) (pc := 9) q91 dX10_tellOne_9 (by decide) (by decide) ?_
  refine ev_sub (ls' := [(0, .ref (gB G + v0))]) [0] rfl ?_
  exact tX10_tellOne_388 G fu h v0 h
set_option maxRecDepth 100000 in
set_option maxHeartbeats 4000000 in
theorem tX9_faith (G : gx) (fu : Nat) (v0 : Nat) (v1 : Int32) (h : mh) : Ct lI G yX9_faith cX9_faith 2 (some .int) 8 [.ref (gB G + v0), .int v1] h (fX9_faith fu v0 v1 h) := by
  refine ct_ls (ls := [(0, .ref (gB G + v0)), (1, .int v1)]) rfl (by decide) (Nat.le_of_ble_eq_true rfl) ?_
  unfold fX9_faith
  refine ev_step (st_iload_n (pc := 0) (j := 1) dX9_faith_0 rfl rfl) ?_
  refine ev_callI (iv_S (As := [.int v1]) (st := []) (pc := 1) m_X9_isNumberOfEvenings l_X9_217 z_X9_isNumberOfEvenings rfl (Nat.le_of_ble_eq_true rfl) rfl dX9_faith_1) (tX9_isNumberOfEvenings G fu v1 h) (by decide) (by decide) (fun x2 h1 => ?_)
  refine ev_br (br_if_ne (tgt := 9) (pc := 4) dX9_faith_4 (by decide)) (fun _ => ?_) (fun _ => ?_)
  · refine ev_step (st_iconst (pc := 7) dX9_faith_7 ni_m1) ?_
    exact ev_iret (pc := 8) dX9_faith_8
  · refine ev_step (st_aload_n (pc := 9) (j := 0) dX9_faith_9 rfl rfl) ?_
    refine ev_step (st_iload_n (pc := 10) (j := 1) dX9_faith_10 rfl rfl) ?_
    refine ev_ck (fun ha hS => ?_)
    refine ev_callV (iv_V (As := [.int v1]) (st := []) (pc := 11) rfl m_X9_tryEvenings l_X9_267 i_X9_tryEvenings e_X9_tryEvenings ha hS rfl (Nat.le_of_ble_eq_true rfl) rfl dX9_faith_11) (tX9_tryEvenings G fu v0 v1 h1) (by decide) (by decide) (fun h3 => ?_)
    refine ev_step (st_aload_n (pc := 14) (j := 0) dX9_faith_14 rfl rfl) ?_
    refine ev_getR (pc := 15) k_X9_44 rfl dX9_faith_15 (fun a4 => ?_)
    refine ev_ck (fun ha hS => ?_)
    refine ev_callI (iv_V (As := []) (st := []) (pc := 18) rfl m_X3_beliefOfAll l_X9_198 i_X3_beliefOfAll e_X3_beliefOfAll ha hS rfl (Nat.le_of_ble_eq_true rfl) rfl dX9_faith_18) (tX3_beliefOfAll G fu a4 h3) (by decide) (by decide) (fun x6 h5 => ?_)
    exact ev_iret (pc := 21) dX9_faith_21
set_option maxRecDepth 100000 in
set_option maxHeartbeats 4000000 in
theorem tX9_then (G : gx) (fu : Nat) (v0 : Nat) (v1 : Int32) (v2 : Int32) (v3 : Int32) (h : mh) : Ct lI G yX9_then cX9_then 4 (some .int) 8 [.ref (gB G + v0), .int v1, .int v2, .int v3] h (fX9_then fu v0 v1 v2 v3 h) := by
  refine ct_ls (ls := [(0, .ref (gB G + v0)), (1, .int v1), (2, .int v2), (3, .int v3)]) rfl (by decide) (Nat.le_of_ble_eq_true rfl) ?_
  unfold fX9_then
  refine ev_step (st_aload_n (pc := 0) (j := 0) dX9_then_0 rfl rfl) ?_
  refine ev_getR (pc := 1) k_X9_30 rfl dX9_then_1 (fun a1 => ?_)
  refine ev_step (st_iload_n (pc := 4) (j := 1) dX9_then_4 rfl rfl) ?_
  refine ev_ck (fun ha hS => ?_)
  refine ev_callI (iv_V (As := [.int v1]) (st := []) (pc := 5) rfl m_X6_hasListener l_X9_112 i_X6_hasListener e_X6_hasListener ha hS rfl (Nat.le_of_ble_eq_true rfl) rfl dX9_then_5) (tX6_hasListener G fu a1 v1 h) (by decide) (by decide) (fun x3 h2 => ?_)
  refine ev_br (br_if_eq (tgt := 27) (pc := 8) dX9_then_8 (by decide)) (fun _ => ?_) (fun _ => ?_)
  · refine ev_step (st_iconst (pc := 27) dX9_then_27 ni_m1) ?_
    exact ev_iret (pc := 28) dX9_then_28
  · refine ev_step (st_iload_n (pc := 11) (j := 2) dX9_then_11 rfl rfl) ?_
    refine ev_callI (iv_S (As := [.int v2]) (st := []) (pc := 12) m_X9_isNumberOfEvenings l_X9_217 z_X9_isNumberOfEvenings rfl (Nat.le_of_ble_eq_true rfl) rfl dX9_then_12) (tX9_isNumberOfEvenings G fu v2 h2) (by decide) (by decide) (fun x5 h4 => ?_)
    refine ev_br (br_if_eq (tgt := 27) (pc := 15) dX9_then_15 (by decide)) (fun _ => ?_) (fun _ => ?_)
    · refine ev_step (st_iconst (pc := 27) dX9_then_27 ni_m1) ?_
      exact ev_iret (pc := 28) dX9_then_28
    · refine ev_step (st_iload_n (pc := 18) (j := 3) dX9_then_18 rfl rfl) ?_
      refine ev_br (br_if_lt (tgt := 27) (pc := 19) dX9_then_19 (by decide)) (fun _ => ?_) (fun _ => ?_)
      · refine ev_step (st_iconst (pc := 27) dX9_then_27 ni_m1) ?_
        exact ev_iret (pc := 28) dX9_then_28
      · refine ev_step (st_iload_n (pc := 22) (j := 3) dX9_then_22 rfl rfl) ?_
        refine ev_step (st_iconst (pc := 23) dX9_then_23 ni_1) ?_
        refine ev_br (br_icmp_le (tgt := 29) (pc := 24) dX9_then_24 (by decide)) (fun _ => ?_) (fun _ => ?_)
        · refine ev_step (st_aload_n (pc := 29) (j := 0) dX9_then_29 rfl rfl) ?_
          refine ev_step (st_iload_n (pc := 30) (j := 2) dX9_then_30 rfl rfl) ?_
          refine ev_ck (fun ha hS => ?_)
          refine ev_callV (iv_V (As := [.int v2]) (st := []) (pc := 31) rfl m_X9_tryEvenings l_X9_267 i_X9_tryEvenings e_X9_tryEvenings ha hS rfl (Nat.le_of_ble_eq_true rfl) rfl dX9_then_31) (tX9_tryEvenings G fu v0 v2 h4) (by decide) (by decide) (fun h6 => ?_)
          refine ev_step (st_iload_n (pc := 34) (j := 3) dX9_then_34 rfl rfl) ?_
          refine ev_br (br_if_ne (tgt := 50) (pc := 35) dX9_then_35 (by decide)) (fun _ => ?_) (fun _ => ?_)
          · refine ev_step (st_aload_n (pc := 38) (j := 0) dX9_then_38 rfl rfl) ?_
            refine ev_getR (pc := 39) k_X9_44 rfl dX9_then_39 (fun a7 => ?_)
            refine ev_getR (pc := 42) k_X9_115 rfl dX9_then_42 (fun a8 => ?_)
            refine ev_step (st_iload_n (pc := 45) (j := 1) dX9_then_45 rfl rfl) ?_
            refine ev_ldi (pc := 46) dX9_then_46 (fun x9 => ?_)
            refine ev_step (st_goto (pc := 47) (tgt := 59) dX9_then_47 (by decide)) ?_
            exact ev_iret (pc := 59) dX9_then_59
          · refine ev_step (st_aload_n (pc := 50) (j := 0) dX9_then_50 rfl rfl) ?_
            refine ev_getR (pc := 51) k_X9_44 rfl dX9_then_51 (fun a10 => ?_)
            refine ev_getR (pc := 54) k_X9_121 rfl dX9_then_54 (fun a11 => ?_)
            refine ev_step (st_iload_n (pc := 57) (j := 1) dX9_then_57 rfl rfl) ?_
            refine ev_ldi (pc := 58) dX9_then_58 (fun x12 => ?_)
            exact ev_iret (pc := 59) dX9_then_59
        · refine ev_step (st_iconst (pc := 27) dX9_then_27 ni_m1) ?_
          exact ev_iret (pc := 28) dX9_then_28
set_option maxRecDepth 100000 in
set_option maxHeartbeats 4000000 in
theorem tX9_quietIn (G : gx) (fu : Nat) (v0 : Nat) (v1 : Int32) (v2 : Int32) (h : mh) : Ct lI G yX9_quietIn cX9_quietIn 3 (some .int) 8 [.ref (gB G + v0), .int v1, .int v2] h (fX9_quietIn fu v0 v1 v2 h) := by
  refine ct_ls (ls := [(0, .ref (gB G + v0)), (1, .int v1), (2, .int v2)]) rfl (by decide) (Nat.le_of_ble_eq_true rfl) ?_
  unfold fX9_quietIn
  refine ev_step (st_aload_n (pc := 0) (j := 0) dX9_quietIn_0 rfl rfl) ?_
  refine ev_getR (pc := 1) k_X9_30 rfl dX9_quietIn_1 (fun a1 => ?_)
  refine ev_step (st_iload_n (pc := 4) (j := 1) dX9_quietIn_4 rfl rfl) ?_
  refine ev_ck (fun ha hS => ?_)
  refine ev_callI (iv_V (As := [.int v1]) (st := []) (pc := 5) rfl m_X6_hasRole l_X9_87 i_X6_hasRole e_X6_hasRole ha hS rfl (Nat.le_of_ble_eq_true rfl) rfl dX9_quietIn_5) (tX6_hasRole G fu a1 v1 h) (by decide) (by decide) (fun x3 h2 => ?_)
  refine ev_br (br_if_eq (tgt := 18) (pc := 8) dX9_quietIn_8 (by decide)) (fun _ => ?_) (fun _ => ?_)
  · refine ev_step (st_iconst (pc := 18) dX9_quietIn_18 ni_m1) ?_
    exact ev_iret (pc := 19) dX9_quietIn_19
  · refine ev_step (st_iload_n (pc := 11) (j := 2) dX9_quietIn_11 rfl rfl) ?_
    refine ev_callI (iv_S (As := [.int v2]) (st := []) (pc := 12) m_X9_isNumberOfEvenings l_X9_217 z_X9_isNumberOfEvenings rfl (Nat.le_of_ble_eq_true rfl) rfl dX9_quietIn_12) (tX9_isNumberOfEvenings G fu v2 h2) (by decide) (by decide) (fun x5 h4 => ?_)
    refine ev_br (br_if_ne (tgt := 20) (pc := 15) dX9_quietIn_15 (by decide)) (fun _ => ?_) (fun _ => ?_)
    · refine ev_step (st_iconst (pc := 18) dX9_quietIn_18 ni_m1) ?_
      exact ev_iret (pc := 19) dX9_quietIn_19
    · refine ev_step (st_aload_n (pc := 20) (j := 0) dX9_quietIn_20 rfl rfl) ?_
      refine ev_step (st_iload_n (pc := 21) (j := 2) dX9_quietIn_21 rfl rfl) ?_
      refine ev_ck (fun ha hS => ?_)
      refine ev_callV (iv_V (As := [.int v2]) (st := []) (pc := 22) rfl m_X9_tryEvenings l_X9_267 i_X9_tryEvenings e_X9_tryEvenings ha hS rfl (Nat.le_of_ble_eq_true rfl) rfl dX9_quietIn_22) (tX9_tryEvenings G fu v0 v2 h4) (by decide) (by decide) (fun h6 => ?_)
      refine ev_step (st_aload_n (pc := 25) (j := 0) dX9_quietIn_25 rfl rfl) ?_
      refine ev_getR (pc := 26) k_X9_44 rfl dX9_quietIn_26 (fun a7 => ?_)
      refine ev_getR (pc := 29) k_X9_101 rfl dX9_quietIn_29 (fun a8 => ?_)
      refine ev_step (st_iload_n (pc := 32) (j := 1) dX9_quietIn_32 rfl rfl) ?_
      refine ev_ldi (pc := 33) dX9_quietIn_33 (fun x9 => ?_)
      exact ev_iret (pc := 34) dX9_quietIn_34
set_option maxRecDepth 100000 in
set_option maxHeartbeats 4000000 in
theorem tX9_sure_93 (G : gx) (fu : Nat) (h0 : mh) (v0 : Nat) (v1 : Int32) (v2 : Int32) (v3 : Int32) (v4 : Int32) (v5 : Int32) (v6 : Int32) (k52 : Int32 × Int32 × mh → Option (Int32 × mh)) (hk52 : ∀ (v5 : Int32) (v6 : Int32) (h : mh), Ev lI G yX9_sure cX9_sure 7 (some .int) 8 h0 52 [(0, .ref (gB G + v0)), (1, .int v1), (2, .int v2), (3, .int v3), (4, .int v4), (5, .int v5), (6, .int v6)] [] h (k52 (v5, v6, h))) (h : mh) : Ev lI G yX9_sure cX9_sure 7 (some .int) 8 h0 93 [(0, .ref (gB G + v0)), (1, .int v1), (2, .int v2), (3, .int v3), (4, .int v4), (5, .int v5), (6, .int v6)] [] h (fX9_sure_93 fu k52 v0 v1 v2 v3 v4 v5 v6 h) := by
  unfold fX9_sure_93
  refine ev_step (st_inc (pc := 93) (j := 6) (ls' := [(6, .int (v6 + (1 : Int32))), (0, .ref (gB G + v0)), (1, .int v1), (2, .int v2), (3, .int v3), (4, .int v4), (5, .int v5)]) dX9_sure_93 rfl ni_1 (by decide) rfl) ?_
  refine ev_step (st_goto (pc := 96) (tgt := 52) dX9_sure_96 (by decide)) ?_
  refine ev_sub (ls' := [(0, .ref (gB G + v0)), (1, .int v1), (2, .int v2), (3, .int v3), (4, .int v4), (5, .int v5), (6, .int (v6 + (1 : Int32)))]) [1, 2, 3, 4, 5, 6, 0] rfl ?_
  exact hk52 v5 (v6 + (1 : Int32)) h
set_option maxRecDepth 100000 in
set_option maxHeartbeats 4000000 in
theorem tX9_sure_52 (G : gx) (fu : Nat) (h0 : mh) (v0 : Nat) (v1 : Int32) (v2 : Int32) (v3 : Int32) (v4 : Int32) (n : Nat) (v5 : Int32) (v6 : Int32) (h : mh) : Ev lI G yX9_sure cX9_sure 7 (some .int) 8 h0 52 [(0, .ref (gB G + v0)), (1, .int v1), (2, .int v2), (3, .int v3), (4, .int v4), (5, .int v5), (6, .int v6)] [] h (itr (bX9_sure_52 fu v0 v1 v2 v3 v4) n (v5, v6, h)) := by
  refine ev_itr (P := fun (q : Int32 × Int32 × mh) (R9 : Option (Int32 × mh)) => Ev lI G yX9_sure cX9_sure 7 (some .int) 8 h0 52 [(0, .ref (gB G + v0)), (1, .int v1), (2, .int v2), (3, .int v3), (4, .int v4), (5, .int q.1), (6, .int q.2.1)] [] q.2.2 R9) (fun _ => ev_none) (fun k52 hk9 q => ?_) n (v5, v6, h)
  obtain ⟨v5, v6, h⟩ := q
  have hk52 : ∀ (v5 : Int32) (v6 : Int32) (h : mh), Ev lI G yX9_sure cX9_sure 7 (some .int) 8 h0 52 [(0, .ref (gB G + v0)), (1, .int v1), (2, .int v2), (3, .int v3), (4, .int v4), (5, .int v5), (6, .int v6)] [] h (k52 (v5, v6, h)) := fun v5 v6 h => hk9 (v5, v6, h)
  show Ev lI G yX9_sure cX9_sure 7 (some .int) 8 h0 52 [(0, .ref (gB G + v0)), (1, .int v1), (2, .int v2), (3, .int v3), (4, .int v4), (5, .int v5), (6, .int v6)] [] h (bX9_sure_52 fu v0 v1 v2 v3 v4 k52 (v5, v6, h))
  unfold bX9_sure_52
  refine ev_step (st_iload (pc := 52) (j := 6) dX9_sure_52 rfl) ?_
  refine ev_step (st_iload (pc := 54) (j := 4) dX9_sure_54 rfl) ?_
  refine ev_br (br_icmp_ge (tgt := 99) (pc := 56) dX9_sure_56 (by decide)) (fun _ => ?_) (fun _ => ?_)
  · refine ev_step (st_iload (pc := 99) (j := 5) dX9_sure_99 rfl) ?_
    exact ev_iret (pc := 101) dX9_sure_101
  · refine ev_step (st_aload_n (pc := 59) (j := 0) dX9_sure_59 rfl rfl) ?_
    refine ev_step (st_iload_n (pc := 60) (j := 2) dX9_sure_60 rfl rfl) ?_
    refine ev_step (st_iload_n (pc := 61) (j := 3) dX9_sure_61 rfl rfl) ?_
    refine ev_step (st_aload_n (pc := 62) (j := 0) dX9_sure_62 rfl rfl) ?_
    refine ev_getR (pc := 63) k_X9_30 rfl dX9_sure_63 (fun a1 => ?_)
    refine ev_getI (pc := 66) k_X9_182 rfl dX9_sure_66 (fun x2 => ?_)
    refine ev_step (st_iload (pc := 69) (j := 6) dX9_sure_69 rfl) ?_
    refine ev_step (st_iadd (pc := 71) dX9_sure_71) ?_
    refine ev_ck (fun ha hS => ?_)
    refine ev_callV (iv_V (As := [.int v2, .int v3, .int (x2 + v6)]) (st := []) (pc := 72) rfl m_X9_tryRow l_X9_270 i_X9_tryRow e_X9_tryRow ha hS rfl (Nat.le_of_ble_eq_true rfl) rfl dX9_sure_72) (tX9_tryRow G fu v0 v2 v3 (x2 + v6) h) (by decide) (by decide) (fun h3 => ?_)
    refine ev_step (st_aload_n (pc := 75) (j := 0) dX9_sure_75 rfl rfl) ?_
    refine ev_getR (pc := 76) k_X9_30 rfl dX9_sure_76 (fun a4 => ?_)
    refine ev_step (st_aload_n (pc := 79) (j := 0) dX9_sure_79 rfl rfl) ?_
    refine ev_getR (pc := 80) k_X9_44 rfl dX9_sure_80 (fun a5 => ?_)
    refine ev_step (st_iload_n (pc := 83) (j := 1) dX9_sure_83 rfl rfl) ?_
    refine ev_ck (fun ha hS => ?_)
    refine ev_callI (iv_V (As := [.ref (gB G + a5), .int v1]) (st := []) (pc := 84) rfl m_X6_hasDone l_X9_127 i_X6_hasDone e_X6_hasDone ha hS rfl (Nat.le_of_ble_eq_true rfl) rfl dX9_sure_84) (tX6_hasDone G fu a4 a5 v1 h3) (by decide) (by decide) (fun x7 h6 => ?_)
    refine ev_br (br_if_eq (tgt := 93) (pc := 87) dX9_sure_87 (by decide)) (fun _ => ?_) (fun _ => ?_)
    · refine ev_sub (ls' := [(0, .ref (gB G + v0)), (1, .int v1), (2, .int v2), (3, .int v3), (4, .int v4), (5, .int v5), (6, .int v6)]) [0, 1, 2, 3, 4, 5, 6] rfl ?_
      exact tX9_sure_93 G fu h0 v0 v1 v2 v3 v4 v5 v6 k52 hk52 h6
    · refine ev_step (st_inc (pc := 90) (j := 5) (ls' := [(5, .int (v5 + (1 : Int32))), (0, .ref (gB G + v0)), (1, .int v1), (2, .int v2), (3, .int v3), (4, .int v4), (6, .int v6)]) dX9_sure_90 rfl ni_1 (by decide) rfl) ?_
      refine ev_sub (ls' := [(0, .ref (gB G + v0)), (1, .int v1), (2, .int v2), (3, .int v3), (4, .int v4), (5, .int (v5 + (1 : Int32))), (6, .int v6)]) [1, 2, 3, 4, 5, 0, 6] rfl ?_
      exact tX9_sure_93 G fu h0 v0 v1 v2 v3 v4 (v5 + (1 : Int32)) v6 k52 hk52 h6
set_option maxRecDepth 100000 in
set_option maxHeartbeats 4000000 in
theorem tX9_sure (G : gx) (fu : Nat) (v0 : Nat) (v1 : Int32) (v2 : Int32) (v3 : Int32) (v4 : Int32) (h : mh) : Ct lI G yX9_sure cX9_sure 7 (some .int) 8 [.ref (gB G + v0), .int v1, .int v2, .int v3, .int v4] h (fX9_sure fu v0 v1 v2 v3 v4 h) := by
  refine ct_ls (ls := [(0, .ref (gB G + v0)), (1, .int v1), (2, .int v2), (3, .int v3), (4, .int v4)]) rfl (by decide) (Nat.le_of_ble_eq_true rfl) ?_
  unfold fX9_sure
  refine ev_step (st_aload_n (pc := 0) (j := 0) dX9_sure_0 rfl rfl) ?_
  refine ev_getR (pc := 1) k_X9_30 rfl dX9_sure_1 (fun a1 => ?_)
  refine ev_step (st_iload_n (pc := 4) (j := 1) dX9_sure_4 rfl rfl) ?_
  refine ev_ck (fun ha hS => ?_)
  refine ev_callI (iv_V (As := [.int v1]) (st := []) (pc := 5) rfl m_X6_hasListener l_X9_112 i_X6_hasListener e_X6_hasListener ha hS rfl (Nat.le_of_ble_eq_true rfl) rfl dX9_sure_5) (tX6_hasListener G fu a1 v1 h) (by decide) (by decide) (fun x3 h2 => ?_)
  refine ev_br (br_if_eq (tgt := 29) (pc := 8) dX9_sure_8 (by decide)) (fun _ => ?_) (fun _ => ?_)
  · refine ev_step (st_iconst (pc := 29) dX9_sure_29 ni_m1) ?_
    exact ev_iret (pc := 30) dX9_sure_30
  · refine ev_step (st_aload_n (pc := 11) (j := 0) dX9_sure_11 rfl rfl) ?_
    refine ev_getR (pc := 12) k_X9_30 rfl dX9_sure_12 (fun a4 => ?_)
    refine ev_step (st_iload_n (pc := 15) (j := 2) dX9_sure_15 rfl rfl) ?_
    refine ev_ck (fun ha hS => ?_)
    refine ev_callI (iv_V (As := [.int v2]) (st := []) (pc := 16) rfl m_X6_hasRole l_X9_87 i_X6_hasRole e_X6_hasRole ha hS rfl (Nat.le_of_ble_eq_true rfl) rfl dX9_sure_16) (tX6_hasRole G fu a4 v2 h2) (by decide) (by decide) (fun x6 h5 => ?_)
    refine ev_br (br_if_eq (tgt := 29) (pc := 19) dX9_sure_19 (by decide)) (fun _ => ?_) (fun _ => ?_)
    · refine ev_step (st_iconst (pc := 29) dX9_sure_29 ni_m1) ?_
      exact ev_iret (pc := 30) dX9_sure_30
    · refine ev_step (st_iload_n (pc := 22) (j := 3) dX9_sure_22 rfl rfl) ?_
      refine ev_callI (iv_S (As := [.int v3]) (st := []) (pc := 23) m_X9_isNumberOfEvenings l_X9_217 z_X9_isNumberOfEvenings rfl (Nat.le_of_ble_eq_true rfl) rfl dX9_sure_23) (tX9_isNumberOfEvenings G fu v3 h5) (by decide) (by decide) (fun x8 h7 => ?_)
      refine ev_br (br_if_ne (tgt := 31) (pc := 26) dX9_sure_26 (by decide)) (fun _ => ?_) (fun _ => ?_)
      · refine ev_step (st_iconst (pc := 29) dX9_sure_29 ni_m1) ?_
        exact ev_iret (pc := 30) dX9_sure_30
      · refine ev_step (st_iload (pc := 31) (j := 4) dX9_sure_31 rfl) ?_
        refine ev_step (st_iconst (pc := 33) dX9_sure_33 ni_1) ?_
        refine ev_br (br_icmp_lt (tgt := 44) (pc := 34) dX9_sure_34 (by decide)) (fun _ => ?_) (fun _ => ?_)
        · refine ev_step (st_iconst (pc := 44) dX9_sure_44 ni_m1) ?_
          exact ev_iret (pc := 45) dX9_sure_45
        · refine ev_step (st_iload (pc := 37) (j := 4) dX9_sure_37 rfl) ?_
          refine ev_step (st_bipush (pc := 39) dX9_sure_39 nb_20) ?_
          refine ev_br (br_icmp_le (tgt := 46) (pc := 41) dX9_sure_41 (by decide)) (fun _ => ?_) (fun _ => ?_)
          · refine ev_step (st_iconst (pc := 46) dX9_sure_46 ni_0) ?_
            refine ev_step (st_istore (pc := 47) (ls' := [(5, .int ((0 : Int32))), (0, .ref (gB G + v0)), (1, .int v1), (2, .int v2), (3, .int v3), (4, .int v4)]) dX9_sure_47 (by decide) rfl) ?_
            refine ev_step (st_iconst (pc := 49) dX9_sure_49 ni_0) ?_
            refine ev_step (st_istore (pc := 50) (ls' := [(6, .int ((0 : Int32))), (5, .int ((0 : Int32))), (0, .ref (gB G + v0)), (1, .int v1), (2, .int v2), (3, .int v3), (4, .int v4)]) dX9_sure_50 (by decide) rfl) ?_
            refine ev_sub (ls' := [(0, .ref (gB G + v0)), (1, .int v1), (2, .int v2), (3, .int v3), (4, .int v4), (5, .int ((0 : Int32))), (6, .int ((0 : Int32)))]) [2, 3, 4, 5, 6, 1, 0] rfl ?_
            exact tX9_sure_52 G fu h v0 v1 v2 v3 v4 fu ((0 : Int32)) ((0 : Int32)) h7
          · refine ev_step (st_iconst (pc := 44) dX9_sure_44 ni_m1) ?_
            exact ev_iret (pc := 45) dX9_sure_45
