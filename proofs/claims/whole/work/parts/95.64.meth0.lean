theorem dX0_init_0 : decode cX0_init 0 = .ok (.aload_n 0, 1) := by decide +kernel
theorem dX0_init_1 : decode cX0_init 1 = .ok (.invokespecial 3, 3) := by decide +kernel
theorem dX0_init_4 : decode cX0_init 4 = .ok (.aload_n 0, 1) := by decide +kernel
theorem dX0_init_5 : decode cX0_init 5 = .ok (.iconst 0, 1) := by decide +kernel
theorem dX0_init_6 : decode cX0_init 6 = .ok (.putfield 9, 3) := by decide +kernel
theorem dX0_init_9 : decode cX0_init 9 = .ok (.aload_n 0, 1) := by decide +kernel
theorem dX0_init_10 : decode cX0_init 10 = .ok (.iconst 3, 1) := by decide +kernel
theorem dX0_init_11 : decode cX0_init 11 = .ok (.putfield 15, 3) := by decide +kernel
theorem dX0_init_14 : decode cX0_init 14 = .ok (.aload_n 0, 1) := by decide +kernel
theorem dX0_init_15 : decode cX0_init 15 = .ok (.iconst 0, 1) := by decide +kernel
theorem dX0_init_16 : decode cX0_init 16 = .ok (.putfield 18, 3) := by decide +kernel
theorem dX0_init_19 : decode cX0_init 19 = .ok (.aload_n 0, 1) := by decide +kernel
theorem dX0_init_20 : decode cX0_init 20 = .ok (.iconst 0, 1) := by decide +kernel
theorem dX0_init_21 : decode cX0_init 21 = .ok (.putfield 21, 3) := by decide +kernel
theorem dX0_init_24 : decode cX0_init 24 = .ok (.aload_n 0, 1) := by decide +kernel
theorem dX0_init_25 : decode cX0_init 25 = .ok (.iconst 0, 1) := by decide +kernel
theorem dX0_init_26 : decode cX0_init 26 = .ok (.putfield 24, 3) := by decide +kernel
theorem dX0_init_29 : decode cX0_init 29 = .ok (.aload_n 0, 1) := by decide +kernel
theorem dX0_init_30 : decode cX0_init 30 = .ok (.iconst 0, 1) := by decide +kernel
theorem dX0_init_31 : decode cX0_init 31 = .ok (.putfield 28, 3) := by decide +kernel
theorem dX0_init_34 : decode cX0_init 34 = .ok (.aload_n 0, 1) := by decide +kernel
theorem dX0_init_35 : decode cX0_init 35 = .ok (.iconst 0, 1) := by decide +kernel
theorem dX0_init_36 : decode cX0_init 36 = .ok (.putfield 31, 3) := by decide +kernel
theorem dX0_init_39 : decode cX0_init 39 = .ok (.aload_n 0, 1) := by decide +kernel
theorem dX0_init_40 : decode cX0_init 40 = .ok (.iconst 0, 1) := by decide +kernel
theorem dX0_init_41 : decode cX0_init 41 = .ok (.putfield 34, 3) := by decide +kernel
theorem dX0_init_44 : decode cX0_init 44 = .ok (.aload_n 0, 1) := by decide +kernel
theorem dX0_init_45 : decode cX0_init 45 = .ok (.bipush 24, 2) := by decide +kernel
theorem dX0_init_47 : decode cX0_init 47 = .ok (.newarray .int, 2) := by decide +kernel
theorem dX0_init_49 : decode cX0_init 49 = .ok (.putfield 37, 3) := by decide +kernel
theorem dX0_init_52 : decode cX0_init 52 = .ok (.aload_n 0, 1) := by decide +kernel
theorem dX0_init_53 : decode cX0_init 53 = .ok (.iconst 0, 1) := by decide +kernel
theorem dX0_init_54 : decode cX0_init 54 = .ok (.putfield 41, 3) := by decide +kernel
theorem dX0_init_57 : decode cX0_init 57 = .ok (.return_, 1) := by decide +kernel
theorem dX0_open_0 : decode cX0_open 0 = .ok (.aload_n 0, 1) := by decide +kernel
theorem dX0_open_1 : decode cX0_open 1 = .ok (.iload_n 1, 1) := by decide +kernel
theorem dX0_open_2 : decode cX0_open 2 = .ok (.putfield 9, 3) := by decide +kernel
theorem dX0_open_5 : decode cX0_open 5 = .ok (.aload_n 0, 1) := by decide +kernel
theorem dX0_open_6 : decode cX0_open 6 = .ok (.iconst 3, 1) := by decide +kernel
theorem dX0_open_7 : decode cX0_open 7 = .ok (.putfield 15, 3) := by decide +kernel
theorem dX0_open_10 : decode cX0_open 10 = .ok (.aload_n 0, 1) := by decide +kernel
theorem dX0_open_11 : decode cX0_open 11 = .ok (.iconst 0, 1) := by decide +kernel
theorem dX0_open_12 : decode cX0_open 12 = .ok (.putfield 18, 3) := by decide +kernel
theorem dX0_open_15 : decode cX0_open 15 = .ok (.aload_n 0, 1) := by decide +kernel
theorem dX0_open_16 : decode cX0_open 16 = .ok (.iconst 0, 1) := by decide +kernel
theorem dX0_open_17 : decode cX0_open 17 = .ok (.putfield 21, 3) := by decide +kernel
theorem dX0_open_20 : decode cX0_open 20 = .ok (.aload_n 0, 1) := by decide +kernel
theorem dX0_open_21 : decode cX0_open 21 = .ok (.iconst 0, 1) := by decide +kernel
theorem dX0_open_22 : decode cX0_open 22 = .ok (.putfield 24, 3) := by decide +kernel
theorem dX0_open_25 : decode cX0_open 25 = .ok (.aload_n 0, 1) := by decide +kernel
theorem dX0_open_26 : decode cX0_open 26 = .ok (.iconst 0, 1) := by decide +kernel
theorem dX0_open_27 : decode cX0_open 27 = .ok (.putfield 31, 3) := by decide +kernel
theorem dX0_open_30 : decode cX0_open 30 = .ok (.aload_n 0, 1) := by decide +kernel
theorem dX0_open_31 : decode cX0_open 31 = .ok (.iconst 0, 1) := by decide +kernel
theorem dX0_open_32 : decode cX0_open 32 = .ok (.putfield 41, 3) := by decide +kernel
theorem dX0_open_35 : decode cX0_open 35 = .ok (.return_, 1) := by decide +kernel
theorem dX0_endOfPart_0 : decode cX0_endOfPart 0 = .ok (.aload_n 0, 1) := by decide +kernel
theorem dX0_endOfPart_1 : decode cX0_endOfPart 1 = .ok (.getfield 15, 3) := by decide +kernel
theorem dX0_endOfPart_4 : decode cX0_endOfPart 4 = .ok (.tableswitch 37 0 2 #[28, 31, 34], 28) := by decide +kernel
theorem dX0_endOfPart_32 : decode cX0_endOfPart 32 = .ok (.bipush 60, 2) := by decide +kernel
theorem dX0_endOfPart_34 : decode cX0_endOfPart 34 = .ok (.ireturn, 1) := by decide +kernel
theorem dX0_endOfPart_35 : decode cX0_endOfPart 35 = .ok (.bipush 11, 2) := by decide +kernel
theorem dX0_endOfPart_37 : decode cX0_endOfPart 37 = .ok (.ireturn, 1) := by decide +kernel
theorem dX0_endOfPart_38 : decode cX0_endOfPart 38 = .ok (.bipush 12, 2) := by decide +kernel
theorem dX0_endOfPart_40 : decode cX0_endOfPart 40 = .ok (.ireturn, 1) := by decide +kernel
theorem dX0_endOfPart_41 : decode cX0_endOfPart 41 = .ok (.bipush 59, 2) := by decide +kernel
theorem dX0_endOfPart_43 : decode cX0_endOfPart 43 = .ok (.ireturn, 1) := by decide +kernel
theorem dX0_tightnessOf_0 : decode cX0_tightnessOf 0 = .ok (.iload_n 0, 1) := by decide +kernel
theorem dX0_tightnessOf_1 : decode cX0_tightnessOf 1 = .ok (.tableswitch 43 42 47 #[41, 39, 43, 39, 43, 41], 39) := by decide +kernel
theorem dX0_tightnessOf_40 : decode cX0_tightnessOf 40 = .ok (.iconst 1, 1) := by decide +kernel
theorem dX0_tightnessOf_41 : decode cX0_tightnessOf 41 = .ok (.ireturn, 1) := by decide +kernel
theorem dX0_tightnessOf_42 : decode cX0_tightnessOf 42 = .ok (.iconst 2, 1) := by decide +kernel
theorem dX0_tightnessOf_43 : decode cX0_tightnessOf 43 = .ok (.ireturn, 1) := by decide +kernel
theorem dX0_tightnessOf_44 : decode cX0_tightnessOf 44 = .ok (.iconst 0, 1) := by decide +kernel
theorem dX0_tightnessOf_45 : decode cX0_tightnessOf 45 = .ok (.ireturn, 1) := by decide +kernel
theorem dX0_hang_0 : decode cX0_hang 0 = .ok (.aload_n 0, 1) := by decide +kernel
theorem dX0_hang_1 : decode cX0_hang 1 = .ok (.getfield 41, 3) := by decide +kernel
theorem dX0_hang_4 : decode cX0_hang 4 = .ok (.bipush 24, 2) := by decide +kernel
theorem dX0_hang_6 : decode cX0_hang 6 = .ok (.if_icmp .ge 23, 3) := by decide +kernel
theorem dX0_hang_9 : decode cX0_hang 9 = .ok (.aload_n 0, 1) := by decide +kernel
theorem dX0_hang_10 : decode cX0_hang 10 = .ok (.getfield 37, 3) := by decide +kernel
theorem dX0_hang_13 : decode cX0_hang 13 = .ok (.aload_n 0, 1) := by decide +kernel
theorem dX0_hang_14 : decode cX0_hang 14 = .ok (.getfield 41, 3) := by decide +kernel
theorem dX0_hang_17 : decode cX0_hang 17 = .ok (.iload_n 1, 1) := by decide +kernel
theorem dX0_hang_18 : decode cX0_hang 18 = .ok (.iastore, 1) := by decide +kernel
theorem dX0_hang_19 : decode cX0_hang 19 = .ok (.aload_n 0, 1) := by decide +kernel
theorem dX0_hang_20 : decode cX0_hang 20 = .ok (.dup, 1) := by decide +kernel
theorem dX0_hang_21 : decode cX0_hang 21 = .ok (.getfield 41, 3) := by decide +kernel
theorem dX0_hang_24 : decode cX0_hang 24 = .ok (.iconst 1, 1) := by decide +kernel
theorem dX0_hang_25 : decode cX0_hang 25 = .ok (.iadd, 1) := by decide +kernel
theorem dX0_hang_26 : decode cX0_hang 26 = .ok (.putfield 41, 3) := by decide +kernel
theorem dX0_hang_29 : decode cX0_hang 29 = .ok (.return_, 1) := by decide +kernel
theorem dX1_init_0 : decode cX1_init 0 = .ok (.aload_n 0, 1) := by decide +kernel
theorem dX1_init_1 : decode cX1_init 1 = .ok (.invokespecial 5, 3) := by decide +kernel
theorem dX1_init_4 : decode cX1_init 4 = .ok (.aload_n 0, 1) := by decide +kernel
theorem dX1_init_5 : decode cX1_init 5 = .ok (.sipush 400, 3) := by decide +kernel
theorem dX1_init_8 : decode cX1_init 8 = .ok (.newarray .int, 2) := by decide +kernel
theorem dX1_init_10 : decode cX1_init 10 = .ok (.putfield 11, 3) := by decide +kernel
theorem dX1_init_13 : decode cX1_init 13 = .ok (.aload_n 0, 1) := by decide +kernel
theorem dX1_init_14 : decode cX1_init 14 = .ok (.iconst 0, 1) := by decide +kernel
theorem dX1_init_15 : decode cX1_init 15 = .ok (.putfield 15, 3) := by decide +kernel
theorem dX1_init_18 : decode cX1_init 18 = .ok (.aload_n 0, 1) := by decide +kernel
theorem dX1_init_19 : decode cX1_init 19 = .ok (.iconst 4, 1) := by decide +kernel
theorem dX1_init_20 : decode cX1_init 20 = .ok (.newarray .int, 2) := by decide +kernel
theorem dX1_init_22 : decode cX1_init 22 = .ok (.putfield 19, 3) := by decide +kernel
theorem dX1_init_25 : decode cX1_init 25 = .ok (.aload_n 0, 1) := by decide +kernel
theorem dX1_init_26 : decode cX1_init 26 = .ok (.bipush 52, 2) := by decide +kernel
theorem dX1_init_28 : decode cX1_init 28 = .ok (.newarray .int, 2) := by decide +kernel
theorem dX1_init_30 : decode cX1_init 30 = .ok (.putfield 22, 3) := by decide +kernel
theorem dX1_init_33 : decode cX1_init 33 = .ok (.aload_n 0, 1) := by decide +kernel
theorem dX1_init_34 : decode cX1_init 34 = .ok (.iconst 4, 1) := by decide +kernel
theorem dX1_init_35 : decode cX1_init 35 = .ok (.newarray .int, 2) := by decide +kernel
theorem dX1_init_37 : decode cX1_init 37 = .ok (.putfield 25, 3) := by decide +kernel
theorem dX1_init_40 : decode cX1_init 40 = .ok (.aload_n 0, 1) := by decide +kernel
theorem dX1_init_41 : decode cX1_init 41 = .ok (.bipush 9, 2) := by decide +kernel
theorem dX1_init_43 : decode cX1_init 43 = .ok (.newarray .int, 2) := by decide +kernel
theorem dX1_init_45 : decode cX1_init 45 = .ok (.putfield 28, 3) := by decide +kernel
theorem dX1_init_48 : decode cX1_init 48 = .ok (.aload_n 0, 1) := by decide +kernel
theorem dX1_init_49 : decode cX1_init 49 = .ok (.bipush 24, 2) := by decide +kernel
theorem dX1_init_51 : decode cX1_init 51 = .ok (.newarray .int, 2) := by decide +kernel
theorem dX1_init_53 : decode cX1_init 53 = .ok (.putfield 31, 3) := by decide +kernel
theorem dX1_init_56 : decode cX1_init 56 = .ok (.aload_n 0, 1) := by decide +kernel
theorem dX1_init_57 : decode cX1_init 57 = .ok (.iconst 0, 1) := by decide +kernel
theorem dX1_init_58 : decode cX1_init 58 = .ok (.putfield 34, 3) := by decide +kernel
theorem dX1_init_61 : decode cX1_init 61 = .ok (.return_, 1) := by decide +kernel
theorem dX1_open_0 : decode cX1_open 0 = .ok (.aload_n 0, 1) := by decide +kernel
theorem dX1_open_1 : decode cX1_open 1 = .ok (.getfield 19, 3) := by decide +kernel
theorem dX1_open_4 : decode cX1_open 4 = .ok (.iload_n 1, 1) := by decide +kernel
theorem dX1_open_5 : decode cX1_open 5 = .ok (.aload_n 0, 1) := by decide +kernel
theorem dX1_open_6 : decode cX1_open 6 = .ok (.getfield 15, 3) := by decide +kernel
theorem dX1_open_9 : decode cX1_open 9 = .ok (.iastore, 1) := by decide +kernel
theorem dX1_open_10 : decode cX1_open 10 = .ok (.aload_n 0, 1) := by decide +kernel
theorem dX1_open_11 : decode cX1_open 11 = .ok (.getfield 25, 3) := by decide +kernel
theorem dX1_open_14 : decode cX1_open 14 = .ok (.iload_n 1, 1) := by decide +kernel
theorem dX1_open_15 : decode cX1_open 15 = .ok (.iconst 0, 1) := by decide +kernel
theorem dX1_open_16 : decode cX1_open 16 = .ok (.iastore, 1) := by decide +kernel
theorem dX1_open_17 : decode cX1_open 17 = .ok (.return_, 1) := by decide +kernel
theorem dX1_put_0 : decode cX1_put 0 = .ok (.aload_n 0, 1) := by decide +kernel
theorem dX1_put_1 : decode cX1_put 1 = .ok (.getfield 15, 3) := by decide +kernel
theorem dX1_put_4 : decode cX1_put 4 = .ok (.sipush 400, 3) := by decide +kernel
theorem dX1_put_7 : decode cX1_put 7 = .ok (.if_icmp .ge 23, 3) := by decide +kernel
theorem dX1_put_10 : decode cX1_put 10 = .ok (.aload_n 0, 1) := by decide +kernel
theorem dX1_put_11 : decode cX1_put 11 = .ok (.getfield 11, 3) := by decide +kernel
theorem dX1_put_14 : decode cX1_put 14 = .ok (.aload_n 0, 1) := by decide +kernel
theorem dX1_put_15 : decode cX1_put 15 = .ok (.getfield 15, 3) := by decide +kernel
theorem dX1_put_18 : decode cX1_put 18 = .ok (.iload_n 1, 1) := by decide +kernel
theorem dX1_put_19 : decode cX1_put 19 = .ok (.iastore, 1) := by decide +kernel
theorem dX1_put_20 : decode cX1_put 20 = .ok (.aload_n 0, 1) := by decide +kernel
theorem dX1_put_21 : decode cX1_put 21 = .ok (.dup, 1) := by decide +kernel
theorem dX1_put_22 : decode cX1_put 22 = .ok (.getfield 15, 3) := by decide +kernel
theorem dX1_put_25 : decode cX1_put 25 = .ok (.iconst 1, 1) := by decide +kernel
theorem dX1_put_26 : decode cX1_put 26 = .ok (.iadd, 1) := by decide +kernel
theorem dX1_put_27 : decode cX1_put 27 = .ok (.putfield 15, 3) := by decide +kernel
theorem dX1_put_30 : decode cX1_put 30 = .ok (.return_, 1) := by decide +kernel
theorem dX1_endPart_0 : decode cX1_endPart 0 = .ok (.aload_n 0, 1) := by decide +kernel
theorem dX1_endPart_1 : decode cX1_endPart 1 = .ok (.getfield 25, 3) := by decide +kernel
theorem dX1_endPart_4 : decode cX1_endPart 4 = .ok (.iload_n 1, 1) := by decide +kernel
theorem dX1_endPart_5 : decode cX1_endPart 5 = .ok (.iaload, 1) := by decide +kernel
theorem dX1_endPart_6 : decode cX1_endPart 6 = .ok (.bipush 13, 2) := by decide +kernel
theorem dX1_endPart_8 : decode cX1_endPart 8 = .ok (.if_icmp .ge 33, 3) := by decide +kernel
theorem dX1_endPart_11 : decode cX1_endPart 11 = .ok (.aload_n 0, 1) := by decide +kernel
theorem dX1_endPart_12 : decode cX1_endPart 12 = .ok (.getfield 22, 3) := by decide +kernel
theorem dX1_endPart_15 : decode cX1_endPart 15 = .ok (.iload_n 1, 1) := by decide +kernel
theorem dX1_endPart_16 : decode cX1_endPart 16 = .ok (.bipush 13, 2) := by decide +kernel
theorem dX1_endPart_18 : decode cX1_endPart 18 = .ok (.imul, 1) := by decide +kernel
theorem dX1_endPart_19 : decode cX1_endPart 19 = .ok (.aload_n 0, 1) := by decide +kernel
theorem dX1_endPart_20 : decode cX1_endPart 20 = .ok (.getfield 25, 3) := by decide +kernel
theorem dX1_endPart_23 : decode cX1_endPart 23 = .ok (.iload_n 1, 1) := by decide +kernel
theorem dX1_endPart_24 : decode cX1_endPart 24 = .ok (.iaload, 1) := by decide +kernel
theorem dX1_endPart_25 : decode cX1_endPart 25 = .ok (.iadd, 1) := by decide +kernel
theorem dX1_endPart_26 : decode cX1_endPart 26 = .ok (.aload_n 0, 1) := by decide +kernel
theorem dX1_endPart_27 : decode cX1_endPart 27 = .ok (.getfield 15, 3) := by decide +kernel
theorem dX1_endPart_30 : decode cX1_endPart 30 = .ok (.iastore, 1) := by decide +kernel
theorem dX1_endPart_31 : decode cX1_endPart 31 = .ok (.aload_n 0, 1) := by decide +kernel
theorem dX1_endPart_32 : decode cX1_endPart 32 = .ok (.getfield 25, 3) := by decide +kernel
theorem dX1_endPart_35 : decode cX1_endPart 35 = .ok (.iload_n 1, 1) := by decide +kernel
theorem dX1_endPart_36 : decode cX1_endPart 36 = .ok (.dup2, 1) := by decide +kernel
theorem dX1_endPart_37 : decode cX1_endPart 37 = .ok (.iaload, 1) := by decide +kernel
theorem dX1_endPart_38 : decode cX1_endPart 38 = .ok (.iconst 1, 1) := by decide +kernel
theorem dX1_endPart_39 : decode cX1_endPart 39 = .ok (.iadd, 1) := by decide +kernel
theorem dX1_endPart_40 : decode cX1_endPart 40 = .ok (.iastore, 1) := by decide +kernel
theorem dX1_endPart_41 : decode cX1_endPart 41 = .ok (.return_, 1) := by decide +kernel
theorem dX1_joined_0 : decode cX1_joined 0 = .ok (.iload_n 1, 1) := by decide +kernel
theorem dX1_joined_1 : decode cX1_joined 1 = .ok (.tableswitch 43 42 45 #[39, 31, 43, 35], 31) := by decide +kernel
theorem dX1_joined_32 : decode cX1_joined 32 = .ok (.iload_n 2, 1) := by decide +kernel
theorem dX1_joined_33 : decode cX1_joined 33 = .ok (.iload_n 3, 1) := by decide +kernel
theorem dX1_joined_34 : decode cX1_joined 34 = .ok (.iadd, 1) := by decide +kernel
theorem dX1_joined_35 : decode cX1_joined 35 = .ok (.ireturn, 1) := by decide +kernel
theorem dX1_joined_36 : decode cX1_joined 36 = .ok (.iload_n 2, 1) := by decide +kernel
theorem dX1_joined_37 : decode cX1_joined 37 = .ok (.iload_n 3, 1) := by decide +kernel
theorem dX1_joined_38 : decode cX1_joined 38 = .ok (.isub, 1) := by decide +kernel
theorem dX1_joined_39 : decode cX1_joined 39 = .ok (.ireturn, 1) := by decide +kernel
theorem dX1_joined_40 : decode cX1_joined 40 = .ok (.iload_n 2, 1) := by decide +kernel
theorem dX1_joined_41 : decode cX1_joined 41 = .ok (.iload_n 3, 1) := by decide +kernel
theorem dX1_joined_42 : decode cX1_joined 42 = .ok (.imul, 1) := by decide +kernel
theorem dX1_joined_43 : decode cX1_joined 43 = .ok (.ireturn, 1) := by decide +kernel
theorem dX1_joined_44 : decode cX1_joined 44 = .ok (.aload_n 0, 1) := by decide +kernel
theorem dX1_joined_45 : decode cX1_joined 45 = .ok (.aload_n 0, 1) := by decide +kernel
theorem dX1_joined_46 : decode cX1_joined 46 = .ok (.getfield 34, 3) := by decide +kernel
theorem dX1_joined_49 : decode cX1_joined 49 = .ok (.ifCond .ne 7, 3) := by decide +kernel
theorem dX1_joined_52 : decode cX1_joined 52 = .ok (.iload_n 3, 1) := by decide +kernel
theorem dX1_joined_53 : decode cX1_joined 53 = .ok (.ifCond .ne 7, 3) := by decide +kernel
theorem dX1_joined_56 : decode cX1_joined 56 = .ok (.iconst 1, 1) := by decide +kernel
theorem dX1_joined_57 : decode cX1_joined 57 = .ok (.goto 4, 3) := by decide +kernel
theorem dX1_joined_60 : decode cX1_joined 60 = .ok (.iconst 0, 1) := by decide +kernel
theorem dX1_joined_61 : decode cX1_joined 61 = .ok (.putfield 34, 3) := by decide +kernel
theorem dX1_joined_64 : decode cX1_joined 64 = .ok (.iload_n 3, 1) := by decide +kernel
theorem dX1_joined_65 : decode cX1_joined 65 = .ok (.ifCond .ne 7, 3) := by decide +kernel
theorem dX1_joined_68 : decode cX1_joined 68 = .ok (.iconst 0, 1) := by decide +kernel
theorem dX1_joined_69 : decode cX1_joined 69 = .ok (.goto 6, 3) := by decide +kernel
theorem dX1_joined_72 : decode cX1_joined 72 = .ok (.iload_n 2, 1) := by decide +kernel
theorem dX1_joined_73 : decode cX1_joined 73 = .ok (.iload_n 3, 1) := by decide +kernel
theorem dX1_joined_74 : decode cX1_joined 74 = .ok (.idiv, 1) := by decide +kernel
theorem dX1_joined_75 : decode cX1_joined 75 = .ok (.ireturn, 1) := by decide +kernel
theorem dX2_forgetAll_0 : decode cX2_forgetAll 0 = .ok (.aload_n 0, 1) := by decide +kernel
theorem dX2_forgetAll_1 : decode cX2_forgetAll 1 = .ok (.iconst 0, 1) := by decide +kernel
theorem dX2_forgetAll_2 : decode cX2_forgetAll 2 = .ok (.putfield 21, 3) := by decide +kernel
theorem dX2_forgetAll_5 : decode cX2_forgetAll 5 = .ok (.aload_n 0, 1) := by decide +kernel
theorem dX2_forgetAll_6 : decode cX2_forgetAll 6 = .ok (.iconst 0, 1) := by decide +kernel
theorem dX2_forgetAll_7 : decode cX2_forgetAll 7 = .ok (.putfield 27, 3) := by decide +kernel
theorem dX2_forgetAll_10 : decode cX2_forgetAll 10 = .ok (.return_, 1) := by decide +kernel
theorem dX3_init_0 : decode cX3_init 0 = .ok (.aload_n 0, 1) := by decide +kernel
theorem dX3_init_1 : decode cX3_init 1 = .ok (.invokespecial 3, 3) := by decide +kernel
theorem dX3_init_4 : decode cX3_init 4 = .ok (.aload_n 0, 1) := by decide +kernel
theorem dX3_init_5 : decode cX3_init 5 = .ok (.bipush 6, 2) := by decide +kernel
theorem dX3_init_7 : decode cX3_init 7 = .ok (.newarray .int, 2) := by decide +kernel
theorem dX3_init_9 : decode cX3_init 9 = .ok (.putfield 9, 3) := by decide +kernel
theorem dX3_init_12 : decode cX3_init 12 = .ok (.aload_n 0, 1) := by decide +kernel
theorem dX3_init_13 : decode cX3_init 13 = .ok (.bipush 6, 2) := by decide +kernel
theorem dX3_init_15 : decode cX3_init 15 = .ok (.newarray .int, 2) := by decide +kernel
theorem dX3_init_17 : decode cX3_init 17 = .ok (.putfield 15, 3) := by decide +kernel
theorem dX3_init_20 : decode cX3_init 20 = .ok (.aload_n 0, 1) := by decide +kernel
theorem dX3_init_21 : decode cX3_init 21 = .ok (.bipush 6, 2) := by decide +kernel
theorem dX3_init_23 : decode cX3_init 23 = .ok (.newarray .int, 2) := by decide +kernel
theorem dX3_init_25 : decode cX3_init 25 = .ok (.putfield 18, 3) := by decide +kernel
theorem dX3_init_28 : decode cX3_init 28 = .ok (.aload_n 0, 1) := by decide +kernel
theorem dX3_init_29 : decode cX3_init 29 = .ok (.bipush 6, 2) := by decide +kernel
theorem dX3_init_31 : decode cX3_init 31 = .ok (.newarray .int, 2) := by decide +kernel
theorem dX3_init_33 : decode cX3_init 33 = .ok (.putfield 21, 3) := by decide +kernel
theorem dX3_init_36 : decode cX3_init 36 = .ok (.aload_n 0, 1) := by decide +kernel
theorem dX3_init_37 : decode cX3_init 37 = .ok (.iconst 0, 1) := by decide +kernel
theorem dX3_init_38 : decode cX3_init 38 = .ok (.putfield 24, 3) := by decide +kernel
theorem dX3_init_41 : decode cX3_init 41 = .ok (.aload_n 0, 1) := by decide +kernel
theorem dX3_init_42 : decode cX3_init 42 = .ok (.iconst 0, 1) := by decide +kernel
theorem dX3_init_43 : decode cX3_init 43 = .ok (.putfield 28, 3) := by decide +kernel
theorem dX3_init_46 : decode cX3_init 46 = .ok (.aload_n 0, 1) := by decide +kernel
theorem dX3_init_47 : decode cX3_init 47 = .ok (.iconst (-1), 1) := by decide +kernel
theorem dX3_init_48 : decode cX3_init 48 = .ok (.putfield 31, 3) := by decide +kernel
theorem dX3_init_51 : decode cX3_init 51 = .ok (.aload_n 0, 1) := by decide +kernel
theorem dX3_init_52 : decode cX3_init 52 = .ok (.iconst 0, 1) := by decide +kernel
theorem dX3_init_53 : decode cX3_init 53 = .ok (.putfield 34, 3) := by decide +kernel
theorem dX3_init_56 : decode cX3_init 56 = .ok (.return_, 1) := by decide +kernel
theorem dX3_become_0 : decode cX3_become 0 = .ok (.aload_n 1, 1) := by decide +kernel
theorem dX3_become_1 : decode cX3_become 1 = .ok (.getfield 9, 3) := by decide +kernel
theorem dX3_become_4 : decode cX3_become 4 = .ok (.iconst 0, 1) := by decide +kernel
theorem dX3_become_5 : decode cX3_become 5 = .ok (.aload_n 0, 1) := by decide +kernel
theorem dX3_become_6 : decode cX3_become 6 = .ok (.getfield 9, 3) := by decide +kernel
theorem dX3_become_9 : decode cX3_become 9 = .ok (.iconst 0, 1) := by decide +kernel
theorem dX3_become_10 : decode cX3_become 10 = .ok (.bipush 6, 2) := by decide +kernel
theorem dX3_become_12 : decode cX3_become 12 = .ok (.invokestatic 37, 3) := by decide +kernel
theorem dX3_become_15 : decode cX3_become 15 = .ok (.aload_n 1, 1) := by decide +kernel
theorem dX3_become_16 : decode cX3_become 16 = .ok (.getfield 15, 3) := by decide +kernel
theorem dX3_become_19 : decode cX3_become 19 = .ok (.iconst 0, 1) := by decide +kernel
theorem dX3_become_20 : decode cX3_become 20 = .ok (.aload_n 0, 1) := by decide +kernel
theorem dX3_become_21 : decode cX3_become 21 = .ok (.getfield 15, 3) := by decide +kernel
theorem dX3_become_24 : decode cX3_become 24 = .ok (.iconst 0, 1) := by decide +kernel
theorem dX3_become_25 : decode cX3_become 25 = .ok (.bipush 6, 2) := by decide +kernel
theorem dX3_become_27 : decode cX3_become 27 = .ok (.invokestatic 37, 3) := by decide +kernel
theorem dX3_become_30 : decode cX3_become 30 = .ok (.aload_n 1, 1) := by decide +kernel
theorem dX3_become_31 : decode cX3_become 31 = .ok (.getfield 18, 3) := by decide +kernel
theorem dX3_become_34 : decode cX3_become 34 = .ok (.iconst 0, 1) := by decide +kernel
theorem dX3_become_35 : decode cX3_become 35 = .ok (.aload_n 0, 1) := by decide +kernel
theorem dX3_become_36 : decode cX3_become 36 = .ok (.getfield 18, 3) := by decide +kernel
theorem dX3_become_39 : decode cX3_become 39 = .ok (.iconst 0, 1) := by decide +kernel
theorem dX3_become_40 : decode cX3_become 40 = .ok (.bipush 6, 2) := by decide +kernel
theorem dX3_become_42 : decode cX3_become 42 = .ok (.invokestatic 37, 3) := by decide +kernel
theorem dX3_become_45 : decode cX3_become 45 = .ok (.aload_n 1, 1) := by decide +kernel
theorem dX3_become_46 : decode cX3_become 46 = .ok (.getfield 21, 3) := by decide +kernel
theorem dX3_become_49 : decode cX3_become 49 = .ok (.iconst 0, 1) := by decide +kernel
theorem dX3_become_50 : decode cX3_become 50 = .ok (.aload_n 0, 1) := by decide +kernel
theorem dX3_become_51 : decode cX3_become 51 = .ok (.getfield 21, 3) := by decide +kernel
theorem dX3_become_54 : decode cX3_become 54 = .ok (.iconst 0, 1) := by decide +kernel
theorem dX3_become_55 : decode cX3_become 55 = .ok (.bipush 6, 2) := by decide +kernel
theorem dX3_become_57 : decode cX3_become 57 = .ok (.invokestatic 37, 3) := by decide +kernel
theorem dX3_become_60 : decode cX3_become 60 = .ok (.aload_n 0, 1) := by decide +kernel
theorem dX3_become_61 : decode cX3_become 61 = .ok (.aload_n 1, 1) := by decide +kernel
theorem dX3_become_62 : decode cX3_become 62 = .ok (.getfield 24, 3) := by decide +kernel
theorem dX3_become_65 : decode cX3_become 65 = .ok (.putfield 24, 3) := by decide +kernel
theorem dX3_become_68 : decode cX3_become 68 = .ok (.aload_n 0, 1) := by decide +kernel
theorem dX3_become_69 : decode cX3_become 69 = .ok (.aload_n 1, 1) := by decide +kernel
theorem dX3_become_70 : decode cX3_become 70 = .ok (.getfield 28, 3) := by decide +kernel
theorem dX3_become_73 : decode cX3_become 73 = .ok (.putfield 28, 3) := by decide +kernel
theorem dX3_become_76 : decode cX3_become 76 = .ok (.aload_n 0, 1) := by decide +kernel
theorem dX3_become_77 : decode cX3_become 77 = .ok (.aload_n 1, 1) := by decide +kernel
theorem dX3_become_78 : decode cX3_become 78 = .ok (.getfield 31, 3) := by decide +kernel
theorem dX3_become_81 : decode cX3_become 81 = .ok (.putfield 31, 3) := by decide +kernel
theorem dX3_become_84 : decode cX3_become 84 = .ok (.aload_n 0, 1) := by decide +kernel
theorem dX3_become_85 : decode cX3_become 85 = .ok (.aload_n 1, 1) := by decide +kernel
theorem dX3_become_86 : decode cX3_become 86 = .ok (.getfield 34, 3) := by decide +kernel
theorem dX3_become_89 : decode cX3_become 89 = .ok (.putfield 34, 3) := by decide +kernel
theorem dX3_become_92 : decode cX3_become 92 = .ok (.return_, 1) := by decide +kernel
theorem dX3_beliefOfAll_0 : decode cX3_beliefOfAll 0 = .ok (.iconst 0, 1) := by decide +kernel
theorem dX3_beliefOfAll_1 : decode cX3_beliefOfAll 1 = .ok (.istore_n 1, 1) := by decide +kernel
theorem dX3_beliefOfAll_2 : decode cX3_beliefOfAll 2 = .ok (.iconst 0, 1) := by decide +kernel
theorem dX3_beliefOfAll_3 : decode cX3_beliefOfAll 3 = .ok (.istore_n 2, 1) := by decide +kernel
theorem dX3_beliefOfAll_4 : decode cX3_beliefOfAll 4 = .ok (.iload_n 2, 1) := by decide +kernel
theorem dX3_beliefOfAll_5 : decode cX3_beliefOfAll 5 = .ok (.bipush 6, 2) := by decide +kernel
theorem dX3_beliefOfAll_7 : decode cX3_beliefOfAll 7 = .ok (.if_icmp .ge 18, 3) := by decide +kernel
theorem dX3_beliefOfAll_10 : decode cX3_beliefOfAll 10 = .ok (.iload_n 1, 1) := by decide +kernel
theorem dX3_beliefOfAll_11 : decode cX3_beliefOfAll 11 = .ok (.aload_n 0, 1) := by decide +kernel
theorem dX3_beliefOfAll_12 : decode cX3_beliefOfAll 12 = .ok (.getfield 15, 3) := by decide +kernel
theorem dX3_beliefOfAll_15 : decode cX3_beliefOfAll 15 = .ok (.iload_n 2, 1) := by decide +kernel
theorem dX3_beliefOfAll_16 : decode cX3_beliefOfAll 16 = .ok (.iaload, 1) := by decide +kernel
theorem dX3_beliefOfAll_17 : decode cX3_beliefOfAll 17 = .ok (.iadd, 1) := by decide +kernel
theorem dX3_beliefOfAll_18 : decode cX3_beliefOfAll 18 = .ok (.istore_n 1, 1) := by decide +kernel
theorem dX3_beliefOfAll_19 : decode cX3_beliefOfAll 19 = .ok (.iinc 2 1, 3) := by decide +kernel
theorem dX3_beliefOfAll_22 : decode cX3_beliefOfAll 22 = .ok (.goto (-18), 3) := by decide +kernel
theorem dX3_beliefOfAll_25 : decode cX3_beliefOfAll 25 = .ok (.iload_n 1, 1) := by decide +kernel
theorem dX3_beliefOfAll_26 : decode cX3_beliefOfAll 26 = .ok (.ireturn, 1) := by decide +kernel
theorem dX3_timesHeard_0 : decode cX3_timesHeard 0 = .ok (.iconst 0, 1) := by decide +kernel
theorem dX3_timesHeard_1 : decode cX3_timesHeard 1 = .ok (.istore_n 1, 1) := by decide +kernel
theorem dX3_timesHeard_2 : decode cX3_timesHeard 2 = .ok (.iconst 0, 1) := by decide +kernel
theorem dX3_timesHeard_3 : decode cX3_timesHeard 3 = .ok (.istore_n 2, 1) := by decide +kernel
theorem dX3_timesHeard_4 : decode cX3_timesHeard 4 = .ok (.iload_n 2, 1) := by decide +kernel
theorem dX3_timesHeard_5 : decode cX3_timesHeard 5 = .ok (.bipush 6, 2) := by decide +kernel
theorem dX3_timesHeard_7 : decode cX3_timesHeard 7 = .ok (.if_icmp .ge 18, 3) := by decide +kernel
theorem dX3_timesHeard_10 : decode cX3_timesHeard 10 = .ok (.iload_n 1, 1) := by decide +kernel
theorem dX3_timesHeard_11 : decode cX3_timesHeard 11 = .ok (.aload_n 0, 1) := by decide +kernel
theorem dX3_timesHeard_12 : decode cX3_timesHeard 12 = .ok (.getfield 18, 3) := by decide +kernel
theorem dX3_timesHeard_15 : decode cX3_timesHeard 15 = .ok (.iload_n 2, 1) := by decide +kernel
theorem dX3_timesHeard_16 : decode cX3_timesHeard 16 = .ok (.iaload, 1) := by decide +kernel
theorem dX3_timesHeard_17 : decode cX3_timesHeard 17 = .ok (.iadd, 1) := by decide +kernel
theorem dX3_timesHeard_18 : decode cX3_timesHeard 18 = .ok (.istore_n 1, 1) := by decide +kernel
theorem dX3_timesHeard_19 : decode cX3_timesHeard 19 = .ok (.iinc 2 1, 3) := by decide +kernel
theorem dX3_timesHeard_22 : decode cX3_timesHeard 22 = .ok (.goto (-18), 3) := by decide +kernel
theorem dX3_timesHeard_25 : decode cX3_timesHeard 25 = .ok (.iload_n 1, 1) := by decide +kernel
theorem dX3_timesHeard_26 : decode cX3_timesHeard 26 = .ok (.ireturn, 1) := by decide +kernel
theorem dX4_init_0 : decode cX4_init 0 = .ok (.aload_n 0, 1) := by decide +kernel
theorem dX4_init_1 : decode cX4_init 1 = .ok (.invokespecial 3, 3) := by decide +kernel
theorem dX4_init_4 : decode cX4_init 4 = .ok (.aload_n 0, 1) := by decide +kernel
theorem dX4_init_5 : decode cX4_init 5 = .ok (.iconst 5, 1) := by decide +kernel
theorem dX4_init_6 : decode cX4_init 6 = .ok (.anewarray 9, 3) := by decide +kernel
theorem dX4_init_9 : decode cX4_init 9 = .ok (.putfield 11, 3) := by decide +kernel
theorem dX4_init_12 : decode cX4_init 12 = .ok (.aload_n 0, 1) := by decide +kernel
theorem dX4_init_13 : decode cX4_init 13 = .ok (.iconst 4, 1) := by decide +kernel
theorem dX4_init_14 : decode cX4_init 14 = .ok (.newarray .int, 2) := by decide +kernel
theorem dX4_init_16 : decode cX4_init 16 = .ok (.putfield 17, 3) := by decide +kernel
theorem dX4_init_19 : decode cX4_init 19 = .ok (.iconst 0, 1) := by decide +kernel
theorem dX4_init_20 : decode cX4_init 20 = .ok (.istore_n 1, 1) := by decide +kernel
theorem dX4_init_21 : decode cX4_init 21 = .ok (.iload_n 1, 1) := by decide +kernel
theorem dX4_init_22 : decode cX4_init 22 = .ok (.iconst 4, 1) := by decide +kernel
theorem dX4_init_23 : decode cX4_init 23 = .ok (.if_icmp .gt 22, 3) := by decide +kernel
theorem dX4_init_26 : decode cX4_init 26 = .ok (.aload_n 0, 1) := by decide +kernel
theorem dX4_init_27 : decode cX4_init 27 = .ok (.getfield 11, 3) := by decide +kernel
theorem dX4_init_30 : decode cX4_init 30 = .ok (.iload_n 1, 1) := by decide +kernel
theorem dX4_init_31 : decode cX4_init 31 = .ok (.new 9, 3) := by decide +kernel
theorem dX4_init_34 : decode cX4_init 34 = .ok (.dup, 1) := by decide +kernel
theorem dX4_init_35 : decode cX4_init 35 = .ok (.invokespecial 21, 3) := by decide +kernel
theorem dX4_init_38 : decode cX4_init 38 = .ok (.aastore, 1) := by decide +kernel
theorem dX4_init_39 : decode cX4_init 39 = .ok (.iinc 1 1, 3) := by decide +kernel
theorem dX4_init_42 : decode cX4_init 42 = .ok (.goto (-21), 3) := by decide +kernel
theorem dX4_init_45 : decode cX4_init 45 = .ok (.return_, 1) := by decide +kernel
theorem dX5_isLaw_0 : decode cX5_isLaw 0 = .ok (.iload_n 0, 1) := by decide +kernel
theorem dX5_isLaw_1 : decode cX5_isLaw 1 = .ok (.iconst 3, 1) := by decide +kernel
theorem dX5_isLaw_2 : decode cX5_isLaw 2 = .ok (.if_icmp .lt 13, 3) := by decide +kernel
theorem dX5_isLaw_5 : decode cX5_isLaw 5 = .ok (.iload_n 0, 1) := by decide +kernel
theorem dX5_isLaw_6 : decode cX5_isLaw 6 = .ok (.bipush 7, 2) := by decide +kernel
theorem dX5_isLaw_8 : decode cX5_isLaw 8 = .ok (.if_icmp .ge 7, 3) := by decide +kernel
theorem dX5_isLaw_11 : decode cX5_isLaw 11 = .ok (.iconst 1, 1) := by decide +kernel
theorem dX5_isLaw_12 : decode cX5_isLaw 12 = .ok (.goto 4, 3) := by decide +kernel
theorem dX5_isLaw_15 : decode cX5_isLaw 15 = .ok (.iconst 0, 1) := by decide +kernel
theorem dX5_isLaw_16 : decode cX5_isLaw 16 = .ok (.ireturn, 1) := by decide +kernel
theorem dX5_hasRoomFor_0 : decode cX5_hasRoomFor 0 = .ok (.iload_n 1, 1) := by decide +kernel
theorem dX5_hasRoomFor_1 : decode cX5_hasRoomFor 1 = .ok (.tableswitch 72 0 2 #[27, 42, 57], 27) := by decide +kernel
theorem dX5_hasRoomFor_28 : decode cX5_hasRoomFor 28 = .ok (.aload_n 0, 1) := by decide +kernel
theorem dX5_hasRoomFor_29 : decode cX5_hasRoomFor 29 = .ok (.getfield 95, 3) := by decide +kernel
theorem dX5_hasRoomFor_32 : decode cX5_hasRoomFor 32 = .ok (.bipush 6, 2) := by decide +kernel
theorem dX5_hasRoomFor_34 : decode cX5_hasRoomFor 34 = .ok (.if_icmp .ge 7, 3) := by decide +kernel
theorem dX5_hasRoomFor_37 : decode cX5_hasRoomFor 37 = .ok (.iconst 1, 1) := by decide +kernel
theorem dX5_hasRoomFor_38 : decode cX5_hasRoomFor 38 = .ok (.goto 4, 3) := by decide +kernel
theorem dX5_hasRoomFor_41 : decode cX5_hasRoomFor 41 = .ok (.iconst 0, 1) := by decide +kernel
theorem dX5_hasRoomFor_42 : decode cX5_hasRoomFor 42 = .ok (.ireturn, 1) := by decide +kernel
theorem dX5_hasRoomFor_43 : decode cX5_hasRoomFor 43 = .ok (.aload_n 0, 1) := by decide +kernel
theorem dX5_hasRoomFor_44 : decode cX5_hasRoomFor 44 = .ok (.getfield 98, 3) := by decide +kernel
theorem dX5_hasRoomFor_47 : decode cX5_hasRoomFor 47 = .ok (.bipush 6, 2) := by decide +kernel
theorem dX5_hasRoomFor_49 : decode cX5_hasRoomFor 49 = .ok (.if_icmp .ge 7, 3) := by decide +kernel
theorem dX5_hasRoomFor_52 : decode cX5_hasRoomFor 52 = .ok (.iconst 1, 1) := by decide +kernel
theorem dX5_hasRoomFor_53 : decode cX5_hasRoomFor 53 = .ok (.goto 4, 3) := by decide +kernel
theorem dX5_hasRoomFor_56 : decode cX5_hasRoomFor 56 = .ok (.iconst 0, 1) := by decide +kernel
theorem dX5_hasRoomFor_57 : decode cX5_hasRoomFor 57 = .ok (.ireturn, 1) := by decide +kernel
theorem dX5_hasRoomFor_58 : decode cX5_hasRoomFor 58 = .ok (.aload_n 0, 1) := by decide +kernel
theorem dX5_hasRoomFor_59 : decode cX5_hasRoomFor 59 = .ok (.getfield 101, 3) := by decide +kernel
theorem dX5_hasRoomFor_62 : decode cX5_hasRoomFor 62 = .ok (.bipush 6, 2) := by decide +kernel
theorem dX5_hasRoomFor_64 : decode cX5_hasRoomFor 64 = .ok (.if_icmp .ge 7, 3) := by decide +kernel
theorem dX5_hasRoomFor_67 : decode cX5_hasRoomFor 67 = .ok (.iconst 1, 1) := by decide +kernel
theorem dX5_hasRoomFor_68 : decode cX5_hasRoomFor 68 = .ok (.goto 4, 3) := by decide +kernel
theorem dX5_hasRoomFor_71 : decode cX5_hasRoomFor 71 = .ok (.iconst 0, 1) := by decide +kernel
theorem dX5_hasRoomFor_72 : decode cX5_hasRoomFor 72 = .ok (.ireturn, 1) := by decide +kernel
theorem dX5_hasRoomFor_73 : decode cX5_hasRoomFor 73 = .ok (.iconst 1, 1) := by decide +kernel
theorem dX5_hasRoomFor_74 : decode cX5_hasRoomFor 74 = .ok (.ireturn, 1) := by decide +kernel
theorem dX5_leastNumber_0 : decode cX5_leastNumber 0 = .ok (.aload_n 0, 1) := by decide +kernel
theorem dX5_leastNumber_1 : decode cX5_leastNumber 1 = .ok (.getfield 25, 3) := by decide +kernel
theorem dX5_leastNumber_4 : decode cX5_leastNumber 4 = .ok (.bipush 8, 2) := by decide +kernel
theorem dX5_leastNumber_6 : decode cX5_leastNumber 6 = .ok (.if_icmp .ne 7, 3) := by decide +kernel
theorem dX5_leastNumber_9 : decode cX5_leastNumber 9 = .ok (.iconst 1, 1) := by decide +kernel
theorem dX5_leastNumber_10 : decode cX5_leastNumber 10 = .ok (.goto 4, 3) := by decide +kernel
theorem dX5_leastNumber_13 : decode cX5_leastNumber 13 = .ok (.iconst 0, 1) := by decide +kernel
theorem dX5_leastNumber_14 : decode cX5_leastNumber 14 = .ok (.ireturn, 1) := by decide +kernel
theorem dX5_mostNumber_0 : decode cX5_mostNumber 0 = .ok (.aload_n 0, 1) := by decide +kernel
theorem dX5_mostNumber_1 : decode cX5_mostNumber 1 = .ok (.getfield 25, 3) := by decide +kernel
theorem dX5_mostNumber_4 : decode cX5_mostNumber 4 = .ok (.tableswitch 92 0 8 #[52, 69, 92, 92, 92, 92, 92, 86, 89], 52) := by decide +kernel
theorem dX5_mostNumber_56 : decode cX5_mostNumber 56 = .ok (.aload_n 0, 1) := by decide +kernel
theorem dX5_mostNumber_57 : decode cX5_mostNumber 57 = .ok (.getfield 29, 3) := by decide +kernel
theorem dX5_mostNumber_60 : decode cX5_mostNumber 60 = .ok (.iconst 1, 1) := by decide +kernel
theorem dX5_mostNumber_61 : decode cX5_mostNumber 61 = .ok (.if_icmp .ne 9, 3) := by decide +kernel
theorem dX5_mostNumber_64 : decode cX5_mostNumber 64 = .ok (.sipush 255, 3) := by decide +kernel
theorem dX5_mostNumber_67 : decode cX5_mostNumber 67 = .ok (.goto 5, 3) := by decide +kernel
theorem dX5_mostNumber_70 : decode cX5_mostNumber 70 = .ok (.bipush 9, 2) := by decide +kernel
theorem dX5_mostNumber_72 : decode cX5_mostNumber 72 = .ok (.ireturn, 1) := by decide +kernel
theorem dX5_mostNumber_73 : decode cX5_mostNumber 73 = .ok (.aload_n 0, 1) := by decide +kernel
theorem dX5_mostNumber_74 : decode cX5_mostNumber 74 = .ok (.getfield 29, 3) := by decide +kernel
theorem dX5_mostNumber_77 : decode cX5_mostNumber 77 = .ok (.iconst 3, 1) := by decide +kernel
theorem dX5_mostNumber_78 : decode cX5_mostNumber 78 = .ok (.if_icmp .ge 9, 3) := by decide +kernel
theorem dX5_mostNumber_81 : decode cX5_mostNumber 81 = .ok (.sipush 255, 3) := by decide +kernel
theorem dX5_mostNumber_84 : decode cX5_mostNumber 84 = .ok (.goto 5, 3) := by decide +kernel
theorem dX5_mostNumber_87 : decode cX5_mostNumber 87 = .ok (.bipush 99, 2) := by decide +kernel
theorem dX5_mostNumber_89 : decode cX5_mostNumber 89 = .ok (.ireturn, 1) := by decide +kernel
theorem dX5_mostNumber_90 : decode cX5_mostNumber 90 = .ok (.bipush 100, 2) := by decide +kernel
theorem dX5_mostNumber_92 : decode cX5_mostNumber 92 = .ok (.ireturn, 1) := by decide +kernel
theorem dX5_mostNumber_93 : decode cX5_mostNumber 93 = .ok (.bipush 99, 2) := by decide +kernel
theorem dX5_mostNumber_95 : decode cX5_mostNumber 95 = .ok (.ireturn, 1) := by decide +kernel
theorem dX5_mostNumber_96 : decode cX5_mostNumber 96 = .ok (.sipush 9999, 3) := by decide +kernel
theorem dX5_mostNumber_99 : decode cX5_mostNumber 99 = .ok (.ireturn, 1) := by decide +kernel
theorem dX5_note_0 : decode cX5_note 0 = .ok (.aload_n 0, 1) := by decide +kernel
theorem dX5_note_1 : decode cX5_note 1 = .ok (.getfield 35, 3) := by decide +kernel
theorem dX5_note_4 : decode cX5_note 4 = .ok (.ifCond .ne 19, 3) := by decide +kernel
theorem dX5_note_7 : decode cX5_note 7 = .ok (.aload_n 0, 1) := by decide +kernel
theorem dX5_note_8 : decode cX5_note 8 = .ok (.iload_n 1, 1) := by decide +kernel
theorem dX5_note_9 : decode cX5_note 9 = .ok (.putfield 35, 3) := by decide +kernel
theorem dX5_note_12 : decode cX5_note 12 = .ok (.aload_n 0, 1) := by decide +kernel
theorem dX5_note_13 : decode cX5_note 13 = .ok (.aload_n 0, 1) := by decide +kernel
theorem dX5_note_14 : decode cX5_note 14 = .ok (.getfield 12, 3) := by decide +kernel
theorem dX5_note_17 : decode cX5_note 17 = .ok (.getfield 60, 3) := by decide +kernel
theorem dX5_note_20 : decode cX5_note 20 = .ok (.putfield 38, 3) := by decide +kernel
theorem dX5_note_23 : decode cX5_note 23 = .ok (.return_, 1) := by decide +kernel
theorem dX6_init_0 : decode cX6_init 0 = .ok (.aload_n 0, 1) := by decide +kernel
theorem dX6_init_1 : decode cX6_init 1 = .ok (.invokespecial 3, 3) := by decide +kernel
theorem dX6_init_4 : decode cX6_init 4 = .ok (.aload_n 0, 1) := by decide +kernel
theorem dX6_init_5 : decode cX6_init 5 = .ok (.iconst 0, 1) := by decide +kernel
theorem dX6_init_6 : decode cX6_init 6 = .ok (.putfield 9, 3) := by decide +kernel
theorem dX6_init_9 : decode cX6_init 9 = .ok (.aload_n 0, 1) := by decide +kernel
theorem dX6_init_10 : decode cX6_init 10 = .ok (.bipush 6, 2) := by decide +kernel
theorem dX6_init_12 : decode cX6_init 12 = .ok (.newarray .long, 2) := by decide +kernel
theorem dX6_init_14 : decode cX6_init 14 = .ok (.putfield 15, 3) := by decide +kernel
theorem dX6_init_17 : decode cX6_init 17 = .ok (.aload_n 0, 1) := by decide +kernel
theorem dX6_init_18 : decode cX6_init 18 = .ok (.bipush 6, 2) := by decide +kernel
theorem dX6_init_20 : decode cX6_init 20 = .ok (.newarray .int, 2) := by decide +kernel
theorem dX6_init_22 : decode cX6_init 22 = .ok (.putfield 19, 3) := by decide +kernel
theorem dX6_init_25 : decode cX6_init 25 = .ok (.aload_n 0, 1) := by decide +kernel
theorem dX6_init_26 : decode cX6_init 26 = .ok (.bipush 6, 2) := by decide +kernel
theorem dX6_init_28 : decode cX6_init 28 = .ok (.newarray .int, 2) := by decide +kernel
theorem dX6_init_30 : decode cX6_init 30 = .ok (.putfield 23, 3) := by decide +kernel
theorem dX6_init_33 : decode cX6_init 33 = .ok (.aload_n 0, 1) := by decide +kernel
theorem dX6_init_34 : decode cX6_init 34 = .ok (.iconst 0, 1) := by decide +kernel
theorem dX6_init_35 : decode cX6_init 35 = .ok (.putfield 26, 3) := by decide +kernel
theorem dX6_init_38 : decode cX6_init 38 = .ok (.aload_n 0, 1) := by decide +kernel
theorem dX6_init_39 : decode cX6_init 39 = .ok (.bipush 6, 2) := by decide +kernel
theorem dX6_init_41 : decode cX6_init 41 = .ok (.newarray .long, 2) := by decide +kernel
theorem dX6_init_43 : decode cX6_init 43 = .ok (.putfield 29, 3) := by decide +kernel
theorem dX6_init_46 : decode cX6_init 46 = .ok (.aload_n 0, 1) := by decide +kernel
theorem dX6_init_47 : decode cX6_init 47 = .ok (.bipush 6, 2) := by decide +kernel
theorem dX6_init_49 : decode cX6_init 49 = .ok (.newarray .int, 2) := by decide +kernel
theorem dX6_init_51 : decode cX6_init 51 = .ok (.putfield 32, 3) := by decide +kernel
theorem dX6_init_54 : decode cX6_init 54 = .ok (.aload_n 0, 1) := by decide +kernel
theorem dX6_init_55 : decode cX6_init 55 = .ok (.bipush 6, 2) := by decide +kernel
theorem dX6_init_57 : decode cX6_init 57 = .ok (.newarray .int, 2) := by decide +kernel
theorem dX6_init_59 : decode cX6_init 59 = .ok (.putfield 35, 3) := by decide +kernel
theorem dX6_init_62 : decode cX6_init 62 = .ok (.aload_n 0, 1) := by decide +kernel
theorem dX6_init_63 : decode cX6_init 63 = .ok (.bipush 6, 2) := by decide +kernel
theorem dX6_init_65 : decode cX6_init 65 = .ok (.newarray .int, 2) := by decide +kernel
theorem dX6_init_67 : decode cX6_init 67 = .ok (.putfield 38, 3) := by decide +kernel
theorem dX6_init_70 : decode cX6_init 70 = .ok (.aload_n 0, 1) := by decide +kernel
theorem dX6_init_71 : decode cX6_init 71 = .ok (.iconst 0, 1) := by decide +kernel
theorem dX6_init_72 : decode cX6_init 72 = .ok (.putfield 41, 3) := by decide +kernel
theorem dX6_init_75 : decode cX6_init 75 = .ok (.aload_n 0, 1) := by decide +kernel
theorem dX6_init_76 : decode cX6_init 76 = .ok (.bipush 6, 2) := by decide +kernel
theorem dX6_init_78 : decode cX6_init 78 = .ok (.newarray .int, 2) := by decide +kernel
theorem dX6_init_80 : decode cX6_init 80 = .ok (.putfield 44, 3) := by decide +kernel
theorem dX6_init_83 : decode cX6_init 83 = .ok (.aload_n 0, 1) := by decide +kernel
theorem dX6_init_84 : decode cX6_init 84 = .ok (.new 47, 3) := by decide +kernel
theorem dX6_init_87 : decode cX6_init 87 = .ok (.dup, 1) := by decide +kernel
theorem dX6_init_88 : decode cX6_init 88 = .ok (.invokespecial 49, 3) := by decide +kernel
theorem dX6_init_91 : decode cX6_init 91 = .ok (.putfield 50, 3) := by decide +kernel
theorem dX6_init_94 : decode cX6_init 94 = .ok (.aload_n 0, 1) := by decide +kernel
theorem dX6_init_95 : decode cX6_init 95 = .ok (.iconst 0, 1) := by decide +kernel
theorem dX6_init_96 : decode cX6_init 96 = .ok (.putfield 54, 3) := by decide +kernel
theorem dX6_init_99 : decode cX6_init 99 = .ok (.aload_n 0, 1) := by decide +kernel
theorem dX6_init_100 : decode cX6_init 100 = .ok (.iconst 3, 1) := by decide +kernel
theorem dX6_init_101 : decode cX6_init 101 = .ok (.putfield 57, 3) := by decide +kernel
theorem dX6_init_104 : decode cX6_init 104 = .ok (.aload_n 0, 1) := by decide +kernel
theorem dX6_init_105 : decode cX6_init 105 = .ok (.iconst 0, 1) := by decide +kernel
theorem dX6_init_106 : decode cX6_init 106 = .ok (.putfield 60, 3) := by decide +kernel
theorem dX6_init_109 : decode cX6_init 109 = .ok (.return_, 1) := by decide +kernel
theorem dX6_addRole_0 : decode cX6_addRole 0 = .ok (.aload_n 0, 1) := by decide +kernel
theorem dX6_addRole_1 : decode cX6_addRole 1 = .ok (.getfield 9, 3) := by decide +kernel
theorem dX6_addRole_4 : decode cX6_addRole 4 = .ok (.bipush 6, 2) := by decide +kernel
theorem dX6_addRole_6 : decode cX6_addRole 6 = .ok (.if_icmp .ge 23, 3) := by decide +kernel
theorem dX6_addRole_9 : decode cX6_addRole 9 = .ok (.aload_n 0, 1) := by decide +kernel
theorem dX6_addRole_10 : decode cX6_addRole 10 = .ok (.getfield 15, 3) := by decide +kernel
theorem dX6_addRole_13 : decode cX6_addRole 13 = .ok (.aload_n 0, 1) := by decide +kernel
theorem dX6_addRole_14 : decode cX6_addRole 14 = .ok (.getfield 9, 3) := by decide +kernel
theorem dX6_addRole_17 : decode cX6_addRole 17 = .ok (.lload_n 1, 1) := by decide +kernel
theorem dX6_addRole_18 : decode cX6_addRole 18 = .ok (.lastore, 1) := by decide +kernel
theorem dX6_addRole_19 : decode cX6_addRole 19 = .ok (.aload_n 0, 1) := by decide +kernel
theorem dX6_addRole_20 : decode cX6_addRole 20 = .ok (.dup, 1) := by decide +kernel
theorem dX6_addRole_21 : decode cX6_addRole 21 = .ok (.getfield 9, 3) := by decide +kernel
theorem dX6_addRole_24 : decode cX6_addRole 24 = .ok (.iconst 1, 1) := by decide +kernel
theorem dX6_addRole_25 : decode cX6_addRole 25 = .ok (.iadd, 1) := by decide +kernel
theorem dX6_addRole_26 : decode cX6_addRole 26 = .ok (.putfield 9, 3) := by decide +kernel
theorem dX6_addRole_29 : decode cX6_addRole 29 = .ok (.return_, 1) := by decide +kernel
theorem dX6_setRole_0 : decode cX6_setRole 0 = .ok (.aload_n 0, 1) := by decide +kernel
theorem dX6_setRole_1 : decode cX6_setRole 1 = .ok (.getfield 9, 3) := by decide +kernel
theorem dX6_setRole_4 : decode cX6_setRole 4 = .ok (.ifCond .le 23, 3) := by decide +kernel
theorem dX6_setRole_7 : decode cX6_setRole 7 = .ok (.iload_n 1, 1) := by decide +kernel
theorem dX6_setRole_8 : decode cX6_setRole 8 = .ok (.iconst 1, 1) := by decide +kernel
theorem dX6_setRole_9 : decode cX6_setRole 9 = .ok (.if_icmp .ne 18, 3) := by decide +kernel
theorem dX6_setRole_12 : decode cX6_setRole 12 = .ok (.aload_n 0, 1) := by decide +kernel
theorem dX6_setRole_13 : decode cX6_setRole 13 = .ok (.getfield 19, 3) := by decide +kernel
theorem dX6_setRole_16 : decode cX6_setRole 16 = .ok (.aload_n 0, 1) := by decide +kernel
theorem dX6_setRole_17 : decode cX6_setRole 17 = .ok (.getfield 9, 3) := by decide +kernel
theorem dX6_setRole_20 : decode cX6_setRole 20 = .ok (.iconst 1, 1) := by decide +kernel
theorem dX6_setRole_21 : decode cX6_setRole 21 = .ok (.isub, 1) := by decide +kernel
theorem dX6_setRole_22 : decode cX6_setRole 22 = .ok (.iload_n 2, 1) := by decide +kernel
theorem dX6_setRole_23 : decode cX6_setRole 23 = .ok (.iastore, 1) := by decide +kernel
theorem dX6_setRole_24 : decode cX6_setRole 24 = .ok (.goto 22, 3) := by decide +kernel
theorem dX6_setRole_27 : decode cX6_setRole 27 = .ok (.aload_n 0, 1) := by decide +kernel
theorem dX6_setRole_28 : decode cX6_setRole 28 = .ok (.getfield 9, 3) := by decide +kernel
theorem dX6_setRole_31 : decode cX6_setRole 31 = .ok (.ifCond .le 15, 3) := by decide +kernel
theorem dX6_setRole_34 : decode cX6_setRole 34 = .ok (.aload_n 0, 1) := by decide +kernel
theorem dX6_setRole_35 : decode cX6_setRole 35 = .ok (.getfield 23, 3) := by decide +kernel
theorem dX6_setRole_38 : decode cX6_setRole 38 = .ok (.aload_n 0, 1) := by decide +kernel
theorem dX6_setRole_39 : decode cX6_setRole 39 = .ok (.getfield 9, 3) := by decide +kernel
theorem dX6_setRole_42 : decode cX6_setRole 42 = .ok (.iconst 1, 1) := by decide +kernel
theorem dX6_setRole_43 : decode cX6_setRole 43 = .ok (.isub, 1) := by decide +kernel
theorem dX6_setRole_44 : decode cX6_setRole 44 = .ok (.iload_n 2, 1) := by decide +kernel
theorem dX6_setRole_45 : decode cX6_setRole 45 = .ok (.iastore, 1) := by decide +kernel
theorem dX6_setRole_46 : decode cX6_setRole 46 = .ok (.return_, 1) := by decide +kernel
theorem dX6_addListener_0 : decode cX6_addListener 0 = .ok (.aload_n 0, 1) := by decide +kernel
theorem dX6_addListener_1 : decode cX6_addListener 1 = .ok (.getfield 26, 3) := by decide +kernel
theorem dX6_addListener_4 : decode cX6_addListener 4 = .ok (.bipush 6, 2) := by decide +kernel
theorem dX6_addListener_6 : decode cX6_addListener 6 = .ok (.if_icmp .ge 23, 3) := by decide +kernel
theorem dX6_addListener_9 : decode cX6_addListener 9 = .ok (.aload_n 0, 1) := by decide +kernel
theorem dX6_addListener_10 : decode cX6_addListener 10 = .ok (.getfield 29, 3) := by decide +kernel
theorem dX6_addListener_13 : decode cX6_addListener 13 = .ok (.aload_n 0, 1) := by decide +kernel
theorem dX6_addListener_14 : decode cX6_addListener 14 = .ok (.getfield 26, 3) := by decide +kernel
theorem dX6_addListener_17 : decode cX6_addListener 17 = .ok (.lload_n 1, 1) := by decide +kernel
theorem dX6_addListener_18 : decode cX6_addListener 18 = .ok (.lastore, 1) := by decide +kernel
theorem dX6_addListener_19 : decode cX6_addListener 19 = .ok (.aload_n 0, 1) := by decide +kernel
theorem dX6_addListener_20 : decode cX6_addListener 20 = .ok (.dup, 1) := by decide +kernel
theorem dX6_addListener_21 : decode cX6_addListener 21 = .ok (.getfield 26, 3) := by decide +kernel
theorem dX6_addListener_24 : decode cX6_addListener 24 = .ok (.iconst 1, 1) := by decide +kernel
theorem dX6_addListener_25 : decode cX6_addListener 25 = .ok (.iadd, 1) := by decide +kernel
theorem dX6_addListener_26 : decode cX6_addListener 26 = .ok (.putfield 26, 3) := by decide +kernel
theorem dX6_addListener_29 : decode cX6_addListener 29 = .ok (.return_, 1) := by decide +kernel
theorem dX6_setListener_0 : decode cX6_setListener 0 = .ok (.aload_n 0, 1) := by decide +kernel
theorem dX6_setListener_1 : decode cX6_setListener 1 = .ok (.getfield 26, 3) := by decide +kernel
theorem dX6_setListener_4 : decode cX6_setListener 4 = .ok (.ifCond .le 23, 3) := by decide +kernel
theorem dX6_setListener_7 : decode cX6_setListener 7 = .ok (.iload_n 1, 1) := by decide +kernel
theorem dX6_setListener_8 : decode cX6_setListener 8 = .ok (.iconst 1, 1) := by decide +kernel
theorem dX6_setListener_9 : decode cX6_setListener 9 = .ok (.if_icmp .ne 18, 3) := by decide +kernel
theorem dX6_setListener_12 : decode cX6_setListener 12 = .ok (.aload_n 0, 1) := by decide +kernel
theorem dX6_setListener_13 : decode cX6_setListener 13 = .ok (.getfield 32, 3) := by decide +kernel
theorem dX6_setListener_16 : decode cX6_setListener 16 = .ok (.aload_n 0, 1) := by decide +kernel
theorem dX6_setListener_17 : decode cX6_setListener 17 = .ok (.getfield 26, 3) := by decide +kernel
theorem dX6_setListener_20 : decode cX6_setListener 20 = .ok (.iconst 1, 1) := by decide +kernel
theorem dX6_setListener_21 : decode cX6_setListener 21 = .ok (.isub, 1) := by decide +kernel
theorem dX6_setListener_22 : decode cX6_setListener 22 = .ok (.iload_n 2, 1) := by decide +kernel
theorem dX6_setListener_23 : decode cX6_setListener 23 = .ok (.iastore, 1) := by decide +kernel
theorem dX6_setListener_24 : decode cX6_setListener 24 = .ok (.goto 49, 3) := by decide +kernel
theorem dX6_setListener_27 : decode cX6_setListener 27 = .ok (.aload_n 0, 1) := by decide +kernel
theorem dX6_setListener_28 : decode cX6_setListener 28 = .ok (.getfield 26, 3) := by decide +kernel
theorem dX6_setListener_31 : decode cX6_setListener 31 = .ok (.ifCond .le 23, 3) := by decide +kernel
theorem dX6_setListener_34 : decode cX6_setListener 34 = .ok (.iload_n 1, 1) := by decide +kernel
theorem dX6_setListener_35 : decode cX6_setListener 35 = .ok (.iconst 2, 1) := by decide +kernel
theorem dX6_setListener_36 : decode cX6_setListener 36 = .ok (.if_icmp .ne 18, 3) := by decide +kernel
theorem dX6_setListener_39 : decode cX6_setListener 39 = .ok (.aload_n 0, 1) := by decide +kernel
theorem dX6_setListener_40 : decode cX6_setListener 40 = .ok (.getfield 35, 3) := by decide +kernel
theorem dX6_setListener_43 : decode cX6_setListener 43 = .ok (.aload_n 0, 1) := by decide +kernel
theorem dX6_setListener_44 : decode cX6_setListener 44 = .ok (.getfield 26, 3) := by decide +kernel
theorem dX6_setListener_47 : decode cX6_setListener 47 = .ok (.iconst 1, 1) := by decide +kernel
theorem dX6_setListener_48 : decode cX6_setListener 48 = .ok (.isub, 1) := by decide +kernel
theorem dX6_setListener_49 : decode cX6_setListener 49 = .ok (.iload_n 2, 1) := by decide +kernel
theorem dX6_setListener_50 : decode cX6_setListener 50 = .ok (.iastore, 1) := by decide +kernel
theorem dX6_setListener_51 : decode cX6_setListener 51 = .ok (.goto 22, 3) := by decide +kernel
theorem dX6_setListener_54 : decode cX6_setListener 54 = .ok (.aload_n 0, 1) := by decide +kernel
theorem dX6_setListener_55 : decode cX6_setListener 55 = .ok (.getfield 26, 3) := by decide +kernel
theorem dX6_setListener_58 : decode cX6_setListener 58 = .ok (.ifCond .le 15, 3) := by decide +kernel
theorem dX6_setListener_61 : decode cX6_setListener 61 = .ok (.aload_n 0, 1) := by decide +kernel
theorem dX6_setListener_62 : decode cX6_setListener 62 = .ok (.getfield 38, 3) := by decide +kernel
theorem dX6_setListener_65 : decode cX6_setListener 65 = .ok (.aload_n 0, 1) := by decide +kernel
theorem dX6_setListener_66 : decode cX6_setListener 66 = .ok (.getfield 26, 3) := by decide +kernel
theorem dX6_setListener_69 : decode cX6_setListener 69 = .ok (.iconst 1, 1) := by decide +kernel
theorem dX6_setListener_70 : decode cX6_setListener 70 = .ok (.isub, 1) := by decide +kernel
theorem dX6_setListener_71 : decode cX6_setListener 71 = .ok (.iload_n 2, 1) := by decide +kernel
theorem dX6_setListener_72 : decode cX6_setListener 72 = .ok (.iastore, 1) := by decide +kernel
theorem dX6_setListener_73 : decode cX6_setListener 73 = .ok (.return_, 1) := by decide +kernel
theorem dX6_hasRole_0 : decode cX6_hasRole 0 = .ok (.iload_n 1, 1) := by decide +kernel
theorem dX6_hasRole_1 : decode cX6_hasRole 1 = .ok (.ifCond .lt 15, 3) := by decide +kernel
theorem dX6_hasRole_4 : decode cX6_hasRole 4 = .ok (.iload_n 1, 1) := by decide +kernel
theorem dX6_hasRole_5 : decode cX6_hasRole 5 = .ok (.aload_n 0, 1) := by decide +kernel
theorem dX6_hasRole_6 : decode cX6_hasRole 6 = .ok (.getfield 9, 3) := by decide +kernel
theorem dX6_hasRole_9 : decode cX6_hasRole 9 = .ok (.if_icmp .ge 7, 3) := by decide +kernel
theorem dX6_hasRole_12 : decode cX6_hasRole 12 = .ok (.iconst 1, 1) := by decide +kernel
theorem dX6_hasRole_13 : decode cX6_hasRole 13 = .ok (.goto 4, 3) := by decide +kernel
theorem dX6_hasRole_16 : decode cX6_hasRole 16 = .ok (.iconst 0, 1) := by decide +kernel
theorem dX6_hasRole_17 : decode cX6_hasRole 17 = .ok (.ireturn, 1) := by decide +kernel
theorem dX6_hasListener_0 : decode cX6_hasListener 0 = .ok (.iload_n 1, 1) := by decide +kernel
theorem dX6_hasListener_1 : decode cX6_hasListener 1 = .ok (.ifCond .lt 15, 3) := by decide +kernel
theorem dX6_hasListener_4 : decode cX6_hasListener 4 = .ok (.iload_n 1, 1) := by decide +kernel
theorem dX6_hasListener_5 : decode cX6_hasListener 5 = .ok (.aload_n 0, 1) := by decide +kernel
theorem dX6_hasListener_6 : decode cX6_hasListener 6 = .ok (.getfield 26, 3) := by decide +kernel
theorem dX6_hasListener_9 : decode cX6_hasListener 9 = .ok (.if_icmp .ge 7, 3) := by decide +kernel
theorem dX6_hasListener_12 : decode cX6_hasListener 12 = .ok (.iconst 1, 1) := by decide +kernel
theorem dX6_hasListener_13 : decode cX6_hasListener 13 = .ok (.goto 4, 3) := by decide +kernel
theorem dX6_hasListener_16 : decode cX6_hasListener 16 = .ok (.iconst 0, 1) := by decide +kernel
theorem dX6_hasListener_17 : decode cX6_hasListener 17 = .ok (.ireturn, 1) := by decide +kernel
theorem dX6_roleNamed_0 : decode cX6_roleNamed 0 = .ok (.iconst 0, 1) := by decide +kernel
theorem dX6_roleNamed_1 : decode cX6_roleNamed 1 = .ok (.istore_n 3, 1) := by decide +kernel
theorem dX6_roleNamed_2 : decode cX6_roleNamed 2 = .ok (.iload_n 3, 1) := by decide +kernel
theorem dX6_roleNamed_3 : decode cX6_roleNamed 3 = .ok (.aload_n 0, 1) := by decide +kernel
theorem dX6_roleNamed_4 : decode cX6_roleNamed 4 = .ok (.getfield 9, 3) := by decide +kernel
theorem dX6_roleNamed_7 : decode cX6_roleNamed 7 = .ok (.if_icmp .ge 22, 3) := by decide +kernel
theorem dX6_roleNamed_10 : decode cX6_roleNamed 10 = .ok (.aload_n 0, 1) := by decide +kernel
theorem dX6_roleNamed_11 : decode cX6_roleNamed 11 = .ok (.getfield 15, 3) := by decide +kernel
theorem dX6_roleNamed_14 : decode cX6_roleNamed 14 = .ok (.iload_n 3, 1) := by decide +kernel
theorem dX6_roleNamed_15 : decode cX6_roleNamed 15 = .ok (.laload, 1) := by decide +kernel
theorem dX6_roleNamed_16 : decode cX6_roleNamed 16 = .ok (.lload_n 1, 1) := by decide +kernel
theorem dX6_roleNamed_17 : decode cX6_roleNamed 17 = .ok (.lcmp, 1) := by decide +kernel
theorem dX6_roleNamed_18 : decode cX6_roleNamed 18 = .ok (.ifCond .ne 5, 3) := by decide +kernel
theorem dX6_roleNamed_21 : decode cX6_roleNamed 21 = .ok (.iload_n 3, 1) := by decide +kernel
theorem dX6_roleNamed_22 : decode cX6_roleNamed 22 = .ok (.ireturn, 1) := by decide +kernel
theorem dX6_roleNamed_23 : decode cX6_roleNamed 23 = .ok (.iinc 3 1, 3) := by decide +kernel
theorem dX6_roleNamed_26 : decode cX6_roleNamed 26 = .ok (.goto (-24), 3) := by decide +kernel
theorem dX6_roleNamed_29 : decode cX6_roleNamed 29 = .ok (.iconst (-1), 1) := by decide +kernel
theorem dX6_roleNamed_30 : decode cX6_roleNamed 30 = .ok (.ireturn, 1) := by decide +kernel
theorem dX6_listenerNamed_0 : decode cX6_listenerNamed 0 = .ok (.iconst 0, 1) := by decide +kernel
theorem dX6_listenerNamed_1 : decode cX6_listenerNamed 1 = .ok (.istore_n 3, 1) := by decide +kernel
theorem dX6_listenerNamed_2 : decode cX6_listenerNamed 2 = .ok (.iload_n 3, 1) := by decide +kernel
theorem dX6_listenerNamed_3 : decode cX6_listenerNamed 3 = .ok (.aload_n 0, 1) := by decide +kernel
theorem dX6_listenerNamed_4 : decode cX6_listenerNamed 4 = .ok (.getfield 26, 3) := by decide +kernel
theorem dX6_listenerNamed_7 : decode cX6_listenerNamed 7 = .ok (.if_icmp .ge 22, 3) := by decide +kernel
theorem dX6_listenerNamed_10 : decode cX6_listenerNamed 10 = .ok (.aload_n 0, 1) := by decide +kernel
theorem dX6_listenerNamed_11 : decode cX6_listenerNamed 11 = .ok (.getfield 29, 3) := by decide +kernel
theorem dX6_listenerNamed_14 : decode cX6_listenerNamed 14 = .ok (.iload_n 3, 1) := by decide +kernel
theorem dX6_listenerNamed_15 : decode cX6_listenerNamed 15 = .ok (.laload, 1) := by decide +kernel
theorem dX6_listenerNamed_16 : decode cX6_listenerNamed 16 = .ok (.lload_n 1, 1) := by decide +kernel
theorem dX6_listenerNamed_17 : decode cX6_listenerNamed 17 = .ok (.lcmp, 1) := by decide +kernel
theorem dX6_listenerNamed_18 : decode cX6_listenerNamed 18 = .ok (.ifCond .ne 5, 3) := by decide +kernel
theorem dX6_listenerNamed_21 : decode cX6_listenerNamed 21 = .ok (.iload_n 3, 1) := by decide +kernel
theorem dX6_listenerNamed_22 : decode cX6_listenerNamed 22 = .ok (.ireturn, 1) := by decide +kernel
theorem dX6_listenerNamed_23 : decode cX6_listenerNamed 23 = .ok (.iinc 3 1, 3) := by decide +kernel
theorem dX6_listenerNamed_26 : decode cX6_listenerNamed 26 = .ok (.goto (-24), 3) := by decide +kernel
theorem dX6_listenerNamed_29 : decode cX6_listenerNamed 29 = .ok (.iconst (-1), 1) := by decide +kernel
theorem dX6_listenerNamed_30 : decode cX6_listenerNamed 30 = .ok (.ireturn, 1) := by decide +kernel
theorem dX6_reallySome_0 : decode cX6_reallySome 0 = .ok (.iconst 0, 1) := by decide +kernel
theorem dX6_reallySome_1 : decode cX6_reallySome 1 = .ok (.istore_n 1, 1) := by decide +kernel
theorem dX6_reallySome_2 : decode cX6_reallySome 2 = .ok (.iconst 0, 1) := by decide +kernel
theorem dX6_reallySome_3 : decode cX6_reallySome 3 = .ok (.istore_n 2, 1) := by decide +kernel
theorem dX6_reallySome_4 : decode cX6_reallySome 4 = .ok (.iload_n 2, 1) := by decide +kernel
theorem dX6_reallySome_5 : decode cX6_reallySome 5 = .ok (.aload_n 0, 1) := by decide +kernel
theorem dX6_reallySome_6 : decode cX6_reallySome 6 = .ok (.getfield 26, 3) := by decide +kernel
theorem dX6_reallySome_9 : decode cX6_reallySome 9 = .ok (.if_icmp .ge 24, 3) := by decide +kernel
theorem dX6_reallySome_12 : decode cX6_reallySome 12 = .ok (.aload_n 0, 1) := by decide +kernel
theorem dX6_reallySome_13 : decode cX6_reallySome 13 = .ok (.getfield 44, 3) := by decide +kernel
theorem dX6_reallySome_16 : decode cX6_reallySome 16 = .ok (.iload_n 2, 1) := by decide +kernel
theorem dX6_reallySome_17 : decode cX6_reallySome 17 = .ok (.iaload, 1) := by decide +kernel
theorem dX6_reallySome_18 : decode cX6_reallySome 18 = .ok (.ifCond .eq 9, 3) := by decide +kernel
theorem dX6_reallySome_21 : decode cX6_reallySome 21 = .ok (.iload_n 1, 1) := by decide +kernel
theorem dX6_reallySome_22 : decode cX6_reallySome 22 = .ok (.iconst 1, 1) := by decide +kernel
theorem dX6_reallySome_23 : decode cX6_reallySome 23 = .ok (.iload_n 2, 1) := by decide +kernel
theorem dX6_reallySome_24 : decode cX6_reallySome 24 = .ok (.ishl, 1) := by decide +kernel
theorem dX6_reallySome_25 : decode cX6_reallySome 25 = .ok (.ior, 1) := by decide +kernel
theorem dX6_reallySome_26 : decode cX6_reallySome 26 = .ok (.istore_n 1, 1) := by decide +kernel
theorem dX6_reallySome_27 : decode cX6_reallySome 27 = .ok (.iinc 2 1, 3) := by decide +kernel
theorem dX6_reallySome_30 : decode cX6_reallySome 30 = .ok (.goto (-26), 3) := by decide +kernel
theorem dX6_reallySome_33 : decode cX6_reallySome 33 = .ok (.iload_n 1, 1) := by decide +kernel
theorem dX6_reallySome_34 : decode cX6_reallySome 34 = .ok (.ireturn, 1) := by decide +kernel
theorem dX6_knownByRoles_0 : decode cX6_knownByRoles 0 = .ok (.iconst 0, 1) := by decide +kernel
theorem dX6_knownByRoles_1 : decode cX6_knownByRoles 1 = .ok (.istore_n 1, 1) := by decide +kernel
theorem dX6_knownByRoles_2 : decode cX6_knownByRoles 2 = .ok (.iconst 0, 1) := by decide +kernel
theorem dX6_knownByRoles_3 : decode cX6_knownByRoles 3 = .ok (.istore_n 2, 1) := by decide +kernel
theorem dX6_knownByRoles_4 : decode cX6_knownByRoles 4 = .ok (.iload_n 2, 1) := by decide +kernel
theorem dX6_knownByRoles_5 : decode cX6_knownByRoles 5 = .ok (.aload_n 0, 1) := by decide +kernel
theorem dX6_knownByRoles_6 : decode cX6_knownByRoles 6 = .ok (.getfield 9, 3) := by decide +kernel
theorem dX6_knownByRoles_9 : decode cX6_knownByRoles 9 = .ok (.if_icmp .ge 18, 3) := by decide +kernel
theorem dX6_knownByRoles_12 : decode cX6_knownByRoles 12 = .ok (.iload_n 1, 1) := by decide +kernel
theorem dX6_knownByRoles_13 : decode cX6_knownByRoles 13 = .ok (.aload_n 0, 1) := by decide +kernel
theorem dX6_knownByRoles_14 : decode cX6_knownByRoles 14 = .ok (.getfield 19, 3) := by decide +kernel
theorem dX6_knownByRoles_17 : decode cX6_knownByRoles 17 = .ok (.iload_n 2, 1) := by decide +kernel
theorem dX6_knownByRoles_18 : decode cX6_knownByRoles 18 = .ok (.iaload, 1) := by decide +kernel
theorem dX6_knownByRoles_19 : decode cX6_knownByRoles 19 = .ok (.ior, 1) := by decide +kernel
theorem dX6_knownByRoles_20 : decode cX6_knownByRoles 20 = .ok (.istore_n 1, 1) := by decide +kernel
theorem dX6_knownByRoles_21 : decode cX6_knownByRoles 21 = .ok (.iinc 2 1, 3) := by decide +kernel
theorem dX6_knownByRoles_24 : decode cX6_knownByRoles 24 = .ok (.goto (-20), 3) := by decide +kernel
theorem dX6_knownByRoles_27 : decode cX6_knownByRoles 27 = .ok (.iload_n 1, 1) := by decide +kernel
theorem dX6_knownByRoles_28 : decode cX6_knownByRoles 28 = .ok (.ireturn, 1) := by decide +kernel
theorem dX6_tellsRolesApart_0 : decode cX6_tellsRolesApart 0 = .ok (.iconst 0, 1) := by decide +kernel
theorem dX6_tellsRolesApart_1 : decode cX6_tellsRolesApart 1 = .ok (.istore_n 2, 1) := by decide +kernel
theorem dX6_tellsRolesApart_2 : decode cX6_tellsRolesApart 2 = .ok (.iload_n 2, 1) := by decide +kernel
theorem dX6_tellsRolesApart_3 : decode cX6_tellsRolesApart 3 = .ok (.aload_n 0, 1) := by decide +kernel
theorem dX6_tellsRolesApart_4 : decode cX6_tellsRolesApart 4 = .ok (.getfield 9, 3) := by decide +kernel
theorem dX6_tellsRolesApart_7 : decode cX6_tellsRolesApart 7 = .ok (.if_icmp .ge 47, 3) := by decide +kernel
theorem dX6_tellsRolesApart_10 : decode cX6_tellsRolesApart 10 = .ok (.iload_n 2, 1) := by decide +kernel
theorem dX6_tellsRolesApart_11 : decode cX6_tellsRolesApart 11 = .ok (.iconst 1, 1) := by decide +kernel
theorem dX6_tellsRolesApart_12 : decode cX6_tellsRolesApart 12 = .ok (.iadd, 1) := by decide +kernel
theorem dX6_tellsRolesApart_13 : decode cX6_tellsRolesApart 13 = .ok (.istore_n 3, 1) := by decide +kernel
theorem dX6_tellsRolesApart_14 : decode cX6_tellsRolesApart 14 = .ok (.iload_n 3, 1) := by decide +kernel
theorem dX6_tellsRolesApart_15 : decode cX6_tellsRolesApart 15 = .ok (.aload_n 0, 1) := by decide +kernel
theorem dX6_tellsRolesApart_16 : decode cX6_tellsRolesApart 16 = .ok (.getfield 9, 3) := by decide +kernel
theorem dX6_tellsRolesApart_19 : decode cX6_tellsRolesApart 19 = .ok (.if_icmp .ge 29, 3) := by decide +kernel
theorem dX6_tellsRolesApart_22 : decode cX6_tellsRolesApart 22 = .ok (.aload_n 0, 1) := by decide +kernel
theorem dX6_tellsRolesApart_23 : decode cX6_tellsRolesApart 23 = .ok (.getfield 19, 3) := by decide +kernel
theorem dX6_tellsRolesApart_26 : decode cX6_tellsRolesApart 26 = .ok (.iload_n 2, 1) := by decide +kernel
theorem dX6_tellsRolesApart_27 : decode cX6_tellsRolesApart 27 = .ok (.iaload, 1) := by decide +kernel
theorem dX6_tellsRolesApart_28 : decode cX6_tellsRolesApart 28 = .ok (.aload_n 0, 1) := by decide +kernel
theorem dX6_tellsRolesApart_29 : decode cX6_tellsRolesApart 29 = .ok (.getfield 19, 3) := by decide +kernel
theorem dX6_tellsRolesApart_32 : decode cX6_tellsRolesApart 32 = .ok (.iload_n 3, 1) := by decide +kernel
theorem dX6_tellsRolesApart_33 : decode cX6_tellsRolesApart 33 = .ok (.iaload, 1) := by decide +kernel
theorem dX6_tellsRolesApart_34 : decode cX6_tellsRolesApart 34 = .ok (.ixor, 1) := by decide +kernel
theorem dX6_tellsRolesApart_35 : decode cX6_tellsRolesApart 35 = .ok (.iload_n 1, 1) := by decide +kernel
theorem dX6_tellsRolesApart_36 : decode cX6_tellsRolesApart 36 = .ok (.iand, 1) := by decide +kernel
theorem dX6_tellsRolesApart_37 : decode cX6_tellsRolesApart 37 = .ok (.ifCond .ne 5, 3) := by decide +kernel
theorem dX6_tellsRolesApart_40 : decode cX6_tellsRolesApart 40 = .ok (.iconst 0, 1) := by decide +kernel
theorem dX6_tellsRolesApart_41 : decode cX6_tellsRolesApart 41 = .ok (.ireturn, 1) := by decide +kernel
theorem dX6_tellsRolesApart_42 : decode cX6_tellsRolesApart 42 = .ok (.iinc 3 1, 3) := by decide +kernel
theorem dX6_tellsRolesApart_45 : decode cX6_tellsRolesApart 45 = .ok (.goto (-31), 3) := by decide +kernel
theorem dX6_tellsRolesApart_48 : decode cX6_tellsRolesApart 48 = .ok (.iinc 2 1, 3) := by decide +kernel
theorem dX6_tellsRolesApart_51 : decode cX6_tellsRolesApart 51 = .ok (.goto (-49), 3) := by decide +kernel
theorem dX6_tellsRolesApart_54 : decode cX6_tellsRolesApart 54 = .ok (.iconst 1, 1) := by decide +kernel
theorem dX6_tellsRolesApart_55 : decode cX6_tellsRolesApart 55 = .ok (.ireturn, 1) := by decide +kernel
theorem dX6_lackedBy_0 : decode cX6_lackedBy 0 = .ok (.aload_n 0, 1) := by decide +kernel
theorem dX6_lackedBy_1 : decode cX6_lackedBy 1 = .ok (.getfield 35, 3) := by decide +kernel
theorem dX6_lackedBy_4 : decode cX6_lackedBy 4 = .ok (.iload_n 2, 1) := by decide +kernel
theorem dX6_lackedBy_5 : decode cX6_lackedBy 5 = .ok (.iaload, 1) := by decide +kernel
theorem dX6_lackedBy_6 : decode cX6_lackedBy 6 = .ok (.aload_n 1, 1) := by decide +kernel
theorem dX6_lackedBy_7 : decode cX6_lackedBy 7 = .ok (.getfield 79, 3) := by decide +kernel
theorem dX6_lackedBy_10 : decode cX6_lackedBy 10 = .ok (.iload_n 2, 1) := by decide +kernel
theorem dX6_lackedBy_11 : decode cX6_lackedBy 11 = .ok (.iaload, 1) := by decide +kernel
theorem dX6_lackedBy_12 : decode cX6_lackedBy 12 = .ok (.iconst (-1), 1) := by decide +kernel
theorem dX6_lackedBy_13 : decode cX6_lackedBy 13 = .ok (.ixor, 1) := by decide +kernel
theorem dX6_lackedBy_14 : decode cX6_lackedBy 14 = .ok (.iand, 1) := by decide +kernel
theorem dX6_lackedBy_15 : decode cX6_lackedBy 15 = .ok (.ireturn, 1) := by decide +kernel
theorem dX6_hasDone_0 : decode cX6_hasDone 0 = .ok (.aload_n 0, 1) := by decide +kernel
theorem dX6_hasDone_1 : decode cX6_hasDone 1 = .ok (.aload_n 1, 1) := by decide +kernel
theorem dX6_hasDone_2 : decode cX6_hasDone 2 = .ok (.iload_n 2, 1) := by decide +kernel
theorem dX6_hasDone_3 : decode cX6_hasDone 3 = .ok (.invokevirtual 117, 3) := by decide +kernel
theorem dX6_hasDone_6 : decode cX6_hasDone 6 = .ok (.ifCond .ne 7, 3) := by decide +kernel
theorem dX6_hasDone_9 : decode cX6_hasDone 9 = .ok (.iconst 1, 1) := by decide +kernel
theorem dX6_hasDone_10 : decode cX6_hasDone 10 = .ok (.goto 4, 3) := by decide +kernel
theorem dX6_hasDone_13 : decode cX6_hasDone 13 = .ok (.iconst 0, 1) := by decide +kernel
theorem dX6_hasDone_14 : decode cX6_hasDone 14 = .ok (.ireturn, 1) := by decide +kernel
theorem dX6_doneBy_0 : decode cX6_doneBy 0 = .ok (.iconst 0, 1) := by decide +kernel
theorem dX6_doneBy_1 : decode cX6_doneBy 1 = .ok (.istore_n 2, 1) := by decide +kernel
theorem dX6_doneBy_2 : decode cX6_doneBy 2 = .ok (.iconst 0, 1) := by decide +kernel
theorem dX6_doneBy_3 : decode cX6_doneBy 3 = .ok (.istore_n 3, 1) := by decide +kernel
theorem dX6_doneBy_4 : decode cX6_doneBy 4 = .ok (.iload_n 3, 1) := by decide +kernel
theorem dX6_doneBy_5 : decode cX6_doneBy 5 = .ok (.aload_n 0, 1) := by decide +kernel
theorem dX6_doneBy_6 : decode cX6_doneBy 6 = .ok (.getfield 26, 3) := by decide +kernel
theorem dX6_doneBy_9 : decode cX6_doneBy 9 = .ok (.if_icmp .ge 24, 3) := by decide +kernel
theorem dX6_doneBy_12 : decode cX6_doneBy 12 = .ok (.aload_n 0, 1) := by decide +kernel
theorem dX6_doneBy_13 : decode cX6_doneBy 13 = .ok (.aload_n 1, 1) := by decide +kernel
theorem dX6_doneBy_14 : decode cX6_doneBy 14 = .ok (.iload_n 3, 1) := by decide +kernel
theorem dX6_doneBy_15 : decode cX6_doneBy 15 = .ok (.invokevirtual 128, 3) := by decide +kernel
theorem dX6_doneBy_18 : decode cX6_doneBy 18 = .ok (.ifCond .eq 9, 3) := by decide +kernel
theorem dX6_doneBy_21 : decode cX6_doneBy 21 = .ok (.iload_n 2, 1) := by decide +kernel
theorem dX6_doneBy_22 : decode cX6_doneBy 22 = .ok (.iconst 1, 1) := by decide +kernel
theorem dX6_doneBy_23 : decode cX6_doneBy 23 = .ok (.iload_n 3, 1) := by decide +kernel
theorem dX6_doneBy_24 : decode cX6_doneBy 24 = .ok (.ishl, 1) := by decide +kernel
theorem dX6_doneBy_25 : decode cX6_doneBy 25 = .ok (.ior, 1) := by decide +kernel
theorem dX6_doneBy_26 : decode cX6_doneBy 26 = .ok (.istore_n 2, 1) := by decide +kernel
theorem dX6_doneBy_27 : decode cX6_doneBy 27 = .ok (.iinc 3 1, 3) := by decide +kernel
theorem dX6_doneBy_30 : decode cX6_doneBy 30 = .ok (.goto (-26), 3) := by decide +kernel
theorem dX6_doneBy_33 : decode cX6_doneBy 33 = .ok (.iload_n 2, 1) := by decide +kernel
theorem dX6_doneBy_34 : decode cX6_doneBy 34 = .ok (.ireturn, 1) := by decide +kernel
theorem dX6_quietRoles_0 : decode cX6_quietRoles 0 = .ok (.iconst 0, 1) := by decide +kernel
theorem dX6_quietRoles_1 : decode cX6_quietRoles 1 = .ok (.istore_n 2, 1) := by decide +kernel
theorem dX6_quietRoles_2 : decode cX6_quietRoles 2 = .ok (.iconst 0, 1) := by decide +kernel
theorem dX6_quietRoles_3 : decode cX6_quietRoles 3 = .ok (.istore_n 3, 1) := by decide +kernel
theorem dX6_quietRoles_4 : decode cX6_quietRoles 4 = .ok (.iload_n 3, 1) := by decide +kernel
theorem dX6_quietRoles_5 : decode cX6_quietRoles 5 = .ok (.aload_n 0, 1) := by decide +kernel
theorem dX6_quietRoles_6 : decode cX6_quietRoles 6 = .ok (.getfield 9, 3) := by decide +kernel
theorem dX6_quietRoles_9 : decode cX6_quietRoles 9 = .ok (.if_icmp .ge 24, 3) := by decide +kernel
theorem dX6_quietRoles_12 : decode cX6_quietRoles 12 = .ok (.aload_n 1, 1) := by decide +kernel
theorem dX6_quietRoles_13 : decode cX6_quietRoles 13 = .ok (.getfield 96, 3) := by decide +kernel
theorem dX6_quietRoles_16 : decode cX6_quietRoles 16 = .ok (.iload_n 3, 1) := by decide +kernel
theorem dX6_quietRoles_17 : decode cX6_quietRoles 17 = .ok (.iaload, 1) := by decide +kernel
theorem dX6_quietRoles_18 : decode cX6_quietRoles 18 = .ok (.ifCond .le 9, 3) := by decide +kernel
theorem dX6_quietRoles_21 : decode cX6_quietRoles 21 = .ok (.iload_n 2, 1) := by decide +kernel
theorem dX6_quietRoles_22 : decode cX6_quietRoles 22 = .ok (.iconst 1, 1) := by decide +kernel
theorem dX6_quietRoles_23 : decode cX6_quietRoles 23 = .ok (.iload_n 3, 1) := by decide +kernel
theorem dX6_quietRoles_24 : decode cX6_quietRoles 24 = .ok (.ishl, 1) := by decide +kernel
theorem dX6_quietRoles_25 : decode cX6_quietRoles 25 = .ok (.ior, 1) := by decide +kernel
theorem dX6_quietRoles_26 : decode cX6_quietRoles 26 = .ok (.istore_n 2, 1) := by decide +kernel
theorem dX6_quietRoles_27 : decode cX6_quietRoles 27 = .ok (.iinc 3 1, 3) := by decide +kernel
theorem dX6_quietRoles_30 : decode cX6_quietRoles 30 = .ok (.goto (-26), 3) := by decide +kernel
theorem dX6_quietRoles_33 : decode cX6_quietRoles 33 = .ok (.iload_n 2, 1) := by decide +kernel
theorem dX6_quietRoles_34 : decode cX6_quietRoles 34 = .ok (.ireturn, 1) := by decide +kernel
theorem dX6_neverHeard_0 : decode cX6_neverHeard 0 = .ok (.iconst 0, 1) := by decide +kernel
theorem dX6_neverHeard_1 : decode cX6_neverHeard 1 = .ok (.istore_n 2, 1) := by decide +kernel
theorem dX6_neverHeard_2 : decode cX6_neverHeard 2 = .ok (.iconst 0, 1) := by decide +kernel
theorem dX6_neverHeard_3 : decode cX6_neverHeard 3 = .ok (.istore_n 3, 1) := by decide +kernel
theorem dX6_neverHeard_4 : decode cX6_neverHeard 4 = .ok (.iload_n 3, 1) := by decide +kernel
theorem dX6_neverHeard_5 : decode cX6_neverHeard 5 = .ok (.aload_n 0, 1) := by decide +kernel
theorem dX6_neverHeard_6 : decode cX6_neverHeard 6 = .ok (.getfield 9, 3) := by decide +kernel
theorem dX6_neverHeard_9 : decode cX6_neverHeard 9 = .ok (.if_icmp .ge 24, 3) := by decide +kernel
theorem dX6_neverHeard_12 : decode cX6_neverHeard 12 = .ok (.aload_n 1, 1) := by decide +kernel
theorem dX6_neverHeard_13 : decode cX6_neverHeard 13 = .ok (.getfield 93, 3) := by decide +kernel
theorem dX6_neverHeard_16 : decode cX6_neverHeard 16 = .ok (.iload_n 3, 1) := by decide +kernel
theorem dX6_neverHeard_17 : decode cX6_neverHeard 17 = .ok (.iaload, 1) := by decide +kernel
theorem dX6_neverHeard_18 : decode cX6_neverHeard 18 = .ok (.ifCond .ne 9, 3) := by decide +kernel
theorem dX6_neverHeard_21 : decode cX6_neverHeard 21 = .ok (.iload_n 2, 1) := by decide +kernel
theorem dX6_neverHeard_22 : decode cX6_neverHeard 22 = .ok (.iconst 1, 1) := by decide +kernel
theorem dX6_neverHeard_23 : decode cX6_neverHeard 23 = .ok (.iload_n 3, 1) := by decide +kernel
theorem dX6_neverHeard_24 : decode cX6_neverHeard 24 = .ok (.ishl, 1) := by decide +kernel
theorem dX6_neverHeard_25 : decode cX6_neverHeard 25 = .ok (.ior, 1) := by decide +kernel
theorem dX6_neverHeard_26 : decode cX6_neverHeard 26 = .ok (.istore_n 2, 1) := by decide +kernel
theorem dX6_neverHeard_27 : decode cX6_neverHeard 27 = .ok (.iinc 3 1, 3) := by decide +kernel
theorem dX6_neverHeard_30 : decode cX6_neverHeard 30 = .ok (.goto (-26), 3) := by decide +kernel
theorem dX6_neverHeard_33 : decode cX6_neverHeard 33 = .ok (.iload_n 2, 1) := by decide +kernel
theorem dX6_neverHeard_34 : decode cX6_neverHeard 34 = .ok (.ireturn, 1) := by decide +kernel
theorem dX6_stirred_0 : decode cX6_stirred 0 = .ok (.iload_n 0, 1) := by decide +kernel
theorem dX6_stirred_1 : decode cX6_stirred 1 = .ok (.iload_n 1, 1) := by decide +kernel
theorem dX6_stirred_2 : decode cX6_stirred 2 = .ok (.ixor, 1) := by decide +kernel
theorem dX6_stirred_3 : decode cX6_stirred 3 = .ok (.ldc 155, 2) := by decide +kernel
theorem dX6_stirred_5 : decode cX6_stirred 5 = .ok (.imul, 1) := by decide +kernel
theorem dX6_stirred_6 : decode cX6_stirred 6 = .ok (.sipush 12345, 3) := by decide +kernel
theorem dX6_stirred_9 : decode cX6_stirred 9 = .ok (.iadd, 1) := by decide +kernel
theorem dX6_stirred_10 : decode cX6_stirred 10 = .ok (.istore_n 2, 1) := by decide +kernel
theorem dX6_stirred_11 : decode cX6_stirred 11 = .ok (.iload_n 2, 1) := by decide +kernel
theorem dX6_stirred_12 : decode cX6_stirred 12 = .ok (.iload_n 2, 1) := by decide +kernel
theorem dX6_stirred_13 : decode cX6_stirred 13 = .ok (.bipush 15, 2) := by decide +kernel
theorem dX6_stirred_15 : decode cX6_stirred 15 = .ok (.iushr, 1) := by decide +kernel
theorem dX6_stirred_16 : decode cX6_stirred 16 = .ok (.ixor, 1) := by decide +kernel
theorem dX6_stirred_17 : decode cX6_stirred 17 = .ok (.ireturn, 1) := by decide +kernel
theorem dX7_withLetter_0 : decode cX7_withLetter 0 = .ok (.lload_n 0, 1) := by decide +kernel
theorem dX7_withLetter_1 : decode cX7_withLetter 1 = .ok (.ldc2_w 52, 3) := by decide +kernel
theorem dX7_withLetter_4 : decode cX7_withLetter 4 = .ok (.lmul, 1) := by decide +kernel
theorem dX7_withLetter_5 : decode cX7_withLetter 5 = .ok (.iload_n 2, 1) := by decide +kernel
theorem dX7_withLetter_6 : decode cX7_withLetter 6 = .ok (.bipush 97, 2) := by decide +kernel
theorem dX7_withLetter_8 : decode cX7_withLetter 8 = .ok (.isub, 1) := by decide +kernel
theorem dX7_withLetter_9 : decode cX7_withLetter 9 = .ok (.iconst 1, 1) := by decide +kernel
theorem dX7_withLetter_10 : decode cX7_withLetter 10 = .ok (.iadd, 1) := by decide +kernel
theorem dX7_withLetter_11 : decode cX7_withLetter 11 = .ok (.i2l, 1) := by decide +kernel
theorem dX7_withLetter_12 : decode cX7_withLetter 12 = .ok (.ladd, 1) := by decide +kernel
theorem dX7_withLetter_13 : decode cX7_withLetter 13 = .ok (.lreturn, 1) := by decide +kernel
theorem dX7_rewind_0 : decode cX7_rewind 0 = .ok (.aload_n 0, 1) := by decide +kernel
theorem dX7_rewind_1 : decode cX7_rewind 1 = .ok (.iconst 0, 1) := by decide +kernel
theorem dX7_rewind_2 : decode cX7_rewind 2 = .ok (.putfield 19, 3) := by decide +kernel
theorem dX7_rewind_5 : decode cX7_rewind 5 = .ok (.return_, 1) := by decide +kernel
theorem dX7_sortOfName_0 : decode cX7_sortOfName 0 = .ok (.iconst 0, 1) := by decide +kernel
theorem dX7_sortOfName_1 : decode cX7_sortOfName 1 = .ok (.istore_n 1, 1) := by decide +kernel
theorem dX7_sortOfName_2 : decode cX7_sortOfName 2 = .ok (.iload_n 1, 1) := by decide +kernel
theorem dX7_sortOfName_3 : decode cX7_sortOfName 3 = .ok (.bipush 22, 2) := by decide +kernel
theorem dX7_sortOfName_5 : decode cX7_sortOfName 5 = .ok (.if_icmp .ge 25, 3) := by decide +kernel
theorem dX7_sortOfName_8 : decode cX7_sortOfName 8 = .ok (.aload_n 0, 1) := by decide +kernel
theorem dX7_sortOfName_9 : decode cX7_sortOfName 9 = .ok (.getfield 15, 3) := by decide +kernel
theorem dX7_sortOfName_12 : decode cX7_sortOfName 12 = .ok (.iload_n 1, 1) := by decide +kernel
theorem dX7_sortOfName_13 : decode cX7_sortOfName 13 = .ok (.laload, 1) := by decide +kernel
theorem dX7_sortOfName_14 : decode cX7_sortOfName 14 = .ok (.aload_n 0, 1) := by decide +kernel
theorem dX7_sortOfName_15 : decode cX7_sortOfName 15 = .ok (.getfield 32, 3) := by decide +kernel
theorem dX7_sortOfName_18 : decode cX7_sortOfName 18 = .ok (.lcmp, 1) := by decide +kernel
theorem dX7_sortOfName_19 : decode cX7_sortOfName 19 = .ok (.ifCond .ne 5, 3) := by decide +kernel
theorem dX7_sortOfName_22 : decode cX7_sortOfName 22 = .ok (.iload_n 1, 1) := by decide +kernel
theorem dX7_sortOfName_23 : decode cX7_sortOfName 23 = .ok (.ireturn, 1) := by decide +kernel
theorem dX7_sortOfName_24 : decode cX7_sortOfName 24 = .ok (.iinc 1 1, 3) := by decide +kernel
theorem dX7_sortOfName_27 : decode cX7_sortOfName 27 = .ok (.goto (-25), 3) := by decide +kernel
theorem dX7_sortOfName_30 : decode cX7_sortOfName 30 = .ok (.bipush 22, 2) := by decide +kernel
theorem dX7_sortOfName_32 : decode cX7_sortOfName 32 = .ok (.ireturn, 1) := by decide +kernel
theorem dX7_isBlank_0 : decode cX7_isBlank 0 = .ok (.iload_n 0, 1) := by decide +kernel
theorem dX7_isBlank_1 : decode cX7_isBlank 1 = .ok (.bipush 9, 2) := by decide +kernel
theorem dX7_isBlank_3 : decode cX7_isBlank 3 = .ok (.if_icmp .eq 21, 3) := by decide +kernel
theorem dX7_isBlank_6 : decode cX7_isBlank 6 = .ok (.iload_n 0, 1) := by decide +kernel
theorem dX7_isBlank_7 : decode cX7_isBlank 7 = .ok (.bipush 10, 2) := by decide +kernel
theorem dX7_isBlank_9 : decode cX7_isBlank 9 = .ok (.if_icmp .eq 15, 3) := by decide +kernel
theorem dX7_isBlank_12 : decode cX7_isBlank 12 = .ok (.iload_n 0, 1) := by decide +kernel
theorem dX7_isBlank_13 : decode cX7_isBlank 13 = .ok (.bipush 13, 2) := by decide +kernel
theorem dX7_isBlank_15 : decode cX7_isBlank 15 = .ok (.if_icmp .eq 9, 3) := by decide +kernel
theorem dX7_isBlank_18 : decode cX7_isBlank 18 = .ok (.iload_n 0, 1) := by decide +kernel
theorem dX7_isBlank_19 : decode cX7_isBlank 19 = .ok (.bipush 32, 2) := by decide +kernel
theorem dX7_isBlank_21 : decode cX7_isBlank 21 = .ok (.if_icmp .ne 7, 3) := by decide +kernel
theorem dX7_isBlank_24 : decode cX7_isBlank 24 = .ok (.iconst 1, 1) := by decide +kernel
theorem dX7_isBlank_25 : decode cX7_isBlank 25 = .ok (.goto 4, 3) := by decide +kernel
theorem dX7_isBlank_28 : decode cX7_isBlank 28 = .ok (.iconst 0, 1) := by decide +kernel
theorem dX7_isBlank_29 : decode cX7_isBlank 29 = .ok (.ireturn, 1) := by decide +kernel
theorem dX7_isLetter_0 : decode cX7_isLetter 0 = .ok (.iload_n 0, 1) := by decide +kernel
theorem dX7_isLetter_1 : decode cX7_isLetter 1 = .ok (.bipush 97, 2) := by decide +kernel
theorem dX7_isLetter_3 : decode cX7_isLetter 3 = .ok (.if_icmp .lt 13, 3) := by decide +kernel
theorem dX7_isLetter_6 : decode cX7_isLetter 6 = .ok (.iload_n 0, 1) := by decide +kernel
theorem dX7_isLetter_7 : decode cX7_isLetter 7 = .ok (.bipush 122, 2) := by decide +kernel
theorem dX7_isLetter_9 : decode cX7_isLetter 9 = .ok (.if_icmp .gt 7, 3) := by decide +kernel
theorem dX7_isLetter_12 : decode cX7_isLetter 12 = .ok (.iconst 1, 1) := by decide +kernel
theorem dX7_isLetter_13 : decode cX7_isLetter 13 = .ok (.goto 4, 3) := by decide +kernel
theorem dX7_isLetter_16 : decode cX7_isLetter 16 = .ok (.iconst 0, 1) := by decide +kernel
theorem dX7_isLetter_17 : decode cX7_isLetter 17 = .ok (.ireturn, 1) := by decide +kernel
set_option maxRecDepth 100000 in
set_option maxHeartbeats 4000000 in
theorem tX0_init (G : gx) (fu : Nat) (v0 : Nat) (h : mh) : Ct lV G yX0_init cX0_init 1 (none) 1 [.ref (gB G + v0)] h (fX0_init fu v0 h) := by
  refine ct_ls (ls := [(0, .ref (gB G + v0))]) rfl (by decide) (Nat.le_of_ble_eq_true rfl) ?_
  unfold fX0_init
  refine ev_step (st_aload_n (pc := 0) (j := 0) dX0_init_0 rfl rfl) ?_
  refine ev_step (st_objinit (pc := 1) o_X0_3 (by decide) (Nat.le_of_ble_eq_true rfl) dX0_init_1) ?_
  refine ev_step (st_aload_n (pc := 4) (j := 0) dX0_init_4 rfl rfl) ?_
  refine ev_step (st_iconst (pc := 5) dX0_init_5 ni_0) ?_
  refine ev_putI (pc := 6) (p_X0_9 _ rfl) rfl dX0_init_6 (fun h1 => ?_)
  refine ev_step (st_aload_n (pc := 9) (j := 0) dX0_init_9 rfl rfl) ?_
  refine ev_step (st_iconst (pc := 10) dX0_init_10 ni_3) ?_
  refine ev_putI (pc := 11) (p_X0_15 _ rfl) rfl dX0_init_11 (fun h2 => ?_)
  refine ev_step (st_aload_n (pc := 14) (j := 0) dX0_init_14 rfl rfl) ?_
  refine ev_step (st_iconst (pc := 15) dX0_init_15 ni_0) ?_
  refine ev_putI (pc := 16) (p_X0_18 _ rfl) rfl dX0_init_16 (fun h3 => ?_)
  refine ev_step (st_aload_n (pc := 19) (j := 0) dX0_init_19 rfl rfl) ?_
  refine ev_step (st_iconst (pc := 20) dX0_init_20 ni_0) ?_
  refine ev_putI (pc := 21) (p_X0_21 _ rfl) rfl dX0_init_21 (fun h4 => ?_)
  refine ev_step (st_aload_n (pc := 24) (j := 0) dX0_init_24 rfl rfl) ?_
  refine ev_step (st_iconst (pc := 25) dX0_init_25 ni_0) ?_
  refine ev_putZ (pc := 26) (p_X0_24 _ rfl) rfl dX0_init_26 (fun h5 => ?_)
  refine ev_step (st_aload_n (pc := 29) (j := 0) dX0_init_29 rfl rfl) ?_
  refine ev_step (st_iconst (pc := 30) dX0_init_30 ni_0) ?_
  refine ev_putZ (pc := 31) (p_X0_28 _ rfl) rfl dX0_init_31 (fun h6 => ?_)
  refine ev_step (st_aload_n (pc := 34) (j := 0) dX0_init_34 rfl rfl) ?_
  refine ev_step (st_iconst (pc := 35) dX0_init_35 ni_0) ?_
  refine ev_putZ (pc := 36) (p_X0_31 _ rfl) rfl dX0_init_36 (fun h7 => ?_)
  refine ev_step (st_aload_n (pc := 39) (j := 0) dX0_init_39 rfl rfl) ?_
  refine ev_step (st_iconst (pc := 40) dX0_init_40 ni_0) ?_
  refine ev_putZ (pc := 41) (p_X0_34 _ rfl) rfl dX0_init_41 (fun h8 => ?_)
  refine ev_step (st_aload_n (pc := 44) (j := 0) dX0_init_44 rfl rfl) ?_
  refine ev_step (st_bipush (pc := 45) dX0_init_45 nb_24) ?_
  refine ev_newa (pc := 47) (t := 1) (ty := .int) ac_int rfl (Or.inl rfl) dX0_init_47 (fun a9 h10 => ?_)
  refine ev_putR (pc := 49) (p_X0_37 _ rfl rfl) (Or.inr ⟨_, rfl⟩) dX0_init_49 (fun h11 => ?_)
  refine ev_step (st_aload_n (pc := 52) (j := 0) dX0_init_52 rfl rfl) ?_
  refine ev_step (st_iconst (pc := 53) dX0_init_53 ni_0) ?_
  refine ev_putI (pc := 54) (p_X0_41 _ rfl) rfl dX0_init_54 (fun h12 => ?_)
  exact ev_vret (pc := 57) dX0_init_57
set_option maxRecDepth 100000 in
set_option maxHeartbeats 4000000 in
theorem tX0_open (G : gx) (fu : Nat) (v0 : Nat) (v1 : Int32) (h : mh) : Ct lV G yX0_open cX0_open 2 (none) 1 [.ref (gB G + v0), .int v1] h (fX0_open fu v0 v1 h) := by
  refine ct_ls (ls := [(0, .ref (gB G + v0)), (1, .int v1)]) rfl (by decide) (Nat.le_of_ble_eq_true rfl) ?_
  unfold fX0_open
  refine ev_step (st_aload_n (pc := 0) (j := 0) dX0_open_0 rfl rfl) ?_
  refine ev_step (st_iload_n (pc := 1) (j := 1) dX0_open_1 rfl rfl) ?_
  refine ev_putI (pc := 2) (p_X0_9 _ rfl) rfl dX0_open_2 (fun h1 => ?_)
  refine ev_step (st_aload_n (pc := 5) (j := 0) dX0_open_5 rfl rfl) ?_
  refine ev_step (st_iconst (pc := 6) dX0_open_6 ni_3) ?_
  refine ev_putI (pc := 7) (p_X0_15 _ rfl) rfl dX0_open_7 (fun h2 => ?_)
  refine ev_step (st_aload_n (pc := 10) (j := 0) dX0_open_10 rfl rfl) ?_
  refine ev_step (st_iconst (pc := 11) dX0_open_11 ni_0) ?_
  refine ev_putI (pc := 12) (p_X0_18 _ rfl) rfl dX0_open_12 (fun h3 => ?_)
  refine ev_step (st_aload_n (pc := 15) (j := 0) dX0_open_15 rfl rfl) ?_
  refine ev_step (st_iconst (pc := 16) dX0_open_16 ni_0) ?_
  refine ev_putI (pc := 17) (p_X0_21 _ rfl) rfl dX0_open_17 (fun h4 => ?_)
  refine ev_step (st_aload_n (pc := 20) (j := 0) dX0_open_20 rfl rfl) ?_
  refine ev_step (st_iconst (pc := 21) dX0_open_21 ni_0) ?_
  refine ev_putZ (pc := 22) (p_X0_24 _ rfl) rfl dX0_open_22 (fun h5 => ?_)
  refine ev_step (st_aload_n (pc := 25) (j := 0) dX0_open_25 rfl rfl) ?_
  refine ev_step (st_iconst (pc := 26) dX0_open_26 ni_0) ?_
  refine ev_putZ (pc := 27) (p_X0_31 _ rfl) rfl dX0_open_27 (fun h6 => ?_)
  refine ev_step (st_aload_n (pc := 30) (j := 0) dX0_open_30 rfl rfl) ?_
  refine ev_step (st_iconst (pc := 31) dX0_open_31 ni_0) ?_
  refine ev_putI (pc := 32) (p_X0_41 _ rfl) rfl dX0_open_32 (fun h7 => ?_)
  exact ev_vret (pc := 35) dX0_open_35
set_option maxRecDepth 100000 in
set_option maxHeartbeats 4000000 in
theorem tX0_endOfPart (G : gx) (fu : Nat) (v0 : Nat) (h : mh) : Ct lI G yX0_endOfPart cX0_endOfPart 1 (some .int) 1 [.ref (gB G + v0)] h (fX0_endOfPart fu v0 h) := by
  refine ct_ls (ls := [(0, .ref (gB G + v0))]) rfl (by decide) (Nat.le_of_ble_eq_true rfl) ?_
  unfold fX0_endOfPart
  refine ev_step (st_aload_n (pc := 0) (j := 0) dX0_endOfPart_0 rfl rfl) ?_
  refine ev_getI (pc := 1) k_X0_15 rfl dX0_endOfPart_1 (fun x1 => ?_)
  refine ev_case (n := 0) (c := (0 : Int32)) (off := 28) (tgt := 32) (pc := 4) (swn_0 _ _) dX0_endOfPart_4 (by decide) (by decide) (by decide) (by decide) (by decide) (fun _ => ?_) (fun q2 => ?_)
  · refine ev_step (st_bipush (pc := 32) dX0_endOfPart_32 nb_60) ?_
    exact ev_iret (pc := 34) dX0_endOfPart_34
  refine ev_case (n := 1) (c := (1 : Int32)) (off := 31) (tgt := 35) (pc := 4) q2 dX0_endOfPart_4 (by decide) (by decide) (by decide) (by decide) (by decide) (fun _ => ?_) (fun q3 => ?_)
  · refine ev_step (st_bipush (pc := 35) dX0_endOfPart_35 nb_11) ?_
    exact ev_iret (pc := 37) dX0_endOfPart_37
  refine ev_case (n := 2) (c := (2 : Int32)) (off := 34) (tgt := 38) (pc := 4) q3 dX0_endOfPart_4 (by decide) (by decide) (by decide) (by decide) (by decide) (fun _ => ?_) (fun q4 => ?_)
  · refine ev_step (st_bipush (pc := 38) dX0_endOfPart_38 nb_12) ?_
    exact ev_iret (pc := 40) dX0_endOfPart_40
  refine ev_dflt (n := 3) (tgt := 41) (pc := 4) q4 dX0_endOfPart_4 (by decide) (by decide) ?_
  refine ev_step (st_bipush (pc := 41) dX0_endOfPart_41 nb_59) ?_
  exact ev_iret (pc := 43) dX0_endOfPart_43
set_option maxRecDepth 100000 in
set_option maxHeartbeats 4000000 in
theorem tX0_tightnessOf (G : gx) (fu : Nat) (v0 : Int32) (h : mh) : Ct lI G yX0_tightnessOf cX0_tightnessOf 1 (some .int) 1 [.int v0] h (fX0_tightnessOf fu v0 h) := by
  refine ct_ls (ls := [(0, .int v0)]) rfl (by decide) (Nat.le_of_ble_eq_true rfl) ?_
  unfold fX0_tightnessOf
  refine ev_step (st_iload_n (pc := 0) (j := 0) dX0_tightnessOf_0 rfl rfl) ?_
  refine ev_case (n := 0) (c := (42 : Int32)) (off := 41) (tgt := 42) (pc := 1) (swn_0 _ _) dX0_tightnessOf_1 (by decide) (by decide) (by decide) (by decide) (by decide) (fun _ => ?_) (fun q1 => ?_)
  · refine ev_step (st_iconst (pc := 42) dX0_tightnessOf_42 ni_2) ?_
    exact ev_iret (pc := 43) dX0_tightnessOf_43
  refine ev_case (n := 1) (c := (43 : Int32)) (off := 39) (tgt := 40) (pc := 1) q1 dX0_tightnessOf_1 (by decide) (by decide) (by decide) (by decide) (by decide) (fun _ => ?_) (fun q2 => ?_)
  · refine ev_step (st_iconst (pc := 40) dX0_tightnessOf_40 ni_1) ?_
    exact ev_iret (pc := 41) dX0_tightnessOf_41
  refine ev_case (n := 2) (c := (44 : Int32)) (off := 43) (tgt := 44) (pc := 1) q2 dX0_tightnessOf_1 (by decide) (by decide) (by decide) (by decide) (by decide) (fun _ => ?_) (fun q3 => ?_)
  · refine ev_step (st_iconst (pc := 44) dX0_tightnessOf_44 ni_0) ?_
    exact ev_iret (pc := 45) dX0_tightnessOf_45
  refine ev_case (n := 3) (c := (45 : Int32)) (off := 39) (tgt := 40) (pc := 1) q3 dX0_tightnessOf_1 (by decide) (by decide) (by decide) (by decide) (by decide) (fun _ => ?_) (fun q4 => ?_)
  · refine ev_step (st_iconst (pc := 40) dX0_tightnessOf_40 ni_1) ?_
    exact ev_iret (pc := 41) dX0_tightnessOf_41
  refine ev_case (n := 4) (c := (46 : Int32)) (off := 43) (tgt := 44) (pc := 1) q4 dX0_tightnessOf_1 (by decide) (by decide) (by decide) (by decide) (by decide) (fun _ => ?_) (fun q5 => ?_)
  · refine ev_step (st_iconst (pc := 44) dX0_tightnessOf_44 ni_0) ?_
    exact ev_iret (pc := 45) dX0_tightnessOf_45
  refine ev_case (n := 5) (c := (47 : Int32)) (off := 41) (tgt := 42) (pc := 1) q5 dX0_tightnessOf_1 (by decide) (by decide) (by decide) (by decide) (by decide) (fun _ => ?_) (fun q6 => ?_)
  · refine ev_step (st_iconst (pc := 42) dX0_tightnessOf_42 ni_2) ?_
    exact ev_iret (pc := 43) dX0_tightnessOf_43
  refine ev_dflt (n := 6) (tgt := 44) (pc := 1) q6 dX0_tightnessOf_1 (by decide) (by decide) ?_
  refine ev_step (st_iconst (pc := 44) dX0_tightnessOf_44 ni_0) ?_
  exact ev_iret (pc := 45) dX0_tightnessOf_45
set_option maxRecDepth 100000 in
set_option maxHeartbeats 4000000 in
theorem tX0_hang (G : gx) (fu : Nat) (v0 : Nat) (v1 : Int32) (h : mh) : Ct lV G yX0_hang cX0_hang 2 (none) 1 [.ref (gB G + v0), .int v1] h (fX0_hang fu v0 v1 h) := by
  refine ct_ls (ls := [(0, .ref (gB G + v0)), (1, .int v1)]) rfl (by decide) (Nat.le_of_ble_eq_true rfl) ?_
  unfold fX0_hang
  refine ev_step (st_aload_n (pc := 0) (j := 0) dX0_hang_0 rfl rfl) ?_
  refine ev_getI (pc := 1) k_X0_41 rfl dX0_hang_1 (fun x1 => ?_)
  refine ev_step (st_bipush (pc := 4) dX0_hang_4 nb_24) ?_
  refine ev_br (br_icmp_ge (tgt := 29) (pc := 6) dX0_hang_6 (by decide)) (fun _ => ?_) (fun _ => ?_)
  · exact ev_vret (pc := 29) dX0_hang_29
  · refine ev_step (st_aload_n (pc := 9) (j := 0) dX0_hang_9 rfl rfl) ?_
    refine ev_getR (pc := 10) k_X0_37 rfl dX0_hang_10 (fun a2 => ?_)
    refine ev_step (st_aload_n (pc := 13) (j := 0) dX0_hang_13 rfl rfl) ?_
    refine ev_getI (pc := 14) k_X0_41 rfl dX0_hang_14 (fun x3 => ?_)
    refine ev_step (st_iload_n (pc := 17) (j := 1) dX0_hang_17 rfl rfl) ?_
    refine ev_sti (pc := 18) dX0_hang_18 (fun h4 => ?_)
    refine ev_step (st_aload_n (pc := 19) (j := 0) dX0_hang_19 rfl rfl) ?_
    refine ev_step (st_dup (pc := 20) dX0_hang_20 rfl) ?_
    refine ev_getI (pc := 21) k_X0_41 rfl dX0_hang_21 (fun x5 => ?_)
    refine ev_step (st_iconst (pc := 24) dX0_hang_24 ni_1) ?_
    refine ev_step (st_iadd (pc := 25) dX0_hang_25) ?_
    refine ev_putI (pc := 26) (p_X0_41 _ rfl) rfl dX0_hang_26 (fun h6 => ?_)
    exact ev_vret (pc := 29) dX0_hang_29
set_option maxRecDepth 100000 in
set_option maxHeartbeats 4000000 in
theorem tX1_init (G : gx) (fu : Nat) (v0 : Nat) (h : mh) : Ct lV G yX1_init cX1_init 1 (none) 1 [.ref (gB G + v0)] h (fX1_init fu v0 h) := by
  refine ct_ls (ls := [(0, .ref (gB G + v0))]) rfl (by decide) (Nat.le_of_ble_eq_true rfl) ?_
  unfold fX1_init
  refine ev_step (st_aload_n (pc := 0) (j := 0) dX1_init_0 rfl rfl) ?_
  refine ev_step (st_objinit (pc := 1) o_X1_5 (by decide) (Nat.le_of_ble_eq_true rfl) dX1_init_1) ?_
  refine ev_step (st_aload_n (pc := 4) (j := 0) dX1_init_4 rfl rfl) ?_
  refine ev_step (st_sipush (pc := 5) dX1_init_5 ns_400) ?_
  refine ev_newa (pc := 8) (t := 1) (ty := .int) ac_int rfl (Or.inl rfl) dX1_init_8 (fun a1 h2 => ?_)
  refine ev_putR (pc := 10) (p_X1_11 _ rfl rfl) (Or.inr ⟨_, rfl⟩) dX1_init_10 (fun h3 => ?_)
  refine ev_step (st_aload_n (pc := 13) (j := 0) dX1_init_13 rfl rfl) ?_
  refine ev_step (st_iconst (pc := 14) dX1_init_14 ni_0) ?_
  refine ev_putI (pc := 15) (p_X1_15 _ rfl) rfl dX1_init_15 (fun h4 => ?_)
  refine ev_step (st_aload_n (pc := 18) (j := 0) dX1_init_18 rfl rfl) ?_
  refine ev_step (st_iconst (pc := 19) dX1_init_19 ni_4) ?_
  refine ev_newa (pc := 20) (t := 1) (ty := .int) ac_int rfl (Or.inl rfl) dX1_init_20 (fun a5 h6 => ?_)
  refine ev_putR (pc := 22) (p_X1_19 _ rfl rfl) (Or.inr ⟨_, rfl⟩) dX1_init_22 (fun h7 => ?_)
  refine ev_step (st_aload_n (pc := 25) (j := 0) dX1_init_25 rfl rfl) ?_
  refine ev_step (st_bipush (pc := 26) dX1_init_26 nb_52) ?_
  refine ev_newa (pc := 28) (t := 1) (ty := .int) ac_int rfl (Or.inl rfl) dX1_init_28 (fun a8 h9 => ?_)
  refine ev_putR (pc := 30) (p_X1_22 _ rfl rfl) (Or.inr ⟨_, rfl⟩) dX1_init_30 (fun h10 => ?_)
  refine ev_step (st_aload_n (pc := 33) (j := 0) dX1_init_33 rfl rfl) ?_
  refine ev_step (st_iconst (pc := 34) dX1_init_34 ni_4) ?_
  refine ev_newa (pc := 35) (t := 1) (ty := .int) ac_int rfl (Or.inl rfl) dX1_init_35 (fun a11 h12 => ?_)
  refine ev_putR (pc := 37) (p_X1_25 _ rfl rfl) (Or.inr ⟨_, rfl⟩) dX1_init_37 (fun h13 => ?_)
  refine ev_step (st_aload_n (pc := 40) (j := 0) dX1_init_40 rfl rfl) ?_
  refine ev_step (st_bipush (pc := 41) dX1_init_41 nb_9) ?_
  refine ev_newa (pc := 43) (t := 1) (ty := .int) ac_int rfl (Or.inl rfl) dX1_init_43 (fun a14 h15 => ?_)
  refine ev_putR (pc := 45) (p_X1_28 _ rfl rfl) (Or.inr ⟨_, rfl⟩) dX1_init_45 (fun h16 => ?_)
  refine ev_step (st_aload_n (pc := 48) (j := 0) dX1_init_48 rfl rfl) ?_
  refine ev_step (st_bipush (pc := 49) dX1_init_49 nb_24) ?_
  refine ev_newa (pc := 51) (t := 1) (ty := .int) ac_int rfl (Or.inl rfl) dX1_init_51 (fun a17 h18 => ?_)
  refine ev_putR (pc := 53) (p_X1_31 _ rfl rfl) (Or.inr ⟨_, rfl⟩) dX1_init_53 (fun h19 => ?_)
  refine ev_step (st_aload_n (pc := 56) (j := 0) dX1_init_56 rfl rfl) ?_
  refine ev_step (st_iconst (pc := 57) dX1_init_57 ni_0) ?_
  refine ev_putZ (pc := 58) (p_X1_34 _ rfl) rfl dX1_init_58 (fun h20 => ?_)
  exact ev_vret (pc := 61) dX1_init_61
set_option maxRecDepth 100000 in
set_option maxHeartbeats 4000000 in
theorem tX1_open (G : gx) (fu : Nat) (v0 : Nat) (v1 : Int32) (h : mh) : Ct lV G yX1_open cX1_open 2 (none) 1 [.ref (gB G + v0), .int v1] h (fX1_open fu v0 v1 h) := by
  refine ct_ls (ls := [(0, .ref (gB G + v0)), (1, .int v1)]) rfl (by decide) (Nat.le_of_ble_eq_true rfl) ?_
  unfold fX1_open
  refine ev_step (st_aload_n (pc := 0) (j := 0) dX1_open_0 rfl rfl) ?_
  refine ev_getR (pc := 1) k_X1_19 rfl dX1_open_1 (fun a1 => ?_)
  refine ev_step (st_iload_n (pc := 4) (j := 1) dX1_open_4 rfl rfl) ?_
  refine ev_step (st_aload_n (pc := 5) (j := 0) dX1_open_5 rfl rfl) ?_
  refine ev_getI (pc := 6) k_X1_15 rfl dX1_open_6 (fun x2 => ?_)
  refine ev_sti (pc := 9) dX1_open_9 (fun h3 => ?_)
  refine ev_step (st_aload_n (pc := 10) (j := 0) dX1_open_10 rfl rfl) ?_
  refine ev_getR (pc := 11) k_X1_25 rfl dX1_open_11 (fun a4 => ?_)
  refine ev_step (st_iload_n (pc := 14) (j := 1) dX1_open_14 rfl rfl) ?_
  refine ev_step (st_iconst (pc := 15) dX1_open_15 ni_0) ?_
  refine ev_sti (pc := 16) dX1_open_16 (fun h5 => ?_)
  exact ev_vret (pc := 17) dX1_open_17
set_option maxRecDepth 100000 in
set_option maxHeartbeats 4000000 in
theorem tX1_put (G : gx) (fu : Nat) (v0 : Nat) (v1 : Int32) (h : mh) : Ct lV G yX1_put cX1_put 2 (none) 1 [.ref (gB G + v0), .int v1] h (fX1_put fu v0 v1 h) := by
  refine ct_ls (ls := [(0, .ref (gB G + v0)), (1, .int v1)]) rfl (by decide) (Nat.le_of_ble_eq_true rfl) ?_
  unfold fX1_put
  refine ev_step (st_aload_n (pc := 0) (j := 0) dX1_put_0 rfl rfl) ?_
  refine ev_getI (pc := 1) k_X1_15 rfl dX1_put_1 (fun x1 => ?_)
  refine ev_step (st_sipush (pc := 4) dX1_put_4 ns_400) ?_
  refine ev_br (br_icmp_ge (tgt := 30) (pc := 7) dX1_put_7 (by decide)) (fun _ => ?_) (fun _ => ?_)
  · exact ev_vret (pc := 30) dX1_put_30
  · refine ev_step (st_aload_n (pc := 10) (j := 0) dX1_put_10 rfl rfl) ?_
    refine ev_getR (pc := 11) k_X1_11 rfl dX1_put_11 (fun a2 => ?_)
    refine ev_step (st_aload_n (pc := 14) (j := 0) dX1_put_14 rfl rfl) ?_
    refine ev_getI (pc := 15) k_X1_15 rfl dX1_put_15 (fun x3 => ?_)
    refine ev_step (st_iload_n (pc := 18) (j := 1) dX1_put_18 rfl rfl) ?_
    refine ev_sti (pc := 19) dX1_put_19 (fun h4 => ?_)
    refine ev_step (st_aload_n (pc := 20) (j := 0) dX1_put_20 rfl rfl) ?_
    refine ev_step (st_dup (pc := 21) dX1_put_21 rfl) ?_
    refine ev_getI (pc := 22) k_X1_15 rfl dX1_put_22 (fun x5 => ?_)
    refine ev_step (st_iconst (pc := 25) dX1_put_25 ni_1) ?_
    refine ev_step (st_iadd (pc := 26) dX1_put_26) ?_
    refine ev_putI (pc := 27) (p_X1_15 _ rfl) rfl dX1_put_27 (fun h6 => ?_)
    exact ev_vret (pc := 30) dX1_put_30
set_option maxRecDepth 100000 in
set_option maxHeartbeats 4000000 in
theorem tX1_endPart (G : gx) (fu : Nat) (v0 : Nat) (v1 : Int32) (h : mh) : Ct lV G yX1_endPart cX1_endPart 2 (none) 1 [.ref (gB G + v0), .int v1] h (fX1_endPart fu v0 v1 h) := by
  refine ct_ls (ls := [(0, .ref (gB G + v0)), (1, .int v1)]) rfl (by decide) (Nat.le_of_ble_eq_true rfl) ?_
  unfold fX1_endPart
  refine ev_step (st_aload_n (pc := 0) (j := 0) dX1_endPart_0 rfl rfl) ?_
  refine ev_getR (pc := 1) k_X1_25 rfl dX1_endPart_1 (fun a1 => ?_)
  refine ev_step (st_iload_n (pc := 4) (j := 1) dX1_endPart_4 rfl rfl) ?_
  refine ev_ldi (pc := 5) dX1_endPart_5 (fun x2 => ?_)
  refine ev_step (st_bipush (pc := 6) dX1_endPart_6 nb_13) ?_
  refine ev_br (br_icmp_ge (tgt := 41) (pc := 8) dX1_endPart_8 (by decide)) (fun _ => ?_) (fun _ => ?_)
  · exact ev_vret (pc := 41) dX1_endPart_41
  · refine ev_step (st_aload_n (pc := 11) (j := 0) dX1_endPart_11 rfl rfl) ?_
    refine ev_getR (pc := 12) k_X1_22 rfl dX1_endPart_12 (fun a3 => ?_)
    refine ev_step (st_iload_n (pc := 15) (j := 1) dX1_endPart_15 rfl rfl) ?_
    refine ev_step (st_bipush (pc := 16) dX1_endPart_16 nb_13) ?_
    refine ev_step (st_imul (pc := 18) dX1_endPart_18) ?_
    refine ev_step (st_aload_n (pc := 19) (j := 0) dX1_endPart_19 rfl rfl) ?_
    refine ev_getR (pc := 20) k_X1_25 rfl dX1_endPart_20 (fun a4 => ?_)
    refine ev_step (st_iload_n (pc := 23) (j := 1) dX1_endPart_23 rfl rfl) ?_
    refine ev_ldi (pc := 24) dX1_endPart_24 (fun x5 => ?_)
    refine ev_step (st_iadd (pc := 25) dX1_endPart_25) ?_
    refine ev_step (st_aload_n (pc := 26) (j := 0) dX1_endPart_26 rfl rfl) ?_
    refine ev_getI (pc := 27) k_X1_15 rfl dX1_endPart_27 (fun x6 => ?_)
    refine ev_sti (pc := 30) dX1_endPart_30 (fun h7 => ?_)
    refine ev_step (st_aload_n (pc := 31) (j := 0) dX1_endPart_31 rfl rfl) ?_
    refine ev_getR (pc := 32) k_X1_25 rfl dX1_endPart_32 (fun a8 => ?_)
    refine ev_step (st_iload_n (pc := 35) (j := 1) dX1_endPart_35 rfl rfl) ?_
    refine ev_step (st_dup2 (pc := 36) dX1_endPart_36 rfl rfl) ?_
    refine ev_ldi (pc := 37) dX1_endPart_37 (fun x9 => ?_)
    refine ev_step (st_iconst (pc := 38) dX1_endPart_38 ni_1) ?_
    refine ev_step (st_iadd (pc := 39) dX1_endPart_39) ?_
    refine ev_sti (pc := 40) dX1_endPart_40 (fun h10 => ?_)
    exact ev_vret (pc := 41) dX1_endPart_41
set_option maxRecDepth 100000 in
set_option maxHeartbeats 4000000 in
theorem tX1_joined_61 (G : gx) (fu : Nat) (h0 : mh) (v0 : Nat) (v1 : Int32) (v2 : Int32) (v3 : Int32) (s0 : Nat) (s1 : Int32) (h : mh) : Ev lI G yX1_joined cX1_joined 4 (some .int) 1 h0 61 [(0, .ref (gB G + v0)), (1, .int v1), (2, .int v2), (3, .int v3)] [.int s1, .ref (gB G + s0)] h (fX1_joined_61 fu v0 v1 v2 v3 s0 s1 h) := by
  unfold fX1_joined_61
  refine ev_putZ (pc := 61) (p_X1_34 _ rfl) rfl dX1_joined_61 (fun h1 => ?_)
  refine ev_step (st_iload_n (pc := 64) (j := 3) dX1_joined_64 rfl rfl) ?_
  refine ev_br (br_if_ne (tgt := 72) (pc := 65) dX1_joined_65 (by decide)) (fun _ => ?_) (fun _ => ?_)
  · refine ev_step (st_iconst (pc := 68) dX1_joined_68 ni_0) ?_
    refine ev_step (st_goto (pc := 69) (tgt := 75) dX1_joined_69 (by decide)) ?_
    exact ev_iret (pc := 75) dX1_joined_75
  · refine ev_step (st_iload_n (pc := 72) (j := 2) dX1_joined_72 rfl rfl) ?_
    refine ev_step (st_iload_n (pc := 73) (j := 3) dX1_joined_73 rfl rfl) ?_
    refine ev_div (pc := 74) dX1_joined_74 (fun x2 => ?_)
    exact ev_iret (pc := 75) dX1_joined_75
set_option maxRecDepth 100000 in
set_option maxHeartbeats 4000000 in
theorem tX1_joined_56 (G : gx) (fu : Nat) (h0 : mh) (v0 : Nat) (v1 : Int32) (v2 : Int32) (v3 : Int32) (s0 : Nat) (h : mh) : Ev lI G yX1_joined cX1_joined 4 (some .int) 1 h0 56 [(0, .ref (gB G + v0)), (1, .int v1), (2, .int v2), (3, .int v3)] [.ref (gB G + s0)] h (fX1_joined_56 fu v0 v1 v2 v3 s0 h) := by
  unfold fX1_joined_56
  refine ev_step (st_iconst (pc := 56) dX1_joined_56 ni_1) ?_
  refine ev_step (st_goto (pc := 57) (tgt := 61) dX1_joined_57 (by decide)) ?_
  refine ev_sub (ls' := [(0, .ref (gB G + v0)), (1, .int v1), (2, .int v2), (3, .int v3)]) [0, 1, 2, 3] rfl ?_
  exact tX1_joined_61 G fu h0 v0 v1 v2 v3 s0 ((1 : Int32)) h
set_option maxRecDepth 100000 in
set_option maxHeartbeats 4000000 in
theorem tX1_joined_44 (G : gx) (fu : Nat) (h0 : mh) (v0 : Nat) (v1 : Int32) (v2 : Int32) (v3 : Int32) (h : mh) : Ev lI G yX1_joined cX1_joined 4 (some .int) 1 h0 44 [(0, .ref (gB G + v0)), (1, .int v1), (2, .int v2), (3, .int v3)] [] h (fX1_joined_44 fu v0 v1 v2 v3 h) := by
  unfold fX1_joined_44
  refine ev_step (st_aload_n (pc := 44) (j := 0) dX1_joined_44 rfl rfl) ?_
  refine ev_step (st_aload_n (pc := 45) (j := 0) dX1_joined_45 rfl rfl) ?_
  refine ev_getI (pc := 46) k_X1_34 rfl dX1_joined_46 (fun x1 => ?_)
  refine ev_br (br_if_ne (tgt := 56) (pc := 49) dX1_joined_49 (by decide)) (fun _ => ?_) (fun _ => ?_)
  · refine ev_step (st_iload_n (pc := 52) (j := 3) dX1_joined_52 rfl rfl) ?_
    refine ev_br (br_if_ne (tgt := 60) (pc := 53) dX1_joined_53 (by decide)) (fun _ => ?_) (fun _ => ?_)
    · refine ev_sub (ls' := [(0, .ref (gB G + v0)), (1, .int v1), (2, .int v2), (3, .int v3)]) [0, 1, 2, 3] rfl ?_
      exact tX1_joined_56 G fu h0 v0 v1 v2 v3 v0 h
    · refine ev_step (st_iconst (pc := 60) dX1_joined_60 ni_0) ?_
      refine ev_sub (ls' := [(0, .ref (gB G + v0)), (1, .int v1), (2, .int v2), (3, .int v3)]) [0, 1, 2, 3] rfl ?_
      exact tX1_joined_61 G fu h0 v0 v1 v2 v3 v0 ((0 : Int32)) h
  · refine ev_sub (ls' := [(0, .ref (gB G + v0)), (1, .int v1), (2, .int v2), (3, .int v3)]) [0, 1, 2, 3] rfl ?_
    exact tX1_joined_56 G fu h0 v0 v1 v2 v3 v0 h
set_option maxRecDepth 100000 in
set_option maxHeartbeats 4000000 in
theorem tX1_joined (G : gx) (fu : Nat) (v0 : Nat) (v1 : Int32) (v2 : Int32) (v3 : Int32) (h : mh) : Ct lI G yX1_joined cX1_joined 4 (some .int) 1 [.ref (gB G + v0), .int v1, .int v2, .int v3] h (fX1_joined fu v0 v1 v2 v3 h) := by
  refine ct_ls (ls := [(0, .ref (gB G + v0)), (1, .int v1), (2, .int v2), (3, .int v3)]) rfl (by decide) (Nat.le_of_ble_eq_true rfl) ?_
  unfold fX1_joined
  refine ev_step (st_iload_n (pc := 0) (j := 1) dX1_joined_0 rfl rfl) ?_
  refine ev_case (n := 0) (c := (42 : Int32)) (off := 39) (tgt := 40) (pc := 1) (swn_0 _ _) dX1_joined_1 (by decide) (by decide) (by decide) (by decide) (by decide) (fun _ => ?_) (fun q1 => ?_)
  · refine ev_step (st_iload_n (pc := 40) (j := 2) dX1_joined_40 rfl rfl) ?_
    refine ev_step (st_iload_n (pc := 41) (j := 3) dX1_joined_41 rfl rfl) ?_
    refine ev_step (st_imul (pc := 42) dX1_joined_42) ?_
    exact ev_iret (pc := 43) dX1_joined_43
  refine ev_case (n := 1) (c := (43 : Int32)) (off := 31) (tgt := 32) (pc := 1) q1 dX1_joined_1 (by decide) (by decide) (by decide) (by decide) (by decide) (fun _ => ?_) (fun q2 => ?_)
  · refine ev_step (st_iload_n (pc := 32) (j := 2) dX1_joined_32 rfl rfl) ?_
    refine ev_step (st_iload_n (pc := 33) (j := 3) dX1_joined_33 rfl rfl) ?_
    refine ev_step (st_iadd (pc := 34) dX1_joined_34) ?_
    exact ev_iret (pc := 35) dX1_joined_35
  refine ev_case (n := 2) (c := (44 : Int32)) (off := 43) (tgt := 44) (pc := 1) q2 dX1_joined_1 (by decide) (by decide) (by decide) (by decide) (by decide) (fun _ => ?_) (fun q3 => ?_)
  · refine ev_sub (ls' := [(0, .ref (gB G + v0)), (1, .int v1), (2, .int v2), (3, .int v3)]) [0, 1, 2, 3] rfl ?_
    exact tX1_joined_44 G fu h v0 v1 v2 v3 h
  refine ev_case (n := 3) (c := (45 : Int32)) (off := 35) (tgt := 36) (pc := 1) q3 dX1_joined_1 (by decide) (by decide) (by decide) (by decide) (by decide) (fun _ => ?_) (fun q4 => ?_)
  · refine ev_step (st_iload_n (pc := 36) (j := 2) dX1_joined_36 rfl rfl) ?_
    refine ev_step (st_iload_n (pc := 37) (j := 3) dX1_joined_37 rfl rfl) ?_
    refine ev_step (st_isub (pc := 38) dX1_joined_38) ?_
    exact ev_iret (pc := 39) dX1_joined_39
  refine ev_dflt (n := 4) (tgt := 44) (pc := 1) q4 dX1_joined_1 (by decide) (by decide) ?_
  refine ev_sub (ls' := [(0, .ref (gB G + v0)), (1, .int v1), (2, .int v2), (3, .int v3)]) [0, 1, 2, 3] rfl ?_
  exact tX1_joined_44 G fu h v0 v1 v2 v3 h
set_option maxRecDepth 100000 in
set_option maxHeartbeats 4000000 in
theorem tX2_forgetAll (G : gx) (fu : Nat) (v0 : Nat) (h : mh) : Ct lV G yX2_forgetAll cX2_forgetAll 1 (none) 1 [.ref (gB G + v0)] h (fX2_forgetAll fu v0 h) := by
  refine ct_ls (ls := [(0, .ref (gB G + v0))]) rfl (by decide) (Nat.le_of_ble_eq_true rfl) ?_
  unfold fX2_forgetAll
  refine ev_step (st_aload_n (pc := 0) (j := 0) dX2_forgetAll_0 rfl rfl) ?_
  refine ev_step (st_iconst (pc := 1) dX2_forgetAll_1 ni_0) ?_
  refine ev_putI (pc := 2) (p_X2_21 _ rfl) rfl dX2_forgetAll_2 (fun h1 => ?_)
  refine ev_step (st_aload_n (pc := 5) (j := 0) dX2_forgetAll_5 rfl rfl) ?_
  refine ev_step (st_iconst (pc := 6) dX2_forgetAll_6 ni_0) ?_
  refine ev_putI (pc := 7) (p_X2_27 _ rfl) rfl dX2_forgetAll_7 (fun h2 => ?_)
  exact ev_vret (pc := 10) dX2_forgetAll_10
set_option maxRecDepth 100000 in
set_option maxHeartbeats 4000000 in
theorem tX3_init (G : gx) (fu : Nat) (v0 : Nat) (h : mh) : Ct lV G yX3_init cX3_init 1 (none) 1 [.ref (gB G + v0)] h (fX3_init fu v0 h) := by
  refine ct_ls (ls := [(0, .ref (gB G + v0))]) rfl (by decide) (Nat.le_of_ble_eq_true rfl) ?_
  unfold fX3_init
  refine ev_step (st_aload_n (pc := 0) (j := 0) dX3_init_0 rfl rfl) ?_
  refine ev_step (st_objinit (pc := 1) o_X3_3 (by decide) (Nat.le_of_ble_eq_true rfl) dX3_init_1) ?_
  refine ev_step (st_aload_n (pc := 4) (j := 0) dX3_init_4 rfl rfl) ?_
  refine ev_step (st_bipush (pc := 5) dX3_init_5 nb_6) ?_
  refine ev_newa (pc := 7) (t := 1) (ty := .int) ac_int rfl (Or.inl rfl) dX3_init_7 (fun a1 h2 => ?_)
  refine ev_putR (pc := 9) (p_X3_9 _ rfl rfl) (Or.inr ⟨_, rfl⟩) dX3_init_9 (fun h3 => ?_)
  refine ev_step (st_aload_n (pc := 12) (j := 0) dX3_init_12 rfl rfl) ?_
  refine ev_step (st_bipush (pc := 13) dX3_init_13 nb_6) ?_
  refine ev_newa (pc := 15) (t := 1) (ty := .int) ac_int rfl (Or.inl rfl) dX3_init_15 (fun a4 h5 => ?_)
  refine ev_putR (pc := 17) (p_X3_15 _ rfl rfl) (Or.inr ⟨_, rfl⟩) dX3_init_17 (fun h6 => ?_)
  refine ev_step (st_aload_n (pc := 20) (j := 0) dX3_init_20 rfl rfl) ?_
  refine ev_step (st_bipush (pc := 21) dX3_init_21 nb_6) ?_
  refine ev_newa (pc := 23) (t := 1) (ty := .int) ac_int rfl (Or.inl rfl) dX3_init_23 (fun a7 h8 => ?_)
  refine ev_putR (pc := 25) (p_X3_18 _ rfl rfl) (Or.inr ⟨_, rfl⟩) dX3_init_25 (fun h9 => ?_)
  refine ev_step (st_aload_n (pc := 28) (j := 0) dX3_init_28 rfl rfl) ?_
  refine ev_step (st_bipush (pc := 29) dX3_init_29 nb_6) ?_
  refine ev_newa (pc := 31) (t := 1) (ty := .int) ac_int rfl (Or.inl rfl) dX3_init_31 (fun a10 h11 => ?_)
  refine ev_putR (pc := 33) (p_X3_21 _ rfl rfl) (Or.inr ⟨_, rfl⟩) dX3_init_33 (fun h12 => ?_)
  refine ev_step (st_aload_n (pc := 36) (j := 0) dX3_init_36 rfl rfl) ?_
  refine ev_step (st_iconst (pc := 37) dX3_init_37 ni_0) ?_
  refine ev_putI (pc := 38) (p_X3_24 _ rfl) rfl dX3_init_38 (fun h13 => ?_)
  refine ev_step (st_aload_n (pc := 41) (j := 0) dX3_init_41 rfl rfl) ?_
  refine ev_step (st_iconst (pc := 42) dX3_init_42 ni_0) ?_
  refine ev_putI (pc := 43) (p_X3_28 _ rfl) rfl dX3_init_43 (fun h14 => ?_)
  refine ev_step (st_aload_n (pc := 46) (j := 0) dX3_init_46 rfl rfl) ?_
  refine ev_step (st_iconst (pc := 47) dX3_init_47 ni_m1) ?_
  refine ev_putI (pc := 48) (p_X3_31 _ rfl) rfl dX3_init_48 (fun h15 => ?_)
  refine ev_step (st_aload_n (pc := 51) (j := 0) dX3_init_51 rfl rfl) ?_
  refine ev_step (st_iconst (pc := 52) dX3_init_52 ni_0) ?_
  refine ev_putI (pc := 53) (p_X3_34 _ rfl) rfl dX3_init_53 (fun h16 => ?_)
  exact ev_vret (pc := 56) dX3_init_56
set_option maxRecDepth 100000 in
set_option maxHeartbeats 4000000 in
theorem tX3_become (G : gx) (fu : Nat) (v0 : Nat) (v1 : Nat) (h : mh) : Ct lV G yX3_become cX3_become 2 (none) 1 [.ref (gB G + v0), .ref (gB G + v1)] h (fX3_become fu v0 v1 h) := by
  refine ct_ls (ls := [(0, .ref (gB G + v0)), (1, .ref (gB G + v1))]) rfl (by decide) (Nat.le_of_ble_eq_true rfl) ?_
  unfold fX3_become
  refine ev_step (st_aload_n (pc := 0) (j := 1) dX3_become_0 rfl rfl) ?_
  refine ev_getR (pc := 1) k_X3_9 rfl dX3_become_1 (fun a1 => ?_)
  refine ev_step (st_iconst (pc := 4) dX3_become_4 ni_0) ?_
  refine ev_step (st_aload_n (pc := 5) (j := 0) dX3_become_5 rfl rfl) ?_
  refine ev_getR (pc := 6) k_X3_9 rfl dX3_become_6 (fun a2 => ?_)
  refine ev_step (st_iconst (pc := 9) dX3_become_9 ni_0) ?_
  refine ev_step (st_bipush (pc := 10) dX3_become_10 nb_6) ?_
  refine ev_copy (pc := 12) y_X3_37 (by decide) (Nat.le_of_ble_eq_true rfl) dX3_become_12 (fun h3 => ?_)
  refine ev_step (st_aload_n (pc := 15) (j := 1) dX3_become_15 rfl rfl) ?_
  refine ev_getR (pc := 16) k_X3_15 rfl dX3_become_16 (fun a4 => ?_)
  refine ev_step (st_iconst (pc := 19) dX3_become_19 ni_0) ?_
  refine ev_step (st_aload_n (pc := 20) (j := 0) dX3_become_20 rfl rfl) ?_
  refine ev_getR (pc := 21) k_X3_15 rfl dX3_become_21 (fun a5 => ?_)
  refine ev_step (st_iconst (pc := 24) dX3_become_24 ni_0) ?_
  refine ev_step (st_bipush (pc := 25) dX3_become_25 nb_6) ?_
  refine ev_copy (pc := 27) y_X3_37 (by decide) (Nat.le_of_ble_eq_true rfl) dX3_become_27 (fun h6 => ?_)
  refine ev_step (st_aload_n (pc := 30) (j := 1) dX3_become_30 rfl rfl) ?_
  refine ev_getR (pc := 31) k_X3_18 rfl dX3_become_31 (fun a7 => ?_)
  refine ev_step (st_iconst (pc := 34) dX3_become_34 ni_0) ?_
  refine ev_step (st_aload_n (pc := 35) (j := 0) dX3_become_35 rfl rfl) ?_
  refine ev_getR (pc := 36) k_X3_18 rfl dX3_become_36 (fun a8 => ?_)
  refine ev_step (st_iconst (pc := 39) dX3_become_39 ni_0) ?_
  refine ev_step (st_bipush (pc := 40) dX3_become_40 nb_6) ?_
  refine ev_copy (pc := 42) y_X3_37 (by decide) (Nat.le_of_ble_eq_true rfl) dX3_become_42 (fun h9 => ?_)
  refine ev_step (st_aload_n (pc := 45) (j := 1) dX3_become_45 rfl rfl) ?_
  refine ev_getR (pc := 46) k_X3_21 rfl dX3_become_46 (fun a10 => ?_)
  refine ev_step (st_iconst (pc := 49) dX3_become_49 ni_0) ?_
  refine ev_step (st_aload_n (pc := 50) (j := 0) dX3_become_50 rfl rfl) ?_
  refine ev_getR (pc := 51) k_X3_21 rfl dX3_become_51 (fun a11 => ?_)
  refine ev_step (st_iconst (pc := 54) dX3_become_54 ni_0) ?_
  refine ev_step (st_bipush (pc := 55) dX3_become_55 nb_6) ?_
  refine ev_copy (pc := 57) y_X3_37 (by decide) (Nat.le_of_ble_eq_true rfl) dX3_become_57 (fun h12 => ?_)
  refine ev_step (st_aload_n (pc := 60) (j := 0) dX3_become_60 rfl rfl) ?_
  refine ev_step (st_aload_n (pc := 61) (j := 1) dX3_become_61 rfl rfl) ?_
  refine ev_getI (pc := 62) k_X3_24 rfl dX3_become_62 (fun x13 => ?_)
  refine ev_putI (pc := 65) (p_X3_24 _ rfl) rfl dX3_become_65 (fun h14 => ?_)
  refine ev_step (st_aload_n (pc := 68) (j := 0) dX3_become_68 rfl rfl) ?_
  refine ev_step (st_aload_n (pc := 69) (j := 1) dX3_become_69 rfl rfl) ?_
  refine ev_getI (pc := 70) k_X3_28 rfl dX3_become_70 (fun x15 => ?_)
  refine ev_putI (pc := 73) (p_X3_28 _ rfl) rfl dX3_become_73 (fun h16 => ?_)
  refine ev_step (st_aload_n (pc := 76) (j := 0) dX3_become_76 rfl rfl) ?_
  refine ev_step (st_aload_n (pc := 77) (j := 1) dX3_become_77 rfl rfl) ?_
  refine ev_getI (pc := 78) k_X3_31 rfl dX3_become_78 (fun x17 => ?_)
  refine ev_putI (pc := 81) (p_X3_31 _ rfl) rfl dX3_become_81 (fun h18 => ?_)
  refine ev_step (st_aload_n (pc := 84) (j := 0) dX3_become_84 rfl rfl) ?_
  refine ev_step (st_aload_n (pc := 85) (j := 1) dX3_become_85 rfl rfl) ?_
  refine ev_getI (pc := 86) k_X3_34 rfl dX3_become_86 (fun x19 => ?_)
  refine ev_putI (pc := 89) (p_X3_34 _ rfl) rfl dX3_become_89 (fun h20 => ?_)
  exact ev_vret (pc := 92) dX3_become_92
set_option maxRecDepth 100000 in
set_option maxHeartbeats 4000000 in
theorem tX3_beliefOfAll_4 (G : gx) (fu : Nat) (h0 : mh) (v0 : Nat) (n : Nat) (v1 : Int32) (v2 : Int32) (h : mh) : Ev lI G yX3_beliefOfAll cX3_beliefOfAll 3 (some .int) 1 h0 4 [(0, .ref (gB G + v0)), (1, .int v1), (2, .int v2)] [] h (itr (bX3_beliefOfAll_4 fu v0) n (v1, v2, h)) := by
  refine ev_itr (P := fun (q : Int32 × Int32 × mh) (R9 : Option (Int32 × mh)) => Ev lI G yX3_beliefOfAll cX3_beliefOfAll 3 (some .int) 1 h0 4 [(0, .ref (gB G + v0)), (1, .int q.1), (2, .int q.2.1)] [] q.2.2 R9) (fun _ => ev_none) (fun k4 hk9 q => ?_) n (v1, v2, h)
  obtain ⟨v1, v2, h⟩ := q
  have hk4 : ∀ (v1 : Int32) (v2 : Int32) (h : mh), Ev lI G yX3_beliefOfAll cX3_beliefOfAll 3 (some .int) 1 h0 4 [(0, .ref (gB G + v0)), (1, .int v1), (2, .int v2)] [] h (k4 (v1, v2, h)) := fun v1 v2 h => hk9 (v1, v2, h)
  show Ev lI G yX3_beliefOfAll cX3_beliefOfAll 3 (some .int) 1 h0 4 [(0, .ref (gB G + v0)), (1, .int v1), (2, .int v2)] [] h (bX3_beliefOfAll_4 fu v0 k4 (v1, v2, h))
  unfold bX3_beliefOfAll_4
  refine ev_step (st_iload_n (pc := 4) (j := 2) dX3_beliefOfAll_4 rfl rfl) ?_
  refine ev_step (st_bipush (pc := 5) dX3_beliefOfAll_5 nb_6) ?_
  refine ev_br (br_icmp_ge (tgt := 25) (pc := 7) dX3_beliefOfAll_7 (by decide)) (fun _ => ?_) (fun _ => ?_)
  · refine ev_step (st_iload_n (pc := 25) (j := 1) dX3_beliefOfAll_25 rfl rfl) ?_
    exact ev_iret (pc := 26) dX3_beliefOfAll_26
  · refine ev_step (st_iload_n (pc := 10) (j := 1) dX3_beliefOfAll_10 rfl rfl) ?_
    refine ev_step (st_aload_n (pc := 11) (j := 0) dX3_beliefOfAll_11 rfl rfl) ?_
    refine ev_getR (pc := 12) k_X3_15 rfl dX3_beliefOfAll_12 (fun a1 => ?_)
    refine ev_step (st_iload_n (pc := 15) (j := 2) dX3_beliefOfAll_15 rfl rfl) ?_
    refine ev_ldi (pc := 16) dX3_beliefOfAll_16 (fun x2 => ?_)
    refine ev_step (st_iadd (pc := 17) dX3_beliefOfAll_17) ?_
    refine ev_top (fun x3 => ?_)
    refine ev_step (st_istore_n (pc := 18) (ls' := [(1, .int x3), (0, .ref (gB G + v0)), (2, .int v2)]) dX3_beliefOfAll_18 rfl (by decide) rfl) ?_
    refine ev_step (st_inc (pc := 19) (j := 2) (ls' := [(2, .int (v2 + (1 : Int32))), (1, .int x3), (0, .ref (gB G + v0))]) dX3_beliefOfAll_19 rfl ni_1 (by decide) rfl) ?_
    refine ev_step (st_goto (pc := 22) (tgt := 4) dX3_beliefOfAll_22 (by decide)) ?_
    refine ev_sub (ls' := [(0, .ref (gB G + v0)), (1, .int x3), (2, .int (v2 + (1 : Int32)))]) [2, 1, 0] rfl ?_
    exact hk4 x3 (v2 + (1 : Int32)) h
set_option maxRecDepth 100000 in
set_option maxHeartbeats 4000000 in
theorem tX3_beliefOfAll (G : gx) (fu : Nat) (v0 : Nat) (h : mh) : Ct lI G yX3_beliefOfAll cX3_beliefOfAll 3 (some .int) 1 [.ref (gB G + v0)] h (fX3_beliefOfAll fu v0 h) := by
  refine ct_ls (ls := [(0, .ref (gB G + v0))]) rfl (by decide) (Nat.le_of_ble_eq_true rfl) ?_
  unfold fX3_beliefOfAll
  refine ev_step (st_iconst (pc := 0) dX3_beliefOfAll_0 ni_0) ?_
  refine ev_step (st_istore_n (pc := 1) (ls' := [(1, .int ((0 : Int32))), (0, .ref (gB G + v0))]) dX3_beliefOfAll_1 rfl (by decide) rfl) ?_
  refine ev_step (st_iconst (pc := 2) dX3_beliefOfAll_2 ni_0) ?_
  refine ev_step (st_istore_n (pc := 3) (ls' := [(2, .int ((0 : Int32))), (1, .int ((0 : Int32))), (0, .ref (gB G + v0))]) dX3_beliefOfAll_3 rfl (by decide) rfl) ?_
  refine ev_sub (ls' := [(0, .ref (gB G + v0)), (1, .int ((0 : Int32))), (2, .int ((0 : Int32)))]) [2, 1, 0] rfl ?_
  exact tX3_beliefOfAll_4 G fu h v0 fu ((0 : Int32)) ((0 : Int32)) h
set_option maxRecDepth 100000 in
set_option maxHeartbeats 4000000 in
theorem tX3_timesHeard_4 (G : gx) (fu : Nat) (h0 : mh) (v0 : Nat) (n : Nat) (v1 : Int32) (v2 : Int32) (h : mh) : Ev lI G yX3_timesHeard cX3_timesHeard 3 (some .int) 1 h0 4 [(0, .ref (gB G + v0)), (1, .int v1), (2, .int v2)] [] h (itr (bX3_timesHeard_4 fu v0) n (v1, v2, h)) := by
  refine ev_itr (P := fun (q : Int32 × Int32 × mh) (R9 : Option (Int32 × mh)) => Ev lI G yX3_timesHeard cX3_timesHeard 3 (some .int) 1 h0 4 [(0, .ref (gB G + v0)), (1, .int q.1), (2, .int q.2.1)] [] q.2.2 R9) (fun _ => ev_none) (fun k4 hk9 q => ?_) n (v1, v2, h)
  obtain ⟨v1, v2, h⟩ := q
  have hk4 : ∀ (v1 : Int32) (v2 : Int32) (h : mh), Ev lI G yX3_timesHeard cX3_timesHeard 3 (some .int) 1 h0 4 [(0, .ref (gB G + v0)), (1, .int v1), (2, .int v2)] [] h (k4 (v1, v2, h)) := fun v1 v2 h => hk9 (v1, v2, h)
  show Ev lI G yX3_timesHeard cX3_timesHeard 3 (some .int) 1 h0 4 [(0, .ref (gB G + v0)), (1, .int v1), (2, .int v2)] [] h (bX3_timesHeard_4 fu v0 k4 (v1, v2, h))
  unfold bX3_timesHeard_4
  refine ev_step (st_iload_n (pc := 4) (j := 2) dX3_timesHeard_4 rfl rfl) ?_
  refine ev_step (st_bipush (pc := 5) dX3_timesHeard_5 nb_6) ?_
  refine ev_br (br_icmp_ge (tgt := 25) (pc := 7) dX3_timesHeard_7 (by decide)) (fun _ => ?_) (fun _ => ?_)
  · refine ev_step (st_iload_n (pc := 25) (j := 1) dX3_timesHeard_25 rfl rfl) ?_
    exact ev_iret (pc := 26) dX3_timesHeard_26
  · refine ev_step (st_iload_n (pc := 10) (j := 1) dX3_timesHeard_10 rfl rfl) ?_
    refine ev_step (st_aload_n (pc := 11) (j := 0) dX3_timesHeard_11 rfl rfl) ?_
    refine ev_getR (pc := 12) k_X3_18 rfl dX3_timesHeard_12 (fun a1 => ?_)
    refine ev_step (st_iload_n (pc := 15) (j := 2) dX3_timesHeard_15 rfl rfl) ?_
    refine ev_ldi (pc := 16) dX3_timesHeard_16 (fun x2 => ?_)
    refine ev_step (st_iadd (pc := 17) dX3_timesHeard_17) ?_
    refine ev_top (fun x3 => ?_)
    refine ev_step (st_istore_n (pc := 18) (ls' := [(1, .int x3), (0, .ref (gB G + v0)), (2, .int v2)]) dX3_timesHeard_18 rfl (by decide) rfl) ?_
    refine ev_step (st_inc (pc := 19) (j := 2) (ls' := [(2, .int (v2 + (1 : Int32))), (1, .int x3), (0, .ref (gB G + v0))]) dX3_timesHeard_19 rfl ni_1 (by decide) rfl) ?_
    refine ev_step (st_goto (pc := 22) (tgt := 4) dX3_timesHeard_22 (by decide)) ?_
    refine ev_sub (ls' := [(0, .ref (gB G + v0)), (1, .int x3), (2, .int (v2 + (1 : Int32)))]) [2, 1, 0] rfl ?_
    exact hk4 x3 (v2 + (1 : Int32)) h
set_option maxRecDepth 100000 in
set_option maxHeartbeats 4000000 in
theorem tX3_timesHeard (G : gx) (fu : Nat) (v0 : Nat) (h : mh) : Ct lI G yX3_timesHeard cX3_timesHeard 3 (some .int) 1 [.ref (gB G + v0)] h (fX3_timesHeard fu v0 h) := by
  refine ct_ls (ls := [(0, .ref (gB G + v0))]) rfl (by decide) (Nat.le_of_ble_eq_true rfl) ?_
  unfold fX3_timesHeard
  refine ev_step (st_iconst (pc := 0) dX3_timesHeard_0 ni_0) ?_
  refine ev_step (st_istore_n (pc := 1) (ls' := [(1, .int ((0 : Int32))), (0, .ref (gB G + v0))]) dX3_timesHeard_1 rfl (by decide) rfl) ?_
  refine ev_step (st_iconst (pc := 2) dX3_timesHeard_2 ni_0) ?_
  refine ev_step (st_istore_n (pc := 3) (ls' := [(2, .int ((0 : Int32))), (1, .int ((0 : Int32))), (0, .ref (gB G + v0))]) dX3_timesHeard_3 rfl (by decide) rfl) ?_
  refine ev_sub (ls' := [(0, .ref (gB G + v0)), (1, .int ((0 : Int32))), (2, .int ((0 : Int32)))]) [2, 1, 0] rfl ?_
  exact tX3_timesHeard_4 G fu h v0 fu ((0 : Int32)) ((0 : Int32)) h
set_option maxRecDepth 100000 in
set_option maxHeartbeats 4000000 in
theorem tX4_init_21 (G : gx) (fu : Nat) (h0 : mh) (v0 : Nat) (n : Nat) (v1 : Int32) (h : mh) : Ev lV G yX4_init cX4_init 2 (none) 2 h0 21 [(0, .ref (gB G + v0)), (1, .int v1)] [] h (itr (bX4_init_21 fu v0) n (v1, h)) := by
  refine ev_itr (P := fun (q : Int32 × mh) (R9 : Option (Unit × mh)) => Ev lV G yX4_init cX4_init 2 (none) 2 h0 21 [(0, .ref (gB G + v0)), (1, .int q.1)] [] q.2 R9) (fun _ => ev_none) (fun k21 hk9 q => ?_) n (v1, h)
  obtain ⟨v1, h⟩ := q
  have hk21 : ∀ (v1 : Int32) (h : mh), Ev lV G yX4_init cX4_init 2 (none) 2 h0 21 [(0, .ref (gB G + v0)), (1, .int v1)] [] h (k21 (v1, h)) := fun v1 h => hk9 (v1, h)
  show Ev lV G yX4_init cX4_init 2 (none) 2 h0 21 [(0, .ref (gB G + v0)), (1, .int v1)] [] h (bX4_init_21 fu v0 k21 (v1, h))
  unfold bX4_init_21
  refine ev_step (st_iload_n (pc := 21) (j := 1) dX4_init_21 rfl rfl) ?_
  refine ev_step (st_iconst (pc := 22) dX4_init_22 ni_4) ?_
  refine ev_br (br_icmp_gt (tgt := 45) (pc := 23) dX4_init_23 (by decide)) (fun _ => ?_) (fun _ => ?_)
  · exact ev_vret (pc := 45) dX4_init_45
  · refine ev_step (st_aload_n (pc := 26) (j := 0) dX4_init_26 rfl rfl) ?_
    refine ev_getR (pc := 27) k_X4_11 rfl dX4_init_27 (fun a1 => ?_)
    refine ev_step (st_iload_n (pc := 30) (j := 1) dX4_init_30 rfl rfl) ?_
    refine ev_new (pc := 31) n_X4_9 dX4_init_31 (fun a2 h3 => ?_)
    refine ev_step (st_dup (pc := 34) dX4_init_34 rfl) ?_
    refine ev_callV (iv_I (As := []) (st := [.ref (gB G + a2), .int v1, .ref (gB G + a1)]) (pc := 35) m_X3_init l_X4_21 i_X3_init rfl rfl (Nat.le_of_ble_eq_true rfl) rfl dX4_init_35) (tX3_init G fu a2 h3) (by decide) (by decide) (fun h4 => ?_)
    refine ev_stq (pc := 38) dX4_init_38 (fun h5 => ?_)
    refine ev_step (st_inc (pc := 39) (j := 1) (ls' := [(1, .int (v1 + (1 : Int32))), (0, .ref (gB G + v0))]) dX4_init_39 rfl ni_1 (by decide) rfl) ?_
    refine ev_step (st_goto (pc := 42) (tgt := 21) dX4_init_42 (by decide)) ?_
    refine ev_sub (ls' := [(0, .ref (gB G + v0)), (1, .int (v1 + (1 : Int32)))]) [1, 0] rfl ?_
    exact hk21 (v1 + (1 : Int32)) h5
set_option maxRecDepth 100000 in
set_option maxHeartbeats 4000000 in
theorem tX4_init (G : gx) (fu : Nat) (v0 : Nat) (h : mh) : Ct lV G yX4_init cX4_init 2 (none) 2 [.ref (gB G + v0)] h (fX4_init fu v0 h) := by
  refine ct_ls (ls := [(0, .ref (gB G + v0))]) rfl (by decide) (Nat.le_of_ble_eq_true rfl) ?_
  unfold fX4_init
  refine ev_step (st_aload_n (pc := 0) (j := 0) dX4_init_0 rfl rfl) ?_
  refine ev_step (st_objinit (pc := 1) o_X4_3 (by decide) (Nat.le_of_ble_eq_true rfl) dX4_init_1) ?_
  refine ev_step (st_aload_n (pc := 4) (j := 0) dX4_init_4 rfl rfl) ?_
  refine ev_step (st_iconst (pc := 5) dX4_init_5 ni_5) ?_
  refine ev_newq (pc := 6) q_X4_9 dX4_init_6 (fun a1 h2 => ?_)
  refine ev_putR (pc := 9) (p_X4_11 _ rfl rfl) (Or.inr ⟨_, rfl⟩) dX4_init_9 (fun h3 => ?_)
  refine ev_step (st_aload_n (pc := 12) (j := 0) dX4_init_12 rfl rfl) ?_
  refine ev_step (st_iconst (pc := 13) dX4_init_13 ni_4) ?_
  refine ev_newa (pc := 14) (t := 1) (ty := .int) ac_int rfl (Or.inl rfl) dX4_init_14 (fun a4 h5 => ?_)
  refine ev_putR (pc := 16) (p_X4_17 _ rfl rfl) (Or.inr ⟨_, rfl⟩) dX4_init_16 (fun h6 => ?_)
  refine ev_step (st_iconst (pc := 19) dX4_init_19 ni_0) ?_
  refine ev_step (st_istore_n (pc := 20) (ls' := [(1, .int ((0 : Int32))), (0, .ref (gB G + v0))]) dX4_init_20 rfl (by decide) rfl) ?_
  refine ev_sub (ls' := [(0, .ref (gB G + v0)), (1, .int ((0 : Int32)))]) [1, 0] rfl ?_
  exact tX4_init_21 G fu h v0 fu ((0 : Int32)) h6
set_option maxRecDepth 100000 in
set_option maxHeartbeats 4000000 in
theorem tX5_isLaw (G : gx) (fu : Nat) (v0 : Int32) (h : mh) : Ct lI G yX5_isLaw cX5_isLaw 1 (some .boolean) 1 [.int v0] h (fX5_isLaw fu v0 h) := by
  refine ct_ls (ls := [(0, .int v0)]) rfl (by decide) (Nat.le_of_ble_eq_true rfl) ?_
  unfold fX5_isLaw
  refine ev_step (st_iload_n (pc := 0) (j := 0) dX5_isLaw_0 rfl rfl) ?_
  refine ev_step (st_iconst (pc := 1) dX5_isLaw_1 ni_3) ?_
  refine ev_br (br_icmp_lt (tgt := 15) (pc := 2) dX5_isLaw_2 (by decide)) (fun _ => ?_) (fun _ => ?_)
  · refine ev_step (st_iconst (pc := 15) dX5_isLaw_15 ni_0) ?_
    exact ev_zret (pc := 16) dX5_isLaw_16
  · refine ev_step (st_iload_n (pc := 5) (j := 0) dX5_isLaw_5 rfl rfl) ?_
    refine ev_step (st_bipush (pc := 6) dX5_isLaw_6 nb_7) ?_
    refine ev_br (br_icmp_ge (tgt := 15) (pc := 8) dX5_isLaw_8 (by decide)) (fun _ => ?_) (fun _ => ?_)
    · refine ev_step (st_iconst (pc := 15) dX5_isLaw_15 ni_0) ?_
      exact ev_zret (pc := 16) dX5_isLaw_16
    · refine ev_step (st_iconst (pc := 11) dX5_isLaw_11 ni_1) ?_
      refine ev_step (st_goto (pc := 12) (tgt := 16) dX5_isLaw_12 (by decide)) ?_
      exact ev_zret (pc := 16) dX5_isLaw_16
set_option maxRecDepth 100000 in
set_option maxHeartbeats 4000000 in
theorem tX5_hasRoomFor (G : gx) (fu : Nat) (v0 : Nat) (v1 : Int32) (h : mh) : Ct lI G yX5_hasRoomFor cX5_hasRoomFor 2 (some .boolean) 1 [.ref (gB G + v0), .int v1] h (fX5_hasRoomFor fu v0 v1 h) := by
  refine ct_ls (ls := [(0, .ref (gB G + v0)), (1, .int v1)]) rfl (by decide) (Nat.le_of_ble_eq_true rfl) ?_
  unfold fX5_hasRoomFor
  refine ev_step (st_iload_n (pc := 0) (j := 1) dX5_hasRoomFor_0 rfl rfl) ?_
  refine ev_case (n := 0) (c := (0 : Int32)) (off := 27) (tgt := 28) (pc := 1) (swn_0 _ _) dX5_hasRoomFor_1 (by decide) (by decide) (by decide) (by decide) (by decide) (fun _ => ?_) (fun q1 => ?_)
  · refine ev_step (st_aload_n (pc := 28) (j := 0) dX5_hasRoomFor_28 rfl rfl) ?_
    refine ev_getI (pc := 29) k_X5_95 rfl dX5_hasRoomFor_29 (fun x2 => ?_)
    refine ev_step (st_bipush (pc := 32) dX5_hasRoomFor_32 nb_6) ?_
    refine ev_br (br_icmp_ge (tgt := 41) (pc := 34) dX5_hasRoomFor_34 (by decide)) (fun _ => ?_) (fun _ => ?_)
    · refine ev_step (st_iconst (pc := 41) dX5_hasRoomFor_41 ni_0) ?_
      exact ev_zret (pc := 42) dX5_hasRoomFor_42
    · refine ev_step (st_iconst (pc := 37) dX5_hasRoomFor_37 ni_1) ?_
      refine ev_step (st_goto (pc := 38) (tgt := 42) dX5_hasRoomFor_38 (by decide)) ?_
      exact ev_zret (pc := 42) dX5_hasRoomFor_42
  refine ev_case (n := 1) (c := (1 : Int32)) (off := 42) (tgt := 43) (pc := 1) q1 dX5_hasRoomFor_1 (by decide) (by decide) (by decide) (by decide) (by decide) (fun _ => ?_) (fun q3 => ?_)
  · refine ev_step (st_aload_n (pc := 43) (j := 0) dX5_hasRoomFor_43 rfl rfl) ?_
    refine ev_getI (pc := 44) k_X5_98 rfl dX5_hasRoomFor_44 (fun x4 => ?_)
    refine ev_step (st_bipush (pc := 47) dX5_hasRoomFor_47 nb_6) ?_
    refine ev_br (br_icmp_ge (tgt := 56) (pc := 49) dX5_hasRoomFor_49 (by decide)) (fun _ => ?_) (fun _ => ?_)
    · refine ev_step (st_iconst (pc := 56) dX5_hasRoomFor_56 ni_0) ?_
      exact ev_zret (pc := 57) dX5_hasRoomFor_57
    · refine ev_step (st_iconst (pc := 52) dX5_hasRoomFor_52 ni_1) ?_
      refine ev_step (st_goto (pc := 53) (tgt := 57) dX5_hasRoomFor_53 (by decide)) ?_
      exact ev_zret (pc := 57) dX5_hasRoomFor_57
  refine ev_case (n := 2) (c := (2 : Int32)) (off := 57) (tgt := 58) (pc := 1) q3 dX5_hasRoomFor_1 (by decide) (by decide) (by decide) (by decide) (by decide) (fun _ => ?_) (fun q5 => ?_)
  · refine ev_step (st_aload_n (pc := 58) (j := 0) dX5_hasRoomFor_58 rfl rfl) ?_
    refine ev_getI (pc := 59) k_X5_101 rfl dX5_hasRoomFor_59 (fun x6 => ?_)
    refine ev_step (st_bipush (pc := 62) dX5_hasRoomFor_62 nb_6) ?_
    refine ev_br (br_icmp_ge (tgt := 71) (pc := 64) dX5_hasRoomFor_64 (by decide)) (fun _ => ?_) (fun _ => ?_)
    · refine ev_step (st_iconst (pc := 71) dX5_hasRoomFor_71 ni_0) ?_
      exact ev_zret (pc := 72) dX5_hasRoomFor_72
    · refine ev_step (st_iconst (pc := 67) dX5_hasRoomFor_67 ni_1) ?_
      refine ev_step (st_goto (pc := 68) (tgt := 72) dX5_hasRoomFor_68 (by decide)) ?_
      exact ev_zret (pc := 72) dX5_hasRoomFor_72
  refine ev_dflt (n := 3) (tgt := 73) (pc := 1) q5 dX5_hasRoomFor_1 (by decide) (by decide) ?_
  refine ev_step (st_iconst (pc := 73) dX5_hasRoomFor_73 ni_1) ?_
  exact ev_zret (pc := 74) dX5_hasRoomFor_74
set_option maxRecDepth 100000 in
set_option maxHeartbeats 4000000 in
theorem tX5_leastNumber (G : gx) (fu : Nat) (v0 : Nat) (h : mh) : Ct lI G yX5_leastNumber cX5_leastNumber 1 (some .int) 1 [.ref (gB G + v0)] h (fX5_leastNumber fu v0 h) := by
  refine ct_ls (ls := [(0, .ref (gB G + v0))]) rfl (by decide) (Nat.le_of_ble_eq_true rfl) ?_
  unfold fX5_leastNumber
  refine ev_step (st_aload_n (pc := 0) (j := 0) dX5_leastNumber_0 rfl rfl) ?_
  refine ev_getI (pc := 1) k_X5_25 rfl dX5_leastNumber_1 (fun x1 => ?_)
  refine ev_step (st_bipush (pc := 4) dX5_leastNumber_4 nb_8) ?_
  refine ev_br (br_icmp_ne (tgt := 13) (pc := 6) dX5_leastNumber_6 (by decide)) (fun _ => ?_) (fun _ => ?_)
  · refine ev_step (st_iconst (pc := 9) dX5_leastNumber_9 ni_1) ?_
    refine ev_step (st_goto (pc := 10) (tgt := 14) dX5_leastNumber_10 (by decide)) ?_
    exact ev_iret (pc := 14) dX5_leastNumber_14
  · refine ev_step (st_iconst (pc := 13) dX5_leastNumber_13 ni_0) ?_
    exact ev_iret (pc := 14) dX5_leastNumber_14
set_option maxRecDepth 100000 in
set_option maxHeartbeats 4000000 in
theorem tX5_mostNumber (G : gx) (fu : Nat) (v0 : Nat) (h : mh) : Ct lI G yX5_mostNumber cX5_mostNumber 1 (some .int) 1 [.ref (gB G + v0)] h (fX5_mostNumber fu v0 h) := by
  refine ct_ls (ls := [(0, .ref (gB G + v0))]) rfl (by decide) (Nat.le_of_ble_eq_true rfl) ?_
  unfold fX5_mostNumber
  refine ev_step (st_aload_n (pc := 0) (j := 0) dX5_mostNumber_0 rfl rfl) ?_
  refine ev_getI (pc := 1) k_X5_25 rfl dX5_mostNumber_1 (fun x1 => ?_)
  refine ev_case (n := 0) (c := (0 : Int32)) (off := 52) (tgt := 56) (pc := 4) (swn_0 _ _) dX5_mostNumber_4 (by decide) (by decide) (by decide) (by decide) (by decide) (fun _ => ?_) (fun q2 => ?_)
  · refine ev_step (st_aload_n (pc := 56) (j := 0) dX5_mostNumber_56 rfl rfl) ?_
    refine ev_getI (pc := 57) k_X5_29 rfl dX5_mostNumber_57 (fun x3 => ?_)
    refine ev_step (st_iconst (pc := 60) dX5_mostNumber_60 ni_1) ?_
    refine ev_br (br_icmp_ne (tgt := 70) (pc := 61) dX5_mostNumber_61 (by decide)) (fun _ => ?_) (fun _ => ?_)
    · refine ev_step (st_sipush (pc := 64) dX5_mostNumber_64 ns_255) ?_
      refine ev_step (st_goto (pc := 67) (tgt := 72) dX5_mostNumber_67 (by decide)) ?_
      exact ev_iret (pc := 72) dX5_mostNumber_72
    · refine ev_step (st_bipush (pc := 70) dX5_mostNumber_70 nb_9) ?_
      exact ev_iret (pc := 72) dX5_mostNumber_72
  refine ev_case (n := 1) (c := (1 : Int32)) (off := 69) (tgt := 73) (pc := 4) q2 dX5_mostNumber_4 (by decide) (by decide) (by decide) (by decide) (by decide) (fun _ => ?_) (fun q4 => ?_)
  · refine ev_step (st_aload_n (pc := 73) (j := 0) dX5_mostNumber_73 rfl rfl) ?_
    refine ev_getI (pc := 74) k_X5_29 rfl dX5_mostNumber_74 (fun x5 => ?_)
    refine ev_step (st_iconst (pc := 77) dX5_mostNumber_77 ni_3) ?_
    refine ev_br (br_icmp_ge (tgt := 87) (pc := 78) dX5_mostNumber_78 (by decide)) (fun _ => ?_) (fun _ => ?_)
    · refine ev_step (st_bipush (pc := 87) dX5_mostNumber_87 nb_99) ?_
      exact ev_iret (pc := 89) dX5_mostNumber_89
    · refine ev_step (st_sipush (pc := 81) dX5_mostNumber_81 ns_255) ?_
      refine ev_step (st_goto (pc := 84) (tgt := 89) dX5_mostNumber_84 (by decide)) ?_
      exact ev_iret (pc := 89) dX5_mostNumber_89
  refine ev_case (n := 2) (c := (2 : Int32)) (off := 92) (tgt := 96) (pc := 4) q4 dX5_mostNumber_4 (by decide) (by decide) (by decide) (by decide) (by decide) (fun _ => ?_) (fun q6 => ?_)
  · refine ev_step (st_sipush (pc := 96) dX5_mostNumber_96 ns_9999) ?_
    exact ev_iret (pc := 99) dX5_mostNumber_99
  refine ev_case (n := 3) (c := (3 : Int32)) (off := 92) (tgt := 96) (pc := 4) q6 dX5_mostNumber_4 (by decide) (by decide) (by decide) (by decide) (by decide) (fun _ => ?_) (fun q7 => ?_)
  · refine ev_step (st_sipush (pc := 96) dX5_mostNumber_96 ns_9999) ?_
    exact ev_iret (pc := 99) dX5_mostNumber_99
  refine ev_case (n := 4) (c := (4 : Int32)) (off := 92) (tgt := 96) (pc := 4) q7 dX5_mostNumber_4 (by decide) (by decide) (by decide) (by decide) (by decide) (fun _ => ?_) (fun q8 => ?_)
  · refine ev_step (st_sipush (pc := 96) dX5_mostNumber_96 ns_9999) ?_
    exact ev_iret (pc := 99) dX5_mostNumber_99
  refine ev_case (n := 5) (c := (5 : Int32)) (off := 92) (tgt := 96) (pc := 4) q8 dX5_mostNumber_4 (by decide) (by decide) (by decide) (by decide) (by decide) (fun _ => ?_) (fun q9 => ?_)
  · refine ev_step (st_sipush (pc := 96) dX5_mostNumber_96 ns_9999) ?_
    exact ev_iret (pc := 99) dX5_mostNumber_99
  refine ev_case (n := 6) (c := (6 : Int32)) (off := 92) (tgt := 96) (pc := 4) q9 dX5_mostNumber_4 (by decide) (by decide) (by decide) (by decide) (by decide) (fun _ => ?_) (fun q10 => ?_)
  · refine ev_step (st_sipush (pc := 96) dX5_mostNumber_96 ns_9999) ?_
    exact ev_iret (pc := 99) dX5_mostNumber_99
  refine ev_case (n := 7) (c := (7 : Int32)) (off := 86) (tgt := 90) (pc := 4) q10 dX5_mostNumber_4 (by decide) (by decide) (by decide) (by decide) (by decide) (fun _ => ?_) (fun q11 => ?_)
  · refine ev_step (st_bipush (pc := 90) dX5_mostNumber_90 nb_100) ?_
    exact ev_iret (pc := 92) dX5_mostNumber_92
  refine ev_case (n := 8) (c := (8 : Int32)) (off := 89) (tgt := 93) (pc := 4) q11 dX5_mostNumber_4 (by decide) (by decide) (by decide) (by decide) (by decide) (fun _ => ?_) (fun q12 => ?_)
  · refine ev_step (st_bipush (pc := 93) dX5_mostNumber_93 nb_99) ?_
    exact ev_iret (pc := 95) dX5_mostNumber_95
  refine ev_dflt (n := 9) (tgt := 96) (pc := 4) q12 dX5_mostNumber_4 (by decide) (by decide) ?_
  refine ev_step (st_sipush (pc := 96) dX5_mostNumber_96 ns_9999) ?_
  exact ev_iret (pc := 99) dX5_mostNumber_99
set_option maxRecDepth 100000 in
set_option maxHeartbeats 4000000 in
theorem tX5_note (G : gx) (fu : Nat) (v0 : Nat) (v1 : Int32) (h : mh) : Ct lV G yX5_note cX5_note 2 (none) 1 [.ref (gB G + v0), .int v1] h (fX5_note fu v0 v1 h) := by
  refine ct_ls (ls := [(0, .ref (gB G + v0)), (1, .int v1)]) rfl (by decide) (Nat.le_of_ble_eq_true rfl) ?_
  unfold fX5_note
  refine ev_step (st_aload_n (pc := 0) (j := 0) dX5_note_0 rfl rfl) ?_
  refine ev_getI (pc := 1) k_X5_35 rfl dX5_note_1 (fun x1 => ?_)
  refine ev_br (br_if_ne (tgt := 23) (pc := 4) dX5_note_4 (by decide)) (fun _ => ?_) (fun _ => ?_)
  · refine ev_step (st_aload_n (pc := 7) (j := 0) dX5_note_7 rfl rfl) ?_
    refine ev_step (st_iload_n (pc := 8) (j := 1) dX5_note_8 rfl rfl) ?_
    refine ev_putI (pc := 9) (p_X5_35 _ rfl) rfl dX5_note_9 (fun h2 => ?_)
    refine ev_step (st_aload_n (pc := 12) (j := 0) dX5_note_12 rfl rfl) ?_
    refine ev_step (st_aload_n (pc := 13) (j := 0) dX5_note_13 rfl rfl) ?_
    refine ev_getR (pc := 14) k_X5_12 rfl dX5_note_14 (fun a3 => ?_)
    refine ev_getI (pc := 17) k_X5_60 rfl dX5_note_17 (fun x4 => ?_)
    refine ev_putI (pc := 20) (p_X5_38 _ rfl) rfl dX5_note_20 (fun h5 => ?_)
    exact ev_vret (pc := 23) dX5_note_23
  · exact ev_vret (pc := 23) dX5_note_23
set_option maxRecDepth 100000 in
set_option maxHeartbeats 4000000 in
theorem tX6_init (G : gx) (fu : Nat) (v0 : Nat) (h : mh) : Ct lV G yX6_init cX6_init 1 (none) 2 [.ref (gB G + v0)] h (fX6_init fu v0 h) := by
  refine ct_ls (ls := [(0, .ref (gB G + v0))]) rfl (by decide) (Nat.le_of_ble_eq_true rfl) ?_
  unfold fX6_init
  refine ev_step (st_aload_n (pc := 0) (j := 0) dX6_init_0 rfl rfl) ?_
  refine ev_step (st_objinit (pc := 1) o_X6_3 (by decide) (Nat.le_of_ble_eq_true rfl) dX6_init_1) ?_
  refine ev_step (st_aload_n (pc := 4) (j := 0) dX6_init_4 rfl rfl) ?_
  refine ev_step (st_iconst (pc := 5) dX6_init_5 ni_0) ?_
  refine ev_putI (pc := 6) (p_X6_9 _ rfl) rfl dX6_init_6 (fun h1 => ?_)
  refine ev_step (st_aload_n (pc := 9) (j := 0) dX6_init_9 rfl rfl) ?_
  refine ev_step (st_bipush (pc := 10) dX6_init_10 nb_6) ?_
  refine ev_newa (pc := 12) (t := 4) (ty := .long) ac_long rfl (Or.inr (Or.inr (Or.inr rfl))) dX6_init_12 (fun a2 h3 => ?_)
  refine ev_putR (pc := 14) (p_X6_15 _ rfl rfl) (Or.inr ⟨_, rfl⟩) dX6_init_14 (fun h4 => ?_)
  refine ev_step (st_aload_n (pc := 17) (j := 0) dX6_init_17 rfl rfl) ?_
  refine ev_step (st_bipush (pc := 18) dX6_init_18 nb_6) ?_
  refine ev_newa (pc := 20) (t := 1) (ty := .int) ac_int rfl (Or.inl rfl) dX6_init_20 (fun a5 h6 => ?_)
  refine ev_putR (pc := 22) (p_X6_19 _ rfl rfl) (Or.inr ⟨_, rfl⟩) dX6_init_22 (fun h7 => ?_)
  refine ev_step (st_aload_n (pc := 25) (j := 0) dX6_init_25 rfl rfl) ?_
  refine ev_step (st_bipush (pc := 26) dX6_init_26 nb_6) ?_
  refine ev_newa (pc := 28) (t := 1) (ty := .int) ac_int rfl (Or.inl rfl) dX6_init_28 (fun a8 h9 => ?_)
  refine ev_putR (pc := 30) (p_X6_23 _ rfl rfl) (Or.inr ⟨_, rfl⟩) dX6_init_30 (fun h10 => ?_)
  refine ev_step (st_aload_n (pc := 33) (j := 0) dX6_init_33 rfl rfl) ?_
  refine ev_step (st_iconst (pc := 34) dX6_init_34 ni_0) ?_
  refine ev_putI (pc := 35) (p_X6_26 _ rfl) rfl dX6_init_35 (fun h11 => ?_)
  refine ev_step (st_aload_n (pc := 38) (j := 0) dX6_init_38 rfl rfl) ?_
  refine ev_step (st_bipush (pc := 39) dX6_init_39 nb_6) ?_
  refine ev_newa (pc := 41) (t := 4) (ty := .long) ac_long rfl (Or.inr (Or.inr (Or.inr rfl))) dX6_init_41 (fun a12 h13 => ?_)
  refine ev_putR (pc := 43) (p_X6_29 _ rfl rfl) (Or.inr ⟨_, rfl⟩) dX6_init_43 (fun h14 => ?_)
  refine ev_step (st_aload_n (pc := 46) (j := 0) dX6_init_46 rfl rfl) ?_
  refine ev_step (st_bipush (pc := 47) dX6_init_47 nb_6) ?_
  refine ev_newa (pc := 49) (t := 1) (ty := .int) ac_int rfl (Or.inl rfl) dX6_init_49 (fun a15 h16 => ?_)
  refine ev_putR (pc := 51) (p_X6_32 _ rfl rfl) (Or.inr ⟨_, rfl⟩) dX6_init_51 (fun h17 => ?_)
  refine ev_step (st_aload_n (pc := 54) (j := 0) dX6_init_54 rfl rfl) ?_
  refine ev_step (st_bipush (pc := 55) dX6_init_55 nb_6) ?_
  refine ev_newa (pc := 57) (t := 1) (ty := .int) ac_int rfl (Or.inl rfl) dX6_init_57 (fun a18 h19 => ?_)
  refine ev_putR (pc := 59) (p_X6_35 _ rfl rfl) (Or.inr ⟨_, rfl⟩) dX6_init_59 (fun h20 => ?_)
  refine ev_step (st_aload_n (pc := 62) (j := 0) dX6_init_62 rfl rfl) ?_
  refine ev_step (st_bipush (pc := 63) dX6_init_63 nb_6) ?_
  refine ev_newa (pc := 65) (t := 1) (ty := .int) ac_int rfl (Or.inl rfl) dX6_init_65 (fun a21 h22 => ?_)
  refine ev_putR (pc := 67) (p_X6_38 _ rfl rfl) (Or.inr ⟨_, rfl⟩) dX6_init_67 (fun h23 => ?_)
  refine ev_step (st_aload_n (pc := 70) (j := 0) dX6_init_70 rfl rfl) ?_
  refine ev_step (st_iconst (pc := 71) dX6_init_71 ni_0) ?_
  refine ev_putI (pc := 72) (p_X6_41 _ rfl) rfl dX6_init_72 (fun h24 => ?_)
  refine ev_step (st_aload_n (pc := 75) (j := 0) dX6_init_75 rfl rfl) ?_
  refine ev_step (st_bipush (pc := 76) dX6_init_76 nb_6) ?_
  refine ev_newa (pc := 78) (t := 1) (ty := .int) ac_int rfl (Or.inl rfl) dX6_init_78 (fun a25 h26 => ?_)
  refine ev_putR (pc := 80) (p_X6_44 _ rfl rfl) (Or.inr ⟨_, rfl⟩) dX6_init_80 (fun h27 => ?_)
  refine ev_step (st_aload_n (pc := 83) (j := 0) dX6_init_83 rfl rfl) ?_
  refine ev_new (pc := 84) n_X6_47 dX6_init_84 (fun a28 h29 => ?_)
  refine ev_step (st_dup (pc := 87) dX6_init_87 rfl) ?_
  refine ev_callV (iv_I (As := []) (st := [.ref (gB G + a28), .ref (gB G + v0)]) (pc := 88) m_X1_init l_X6_49 i_X1_init rfl rfl (Nat.le_of_ble_eq_true rfl) rfl dX6_init_88) (tX1_init G fu a28 h29) (by decide) (by decide) (fun h30 => ?_)
  refine ev_putR (pc := 91) (p_X6_50 _ rfl rfl) (Or.inl ⟨_, rfl⟩) dX6_init_91 (fun h31 => ?_)
  refine ev_step (st_aload_n (pc := 94) (j := 0) dX6_init_94 rfl rfl) ?_
  refine ev_step (st_iconst (pc := 95) dX6_init_95 ni_0) ?_
  refine ev_putI (pc := 96) (p_X6_54 _ rfl) rfl dX6_init_96 (fun h32 => ?_)
  refine ev_step (st_aload_n (pc := 99) (j := 0) dX6_init_99 rfl rfl) ?_
  refine ev_step (st_iconst (pc := 100) dX6_init_100 ni_3) ?_
  refine ev_putI (pc := 101) (p_X6_57 _ rfl) rfl dX6_init_101 (fun h33 => ?_)
  refine ev_step (st_aload_n (pc := 104) (j := 0) dX6_init_104 rfl rfl) ?_
  refine ev_step (st_iconst (pc := 105) dX6_init_105 ni_0) ?_
  refine ev_putI (pc := 106) (p_X6_60 _ rfl) rfl dX6_init_106 (fun h34 => ?_)
  exact ev_vret (pc := 109) dX6_init_109
set_option maxRecDepth 100000 in
set_option maxHeartbeats 4000000 in
theorem tX6_addRole (G : gx) (fu : Nat) (v0 : Nat) (v1 : Int64) (h : mh) : Ct lV G yX6_addRole cX6_addRole 3 (none) 1 [.ref (gB G + v0), .long v1] h (fX6_addRole fu v0 v1 h) := by
  refine ct_ls (ls := [(0, .ref (gB G + v0)), (1, .long v1)]) rfl (by decide) (Nat.le_of_ble_eq_true rfl) ?_
  unfold fX6_addRole
  refine ev_step (st_aload_n (pc := 0) (j := 0) dX6_addRole_0 rfl rfl) ?_
  refine ev_getI (pc := 1) k_X6_9 rfl dX6_addRole_1 (fun x1 => ?_)
  refine ev_step (st_bipush (pc := 4) dX6_addRole_4 nb_6) ?_
  refine ev_br (br_icmp_ge (tgt := 29) (pc := 6) dX6_addRole_6 (by decide)) (fun _ => ?_) (fun _ => ?_)
  · exact ev_vret (pc := 29) dX6_addRole_29
  · refine ev_step (st_aload_n (pc := 9) (j := 0) dX6_addRole_9 rfl rfl) ?_
    refine ev_getR (pc := 10) k_X6_15 rfl dX6_addRole_10 (fun a2 => ?_)
    refine ev_step (st_aload_n (pc := 13) (j := 0) dX6_addRole_13 rfl rfl) ?_
    refine ev_getI (pc := 14) k_X6_9 rfl dX6_addRole_14 (fun x3 => ?_)
    refine ev_step (st_lload_n (pc := 17) (j := 1) dX6_addRole_17 rfl rfl) ?_
    refine ev_stj (pc := 18) dX6_addRole_18 (fun h4 => ?_)
    refine ev_step (st_aload_n (pc := 19) (j := 0) dX6_addRole_19 rfl rfl) ?_
    refine ev_step (st_dup (pc := 20) dX6_addRole_20 rfl) ?_
    refine ev_getI (pc := 21) k_X6_9 rfl dX6_addRole_21 (fun x5 => ?_)
    refine ev_step (st_iconst (pc := 24) dX6_addRole_24 ni_1) ?_
    refine ev_step (st_iadd (pc := 25) dX6_addRole_25) ?_
    refine ev_putI (pc := 26) (p_X6_9 _ rfl) rfl dX6_addRole_26 (fun h6 => ?_)
    exact ev_vret (pc := 29) dX6_addRole_29
set_option maxRecDepth 100000 in
set_option maxHeartbeats 4000000 in
theorem tX6_setRole_27 (G : gx) (fu : Nat) (h0 : mh) (v0 : Nat) (v1 : Int32) (v2 : Int32) (h : mh) : Ev lV G yX6_setRole cX6_setRole 3 (none) 1 h0 27 [(0, .ref (gB G + v0)), (1, .int v1), (2, .int v2)] [] h (fX6_setRole_27 fu v0 v1 v2 h) := by
  unfold fX6_setRole_27
  refine ev_step (st_aload_n (pc := 27) (j := 0) dX6_setRole_27 rfl rfl) ?_
  refine ev_getI (pc := 28) k_X6_9 rfl dX6_setRole_28 (fun x1 => ?_)
  refine ev_br (br_if_le (tgt := 46) (pc := 31) dX6_setRole_31 (by decide)) (fun _ => ?_) (fun _ => ?_)
  · exact ev_vret (pc := 46) dX6_setRole_46
  · refine ev_step (st_aload_n (pc := 34) (j := 0) dX6_setRole_34 rfl rfl) ?_
    refine ev_getR (pc := 35) k_X6_23 rfl dX6_setRole_35 (fun a2 => ?_)
    refine ev_step (st_aload_n (pc := 38) (j := 0) dX6_setRole_38 rfl rfl) ?_
    refine ev_getI (pc := 39) k_X6_9 rfl dX6_setRole_39 (fun x3 => ?_)
    refine ev_step (st_iconst (pc := 42) dX6_setRole_42 ni_1) ?_
    refine ev_step (st_isub (pc := 43) dX6_setRole_43) ?_
    refine ev_step (st_iload_n (pc := 44) (j := 2) dX6_setRole_44 rfl rfl) ?_
    refine ev_sti (pc := 45) dX6_setRole_45 (fun h4 => ?_)
    exact ev_vret (pc := 46) dX6_setRole_46
set_option maxRecDepth 100000 in
set_option maxHeartbeats 4000000 in
theorem tX6_setRole (G : gx) (fu : Nat) (v0 : Nat) (v1 : Int32) (v2 : Int32) (h : mh) : Ct lV G yX6_setRole cX6_setRole 3 (none) 1 [.ref (gB G + v0), .int v1, .int v2] h (fX6_setRole fu v0 v1 v2 h) := by
  refine ct_ls (ls := [(0, .ref (gB G + v0)), (1, .int v1), (2, .int v2)]) rfl (by decide) (Nat.le_of_ble_eq_true rfl) ?_
  unfold fX6_setRole
  refine ev_step (st_aload_n (pc := 0) (j := 0) dX6_setRole_0 rfl rfl) ?_
  refine ev_getI (pc := 1) k_X6_9 rfl dX6_setRole_1 (fun x1 => ?_)
  refine ev_br (br_if_le (tgt := 27) (pc := 4) dX6_setRole_4 (by decide)) (fun _ => ?_) (fun _ => ?_)
  · refine ev_sub (ls' := [(0, .ref (gB G + v0)), (1, .int v1), (2, .int v2)]) [0, 1, 2] rfl ?_
    exact tX6_setRole_27 G fu h v0 v1 v2 h
  · refine ev_step (st_iload_n (pc := 7) (j := 1) dX6_setRole_7 rfl rfl) ?_
    refine ev_step (st_iconst (pc := 8) dX6_setRole_8 ni_1) ?_
    refine ev_br (br_icmp_ne (tgt := 27) (pc := 9) dX6_setRole_9 (by decide)) (fun _ => ?_) (fun _ => ?_)
    · refine ev_step (st_aload_n (pc := 12) (j := 0) dX6_setRole_12 rfl rfl) ?_
      refine ev_getR (pc := 13) k_X6_19 rfl dX6_setRole_13 (fun a2 => ?_)
      refine ev_step (st_aload_n (pc := 16) (j := 0) dX6_setRole_16 rfl rfl) ?_
      refine ev_getI (pc := 17) k_X6_9 rfl dX6_setRole_17 (fun x3 => ?_)
      refine ev_step (st_iconst (pc := 20) dX6_setRole_20 ni_1) ?_
      refine ev_step (st_isub (pc := 21) dX6_setRole_21) ?_
      refine ev_step (st_iload_n (pc := 22) (j := 2) dX6_setRole_22 rfl rfl) ?_
      refine ev_sti (pc := 23) dX6_setRole_23 (fun h4 => ?_)
      refine ev_step (st_goto (pc := 24) (tgt := 46) dX6_setRole_24 (by decide)) ?_
      exact ev_vret (pc := 46) dX6_setRole_46
    · refine ev_sub (ls' := [(0, .ref (gB G + v0)), (1, .int v1), (2, .int v2)]) [0, 1, 2] rfl ?_
      exact tX6_setRole_27 G fu h v0 v1 v2 h
set_option maxRecDepth 100000 in
set_option maxHeartbeats 4000000 in
theorem tX6_addListener (G : gx) (fu : Nat) (v0 : Nat) (v1 : Int64) (h : mh) : Ct lV G yX6_addListener cX6_addListener 3 (none) 1 [.ref (gB G + v0), .long v1] h (fX6_addListener fu v0 v1 h) := by
  refine ct_ls (ls := [(0, .ref (gB G + v0)), (1, .long v1)]) rfl (by decide) (Nat.le_of_ble_eq_true rfl) ?_
  unfold fX6_addListener
  refine ev_step (st_aload_n (pc := 0) (j := 0) dX6_addListener_0 rfl rfl) ?_
  refine ev_getI (pc := 1) k_X6_26 rfl dX6_addListener_1 (fun x1 => ?_)
  refine ev_step (st_bipush (pc := 4) dX6_addListener_4 nb_6) ?_
  refine ev_br (br_icmp_ge (tgt := 29) (pc := 6) dX6_addListener_6 (by decide)) (fun _ => ?_) (fun _ => ?_)
  · exact ev_vret (pc := 29) dX6_addListener_29
  · refine ev_step (st_aload_n (pc := 9) (j := 0) dX6_addListener_9 rfl rfl) ?_
    refine ev_getR (pc := 10) k_X6_29 rfl dX6_addListener_10 (fun a2 => ?_)
    refine ev_step (st_aload_n (pc := 13) (j := 0) dX6_addListener_13 rfl rfl) ?_
    refine ev_getI (pc := 14) k_X6_26 rfl dX6_addListener_14 (fun x3 => ?_)
    refine ev_step (st_lload_n (pc := 17) (j := 1) dX6_addListener_17 rfl rfl) ?_
    refine ev_stj (pc := 18) dX6_addListener_18 (fun h4 => ?_)
    refine ev_step (st_aload_n (pc := 19) (j := 0) dX6_addListener_19 rfl rfl) ?_
    refine ev_step (st_dup (pc := 20) dX6_addListener_20 rfl) ?_
    refine ev_getI (pc := 21) k_X6_26 rfl dX6_addListener_21 (fun x5 => ?_)
    refine ev_step (st_iconst (pc := 24) dX6_addListener_24 ni_1) ?_
    refine ev_step (st_iadd (pc := 25) dX6_addListener_25) ?_
    refine ev_putI (pc := 26) (p_X6_26 _ rfl) rfl dX6_addListener_26 (fun h6 => ?_)
    exact ev_vret (pc := 29) dX6_addListener_29
set_option maxRecDepth 100000 in
set_option maxHeartbeats 4000000 in
theorem tX6_setListener_54 (G : gx) (fu : Nat) (h0 : mh) (v0 : Nat) (v1 : Int32) (v2 : Int32) (h : mh) : Ev lV G yX6_setListener cX6_setListener 3 (none) 1 h0 54 [(0, .ref (gB G + v0)), (1, .int v1), (2, .int v2)] [] h (fX6_setListener_54 fu v0 v1 v2 h) := by
  unfold fX6_setListener_54
  refine ev_step (st_aload_n (pc := 54) (j := 0) dX6_setListener_54 rfl rfl) ?_
  refine ev_getI (pc := 55) k_X6_26 rfl dX6_setListener_55 (fun x1 => ?_)
  refine ev_br (br_if_le (tgt := 73) (pc := 58) dX6_setListener_58 (by decide)) (fun _ => ?_) (fun _ => ?_)
  · exact ev_vret (pc := 73) dX6_setListener_73
  · refine ev_step (st_aload_n (pc := 61) (j := 0) dX6_setListener_61 rfl rfl) ?_
    refine ev_getR (pc := 62) k_X6_38 rfl dX6_setListener_62 (fun a2 => ?_)
    refine ev_step (st_aload_n (pc := 65) (j := 0) dX6_setListener_65 rfl rfl) ?_
    refine ev_getI (pc := 66) k_X6_26 rfl dX6_setListener_66 (fun x3 => ?_)
    refine ev_step (st_iconst (pc := 69) dX6_setListener_69 ni_1) ?_
    refine ev_step (st_isub (pc := 70) dX6_setListener_70) ?_
    refine ev_step (st_iload_n (pc := 71) (j := 2) dX6_setListener_71 rfl rfl) ?_
    refine ev_sti (pc := 72) dX6_setListener_72 (fun h4 => ?_)
    exact ev_vret (pc := 73) dX6_setListener_73
set_option maxRecDepth 100000 in
set_option maxHeartbeats 4000000 in
theorem tX6_setListener_27 (G : gx) (fu : Nat) (h0 : mh) (v0 : Nat) (v1 : Int32) (v2 : Int32) (h : mh) : Ev lV G yX6_setListener cX6_setListener 3 (none) 1 h0 27 [(0, .ref (gB G + v0)), (1, .int v1), (2, .int v2)] [] h (fX6_setListener_27 fu v0 v1 v2 h) := by
  unfold fX6_setListener_27
  refine ev_step (st_aload_n (pc := 27) (j := 0) dX6_setListener_27 rfl rfl) ?_
  refine ev_getI (pc := 28) k_X6_26 rfl dX6_setListener_28 (fun x1 => ?_)
  refine ev_br (br_if_le (tgt := 54) (pc := 31) dX6_setListener_31 (by decide)) (fun _ => ?_) (fun _ => ?_)
  · refine ev_sub (ls' := [(0, .ref (gB G + v0)), (1, .int v1), (2, .int v2)]) [0, 1, 2] rfl ?_
    exact tX6_setListener_54 G fu h0 v0 v1 v2 h
  · refine ev_step (st_iload_n (pc := 34) (j := 1) dX6_setListener_34 rfl rfl) ?_
    refine ev_step (st_iconst (pc := 35) dX6_setListener_35 ni_2) ?_
    refine ev_br (br_icmp_ne (tgt := 54) (pc := 36) dX6_setListener_36 (by decide)) (fun _ => ?_) (fun _ => ?_)
    · refine ev_step (st_aload_n (pc := 39) (j := 0) dX6_setListener_39 rfl rfl) ?_
      refine ev_getR (pc := 40) k_X6_35 rfl dX6_setListener_40 (fun a2 => ?_)
      refine ev_step (st_aload_n (pc := 43) (j := 0) dX6_setListener_43 rfl rfl) ?_
      refine ev_getI (pc := 44) k_X6_26 rfl dX6_setListener_44 (fun x3 => ?_)
      refine ev_step (st_iconst (pc := 47) dX6_setListener_47 ni_1) ?_
      refine ev_step (st_isub (pc := 48) dX6_setListener_48) ?_
      refine ev_step (st_iload_n (pc := 49) (j := 2) dX6_setListener_49 rfl rfl) ?_
      refine ev_sti (pc := 50) dX6_setListener_50 (fun h4 => ?_)
      refine ev_step (st_goto (pc := 51) (tgt := 73) dX6_setListener_51 (by decide)) ?_
      exact ev_vret (pc := 73) dX6_setListener_73
    · refine ev_sub (ls' := [(0, .ref (gB G + v0)), (1, .int v1), (2, .int v2)]) [0, 1, 2] rfl ?_
      exact tX6_setListener_54 G fu h0 v0 v1 v2 h
set_option maxRecDepth 100000 in
set_option maxHeartbeats 4000000 in
theorem tX6_setListener (G : gx) (fu : Nat) (v0 : Nat) (v1 : Int32) (v2 : Int32) (h : mh) : Ct lV G yX6_setListener cX6_setListener 3 (none) 1 [.ref (gB G + v0), .int v1, .int v2] h (fX6_setListener fu v0 v1 v2 h) := by
  refine ct_ls (ls := [(0, .ref (gB G + v0)), (1, .int v1), (2, .int v2)]) rfl (by decide) (Nat.le_of_ble_eq_true rfl) ?_
  unfold fX6_setListener
  refine ev_step (st_aload_n (pc := 0) (j := 0) dX6_setListener_0 rfl rfl) ?_
  refine ev_getI (pc := 1) k_X6_26 rfl dX6_setListener_1 (fun x1 => ?_)
  refine ev_br (br_if_le (tgt := 27) (pc := 4) dX6_setListener_4 (by decide)) (fun _ => ?_) (fun _ => ?_)
  · refine ev_sub (ls' := [(0, .ref (gB G + v0)), (1, .int v1), (2, .int v2)]) [0, 1, 2] rfl ?_
    exact tX6_setListener_27 G fu h v0 v1 v2 h
  · refine ev_step (st_iload_n (pc := 7) (j := 1) dX6_setListener_7 rfl rfl) ?_
    refine ev_step (st_iconst (pc := 8) dX6_setListener_8 ni_1) ?_
    refine ev_br (br_icmp_ne (tgt := 27) (pc := 9) dX6_setListener_9 (by decide)) (fun _ => ?_) (fun _ => ?_)
    · refine ev_step (st_aload_n (pc := 12) (j := 0) dX6_setListener_12 rfl rfl) ?_
      refine ev_getR (pc := 13) k_X6_32 rfl dX6_setListener_13 (fun a2 => ?_)
      refine ev_step (st_aload_n (pc := 16) (j := 0) dX6_setListener_16 rfl rfl) ?_
      refine ev_getI (pc := 17) k_X6_26 rfl dX6_setListener_17 (fun x3 => ?_)
      refine ev_step (st_iconst (pc := 20) dX6_setListener_20 ni_1) ?_
      refine ev_step (st_isub (pc := 21) dX6_setListener_21) ?_
      refine ev_step (st_iload_n (pc := 22) (j := 2) dX6_setListener_22 rfl rfl) ?_
      refine ev_sti (pc := 23) dX6_setListener_23 (fun h4 => ?_)
      refine ev_step (st_goto (pc := 24) (tgt := 73) dX6_setListener_24 (by decide)) ?_
      exact ev_vret (pc := 73) dX6_setListener_73
    · refine ev_sub (ls' := [(0, .ref (gB G + v0)), (1, .int v1), (2, .int v2)]) [0, 1, 2] rfl ?_
      exact tX6_setListener_27 G fu h v0 v1 v2 h
set_option maxRecDepth 100000 in
set_option maxHeartbeats 4000000 in
theorem tX6_hasRole (G : gx) (fu : Nat) (v0 : Nat) (v1 : Int32) (h : mh) : Ct lI G yX6_hasRole cX6_hasRole 2 (some .boolean) 1 [.ref (gB G + v0), .int v1] h (fX6_hasRole fu v0 v1 h) := by
  refine ct_ls (ls := [(0, .ref (gB G + v0)), (1, .int v1)]) rfl (by decide) (Nat.le_of_ble_eq_true rfl) ?_
  unfold fX6_hasRole
  refine ev_step (st_iload_n (pc := 0) (j := 1) dX6_hasRole_0 rfl rfl) ?_
  refine ev_br (br_if_lt (tgt := 16) (pc := 1) dX6_hasRole_1 (by decide)) (fun _ => ?_) (fun _ => ?_)
  · refine ev_step (st_iconst (pc := 16) dX6_hasRole_16 ni_0) ?_
    exact ev_zret (pc := 17) dX6_hasRole_17
  · refine ev_step (st_iload_n (pc := 4) (j := 1) dX6_hasRole_4 rfl rfl) ?_
    refine ev_step (st_aload_n (pc := 5) (j := 0) dX6_hasRole_5 rfl rfl) ?_
    refine ev_getI (pc := 6) k_X6_9 rfl dX6_hasRole_6 (fun x1 => ?_)
    refine ev_br (br_icmp_ge (tgt := 16) (pc := 9) dX6_hasRole_9 (by decide)) (fun _ => ?_) (fun _ => ?_)
    · refine ev_step (st_iconst (pc := 16) dX6_hasRole_16 ni_0) ?_
      exact ev_zret (pc := 17) dX6_hasRole_17
    · refine ev_step (st_iconst (pc := 12) dX6_hasRole_12 ni_1) ?_
      refine ev_step (st_goto (pc := 13) (tgt := 17) dX6_hasRole_13 (by decide)) ?_
      exact ev_zret (pc := 17) dX6_hasRole_17
set_option maxRecDepth 100000 in
set_option maxHeartbeats 4000000 in
theorem tX6_hasListener (G : gx) (fu : Nat) (v0 : Nat) (v1 : Int32) (h : mh) : Ct lI G yX6_hasListener cX6_hasListener 2 (some .boolean) 1 [.ref (gB G + v0), .int v1] h (fX6_hasListener fu v0 v1 h) := by
  refine ct_ls (ls := [(0, .ref (gB G + v0)), (1, .int v1)]) rfl (by decide) (Nat.le_of_ble_eq_true rfl) ?_
  unfold fX6_hasListener
  refine ev_step (st_iload_n (pc := 0) (j := 1) dX6_hasListener_0 rfl rfl) ?_
  refine ev_br (br_if_lt (tgt := 16) (pc := 1) dX6_hasListener_1 (by decide)) (fun _ => ?_) (fun _ => ?_)
  · refine ev_step (st_iconst (pc := 16) dX6_hasListener_16 ni_0) ?_
    exact ev_zret (pc := 17) dX6_hasListener_17
  · refine ev_step (st_iload_n (pc := 4) (j := 1) dX6_hasListener_4 rfl rfl) ?_
    refine ev_step (st_aload_n (pc := 5) (j := 0) dX6_hasListener_5 rfl rfl) ?_
    refine ev_getI (pc := 6) k_X6_26 rfl dX6_hasListener_6 (fun x1 => ?_)
    refine ev_br (br_icmp_ge (tgt := 16) (pc := 9) dX6_hasListener_9 (by decide)) (fun _ => ?_) (fun _ => ?_)
    · refine ev_step (st_iconst (pc := 16) dX6_hasListener_16 ni_0) ?_
      exact ev_zret (pc := 17) dX6_hasListener_17
    · refine ev_step (st_iconst (pc := 12) dX6_hasListener_12 ni_1) ?_
      refine ev_step (st_goto (pc := 13) (tgt := 17) dX6_hasListener_13 (by decide)) ?_
      exact ev_zret (pc := 17) dX6_hasListener_17
set_option maxRecDepth 100000 in
set_option maxHeartbeats 4000000 in
theorem tX6_roleNamed_2 (G : gx) (fu : Nat) (h0 : mh) (v0 : Nat) (v1 : Int64) (n : Nat) (v3 : Int32) (h : mh) : Ev lI G yX6_roleNamed cX6_roleNamed 4 (some .int) 1 h0 2 [(0, .ref (gB G + v0)), (1, .long v1), (3, .int v3)] [] h (itr (bX6_roleNamed_2 fu v0 v1) n (v3, h)) := by
  refine ev_itr (P := fun (q : Int32 × mh) (R9 : Option (Int32 × mh)) => Ev lI G yX6_roleNamed cX6_roleNamed 4 (some .int) 1 h0 2 [(0, .ref (gB G + v0)), (1, .long v1), (3, .int q.1)] [] q.2 R9) (fun _ => ev_none) (fun k2 hk9 q => ?_) n (v3, h)
  obtain ⟨v3, h⟩ := q
  have hk2 : ∀ (v3 : Int32) (h : mh), Ev lI G yX6_roleNamed cX6_roleNamed 4 (some .int) 1 h0 2 [(0, .ref (gB G + v0)), (1, .long v1), (3, .int v3)] [] h (k2 (v3, h)) := fun v3 h => hk9 (v3, h)
  show Ev lI G yX6_roleNamed cX6_roleNamed 4 (some .int) 1 h0 2 [(0, .ref (gB G + v0)), (1, .long v1), (3, .int v3)] [] h (bX6_roleNamed_2 fu v0 v1 k2 (v3, h))
  unfold bX6_roleNamed_2
  refine ev_step (st_iload_n (pc := 2) (j := 2) dX6_roleNamed_2 rfl rfl) ?_
  refine ev_step (st_aload_n (pc := 3) (j := 0) dX6_roleNamed_3 rfl rfl) ?_
  refine ev_getI (pc := 4) k_X6_9 rfl dX6_roleNamed_4 (fun x1 => ?_)
  refine ev_br (br_icmp_ge (tgt := 29) (pc := 7) dX6_roleNamed_7 (by decide)) (fun _ => ?_) (fun _ => ?_)
  · refine ev_step (st_iconst (pc := 29) dX6_roleNamed_29 ni_m1) ?_
    exact ev_iret (pc := 30) dX6_roleNamed_30
  · refine ev_step (st_aload_n (pc := 10) (j := 0) dX6_roleNamed_10 rfl rfl) ?_
    refine ev_getR (pc := 11) k_X6_15 rfl dX6_roleNamed_11 (fun a2 => ?_)
    refine ev_step (st_iload_n (pc := 14) (j := 2) dX6_roleNamed_14 rfl rfl) ?_
    refine ev_ldj (pc := 15) dX6_roleNamed_15 (fun x3 => ?_)
    refine ev_step (st_lload_n (pc := 16) (j := 1) dX6_roleNamed_16 rfl rfl) ?_
    refine ev_step (st_lcmp (pc := 17) dX6_roleNamed_17) ?_
    refine ev_br (br_if_ne (tgt := 23) (pc := 18) dX6_roleNamed_18 (by decide)) (fun _ => ?_) (fun _ => ?_)
    · refine ev_step (st_iload_n (pc := 21) (j := 2) dX6_roleNamed_21 rfl rfl) ?_
      exact ev_iret (pc := 22) dX6_roleNamed_22
    · refine ev_step (st_inc (pc := 23) (j := 2) (ls' := [(3, .int (v3 + (1 : Int32))), (0, .ref (gB G + v0)), (1, .long v1)]) dX6_roleNamed_23 rfl ni_1 (by decide) rfl) ?_
      refine ev_step (st_goto (pc := 26) (tgt := 2) dX6_roleNamed_26 (by decide)) ?_
      refine ev_sub (ls' := [(0, .ref (gB G + v0)), (1, .long v1), (3, .int (v3 + (1 : Int32)))]) [1, 2, 0] rfl ?_
      exact hk2 (v3 + (1 : Int32)) h
set_option maxRecDepth 100000 in
set_option maxHeartbeats 4000000 in
theorem tX6_roleNamed (G : gx) (fu : Nat) (v0 : Nat) (v1 : Int64) (h : mh) : Ct lI G yX6_roleNamed cX6_roleNamed 4 (some .int) 1 [.ref (gB G + v0), .long v1] h (fX6_roleNamed fu v0 v1 h) := by
  refine ct_ls (ls := [(0, .ref (gB G + v0)), (1, .long v1)]) rfl (by decide) (Nat.le_of_ble_eq_true rfl) ?_
  unfold fX6_roleNamed
  refine ev_step (st_iconst (pc := 0) dX6_roleNamed_0 ni_0) ?_
  refine ev_step (st_istore_n (pc := 1) (ls' := [(3, .int ((0 : Int32))), (0, .ref (gB G + v0)), (1, .long v1)]) dX6_roleNamed_1 rfl (by decide) rfl) ?_
  refine ev_sub (ls' := [(0, .ref (gB G + v0)), (1, .long v1), (3, .int ((0 : Int32)))]) [1, 2, 0] rfl ?_
  exact tX6_roleNamed_2 G fu h v0 v1 fu ((0 : Int32)) h
set_option maxRecDepth 100000 in
set_option maxHeartbeats 4000000 in
theorem tX6_listenerNamed_2 (G : gx) (fu : Nat) (h0 : mh) (v0 : Nat) (v1 : Int64) (n : Nat) (v3 : Int32) (h : mh) : Ev lI G yX6_listenerNamed cX6_listenerNamed 4 (some .int) 1 h0 2 [(0, .ref (gB G + v0)), (1, .long v1), (3, .int v3)] [] h (itr (bX6_listenerNamed_2 fu v0 v1) n (v3, h)) := by
  refine ev_itr (P := fun (q : Int32 × mh) (R9 : Option (Int32 × mh)) => Ev lI G yX6_listenerNamed cX6_listenerNamed 4 (some .int) 1 h0 2 [(0, .ref (gB G + v0)), (1, .long v1), (3, .int q.1)] [] q.2 R9) (fun _ => ev_none) (fun k2 hk9 q => ?_) n (v3, h)
  obtain ⟨v3, h⟩ := q
  have hk2 : ∀ (v3 : Int32) (h : mh), Ev lI G yX6_listenerNamed cX6_listenerNamed 4 (some .int) 1 h0 2 [(0, .ref (gB G + v0)), (1, .long v1), (3, .int v3)] [] h (k2 (v3, h)) := fun v3 h => hk9 (v3, h)
  show Ev lI G yX6_listenerNamed cX6_listenerNamed 4 (some .int) 1 h0 2 [(0, .ref (gB G + v0)), (1, .long v1), (3, .int v3)] [] h (bX6_listenerNamed_2 fu v0 v1 k2 (v3, h))
  unfold bX6_listenerNamed_2
  refine ev_step (st_iload_n (pc := 2) (j := 2) dX6_listenerNamed_2 rfl rfl) ?_
  refine ev_step (st_aload_n (pc := 3) (j := 0) dX6_listenerNamed_3 rfl rfl) ?_
  refine ev_getI (pc := 4) k_X6_26 rfl dX6_listenerNamed_4 (fun x1 => ?_)
  refine ev_br (br_icmp_ge (tgt := 29) (pc := 7) dX6_listenerNamed_7 (by decide)) (fun _ => ?_) (fun _ => ?_)
  · refine ev_step (st_iconst (pc := 29) dX6_listenerNamed_29 ni_m1) ?_
    exact ev_iret (pc := 30) dX6_listenerNamed_30
  · refine ev_step (st_aload_n (pc := 10) (j := 0) dX6_listenerNamed_10 rfl rfl) ?_
    refine ev_getR (pc := 11) k_X6_29 rfl dX6_listenerNamed_11 (fun a2 => ?_)
    refine ev_step (st_iload_n (pc := 14) (j := 2) dX6_listenerNamed_14 rfl rfl) ?_
    refine ev_ldj (pc := 15) dX6_listenerNamed_15 (fun x3 => ?_)
    refine ev_step (st_lload_n (pc := 16) (j := 1) dX6_listenerNamed_16 rfl rfl) ?_
    refine ev_step (st_lcmp (pc := 17) dX6_listenerNamed_17) ?_
    refine ev_br (br_if_ne (tgt := 23) (pc := 18) dX6_listenerNamed_18 (by decide)) (fun _ => ?_) (fun _ => ?_)
    · refine ev_step (st_iload_n (pc := 21) (j := 2) dX6_listenerNamed_21 rfl rfl) ?_
      exact ev_iret (pc := 22) dX6_listenerNamed_22
    · refine ev_step (st_inc (pc := 23) (j := 2) (ls' := [(3, .int (v3 + (1 : Int32))), (0, .ref (gB G + v0)), (1, .long v1)]) dX6_listenerNamed_23 rfl ni_1 (by decide) rfl) ?_
      refine ev_step (st_goto (pc := 26) (tgt := 2) dX6_listenerNamed_26 (by decide)) ?_
      refine ev_sub (ls' := [(0, .ref (gB G + v0)), (1, .long v1), (3, .int (v3 + (1 : Int32)))]) [1, 2, 0] rfl ?_
      exact hk2 (v3 + (1 : Int32)) h
set_option maxRecDepth 100000 in
set_option maxHeartbeats 4000000 in
theorem tX6_listenerNamed (G : gx) (fu : Nat) (v0 : Nat) (v1 : Int64) (h : mh) : Ct lI G yX6_listenerNamed cX6_listenerNamed 4 (some .int) 1 [.ref (gB G + v0), .long v1] h (fX6_listenerNamed fu v0 v1 h) := by
  refine ct_ls (ls := [(0, .ref (gB G + v0)), (1, .long v1)]) rfl (by decide) (Nat.le_of_ble_eq_true rfl) ?_
  unfold fX6_listenerNamed
  refine ev_step (st_iconst (pc := 0) dX6_listenerNamed_0 ni_0) ?_
  refine ev_step (st_istore_n (pc := 1) (ls' := [(3, .int ((0 : Int32))), (0, .ref (gB G + v0)), (1, .long v1)]) dX6_listenerNamed_1 rfl (by decide) rfl) ?_
  refine ev_sub (ls' := [(0, .ref (gB G + v0)), (1, .long v1), (3, .int ((0 : Int32)))]) [1, 2, 0] rfl ?_
  exact tX6_listenerNamed_2 G fu h v0 v1 fu ((0 : Int32)) h
set_option maxRecDepth 100000 in
set_option maxHeartbeats 4000000 in
theorem tX6_reallySome_27 (G : gx) (fu : Nat) (h0 : mh) (v0 : Nat) (v1 : Int32) (v2 : Int32) (k4 : Int32 × Int32 × mh → Option (Int32 × mh)) (hk4 : ∀ (v1 : Int32) (v2 : Int32) (h : mh), Ev lI G yX6_reallySome cX6_reallySome 3 (some .int) 1 h0 4 [(0, .ref (gB G + v0)), (1, .int v1), (2, .int v2)] [] h (k4 (v1, v2, h))) (h : mh) : Ev lI G yX6_reallySome cX6_reallySome 3 (some .int) 1 h0 27 [(0, .ref (gB G + v0)), (1, .int v1), (2, .int v2)] [] h (fX6_reallySome_27 fu k4 v0 v1 v2 h) := by
  unfold fX6_reallySome_27
  refine ev_step (st_inc (pc := 27) (j := 2) (ls' := [(2, .int (v2 + (1 : Int32))), (0, .ref (gB G + v0)), (1, .int v1)]) dX6_reallySome_27 rfl ni_1 (by decide) rfl) ?_
  refine ev_step (st_goto (pc := 30) (tgt := 4) dX6_reallySome_30 (by decide)) ?_
  refine ev_sub (ls' := [(0, .ref (gB G + v0)), (1, .int v1), (2, .int (v2 + (1 : Int32)))]) [1, 2, 0] rfl ?_
  exact hk4 v1 (v2 + (1 : Int32)) h
set_option maxRecDepth 100000 in
set_option maxHeartbeats 4000000 in
theorem tX6_reallySome_4 (G : gx) (fu : Nat) (h0 : mh) (v0 : Nat) (n : Nat) (v1 : Int32) (v2 : Int32) (h : mh) : Ev lI G yX6_reallySome cX6_reallySome 3 (some .int) 1 h0 4 [(0, .ref (gB G + v0)), (1, .int v1), (2, .int v2)] [] h (itr (bX6_reallySome_4 fu v0) n (v1, v2, h)) := by
  refine ev_itr (P := fun (q : Int32 × Int32 × mh) (R9 : Option (Int32 × mh)) => Ev lI G yX6_reallySome cX6_reallySome 3 (some .int) 1 h0 4 [(0, .ref (gB G + v0)), (1, .int q.1), (2, .int q.2.1)] [] q.2.2 R9) (fun _ => ev_none) (fun k4 hk9 q => ?_) n (v1, v2, h)
  obtain ⟨v1, v2, h⟩ := q
  have hk4 : ∀ (v1 : Int32) (v2 : Int32) (h : mh), Ev lI G yX6_reallySome cX6_reallySome 3 (some .int) 1 h0 4 [(0, .ref (gB G + v0)), (1, .int v1), (2, .int v2)] [] h (k4 (v1, v2, h)) := fun v1 v2 h => hk9 (v1, v2, h)
  show Ev lI G yX6_reallySome cX6_reallySome 3 (some .int) 1 h0 4 [(0, .ref (gB G + v0)), (1, .int v1), (2, .int v2)] [] h (bX6_reallySome_4 fu v0 k4 (v1, v2, h))
  unfold bX6_reallySome_4
  refine ev_step (st_iload_n (pc := 4) (j := 2) dX6_reallySome_4 rfl rfl) ?_
  refine ev_step (st_aload_n (pc := 5) (j := 0) dX6_reallySome_5 rfl rfl) ?_
  refine ev_getI (pc := 6) k_X6_26 rfl dX6_reallySome_6 (fun x1 => ?_)
  refine ev_br (br_icmp_ge (tgt := 33) (pc := 9) dX6_reallySome_9 (by decide)) (fun _ => ?_) (fun _ => ?_)
  · refine ev_step (st_iload_n (pc := 33) (j := 1) dX6_reallySome_33 rfl rfl) ?_
    exact ev_iret (pc := 34) dX6_reallySome_34
  · refine ev_step (st_aload_n (pc := 12) (j := 0) dX6_reallySome_12 rfl rfl) ?_
    refine ev_getR (pc := 13) k_X6_44 rfl dX6_reallySome_13 (fun a2 => ?_)
    refine ev_step (st_iload_n (pc := 16) (j := 2) dX6_reallySome_16 rfl rfl) ?_
    refine ev_ldi (pc := 17) dX6_reallySome_17 (fun x3 => ?_)
    refine ev_br (br_if_eq (tgt := 27) (pc := 18) dX6_reallySome_18 (by decide)) (fun _ => ?_) (fun _ => ?_)
    · refine ev_sub (ls' := [(0, .ref (gB G + v0)), (1, .int v1), (2, .int v2)]) [0, 1, 2] rfl ?_
      exact tX6_reallySome_27 G fu h0 v0 v1 v2 k4 hk4 h
    · refine ev_step (st_iload_n (pc := 21) (j := 1) dX6_reallySome_21 rfl rfl) ?_
      refine ev_step (st_iconst (pc := 22) dX6_reallySome_22 ni_1) ?_
      refine ev_step (st_iload_n (pc := 23) (j := 2) dX6_reallySome_23 rfl rfl) ?_
      refine ev_step (st_ishl (pc := 24) dX6_reallySome_24) ?_
      refine ev_step (st_ior (pc := 25) dX6_reallySome_25) ?_
      refine ev_top (fun x4 => ?_)
      refine ev_step (st_istore_n (pc := 26) (ls' := [(1, .int x4), (0, .ref (gB G + v0)), (2, .int v2)]) dX6_reallySome_26 rfl (by decide) rfl) ?_
      refine ev_sub (ls' := [(0, .ref (gB G + v0)), (1, .int x4), (2, .int v2)]) [1, 0, 2] rfl ?_
      exact tX6_reallySome_27 G fu h0 v0 x4 v2 k4 hk4 h
set_option maxRecDepth 100000 in
set_option maxHeartbeats 4000000 in
theorem tX6_reallySome (G : gx) (fu : Nat) (v0 : Nat) (h : mh) : Ct lI G yX6_reallySome cX6_reallySome 3 (some .int) 1 [.ref (gB G + v0)] h (fX6_reallySome fu v0 h) := by
  refine ct_ls (ls := [(0, .ref (gB G + v0))]) rfl (by decide) (Nat.le_of_ble_eq_true rfl) ?_
  unfold fX6_reallySome
  refine ev_step (st_iconst (pc := 0) dX6_reallySome_0 ni_0) ?_
  refine ev_step (st_istore_n (pc := 1) (ls' := [(1, .int ((0 : Int32))), (0, .ref (gB G + v0))]) dX6_reallySome_1 rfl (by decide) rfl) ?_
  refine ev_step (st_iconst (pc := 2) dX6_reallySome_2 ni_0) ?_
  refine ev_step (st_istore_n (pc := 3) (ls' := [(2, .int ((0 : Int32))), (1, .int ((0 : Int32))), (0, .ref (gB G + v0))]) dX6_reallySome_3 rfl (by decide) rfl) ?_
  refine ev_sub (ls' := [(0, .ref (gB G + v0)), (1, .int ((0 : Int32))), (2, .int ((0 : Int32)))]) [2, 1, 0] rfl ?_
  exact tX6_reallySome_4 G fu h v0 fu ((0 : Int32)) ((0 : Int32)) h
set_option maxRecDepth 100000 in
set_option maxHeartbeats 4000000 in
theorem tX6_knownByRoles_4 (G : gx) (fu : Nat) (h0 : mh) (v0 : Nat) (n : Nat) (v1 : Int32) (v2 : Int32) (h : mh) : Ev lI G yX6_knownByRoles cX6_knownByRoles 3 (some .int) 1 h0 4 [(0, .ref (gB G + v0)), (1, .int v1), (2, .int v2)] [] h (itr (bX6_knownByRoles_4 fu v0) n (v1, v2, h)) := by
  refine ev_itr (P := fun (q : Int32 × Int32 × mh) (R9 : Option (Int32 × mh)) => Ev lI G yX6_knownByRoles cX6_knownByRoles 3 (some .int) 1 h0 4 [(0, .ref (gB G + v0)), (1, .int q.1), (2, .int q.2.1)] [] q.2.2 R9) (fun _ => ev_none) (fun k4 hk9 q => ?_) n (v1, v2, h)
  obtain ⟨v1, v2, h⟩ := q
  have hk4 : ∀ (v1 : Int32) (v2 : Int32) (h : mh), Ev lI G yX6_knownByRoles cX6_knownByRoles 3 (some .int) 1 h0 4 [(0, .ref (gB G + v0)), (1, .int v1), (2, .int v2)] [] h (k4 (v1, v2, h)) := fun v1 v2 h => hk9 (v1, v2, h)
  show Ev lI G yX6_knownByRoles cX6_knownByRoles 3 (some .int) 1 h0 4 [(0, .ref (gB G + v0)), (1, .int v1), (2, .int v2)] [] h (bX6_knownByRoles_4 fu v0 k4 (v1, v2, h))
  unfold bX6_knownByRoles_4
  refine ev_step (st_iload_n (pc := 4) (j := 2) dX6_knownByRoles_4 rfl rfl) ?_
  refine ev_step (st_aload_n (pc := 5) (j := 0) dX6_knownByRoles_5 rfl rfl) ?_
  refine ev_getI (pc := 6) k_X6_9 rfl dX6_knownByRoles_6 (fun x1 => ?_)
  refine ev_br (br_icmp_ge (tgt := 27) (pc := 9) dX6_knownByRoles_9 (by decide)) (fun _ => ?_) (fun _ => ?_)
  · refine ev_step (st_iload_n (pc := 27) (j := 1) dX6_knownByRoles_27 rfl rfl) ?_
    exact ev_iret (pc := 28) dX6_knownByRoles_28
  · refine ev_step (st_iload_n (pc := 12) (j := 1) dX6_knownByRoles_12 rfl rfl) ?_
    refine ev_step (st_aload_n (pc := 13) (j := 0) dX6_knownByRoles_13 rfl rfl) ?_
    refine ev_getR (pc := 14) k_X6_19 rfl dX6_knownByRoles_14 (fun a2 => ?_)
    refine ev_step (st_iload_n (pc := 17) (j := 2) dX6_knownByRoles_17 rfl rfl) ?_
    refine ev_ldi (pc := 18) dX6_knownByRoles_18 (fun x3 => ?_)
    refine ev_step (st_ior (pc := 19) dX6_knownByRoles_19) ?_
    refine ev_top (fun x4 => ?_)
    refine ev_step (st_istore_n (pc := 20) (ls' := [(1, .int x4), (0, .ref (gB G + v0)), (2, .int v2)]) dX6_knownByRoles_20 rfl (by decide) rfl) ?_
    refine ev_step (st_inc (pc := 21) (j := 2) (ls' := [(2, .int (v2 + (1 : Int32))), (1, .int x4), (0, .ref (gB G + v0))]) dX6_knownByRoles_21 rfl ni_1 (by decide) rfl) ?_
    refine ev_step (st_goto (pc := 24) (tgt := 4) dX6_knownByRoles_24 (by decide)) ?_
    refine ev_sub (ls' := [(0, .ref (gB G + v0)), (1, .int x4), (2, .int (v2 + (1 : Int32)))]) [2, 1, 0] rfl ?_
    exact hk4 x4 (v2 + (1 : Int32)) h
set_option maxRecDepth 100000 in
set_option maxHeartbeats 4000000 in
theorem tX6_knownByRoles (G : gx) (fu : Nat) (v0 : Nat) (h : mh) : Ct lI G yX6_knownByRoles cX6_knownByRoles 3 (some .int) 1 [.ref (gB G + v0)] h (fX6_knownByRoles fu v0 h) := by
  refine ct_ls (ls := [(0, .ref (gB G + v0))]) rfl (by decide) (Nat.le_of_ble_eq_true rfl) ?_
  unfold fX6_knownByRoles
  refine ev_step (st_iconst (pc := 0) dX6_knownByRoles_0 ni_0) ?_
  refine ev_step (st_istore_n (pc := 1) (ls' := [(1, .int ((0 : Int32))), (0, .ref (gB G + v0))]) dX6_knownByRoles_1 rfl (by decide) rfl) ?_
  refine ev_step (st_iconst (pc := 2) dX6_knownByRoles_2 ni_0) ?_
  refine ev_step (st_istore_n (pc := 3) (ls' := [(2, .int ((0 : Int32))), (1, .int ((0 : Int32))), (0, .ref (gB G + v0))]) dX6_knownByRoles_3 rfl (by decide) rfl) ?_
  refine ev_sub (ls' := [(0, .ref (gB G + v0)), (1, .int ((0 : Int32))), (2, .int ((0 : Int32)))]) [2, 1, 0] rfl ?_
  exact tX6_knownByRoles_4 G fu h v0 fu ((0 : Int32)) ((0 : Int32)) h
set_option maxRecDepth 100000 in
set_option maxHeartbeats 4000000 in
theorem tX6_tellsRolesApart_48 (G : gx) (fu : Nat) (h0 : mh) (v0 : Nat) (v1 : Int32) (v2 : Int32) (v3 : Int32) (k2 : Int32 × mh → Option (Int32 × mh)) (hk2 : ∀ (v2 : Int32) (h : mh), Ev lI G yX6_tellsRolesApart cX6_tellsRolesApart 4 (some .boolean) 1 h0 2 [(0, .ref (gB G + v0)), (1, .int v1), (2, .int v2)] [] h (k2 (v2, h))) (h : mh) : Ev lI G yX6_tellsRolesApart cX6_tellsRolesApart 4 (some .boolean) 1 h0 48 [(0, .ref (gB G + v0)), (1, .int v1), (2, .int v2), (3, .int v3)] [] h (fX6_tellsRolesApart_48 fu k2 v0 v1 v2 v3 h) := by
  unfold fX6_tellsRolesApart_48
  refine ev_step (st_inc (pc := 48) (j := 2) (ls' := [(2, .int (v2 + (1 : Int32))), (0, .ref (gB G + v0)), (1, .int v1), (3, .int v3)]) dX6_tellsRolesApart_48 rfl ni_1 (by decide) rfl) ?_
  refine ev_step (st_goto (pc := 51) (tgt := 2) dX6_tellsRolesApart_51 (by decide)) ?_
  refine ev_sub (ls' := [(0, .ref (gB G + v0)), (1, .int v1), (2, .int (v2 + (1 : Int32)))]) [1, 2, 0] rfl ?_
  exact hk2 (v2 + (1 : Int32)) h
set_option maxRecDepth 100000 in
set_option maxHeartbeats 4000000 in
theorem tX6_tellsRolesApart_14 (G : gx) (fu : Nat) (h0 : mh) (v0 : Nat) (v1 : Int32) (v2 : Int32) (k2 : Int32 × mh → Option (Int32 × mh)) (hk2 : ∀ (v2 : Int32) (h : mh), Ev lI G yX6_tellsRolesApart cX6_tellsRolesApart 4 (some .boolean) 1 h0 2 [(0, .ref (gB G + v0)), (1, .int v1), (2, .int v2)] [] h (k2 (v2, h))) (n : Nat) (v3 : Int32) (h : mh) : Ev lI G yX6_tellsRolesApart cX6_tellsRolesApart 4 (some .boolean) 1 h0 14 [(0, .ref (gB G + v0)), (1, .int v1), (2, .int v2), (3, .int v3)] [] h (itr (bX6_tellsRolesApart_14 fu k2 v0 v1 v2) n (v3, h)) := by
  refine ev_itr (P := fun (q : Int32 × mh) (R9 : Option (Int32 × mh)) => Ev lI G yX6_tellsRolesApart cX6_tellsRolesApart 4 (some .boolean) 1 h0 14 [(0, .ref (gB G + v0)), (1, .int v1), (2, .int v2), (3, .int q.1)] [] q.2 R9) (fun _ => ev_none) (fun k14 hk9 q => ?_) n (v3, h)
  obtain ⟨v3, h⟩ := q
  have hk14 : ∀ (v3 : Int32) (h : mh), Ev lI G yX6_tellsRolesApart cX6_tellsRolesApart 4 (some .boolean) 1 h0 14 [(0, .ref (gB G + v0)), (1, .int v1), (2, .int v2), (3, .int v3)] [] h (k14 (v3, h)) := fun v3 h => hk9 (v3, h)
  show Ev lI G yX6_tellsRolesApart cX6_tellsRolesApart 4 (some .boolean) 1 h0 14 [(0, .ref (gB G + v0)), (1, .int v1), (2, .int v2), (3, .int v3)] [] h (bX6_tellsRolesApart_14 fu k2 v0 v1 v2 k14 (v3, h))
  unfold bX6_tellsRolesApart_14
  refine ev_step (st_iload_n (pc := 14) (j := 3) dX6_tellsRolesApart_14 rfl rfl) ?_
  refine ev_step (st_aload_n (pc := 15) (j := 0) dX6_tellsRolesApart_15 rfl rfl) ?_
  refine ev_getI (pc := 16) k_X6_9 rfl dX6_tellsRolesApart_16 (fun x1 => ?_)
  refine ev_br (br_icmp_ge (tgt := 48) (pc := 19) dX6_tellsRolesApart_19 (by decide)) (fun _ => ?_) (fun _ => ?_)
  · refine ev_sub (ls' := [(0, .ref (gB G + v0)), (1, .int v1), (2, .int v2), (3, .int v3)]) [0, 1, 2, 3] rfl ?_
    exact tX6_tellsRolesApart_48 G fu h0 v0 v1 v2 v3 k2 hk2 h
  · refine ev_step (st_aload_n (pc := 22) (j := 0) dX6_tellsRolesApart_22 rfl rfl) ?_
    refine ev_getR (pc := 23) k_X6_19 rfl dX6_tellsRolesApart_23 (fun a2 => ?_)
    refine ev_step (st_iload_n (pc := 26) (j := 2) dX6_tellsRolesApart_26 rfl rfl) ?_
    refine ev_ldi (pc := 27) dX6_tellsRolesApart_27 (fun x3 => ?_)
    refine ev_step (st_aload_n (pc := 28) (j := 0) dX6_tellsRolesApart_28 rfl rfl) ?_
    refine ev_getR (pc := 29) k_X6_19 rfl dX6_tellsRolesApart_29 (fun a4 => ?_)
    refine ev_step (st_iload_n (pc := 32) (j := 3) dX6_tellsRolesApart_32 rfl rfl) ?_
    refine ev_ldi (pc := 33) dX6_tellsRolesApart_33 (fun x5 => ?_)
    refine ev_step (st_ixor (pc := 34) dX6_tellsRolesApart_34) ?_
    refine ev_step (st_iload_n (pc := 35) (j := 1) dX6_tellsRolesApart_35 rfl rfl) ?_
    refine ev_step (st_iand (pc := 36) dX6_tellsRolesApart_36) ?_
    refine ev_br (br_if_ne (tgt := 42) (pc := 37) dX6_tellsRolesApart_37 (by decide)) (fun _ => ?_) (fun _ => ?_)
    · refine ev_step (st_iconst (pc := 40) dX6_tellsRolesApart_40 ni_0) ?_
      exact ev_zret (pc := 41) dX6_tellsRolesApart_41
    · refine ev_step (st_inc (pc := 42) (j := 3) (ls' := [(3, .int (v3 + (1 : Int32))), (0, .ref (gB G + v0)), (1, .int v1), (2, .int v2)]) dX6_tellsRolesApart_42 rfl ni_1 (by decide) rfl) ?_
      refine ev_step (st_goto (pc := 45) (tgt := 14) dX6_tellsRolesApart_45 (by decide)) ?_
      refine ev_sub (ls' := [(0, .ref (gB G + v0)), (1, .int v1), (2, .int v2), (3, .int (v3 + (1 : Int32)))]) [1, 2, 3, 0] rfl ?_
      exact hk14 (v3 + (1 : Int32)) h
set_option maxRecDepth 100000 in
set_option maxHeartbeats 4000000 in
theorem tX6_tellsRolesApart_2 (G : gx) (fu : Nat) (h0 : mh) (v0 : Nat) (v1 : Int32) (n : Nat) (v2 : Int32) (h : mh) : Ev lI G yX6_tellsRolesApart cX6_tellsRolesApart 4 (some .boolean) 1 h0 2 [(0, .ref (gB G + v0)), (1, .int v1), (2, .int v2)] [] h (itr (bX6_tellsRolesApart_2 fu v0 v1) n (v2, h)) := by
  refine ev_itr (P := fun (q : Int32 × mh) (R9 : Option (Int32 × mh)) => Ev lI G yX6_tellsRolesApart cX6_tellsRolesApart 4 (some .boolean) 1 h0 2 [(0, .ref (gB G + v0)), (1, .int v1), (2, .int q.1)] [] q.2 R9) (fun _ => ev_none) (fun k2 hk9 q => ?_) n (v2, h)
  obtain ⟨v2, h⟩ := q
  have hk2 : ∀ (v2 : Int32) (h : mh), Ev lI G yX6_tellsRolesApart cX6_tellsRolesApart 4 (some .boolean) 1 h0 2 [(0, .ref (gB G + v0)), (1, .int v1), (2, .int v2)] [] h (k2 (v2, h)) := fun v2 h => hk9 (v2, h)
  show Ev lI G yX6_tellsRolesApart cX6_tellsRolesApart 4 (some .boolean) 1 h0 2 [(0, .ref (gB G + v0)), (1, .int v1), (2, .int v2)] [] h (bX6_tellsRolesApart_2 fu v0 v1 k2 (v2, h))
  unfold bX6_tellsRolesApart_2
  refine ev_step (st_iload_n (pc := 2) (j := 2) dX6_tellsRolesApart_2 rfl rfl) ?_
  refine ev_step (st_aload_n (pc := 3) (j := 0) dX6_tellsRolesApart_3 rfl rfl) ?_
  refine ev_getI (pc := 4) k_X6_9 rfl dX6_tellsRolesApart_4 (fun x1 => ?_)
  refine ev_br (br_icmp_ge (tgt := 54) (pc := 7) dX6_tellsRolesApart_7 (by decide)) (fun _ => ?_) (fun _ => ?_)
  · refine ev_step (st_iconst (pc := 54) dX6_tellsRolesApart_54 ni_1) ?_
    exact ev_zret (pc := 55) dX6_tellsRolesApart_55
  · refine ev_step (st_iload_n (pc := 10) (j := 2) dX6_tellsRolesApart_10 rfl rfl) ?_
    refine ev_step (st_iconst (pc := 11) dX6_tellsRolesApart_11 ni_1) ?_
    refine ev_step (st_iadd (pc := 12) dX6_tellsRolesApart_12) ?_
    refine ev_top (fun x2 => ?_)
    refine ev_step (st_istore_n (pc := 13) (ls' := [(3, .int x2), (0, .ref (gB G + v0)), (1, .int v1), (2, .int v2)]) dX6_tellsRolesApart_13 rfl (by decide) rfl) ?_
    refine ev_sub (ls' := [(0, .ref (gB G + v0)), (1, .int v1), (2, .int v2), (3, .int x2)]) [1, 2, 3, 0] rfl ?_
    exact tX6_tellsRolesApart_14 G fu h0 v0 v1 v2 k2 hk2 fu x2 h
set_option maxRecDepth 100000 in
set_option maxHeartbeats 4000000 in
theorem tX6_tellsRolesApart (G : gx) (fu : Nat) (v0 : Nat) (v1 : Int32) (h : mh) : Ct lI G yX6_tellsRolesApart cX6_tellsRolesApart 4 (some .boolean) 1 [.ref (gB G + v0), .int v1] h (fX6_tellsRolesApart fu v0 v1 h) := by
  refine ct_ls (ls := [(0, .ref (gB G + v0)), (1, .int v1)]) rfl (by decide) (Nat.le_of_ble_eq_true rfl) ?_
  unfold fX6_tellsRolesApart
  refine ev_step (st_iconst (pc := 0) dX6_tellsRolesApart_0 ni_0) ?_
  refine ev_step (st_istore_n (pc := 1) (ls' := [(2, .int ((0 : Int32))), (0, .ref (gB G + v0)), (1, .int v1)]) dX6_tellsRolesApart_1 rfl (by decide) rfl) ?_
  refine ev_sub (ls' := [(0, .ref (gB G + v0)), (1, .int v1), (2, .int ((0 : Int32)))]) [1, 2, 0] rfl ?_
  exact tX6_tellsRolesApart_2 G fu h v0 v1 fu ((0 : Int32)) h
set_option maxRecDepth 100000 in
set_option maxHeartbeats 4000000 in
theorem tX6_lackedBy (G : gx) (fu : Nat) (v0 : Nat) (v1 : Nat) (v2 : Int32) (h : mh) : Ct lI G yX6_lackedBy cX6_lackedBy 3 (some .int) 1 [.ref (gB G + v0), .ref (gB G + v1), .int v2] h (fX6_lackedBy fu v0 v1 v2 h) := by
  refine ct_ls (ls := [(0, .ref (gB G + v0)), (1, .ref (gB G + v1)), (2, .int v2)]) rfl (by decide) (Nat.le_of_ble_eq_true rfl) ?_
  unfold fX6_lackedBy
  refine ev_step (st_aload_n (pc := 0) (j := 0) dX6_lackedBy_0 rfl rfl) ?_
  refine ev_getR (pc := 1) k_X6_35 rfl dX6_lackedBy_1 (fun a1 => ?_)
  refine ev_step (st_iload_n (pc := 4) (j := 2) dX6_lackedBy_4 rfl rfl) ?_
  refine ev_ldi (pc := 5) dX6_lackedBy_5 (fun x2 => ?_)
  refine ev_step (st_aload_n (pc := 6) (j := 1) dX6_lackedBy_6 rfl rfl) ?_
  refine ev_getR (pc := 7) k_X6_79 rfl dX6_lackedBy_7 (fun a3 => ?_)
  refine ev_step (st_iload_n (pc := 10) (j := 2) dX6_lackedBy_10 rfl rfl) ?_
  refine ev_ldi (pc := 11) dX6_lackedBy_11 (fun x4 => ?_)
  refine ev_step (st_iconst (pc := 12) dX6_lackedBy_12 ni_m1) ?_
  refine ev_step (st_ixor (pc := 13) dX6_lackedBy_13) ?_
  refine ev_step (st_iand (pc := 14) dX6_lackedBy_14) ?_
  exact ev_iret (pc := 15) dX6_lackedBy_15
set_option maxRecDepth 100000 in
set_option maxHeartbeats 4000000 in
theorem tX6_hasDone (G : gx) (fu : Nat) (v0 : Nat) (v1 : Nat) (v2 : Int32) (h : mh) : Ct lI G yX6_hasDone cX6_hasDone 3 (some .boolean) 2 [.ref (gB G + v0), .ref (gB G + v1), .int v2] h (fX6_hasDone fu v0 v1 v2 h) := by
  refine ct_ls (ls := [(0, .ref (gB G + v0)), (1, .ref (gB G + v1)), (2, .int v2)]) rfl (by decide) (Nat.le_of_ble_eq_true rfl) ?_
  unfold fX6_hasDone
  refine ev_step (st_aload_n (pc := 0) (j := 0) dX6_hasDone_0 rfl rfl) ?_
  refine ev_step (st_aload_n (pc := 1) (j := 1) dX6_hasDone_1 rfl rfl) ?_
  refine ev_step (st_iload_n (pc := 2) (j := 2) dX6_hasDone_2 rfl rfl) ?_
  refine ev_ck (fun ha hS => ?_)
  refine ev_callI (iv_V (As := [.ref (gB G + v1), .int v2]) (st := []) (pc := 3) rfl m_X6_lackedBy l_X6_117 i_X6_lackedBy e_X6_lackedBy ha hS rfl (Nat.le_of_ble_eq_true rfl) rfl dX6_hasDone_3) (tX6_lackedBy G fu v0 v1 v2 h) (by decide) (by decide) (fun x2 h1 => ?_)
  refine ev_br (br_if_ne (tgt := 13) (pc := 6) dX6_hasDone_6 (by decide)) (fun _ => ?_) (fun _ => ?_)
  · refine ev_step (st_iconst (pc := 9) dX6_hasDone_9 ni_1) ?_
    refine ev_step (st_goto (pc := 10) (tgt := 14) dX6_hasDone_10 (by decide)) ?_
    exact ev_zret (pc := 14) dX6_hasDone_14
  · refine ev_step (st_iconst (pc := 13) dX6_hasDone_13 ni_0) ?_
    exact ev_zret (pc := 14) dX6_hasDone_14
set_option maxRecDepth 100000 in
set_option maxHeartbeats 4000000 in
theorem tX6_doneBy_27 (G : gx) (fu : Nat) (h0 : mh) (v0 : Nat) (v1 : Nat) (v2 : Int32) (v3 : Int32) (k4 : Int32 × Int32 × mh → Option (Int32 × mh)) (hk4 : ∀ (v2 : Int32) (v3 : Int32) (h : mh), Ev lI G yX6_doneBy cX6_doneBy 4 (some .int) 3 h0 4 [(0, .ref (gB G + v0)), (1, .ref (gB G + v1)), (2, .int v2), (3, .int v3)] [] h (k4 (v2, v3, h))) (h : mh) : Ev lI G yX6_doneBy cX6_doneBy 4 (some .int) 3 h0 27 [(0, .ref (gB G + v0)), (1, .ref (gB G + v1)), (2, .int v2), (3, .int v3)] [] h (fX6_doneBy_27 fu k4 v0 v1 v2 v3 h) := by
  unfold fX6_doneBy_27
  refine ev_step (st_inc (pc := 27) (j := 3) (ls' := [(3, .int (v3 + (1 : Int32))), (0, .ref (gB G + v0)), (1, .ref (gB G + v1)), (2, .int v2)]) dX6_doneBy_27 rfl ni_1 (by decide) rfl) ?_
  refine ev_step (st_goto (pc := 30) (tgt := 4) dX6_doneBy_30 (by decide)) ?_
  refine ev_sub (ls' := [(0, .ref (gB G + v0)), (1, .ref (gB G + v1)), (2, .int v2), (3, .int (v3 + (1 : Int32)))]) [1, 2, 3, 0] rfl ?_
  exact hk4 v2 (v3 + (1 : Int32)) h
set_option maxRecDepth 100000 in
set_option maxHeartbeats 4000000 in
theorem tX6_doneBy_4 (G : gx) (fu : Nat) (h0 : mh) (v0 : Nat) (v1 : Nat) (n : Nat) (v2 : Int32) (v3 : Int32) (h : mh) : Ev lI G yX6_doneBy cX6_doneBy 4 (some .int) 3 h0 4 [(0, .ref (gB G + v0)), (1, .ref (gB G + v1)), (2, .int v2), (3, .int v3)] [] h (itr (bX6_doneBy_4 fu v0 v1) n (v2, v3, h)) := by
  refine ev_itr (P := fun (q : Int32 × Int32 × mh) (R9 : Option (Int32 × mh)) => Ev lI G yX6_doneBy cX6_doneBy 4 (some .int) 3 h0 4 [(0, .ref (gB G + v0)), (1, .ref (gB G + v1)), (2, .int q.1), (3, .int q.2.1)] [] q.2.2 R9) (fun _ => ev_none) (fun k4 hk9 q => ?_) n (v2, v3, h)
  obtain ⟨v2, v3, h⟩ := q
  have hk4 : ∀ (v2 : Int32) (v3 : Int32) (h : mh), Ev lI G yX6_doneBy cX6_doneBy 4 (some .int) 3 h0 4 [(0, .ref (gB G + v0)), (1, .ref (gB G + v1)), (2, .int v2), (3, .int v3)] [] h (k4 (v2, v3, h)) := fun v2 v3 h => hk9 (v2, v3, h)
  show Ev lI G yX6_doneBy cX6_doneBy 4 (some .int) 3 h0 4 [(0, .ref (gB G + v0)), (1, .ref (gB G + v1)), (2, .int v2), (3, .int v3)] [] h (bX6_doneBy_4 fu v0 v1 k4 (v2, v3, h))
  unfold bX6_doneBy_4
  refine ev_step (st_iload_n (pc := 4) (j := 3) dX6_doneBy_4 rfl rfl) ?_
  refine ev_step (st_aload_n (pc := 5) (j := 0) dX6_doneBy_5 rfl rfl) ?_
  refine ev_getI (pc := 6) k_X6_26 rfl dX6_doneBy_6 (fun x1 => ?_)
  refine ev_br (br_icmp_ge (tgt := 33) (pc := 9) dX6_doneBy_9 (by decide)) (fun _ => ?_) (fun _ => ?_)
  · refine ev_step (st_iload_n (pc := 33) (j := 2) dX6_doneBy_33 rfl rfl) ?_
    exact ev_iret (pc := 34) dX6_doneBy_34
  · refine ev_step (st_aload_n (pc := 12) (j := 0) dX6_doneBy_12 rfl rfl) ?_
    refine ev_step (st_aload_n (pc := 13) (j := 1) dX6_doneBy_13 rfl rfl) ?_
    refine ev_step (st_iload_n (pc := 14) (j := 3) dX6_doneBy_14 rfl rfl) ?_
    refine ev_ck (fun ha hS => ?_)
    refine ev_callI (iv_V (As := [.ref (gB G + v1), .int v3]) (st := []) (pc := 15) rfl m_X6_hasDone l_X6_128 i_X6_hasDone e_X6_hasDone ha hS rfl (Nat.le_of_ble_eq_true rfl) rfl dX6_doneBy_15) (tX6_hasDone G fu v0 v1 v3 h) (by decide) (by decide) (fun x3 h2 => ?_)
    refine ev_br (br_if_eq (tgt := 27) (pc := 18) dX6_doneBy_18 (by decide)) (fun _ => ?_) (fun _ => ?_)
    · refine ev_sub (ls' := [(0, .ref (gB G + v0)), (1, .ref (gB G + v1)), (2, .int v2), (3, .int v3)]) [0, 1, 2, 3] rfl ?_
      exact tX6_doneBy_27 G fu h0 v0 v1 v2 v3 k4 hk4 h2
    · refine ev_step (st_iload_n (pc := 21) (j := 2) dX6_doneBy_21 rfl rfl) ?_
      refine ev_step (st_iconst (pc := 22) dX6_doneBy_22 ni_1) ?_
      refine ev_step (st_iload_n (pc := 23) (j := 3) dX6_doneBy_23 rfl rfl) ?_
      refine ev_step (st_ishl (pc := 24) dX6_doneBy_24) ?_
      refine ev_step (st_ior (pc := 25) dX6_doneBy_25) ?_
      refine ev_top (fun x4 => ?_)
      refine ev_step (st_istore_n (pc := 26) (ls' := [(2, .int x4), (0, .ref (gB G + v0)), (1, .ref (gB G + v1)), (3, .int v3)]) dX6_doneBy_26 rfl (by decide) rfl) ?_
      refine ev_sub (ls' := [(0, .ref (gB G + v0)), (1, .ref (gB G + v1)), (2, .int x4), (3, .int v3)]) [1, 2, 0, 3] rfl ?_
      exact tX6_doneBy_27 G fu h0 v0 v1 x4 v3 k4 hk4 h2
set_option maxRecDepth 100000 in
set_option maxHeartbeats 4000000 in
theorem tX6_doneBy (G : gx) (fu : Nat) (v0 : Nat) (v1 : Nat) (h : mh) : Ct lI G yX6_doneBy cX6_doneBy 4 (some .int) 3 [.ref (gB G + v0), .ref (gB G + v1)] h (fX6_doneBy fu v0 v1 h) := by
  refine ct_ls (ls := [(0, .ref (gB G + v0)), (1, .ref (gB G + v1))]) rfl (by decide) (Nat.le_of_ble_eq_true rfl) ?_
  unfold fX6_doneBy
  refine ev_step (st_iconst (pc := 0) dX6_doneBy_0 ni_0) ?_
  refine ev_step (st_istore_n (pc := 1) (ls' := [(2, .int ((0 : Int32))), (0, .ref (gB G + v0)), (1, .ref (gB G + v1))]) dX6_doneBy_1 rfl (by decide) rfl) ?_
  refine ev_step (st_iconst (pc := 2) dX6_doneBy_2 ni_0) ?_
  refine ev_step (st_istore_n (pc := 3) (ls' := [(3, .int ((0 : Int32))), (2, .int ((0 : Int32))), (0, .ref (gB G + v0)), (1, .ref (gB G + v1))]) dX6_doneBy_3 rfl (by decide) rfl) ?_
  refine ev_sub (ls' := [(0, .ref (gB G + v0)), (1, .ref (gB G + v1)), (2, .int ((0 : Int32))), (3, .int ((0 : Int32)))]) [2, 3, 1, 0] rfl ?_
  exact tX6_doneBy_4 G fu h v0 v1 fu ((0 : Int32)) ((0 : Int32)) h
set_option maxRecDepth 100000 in
set_option maxHeartbeats 4000000 in
theorem tX6_quietRoles_27 (G : gx) (fu : Nat) (h0 : mh) (v0 : Nat) (v1 : Nat) (v2 : Int32) (v3 : Int32) (k4 : Int32 × Int32 × mh → Option (Int32 × mh)) (hk4 : ∀ (v2 : Int32) (v3 : Int32) (h : mh), Ev lI G yX6_quietRoles cX6_quietRoles 4 (some .int) 1 h0 4 [(0, .ref (gB G + v0)), (1, .ref (gB G + v1)), (2, .int v2), (3, .int v3)] [] h (k4 (v2, v3, h))) (h : mh) : Ev lI G yX6_quietRoles cX6_quietRoles 4 (some .int) 1 h0 27 [(0, .ref (gB G + v0)), (1, .ref (gB G + v1)), (2, .int v2), (3, .int v3)] [] h (fX6_quietRoles_27 fu k4 v0 v1 v2 v3 h) := by
  unfold fX6_quietRoles_27
  refine ev_step (st_inc (pc := 27) (j := 3) (ls' := [(3, .int (v3 + (1 : Int32))), (0, .ref (gB G + v0)), (1, .ref (gB G + v1)), (2, .int v2)]) dX6_quietRoles_27 rfl ni_1 (by decide) rfl) ?_
  refine ev_step (st_goto (pc := 30) (tgt := 4) dX6_quietRoles_30 (by decide)) ?_
  refine ev_sub (ls' := [(0, .ref (gB G + v0)), (1, .ref (gB G + v1)), (2, .int v2), (3, .int (v3 + (1 : Int32)))]) [1, 2, 3, 0] rfl ?_
  exact hk4 v2 (v3 + (1 : Int32)) h
set_option maxRecDepth 100000 in
set_option maxHeartbeats 4000000 in
theorem tX6_quietRoles_4 (G : gx) (fu : Nat) (h0 : mh) (v0 : Nat) (v1 : Nat) (n : Nat) (v2 : Int32) (v3 : Int32) (h : mh) : Ev lI G yX6_quietRoles cX6_quietRoles 4 (some .int) 1 h0 4 [(0, .ref (gB G + v0)), (1, .ref (gB G + v1)), (2, .int v2), (3, .int v3)] [] h (itr (bX6_quietRoles_4 fu v0 v1) n (v2, v3, h)) := by
  refine ev_itr (P := fun (q : Int32 × Int32 × mh) (R9 : Option (Int32 × mh)) => Ev lI G yX6_quietRoles cX6_quietRoles 4 (some .int) 1 h0 4 [(0, .ref (gB G + v0)), (1, .ref (gB G + v1)), (2, .int q.1), (3, .int q.2.1)] [] q.2.2 R9) (fun _ => ev_none) (fun k4 hk9 q => ?_) n (v2, v3, h)
  obtain ⟨v2, v3, h⟩ := q
  have hk4 : ∀ (v2 : Int32) (v3 : Int32) (h : mh), Ev lI G yX6_quietRoles cX6_quietRoles 4 (some .int) 1 h0 4 [(0, .ref (gB G + v0)), (1, .ref (gB G + v1)), (2, .int v2), (3, .int v3)] [] h (k4 (v2, v3, h)) := fun v2 v3 h => hk9 (v2, v3, h)
  show Ev lI G yX6_quietRoles cX6_quietRoles 4 (some .int) 1 h0 4 [(0, .ref (gB G + v0)), (1, .ref (gB G + v1)), (2, .int v2), (3, .int v3)] [] h (bX6_quietRoles_4 fu v0 v1 k4 (v2, v3, h))
  unfold bX6_quietRoles_4
  refine ev_step (st_iload_n (pc := 4) (j := 3) dX6_quietRoles_4 rfl rfl) ?_
  refine ev_step (st_aload_n (pc := 5) (j := 0) dX6_quietRoles_5 rfl rfl) ?_
  refine ev_getI (pc := 6) k_X6_9 rfl dX6_quietRoles_6 (fun x1 => ?_)
  refine ev_br (br_icmp_ge (tgt := 33) (pc := 9) dX6_quietRoles_9 (by decide)) (fun _ => ?_) (fun _ => ?_)
  · refine ev_step (st_iload_n (pc := 33) (j := 2) dX6_quietRoles_33 rfl rfl) ?_
    exact ev_iret (pc := 34) dX6_quietRoles_34
  · refine ev_step (st_aload_n (pc := 12) (j := 1) dX6_quietRoles_12 rfl rfl) ?_
    refine ev_getR (pc := 13) k_X6_96 rfl dX6_quietRoles_13 (fun a2 => ?_)
    refine ev_step (st_iload_n (pc := 16) (j := 3) dX6_quietRoles_16 rfl rfl) ?_
    refine ev_ldi (pc := 17) dX6_quietRoles_17 (fun x3 => ?_)
    refine ev_br (br_if_le (tgt := 27) (pc := 18) dX6_quietRoles_18 (by decide)) (fun _ => ?_) (fun _ => ?_)
    · refine ev_sub (ls' := [(0, .ref (gB G + v0)), (1, .ref (gB G + v1)), (2, .int v2), (3, .int v3)]) [0, 1, 2, 3] rfl ?_
      exact tX6_quietRoles_27 G fu h0 v0 v1 v2 v3 k4 hk4 h
    · refine ev_step (st_iload_n (pc := 21) (j := 2) dX6_quietRoles_21 rfl rfl) ?_
      refine ev_step (st_iconst (pc := 22) dX6_quietRoles_22 ni_1) ?_
      refine ev_step (st_iload_n (pc := 23) (j := 3) dX6_quietRoles_23 rfl rfl) ?_
      refine ev_step (st_ishl (pc := 24) dX6_quietRoles_24) ?_
      refine ev_step (st_ior (pc := 25) dX6_quietRoles_25) ?_
      refine ev_top (fun x4 => ?_)
      refine ev_step (st_istore_n (pc := 26) (ls' := [(2, .int x4), (0, .ref (gB G + v0)), (1, .ref (gB G + v1)), (3, .int v3)]) dX6_quietRoles_26 rfl (by decide) rfl) ?_
      refine ev_sub (ls' := [(0, .ref (gB G + v0)), (1, .ref (gB G + v1)), (2, .int x4), (3, .int v3)]) [1, 2, 0, 3] rfl ?_
      exact tX6_quietRoles_27 G fu h0 v0 v1 x4 v3 k4 hk4 h
set_option maxRecDepth 100000 in
set_option maxHeartbeats 4000000 in
theorem tX6_quietRoles (G : gx) (fu : Nat) (v0 : Nat) (v1 : Nat) (h : mh) : Ct lI G yX6_quietRoles cX6_quietRoles 4 (some .int) 1 [.ref (gB G + v0), .ref (gB G + v1)] h (fX6_quietRoles fu v0 v1 h) := by
  refine ct_ls (ls := [(0, .ref (gB G + v0)), (1, .ref (gB G + v1))]) rfl (by decide) (Nat.le_of_ble_eq_true rfl) ?_
  unfold fX6_quietRoles
  refine ev_step (st_iconst (pc := 0) dX6_quietRoles_0 ni_0) ?_
  refine ev_step (st_istore_n (pc := 1) (ls' := [(2, .int ((0 : Int32))), (0, .ref (gB G + v0)), (1, .ref (gB G + v1))]) dX6_quietRoles_1 rfl (by decide) rfl) ?_
  refine ev_step (st_iconst (pc := 2) dX6_quietRoles_2 ni_0) ?_
  refine ev_step (st_istore_n (pc := 3) (ls' := [(3, .int ((0 : Int32))), (2, .int ((0 : Int32))), (0, .ref (gB G + v0)), (1, .ref (gB G + v1))]) dX6_quietRoles_3 rfl (by decide) rfl) ?_
  refine ev_sub (ls' := [(0, .ref (gB G + v0)), (1, .ref (gB G + v1)), (2, .int ((0 : Int32))), (3, .int ((0 : Int32)))]) [2, 3, 1, 0] rfl ?_
  exact tX6_quietRoles_4 G fu h v0 v1 fu ((0 : Int32)) ((0 : Int32)) h
set_option maxRecDepth 100000 in
set_option maxHeartbeats 4000000 in
theorem tX6_neverHeard_27 (G : gx) (fu : Nat) (h0 : mh) (v0 : Nat) (v1 : Nat) (v2 : Int32) (v3 : Int32) (k4 : Int32 × Int32 × mh → Option (Int32 × mh)) (hk4 : ∀ (v2 : Int32) (v3 : Int32) (h : mh), Ev lI G yX6_neverHeard cX6_neverHeard 4 (some .int) 1 h0 4 [(0, .ref (gB G + v0)), (1, .ref (gB G + v1)), (2, .int v2), (3, .int v3)] [] h (k4 (v2, v3, h))) (h : mh) : Ev lI G yX6_neverHeard cX6_neverHeard 4 (some .int) 1 h0 27 [(0, .ref (gB G + v0)), (1, .ref (gB G + v1)), (2, .int v2), (3, .int v3)] [] h (fX6_neverHeard_27 fu k4 v0 v1 v2 v3 h) := by
  unfold fX6_neverHeard_27
  refine ev_step (st_inc (pc := 27) (j := 3) (ls' := [(3, .int (v3 + (1 : Int32))), (0, .ref (gB G + v0)), (1, .ref (gB G + v1)), (2, .int v2)]) dX6_neverHeard_27 rfl ni_1 (by decide) rfl) ?_
  refine ev_step (st_goto (pc := 30) (tgt := 4) dX6_neverHeard_30 (by decide)) ?_
  refine ev_sub (ls' := [(0, .ref (gB G + v0)), (1, .ref (gB G + v1)), (2, .int v2), (3, .int (v3 + (1 : Int32)))]) [1, 2, 3, 0] rfl ?_
  exact hk4 v2 (v3 + (1 : Int32)) h
set_option maxRecDepth 100000 in
set_option maxHeartbeats 4000000 in
theorem tX6_neverHeard_4 (G : gx) (fu : Nat) (h0 : mh) (v0 : Nat) (v1 : Nat) (n : Nat) (v2 : Int32) (v3 : Int32) (h : mh) : Ev lI G yX6_neverHeard cX6_neverHeard 4 (some .int) 1 h0 4 [(0, .ref (gB G + v0)), (1, .ref (gB G + v1)), (2, .int v2), (3, .int v3)] [] h (itr (bX6_neverHeard_4 fu v0 v1) n (v2, v3, h)) := by
  refine ev_itr (P := fun (q : Int32 × Int32 × mh) (R9 : Option (Int32 × mh)) => Ev lI G yX6_neverHeard cX6_neverHeard 4 (some .int) 1 h0 4 [(0, .ref (gB G + v0)), (1, .ref (gB G + v1)), (2, .int q.1), (3, .int q.2.1)] [] q.2.2 R9) (fun _ => ev_none) (fun k4 hk9 q => ?_) n (v2, v3, h)
  obtain ⟨v2, v3, h⟩ := q
  have hk4 : ∀ (v2 : Int32) (v3 : Int32) (h : mh), Ev lI G yX6_neverHeard cX6_neverHeard 4 (some .int) 1 h0 4 [(0, .ref (gB G + v0)), (1, .ref (gB G + v1)), (2, .int v2), (3, .int v3)] [] h (k4 (v2, v3, h)) := fun v2 v3 h => hk9 (v2, v3, h)
  show Ev lI G yX6_neverHeard cX6_neverHeard 4 (some .int) 1 h0 4 [(0, .ref (gB G + v0)), (1, .ref (gB G + v1)), (2, .int v2), (3, .int v3)] [] h (bX6_neverHeard_4 fu v0 v1 k4 (v2, v3, h))
  unfold bX6_neverHeard_4
  refine ev_step (st_iload_n (pc := 4) (j := 3) dX6_neverHeard_4 rfl rfl) ?_
  refine ev_step (st_aload_n (pc := 5) (j := 0) dX6_neverHeard_5 rfl rfl) ?_
  refine ev_getI (pc := 6) k_X6_9 rfl dX6_neverHeard_6 (fun x1 => ?_)
  refine ev_br (br_icmp_ge (tgt := 33) (pc := 9) dX6_neverHeard_9 (by decide)) (fun _ => ?_) (fun _ => ?_)
  · refine ev_step (st_iload_n (pc := 33) (j := 2) dX6_neverHeard_33 rfl rfl) ?_
    exact ev_iret (pc := 34) dX6_neverHeard_34
  · refine ev_step (st_aload_n (pc := 12) (j := 1) dX6_neverHeard_12 rfl rfl) ?_
    refine ev_getR (pc := 13) k_X6_93 rfl dX6_neverHeard_13 (fun a2 => ?_)
    refine ev_step (st_iload_n (pc := 16) (j := 3) dX6_neverHeard_16 rfl rfl) ?_
    refine ev_ldi (pc := 17) dX6_neverHeard_17 (fun x3 => ?_)
    refine ev_br (br_if_ne (tgt := 27) (pc := 18) dX6_neverHeard_18 (by decide)) (fun _ => ?_) (fun _ => ?_)
    · refine ev_step (st_iload_n (pc := 21) (j := 2) dX6_neverHeard_21 rfl rfl) ?_
      refine ev_step (st_iconst (pc := 22) dX6_neverHeard_22 ni_1) ?_
      refine ev_step (st_iload_n (pc := 23) (j := 3) dX6_neverHeard_23 rfl rfl) ?_
      refine ev_step (st_ishl (pc := 24) dX6_neverHeard_24) ?_
      refine ev_step (st_ior (pc := 25) dX6_neverHeard_25) ?_
      refine ev_top (fun x4 => ?_)
      refine ev_step (st_istore_n (pc := 26) (ls' := [(2, .int x4), (0, .ref (gB G + v0)), (1, .ref (gB G + v1)), (3, .int v3)]) dX6_neverHeard_26 rfl (by decide) rfl) ?_
      refine ev_sub (ls' := [(0, .ref (gB G + v0)), (1, .ref (gB G + v1)), (2, .int x4), (3, .int v3)]) [1, 2, 0, 3] rfl ?_
      exact tX6_neverHeard_27 G fu h0 v0 v1 x4 v3 k4 hk4 h
    · refine ev_sub (ls' := [(0, .ref (gB G + v0)), (1, .ref (gB G + v1)), (2, .int v2), (3, .int v3)]) [0, 1, 2, 3] rfl ?_
      exact tX6_neverHeard_27 G fu h0 v0 v1 v2 v3 k4 hk4 h
set_option maxRecDepth 100000 in
set_option maxHeartbeats 4000000 in
theorem tX6_neverHeard (G : gx) (fu : Nat) (v0 : Nat) (v1 : Nat) (h : mh) : Ct lI G yX6_neverHeard cX6_neverHeard 4 (some .int) 1 [.ref (gB G + v0), .ref (gB G + v1)] h (fX6_neverHeard fu v0 v1 h) := by
  refine ct_ls (ls := [(0, .ref (gB G + v0)), (1, .ref (gB G + v1))]) rfl (by decide) (Nat.le_of_ble_eq_true rfl) ?_
  unfold fX6_neverHeard
  refine ev_step (st_iconst (pc := 0) dX6_neverHeard_0 ni_0) ?_
  refine ev_step (st_istore_n (pc := 1) (ls' := [(2, .int ((0 : Int32))), (0, .ref (gB G + v0)), (1, .ref (gB G + v1))]) dX6_neverHeard_1 rfl (by decide) rfl) ?_
  refine ev_step (st_iconst (pc := 2) dX6_neverHeard_2 ni_0) ?_
  refine ev_step (st_istore_n (pc := 3) (ls' := [(3, .int ((0 : Int32))), (2, .int ((0 : Int32))), (0, .ref (gB G + v0)), (1, .ref (gB G + v1))]) dX6_neverHeard_3 rfl (by decide) rfl) ?_
  refine ev_sub (ls' := [(0, .ref (gB G + v0)), (1, .ref (gB G + v1)), (2, .int ((0 : Int32))), (3, .int ((0 : Int32)))]) [2, 3, 1, 0] rfl ?_
  exact tX6_neverHeard_4 G fu h v0 v1 fu ((0 : Int32)) ((0 : Int32)) h
set_option maxRecDepth 100000 in
set_option maxHeartbeats 4000000 in
theorem tX6_stirred (G : gx) (fu : Nat) (v0 : Int32) (v1 : Int32) (h : mh) : Ct lI G yX6_stirred cX6_stirred 3 (some .int) 1 [.int v0, .int v1] h (fX6_stirred fu v0 v1 h) := by
  refine ct_ls (ls := [(0, .int v0), (1, .int v1)]) rfl (by decide) (Nat.le_of_ble_eq_true rfl) ?_
  unfold fX6_stirred
  refine ev_step (st_iload_n (pc := 0) (j := 0) dX6_stirred_0 rfl rfl) ?_
  refine ev_step (st_iload_n (pc := 1) (j := 1) dX6_stirred_1 rfl rfl) ?_
  refine ev_step (st_ixor (pc := 2) dX6_stirred_2) ?_
  refine ev_step (st_ldc (pc := 3) dX6_stirred_3 cc_X6_155) ?_
  refine ev_step (st_imul (pc := 5) dX6_stirred_5) ?_
  refine ev_step (st_sipush (pc := 6) dX6_stirred_6 ns_12345) ?_
  refine ev_step (st_iadd (pc := 9) dX6_stirred_9) ?_
  refine ev_top (fun x1 => ?_)
  refine ev_step (st_istore_n (pc := 10) (ls' := [(2, .int x1), (0, .int v0), (1, .int v1)]) dX6_stirred_10 rfl (by decide) rfl) ?_
  refine ev_step (st_iload_n (pc := 11) (j := 0) dX6_stirred_11 rfl rfl) ?_
  refine ev_step (st_iload_n (pc := 12) (j := 0) dX6_stirred_12 rfl rfl) ?_
  refine ev_step (st_bipush (pc := 13) dX6_stirred_13 nb_15) ?_
  refine ev_step (st_iushr (pc := 15) dX6_stirred_15) ?_
  refine ev_step (st_ixor (pc := 16) dX6_stirred_16) ?_
  exact ev_iret (pc := 17) dX6_stirred_17
set_option maxRecDepth 100000 in
set_option maxHeartbeats 4000000 in
theorem tX7_withLetter (G : gx) (fu : Nat) (v0 : Int64) (v2 : Int32) (h : mh) : Ct lL G yX7_withLetter cX7_withLetter 3 (some .long) 1 [.long v0, .int v2] h (fX7_withLetter fu v0 v2 h) := by
  refine ct_ls (ls := [(0, .long v0), (2, .int v2)]) rfl (by decide) (Nat.le_of_ble_eq_true rfl) ?_
  unfold fX7_withLetter
  refine ev_step (st_lload_n (pc := 0) (j := 0) dX7_withLetter_0 rfl rfl) ?_
  refine ev_step (st_ldc2 (pc := 1) dX7_withLetter_1 cc_X7_52) ?_
  refine ev_step (st_lmul (pc := 4) dX7_withLetter_4) ?_
  refine ev_step (st_iload_n (pc := 5) (j := 1) dX7_withLetter_5 rfl rfl) ?_
  refine ev_step (st_bipush (pc := 6) dX7_withLetter_6 nb_97) ?_
  refine ev_step (st_isub (pc := 8) dX7_withLetter_8) ?_
  refine ev_step (st_iconst (pc := 9) dX7_withLetter_9 ni_1) ?_
  refine ev_step (st_iadd (pc := 10) dX7_withLetter_10) ?_
  refine ev_step (st_i2l (pc := 11) dX7_withLetter_11) ?_
  refine ev_step (st_ladd (pc := 12) dX7_withLetter_12) ?_
  exact ev_lret (pc := 13) dX7_withLetter_13
set_option maxRecDepth 100000 in
set_option maxHeartbeats 4000000 in
theorem tX7_rewind (G : gx) (fu : Nat) (v0 : Nat) (h : mh) : Ct lV G yX7_rewind cX7_rewind 1 (none) 1 [.ref (gB G + v0)] h (fX7_rewind fu v0 h) := by
  refine ct_ls (ls := [(0, .ref (gB G + v0))]) rfl (by decide) (Nat.le_of_ble_eq_true rfl) ?_
  unfold fX7_rewind
  refine ev_step (st_aload_n (pc := 0) (j := 0) dX7_rewind_0 rfl rfl) ?_
  refine ev_step (st_iconst (pc := 1) dX7_rewind_1 ni_0) ?_
  refine ev_putI (pc := 2) (p_X7_19 _ rfl) rfl dX7_rewind_2 (fun h1 => ?_)
  exact ev_vret (pc := 5) dX7_rewind_5
set_option maxRecDepth 100000 in
set_option maxHeartbeats 4000000 in
theorem tX7_sortOfName_2 (G : gx) (fu : Nat) (h0 : mh) (v0 : Nat) (n : Nat) (v1 : Int32) (h : mh) : Ev lI G yX7_sortOfName cX7_sortOfName 2 (some .int) 1 h0 2 [(0, .ref (gB G + v0)), (1, .int v1)] [] h (itr (bX7_sortOfName_2 fu v0) n (v1, h)) := by
  refine ev_itr (P := fun (q : Int32 × mh) (R9 : Option (Int32 × mh)) => Ev lI G yX7_sortOfName cX7_sortOfName 2 (some .int) 1 h0 2 [(0, .ref (gB G + v0)), (1, .int q.1)] [] q.2 R9) (fun _ => ev_none) (fun k2 hk9 q => ?_) n (v1, h)
  obtain ⟨v1, h⟩ := q
  have hk2 : ∀ (v1 : Int32) (h : mh), Ev lI G yX7_sortOfName cX7_sortOfName 2 (some .int) 1 h0 2 [(0, .ref (gB G + v0)), (1, .int v1)] [] h (k2 (v1, h)) := fun v1 h => hk9 (v1, h)
  show Ev lI G yX7_sortOfName cX7_sortOfName 2 (some .int) 1 h0 2 [(0, .ref (gB G + v0)), (1, .int v1)] [] h (bX7_sortOfName_2 fu v0 k2 (v1, h))
  unfold bX7_sortOfName_2
  refine ev_step (st_iload_n (pc := 2) (j := 1) dX7_sortOfName_2 rfl rfl) ?_
  refine ev_step (st_bipush (pc := 3) dX7_sortOfName_3 nb_22) ?_
  refine ev_br (br_icmp_ge (tgt := 30) (pc := 5) dX7_sortOfName_5 (by decide)) (fun _ => ?_) (fun _ => ?_)
  · refine ev_step (st_bipush (pc := 30) dX7_sortOfName_30 nb_22) ?_
    exact ev_iret (pc := 32) dX7_sortOfName_32
  · refine ev_step (st_aload_n (pc := 8) (j := 0) dX7_sortOfName_8 rfl rfl) ?_
    refine ev_getR (pc := 9) k_X7_15 rfl dX7_sortOfName_9 (fun a1 => ?_)
    refine ev_step (st_iload_n (pc := 12) (j := 1) dX7_sortOfName_12 rfl rfl) ?_
    refine ev_ldj (pc := 13) dX7_sortOfName_13 (fun x2 => ?_)
    refine ev_step (st_aload_n (pc := 14) (j := 0) dX7_sortOfName_14 rfl rfl) ?_
    refine ev_getL (pc := 15) k_X7_32 rfl dX7_sortOfName_15 (fun x3 => ?_)
    refine ev_step (st_lcmp (pc := 18) dX7_sortOfName_18) ?_
    refine ev_br (br_if_ne (tgt := 24) (pc := 19) dX7_sortOfName_19 (by decide)) (fun _ => ?_) (fun _ => ?_)
    · refine ev_step (st_iload_n (pc := 22) (j := 1) dX7_sortOfName_22 rfl rfl) ?_
      exact ev_iret (pc := 23) dX7_sortOfName_23
    · refine ev_step (st_inc (pc := 24) (j := 1) (ls' := [(1, .int (v1 + (1 : Int32))), (0, .ref (gB G + v0))]) dX7_sortOfName_24 rfl ni_1 (by decide) rfl) ?_
      refine ev_step (st_goto (pc := 27) (tgt := 2) dX7_sortOfName_27 (by decide)) ?_
      refine ev_sub (ls' := [(0, .ref (gB G + v0)), (1, .int (v1 + (1 : Int32)))]) [1, 0] rfl ?_
      exact hk2 (v1 + (1 : Int32)) h
set_option maxRecDepth 100000 in
set_option maxHeartbeats 4000000 in
theorem tX7_sortOfName (G : gx) (fu : Nat) (v0 : Nat) (h : mh) : Ct lI G yX7_sortOfName cX7_sortOfName 2 (some .int) 1 [.ref (gB G + v0)] h (fX7_sortOfName fu v0 h) := by
  refine ct_ls (ls := [(0, .ref (gB G + v0))]) rfl (by decide) (Nat.le_of_ble_eq_true rfl) ?_
  unfold fX7_sortOfName
  refine ev_step (st_iconst (pc := 0) dX7_sortOfName_0 ni_0) ?_
  refine ev_step (st_istore_n (pc := 1) (ls' := [(1, .int ((0 : Int32))), (0, .ref (gB G + v0))]) dX7_sortOfName_1 rfl (by decide) rfl) ?_
  refine ev_sub (ls' := [(0, .ref (gB G + v0)), (1, .int ((0 : Int32)))]) [1, 0] rfl ?_
  exact tX7_sortOfName_2 G fu h v0 fu ((0 : Int32)) h
set_option maxRecDepth 100000 in
set_option maxHeartbeats 4000000 in
theorem tX7_isBlank (G : gx) (fu : Nat) (v0 : Int32) (h : mh) : Ct lI G yX7_isBlank cX7_isBlank 1 (some .boolean) 1 [.int v0] h (fX7_isBlank fu v0 h) := by
  refine ct_ls (ls := [(0, .int v0)]) rfl (by decide) (Nat.le_of_ble_eq_true rfl) ?_
  unfold fX7_isBlank
  refine ev_step (st_iload_n (pc := 0) (j := 0) dX7_isBlank_0 rfl rfl) ?_
  refine ev_step (st_bipush (pc := 1) dX7_isBlank_1 nb_9) ?_
  refine ev_br (br_icmp_eq (tgt := 24) (pc := 3) dX7_isBlank_3 (by decide)) (fun _ => ?_) (fun _ => ?_)
  · refine ev_step (st_iconst (pc := 24) dX7_isBlank_24 ni_1) ?_
    refine ev_step (st_goto (pc := 25) (tgt := 29) dX7_isBlank_25 (by decide)) ?_
    exact ev_zret (pc := 29) dX7_isBlank_29
  · refine ev_step (st_iload_n (pc := 6) (j := 0) dX7_isBlank_6 rfl rfl) ?_
    refine ev_step (st_bipush (pc := 7) dX7_isBlank_7 nb_10) ?_
    refine ev_br (br_icmp_eq (tgt := 24) (pc := 9) dX7_isBlank_9 (by decide)) (fun _ => ?_) (fun _ => ?_)
    · refine ev_step (st_iconst (pc := 24) dX7_isBlank_24 ni_1) ?_
      refine ev_step (st_goto (pc := 25) (tgt := 29) dX7_isBlank_25 (by decide)) ?_
      exact ev_zret (pc := 29) dX7_isBlank_29
    · refine ev_step (st_iload_n (pc := 12) (j := 0) dX7_isBlank_12 rfl rfl) ?_
      refine ev_step (st_bipush (pc := 13) dX7_isBlank_13 nb_13) ?_
      refine ev_br (br_icmp_eq (tgt := 24) (pc := 15) dX7_isBlank_15 (by decide)) (fun _ => ?_) (fun _ => ?_)
      · refine ev_step (st_iconst (pc := 24) dX7_isBlank_24 ni_1) ?_
        refine ev_step (st_goto (pc := 25) (tgt := 29) dX7_isBlank_25 (by decide)) ?_
        exact ev_zret (pc := 29) dX7_isBlank_29
      · refine ev_step (st_iload_n (pc := 18) (j := 0) dX7_isBlank_18 rfl rfl) ?_
        refine ev_step (st_bipush (pc := 19) dX7_isBlank_19 nb_32) ?_
        refine ev_br (br_icmp_ne (tgt := 28) (pc := 21) dX7_isBlank_21 (by decide)) (fun _ => ?_) (fun _ => ?_)
        · refine ev_step (st_iconst (pc := 24) dX7_isBlank_24 ni_1) ?_
          refine ev_step (st_goto (pc := 25) (tgt := 29) dX7_isBlank_25 (by decide)) ?_
          exact ev_zret (pc := 29) dX7_isBlank_29
        · refine ev_step (st_iconst (pc := 28) dX7_isBlank_28 ni_0) ?_
          exact ev_zret (pc := 29) dX7_isBlank_29
set_option maxRecDepth 100000 in
set_option maxHeartbeats 4000000 in
theorem tX7_isLetter (G : gx) (fu : Nat) (v0 : Int32) (h : mh) : Ct lI G yX7_isLetter cX7_isLetter 1 (some .boolean) 1 [.int v0] h (fX7_isLetter fu v0 h) := by
  refine ct_ls (ls := [(0, .int v0)]) rfl (by decide) (Nat.le_of_ble_eq_true rfl) ?_
  unfold fX7_isLetter
  refine ev_step (st_iload_n (pc := 0) (j := 0) dX7_isLetter_0 rfl rfl) ?_
  refine ev_step (st_bipush (pc := 1) dX7_isLetter_1 nb_97) ?_
  refine ev_br (br_icmp_lt (tgt := 16) (pc := 3) dX7_isLetter_3 (by decide)) (fun _ => ?_) (fun _ => ?_)
  · refine ev_step (st_iconst (pc := 16) dX7_isLetter_16 ni_0) ?_
    exact ev_zret (pc := 17) dX7_isLetter_17
  · refine ev_step (st_iload_n (pc := 6) (j := 0) dX7_isLetter_6 rfl rfl) ?_
    refine ev_step (st_bipush (pc := 7) dX7_isLetter_7 nb_122) ?_
    refine ev_br (br_icmp_gt (tgt := 16) (pc := 9) dX7_isLetter_9 (by decide)) (fun _ => ?_) (fun _ => ?_)
    · refine ev_step (st_iconst (pc := 16) dX7_isLetter_16 ni_0) ?_
      exact ev_zret (pc := 17) dX7_isLetter_17
    · refine ev_step (st_iconst (pc := 12) dX7_isLetter_12 ni_1) ?_
      refine ev_step (st_goto (pc := 13) (tgt := 17) dX7_isLetter_13 (by decide)) ?_
      exact ev_zret (pc := 17) dX7_isLetter_17
