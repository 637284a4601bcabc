theorem dX7_isDigit_0 : decode cX7_isDigit 0 = .ok (.iload_n 0, 1) := by decide +kernel
theorem dX7_isDigit_1 : decode cX7_isDigit 1 = .ok (.bipush 48, 2) := by decide +kernel
theorem dX7_isDigit_3 : decode cX7_isDigit 3 = .ok (.if_icmp .lt 13, 3) := by decide +kernel
theorem dX7_isDigit_6 : decode cX7_isDigit 6 = .ok (.iload_n 0, 1) := by decide +kernel
theorem dX7_isDigit_7 : decode cX7_isDigit 7 = .ok (.bipush 57, 2) := by decide +kernel
theorem dX7_isDigit_9 : decode cX7_isDigit 9 = .ok (.if_icmp .gt 7, 3) := by decide +kernel
theorem dX7_isDigit_12 : decode cX7_isDigit 12 = .ok (.iconst 1, 1) := by decide +kernel
theorem dX7_isDigit_13 : decode cX7_isDigit 13 = .ok (.goto 4, 3) := by decide +kernel
theorem dX7_isDigit_16 : decode cX7_isDigit 16 = .ok (.iconst 0, 1) := by decide +kernel
theorem dX7_isDigit_17 : decode cX7_isDigit 17 = .ok (.ireturn, 1) := by decide +kernel
theorem dX8_init_0 : decode cX8_init 0 = .ok (.aload_n 0, 1) := by decide +kernel
theorem dX8_init_1 : decode cX8_init 1 = .ok (.invokespecial 3, 3) := by decide +kernel
theorem dX8_init_4 : decode cX8_init 4 = .ok (.aload_n 0, 1) := by decide +kernel
theorem dX8_init_5 : decode cX8_init 5 = .ok (.bipush 20, 2) := by decide +kernel
theorem dX8_init_7 : decode cX8_init 7 = .ok (.newarray .boolean, 2) := by decide +kernel
theorem dX8_init_9 : decode cX8_init 9 = .ok (.putfield 9, 3) := by decide +kernel
theorem dX8_init_12 : decode cX8_init 12 = .ok (.aload_n 0, 1) := by decide +kernel
theorem dX8_init_13 : decode cX8_init 13 = .ok (.bipush 20, 2) := by decide +kernel
theorem dX8_init_15 : decode cX8_init 15 = .ok (.newarray .int, 2) := by decide +kernel
theorem dX8_init_17 : decode cX8_init 17 = .ok (.putfield 15, 3) := by decide +kernel
theorem dX8_init_20 : decode cX8_init 20 = .ok (.aload_n 0, 1) := by decide +kernel
theorem dX8_init_21 : decode cX8_init 21 = .ok (.bipush 20, 2) := by decide +kernel
theorem dX8_init_23 : decode cX8_init 23 = .ok (.newarray .boolean, 2) := by decide +kernel
theorem dX8_init_25 : decode cX8_init 25 = .ok (.putfield 19, 3) := by decide +kernel
theorem dX8_init_28 : decode cX8_init 28 = .ok (.aload_n 0, 1) := by decide +kernel
theorem dX8_init_29 : decode cX8_init 29 = .ok (.iconst 0, 1) := by decide +kernel
theorem dX8_init_30 : decode cX8_init 30 = .ok (.putfield 22, 3) := by decide +kernel
theorem dX8_init_33 : decode cX8_init 33 = .ok (.return_, 1) := by decide +kernel
theorem dX8_add_0 : decode cX8_add 0 = .ok (.aload_n 0, 1) := by decide +kernel
theorem dX8_add_1 : decode cX8_add 1 = .ok (.getfield 22, 3) := by decide +kernel
theorem dX8_add_4 : decode cX8_add 4 = .ok (.bipush 20, 2) := by decide +kernel
theorem dX8_add_6 : decode cX8_add 6 = .ok (.if_icmp .lt 5, 3) := by decide +kernel
theorem dX8_add_9 : decode cX8_add 9 = .ok (.iconst (-1), 1) := by decide +kernel
theorem dX8_add_10 : decode cX8_add 10 = .ok (.ireturn, 1) := by decide +kernel
theorem dX8_add_11 : decode cX8_add 11 = .ok (.aload_n 0, 1) := by decide +kernel
theorem dX8_add_12 : decode cX8_add 12 = .ok (.getfield 9, 3) := by decide +kernel
theorem dX8_add_15 : decode cX8_add 15 = .ok (.aload_n 0, 1) := by decide +kernel
theorem dX8_add_16 : decode cX8_add 16 = .ok (.getfield 22, 3) := by decide +kernel
theorem dX8_add_19 : decode cX8_add 19 = .ok (.iload_n 1, 1) := by decide +kernel
theorem dX8_add_20 : decode cX8_add 20 = .ok (.bastore, 1) := by decide +kernel
theorem dX8_add_21 : decode cX8_add 21 = .ok (.aload_n 0, 1) := by decide +kernel
theorem dX8_add_22 : decode cX8_add 22 = .ok (.getfield 15, 3) := by decide +kernel
theorem dX8_add_25 : decode cX8_add 25 = .ok (.aload_n 0, 1) := by decide +kernel
theorem dX8_add_26 : decode cX8_add 26 = .ok (.getfield 22, 3) := by decide +kernel
theorem dX8_add_29 : decode cX8_add 29 = .ok (.iload_n 2, 1) := by decide +kernel
theorem dX8_add_30 : decode cX8_add 30 = .ok (.iastore, 1) := by decide +kernel
theorem dX8_add_31 : decode cX8_add 31 = .ok (.aload_n 0, 1) := by decide +kernel
theorem dX8_add_32 : decode cX8_add 32 = .ok (.getfield 19, 3) := by decide +kernel
theorem dX8_add_35 : decode cX8_add 35 = .ok (.aload_n 0, 1) := by decide +kernel
theorem dX8_add_36 : decode cX8_add 36 = .ok (.getfield 22, 3) := by decide +kernel
theorem dX8_add_39 : decode cX8_add 39 = .ok (.iload_n 3, 1) := by decide +kernel
theorem dX8_add_40 : decode cX8_add 40 = .ok (.bastore, 1) := by decide +kernel
theorem dX8_add_41 : decode cX8_add 41 = .ok (.aload_n 0, 1) := by decide +kernel
theorem dX8_add_42 : decode cX8_add 42 = .ok (.dup, 1) := by decide +kernel
theorem dX8_add_43 : decode cX8_add 43 = .ok (.getfield 22, 3) := by decide +kernel
theorem dX8_add_46 : decode cX8_add 46 = .ok (.iconst 1, 1) := by decide +kernel
theorem dX8_add_47 : decode cX8_add 47 = .ok (.iadd, 1) := by decide +kernel
theorem dX8_add_48 : decode cX8_add 48 = .ok (.putfield 22, 3) := by decide +kernel
theorem dX8_add_51 : decode cX8_add 51 = .ok (.aload_n 0, 1) := by decide +kernel
theorem dX8_add_52 : decode cX8_add 52 = .ok (.getfield 22, 3) := by decide +kernel
theorem dX8_add_55 : decode cX8_add 55 = .ok (.iconst 1, 1) := by decide +kernel
theorem dX8_add_56 : decode cX8_add 56 = .ok (.isub, 1) := by decide +kernel
theorem dX8_add_57 : decode cX8_add 57 = .ok (.ireturn, 1) := by decide +kernel
theorem dX9_putOnTape_0 : decode cX9_putOnTape 0 = .ok (.bipush 24, 2) := by decide +kernel
theorem dX9_putOnTape_2 : decode cX9_putOnTape 2 = .ok (.istore_n 2, 1) := by decide +kernel
theorem dX9_putOnTape_3 : decode cX9_putOnTape 3 = .ok (.iload_n 2, 1) := by decide +kernel
theorem dX9_putOnTape_4 : decode cX9_putOnTape 4 = .ok (.ifCond .lt 42, 3) := by decide +kernel
theorem dX9_putOnTape_7 : decode cX9_putOnTape 7 = .ok (.aload_n 0, 1) := by decide +kernel
theorem dX9_putOnTape_8 : decode cX9_putOnTape 8 = .ok (.getfield 13, 3) := by decide +kernel
theorem dX9_putOnTape_11 : decode cX9_putOnTape 11 = .ok (.sipush 2000, 3) := by decide +kernel
theorem dX9_putOnTape_14 : decode cX9_putOnTape 14 = .ok (.if_icmp .ge 32, 3) := by decide +kernel
theorem dX9_putOnTape_17 : decode cX9_putOnTape 17 = .ok (.aload_n 0, 1) := by decide +kernel
theorem dX9_putOnTape_18 : decode cX9_putOnTape 18 = .ok (.getfield 9, 3) := by decide +kernel
theorem dX9_putOnTape_21 : decode cX9_putOnTape 21 = .ok (.aload_n 0, 1) := by decide +kernel
theorem dX9_putOnTape_22 : decode cX9_putOnTape 22 = .ok (.getfield 13, 3) := by decide +kernel
theorem dX9_putOnTape_25 : decode cX9_putOnTape 25 = .ok (.iload_n 1, 1) := by decide +kernel
theorem dX9_putOnTape_26 : decode cX9_putOnTape 26 = .ok (.iload_n 2, 1) := by decide +kernel
theorem dX9_putOnTape_27 : decode cX9_putOnTape 27 = .ok (.iushr, 1) := by decide +kernel
theorem dX9_putOnTape_28 : decode cX9_putOnTape 28 = .ok (.i2b, 1) := by decide +kernel
theorem dX9_putOnTape_29 : decode cX9_putOnTape 29 = .ok (.bastore, 1) := by decide +kernel
theorem dX9_putOnTape_30 : decode cX9_putOnTape 30 = .ok (.aload_n 0, 1) := by decide +kernel
theorem dX9_putOnTape_31 : decode cX9_putOnTape 31 = .ok (.dup, 1) := by decide +kernel
theorem dX9_putOnTape_32 : decode cX9_putOnTape 32 = .ok (.getfield 13, 3) := by decide +kernel
theorem dX9_putOnTape_35 : decode cX9_putOnTape 35 = .ok (.iconst 1, 1) := by decide +kernel
theorem dX9_putOnTape_36 : decode cX9_putOnTape 36 = .ok (.iadd, 1) := by decide +kernel
theorem dX9_putOnTape_37 : decode cX9_putOnTape 37 = .ok (.putfield 13, 3) := by decide +kernel
theorem dX9_putOnTape_40 : decode cX9_putOnTape 40 = .ok (.iinc 2 (-8), 3) := by decide +kernel
theorem dX9_putOnTape_43 : decode cX9_putOnTape 43 = .ok (.goto (-40), 3) := by decide +kernel
theorem dX9_putOnTape_46 : decode cX9_putOnTape 46 = .ok (.return_, 1) := by decide +kernel
theorem dX9_back_0 : decode cX9_back 0 = .ok (.iload_n 1, 1) := by decide +kernel
theorem dX9_back_1 : decode cX9_back 1 = .ok (.ifCond .lt 11, 3) := by decide +kernel
theorem dX9_back_4 : decode cX9_back 4 = .ok (.iload_n 1, 1) := by decide +kernel
theorem dX9_back_5 : decode cX9_back 5 = .ok (.aload_n 0, 1) := by decide +kernel
theorem dX9_back_6 : decode cX9_back 6 = .ok (.getfield 13, 3) := by decide +kernel
theorem dX9_back_9 : decode cX9_back 9 = .ok (.if_icmp .le 5, 3) := by decide +kernel
theorem dX9_back_12 : decode cX9_back 12 = .ok (.iconst (-1), 1) := by decide +kernel
theorem dX9_back_13 : decode cX9_back 13 = .ok (.ireturn, 1) := by decide +kernel
theorem dX9_back_14 : decode cX9_back 14 = .ok (.aload_n 0, 1) := by decide +kernel
theorem dX9_back_15 : decode cX9_back 15 = .ok (.dup, 1) := by decide +kernel
theorem dX9_back_16 : decode cX9_back 16 = .ok (.getfield 13, 3) := by decide +kernel
theorem dX9_back_19 : decode cX9_back 19 = .ok (.iload_n 1, 1) := by decide +kernel
theorem dX9_back_20 : decode cX9_back 20 = .ok (.isub, 1) := by decide +kernel
theorem dX9_back_21 : decode cX9_back 21 = .ok (.putfield 13, 3) := by decide +kernel
theorem dX9_back_24 : decode cX9_back 24 = .ok (.aload_n 0, 1) := by decide +kernel
theorem dX9_back_25 : decode cX9_back 25 = .ok (.getfield 13, 3) := by decide +kernel
theorem dX9_back_28 : decode cX9_back 28 = .ok (.ireturn, 1) := by decide +kernel
theorem dX9_place_0 : decode cX9_place 0 = .ok (.aload_n 0, 1) := by decide +kernel
theorem dX9_place_1 : decode cX9_place 1 = .ok (.getfield 17, 3) := by decide +kernel
theorem dX9_place_4 : decode cX9_place 4 = .ok (.ireturn, 1) := by decide +kernel
theorem dX9_missing_0 : decode cX9_missing 0 = .ok (.aload_n 0, 1) := by decide +kernel
theorem dX9_missing_1 : decode cX9_missing 1 = .ok (.getfield 30, 3) := by decide +kernel
theorem dX9_missing_4 : decode cX9_missing 4 = .ok (.iload_n 1, 1) := by decide +kernel
theorem dX9_missing_5 : decode cX9_missing 5 = .ok (.invokevirtual 112, 3) := by decide +kernel
theorem dX9_missing_8 : decode cX9_missing 8 = .ok (.ifCond .eq 18, 3) := by decide +kernel
theorem dX9_missing_11 : decode cX9_missing 11 = .ok (.aload_n 0, 1) := by decide +kernel
theorem dX9_missing_12 : decode cX9_missing 12 = .ok (.getfield 30, 3) := by decide +kernel
theorem dX9_missing_15 : decode cX9_missing 15 = .ok (.aload_n 0, 1) := by decide +kernel
theorem dX9_missing_16 : decode cX9_missing 16 = .ok (.getfield 40, 3) := by decide +kernel
theorem dX9_missing_19 : decode cX9_missing 19 = .ok (.iload_n 1, 1) := by decide +kernel
theorem dX9_missing_20 : decode cX9_missing 20 = .ok (.invokevirtual 274, 3) := by decide +kernel
theorem dX9_missing_23 : decode cX9_missing 23 = .ok (.goto 4, 3) := by decide +kernel
theorem dX9_missing_26 : decode cX9_missing 26 = .ok (.iconst (-1), 1) := by decide +kernel
theorem dX9_missing_27 : decode cX9_missing 27 = .ok (.ireturn, 1) := by decide +kernel
theorem dX9_never_0 : decode cX9_never 0 = .ok (.aload_n 0, 1) := by decide +kernel
theorem dX9_never_1 : decode cX9_never 1 = .ok (.getfield 30, 3) := by decide +kernel
theorem dX9_never_4 : decode cX9_never 4 = .ok (.iload_n 1, 1) := by decide +kernel
theorem dX9_never_5 : decode cX9_never 5 = .ok (.invokevirtual 112, 3) := by decide +kernel
theorem dX9_never_8 : decode cX9_never 8 = .ok (.ifCond .ne 5, 3) := by decide +kernel
theorem dX9_never_11 : decode cX9_never 11 = .ok (.iconst (-1), 1) := by decide +kernel
theorem dX9_never_12 : decode cX9_never 12 = .ok (.ireturn, 1) := by decide +kernel
theorem dX9_never_13 : decode cX9_never 13 = .ok (.aload_n 0, 1) := by decide +kernel
theorem dX9_never_14 : decode cX9_never 14 = .ok (.getfield 30, 3) := by decide +kernel
theorem dX9_never_17 : decode cX9_never 17 = .ok (.aload_n 0, 1) := by decide +kernel
theorem dX9_never_18 : decode cX9_never 18 = .ok (.getfield 40, 3) := by decide +kernel
theorem dX9_never_21 : decode cX9_never 21 = .ok (.iload_n 1, 1) := by decide +kernel
theorem dX9_never_22 : decode cX9_never 22 = .ok (.invokevirtual 274, 3) := by decide +kernel
theorem dX9_never_25 : decode cX9_never 25 = .ok (.aload_n 0, 1) := by decide +kernel
theorem dX9_never_26 : decode cX9_never 26 = .ok (.getfield 30, 3) := by decide +kernel
theorem dX9_never_29 : decode cX9_never 29 = .ok (.invokevirtual 280, 3) := by decide +kernel
theorem dX9_never_32 : decode cX9_never 32 = .ok (.iconst (-1), 1) := by decide +kernel
theorem dX9_never_33 : decode cX9_never 33 = .ok (.ixor, 1) := by decide +kernel
theorem dX9_never_34 : decode cX9_never 34 = .ok (.iand, 1) := by decide +kernel
theorem dX9_never_35 : decode cX9_never 35 = .ok (.ireturn, 1) := by decide +kernel
theorem dX9_unlike_0 : decode cX9_unlike 0 = .ok (.aload_n 0, 1) := by decide +kernel
theorem dX9_unlike_1 : decode cX9_unlike 1 = .ok (.getfield 30, 3) := by decide +kernel
theorem dX9_unlike_4 : decode cX9_unlike 4 = .ok (.iload_n 1, 1) := by decide +kernel
theorem dX9_unlike_5 : decode cX9_unlike 5 = .ok (.invokevirtual 87, 3) := by decide +kernel
theorem dX9_unlike_8 : decode cX9_unlike 8 = .ok (.ifCond .eq 19, 3) := by decide +kernel
theorem dX9_unlike_11 : decode cX9_unlike 11 = .ok (.aload_n 0, 1) := by decide +kernel
theorem dX9_unlike_12 : decode cX9_unlike 12 = .ok (.getfield 30, 3) := by decide +kernel
theorem dX9_unlike_15 : decode cX9_unlike 15 = .ok (.iload_n 2, 1) := by decide +kernel
theorem dX9_unlike_16 : decode cX9_unlike 16 = .ok (.invokevirtual 87, 3) := by decide +kernel
theorem dX9_unlike_19 : decode cX9_unlike 19 = .ok (.ifCond .eq 8, 3) := by decide +kernel
theorem dX9_unlike_22 : decode cX9_unlike 22 = .ok (.iload_n 1, 1) := by decide +kernel
theorem dX9_unlike_23 : decode cX9_unlike 23 = .ok (.iload_n 2, 1) := by decide +kernel
theorem dX9_unlike_24 : decode cX9_unlike 24 = .ok (.if_icmp .ne 5, 3) := by decide +kernel
theorem dX9_unlike_27 : decode cX9_unlike 27 = .ok (.iconst (-1), 1) := by decide +kernel
theorem dX9_unlike_28 : decode cX9_unlike 28 = .ok (.ireturn, 1) := by decide +kernel
theorem dX9_unlike_29 : decode cX9_unlike 29 = .ok (.aload_n 0, 1) := by decide +kernel
theorem dX9_unlike_30 : decode cX9_unlike 30 = .ok (.getfield 30, 3) := by decide +kernel
theorem dX9_unlike_33 : decode cX9_unlike 33 = .ok (.getfield 91, 3) := by decide +kernel
theorem dX9_unlike_36 : decode cX9_unlike 36 = .ok (.iload_n 1, 1) := by decide +kernel
theorem dX9_unlike_37 : decode cX9_unlike 37 = .ok (.iaload, 1) := by decide +kernel
theorem dX9_unlike_38 : decode cX9_unlike 38 = .ok (.aload_n 0, 1) := by decide +kernel
theorem dX9_unlike_39 : decode cX9_unlike 39 = .ok (.getfield 30, 3) := by decide +kernel
theorem dX9_unlike_42 : decode cX9_unlike 42 = .ok (.getfield 91, 3) := by decide +kernel
theorem dX9_unlike_45 : decode cX9_unlike 45 = .ok (.iload_n 2, 1) := by decide +kernel
theorem dX9_unlike_46 : decode cX9_unlike 46 = .ok (.iaload, 1) := by decide +kernel
theorem dX9_unlike_47 : decode cX9_unlike 47 = .ok (.ixor, 1) := by decide +kernel
theorem dX9_unlike_48 : decode cX9_unlike 48 = .ok (.ireturn, 1) := by decide +kernel
theorem dX9_tellDone_0 : decode cX9_tellDone 0 = .ok (.aload_n 0, 1) := by decide +kernel
theorem dX9_tellDone_1 : decode cX9_tellDone 1 = .ok (.getfield 30, 3) := by decide +kernel
theorem dX9_tellDone_4 : decode cX9_tellDone 4 = .ok (.iload_n 1, 1) := by decide +kernel
theorem dX9_tellDone_5 : decode cX9_tellDone 5 = .ok (.invokevirtual 112, 3) := by decide +kernel
theorem dX9_tellDone_8 : decode cX9_tellDone 8 = .ok (.ifCond .eq 16, 3) := by decide +kernel
theorem dX9_tellDone_11 : decode cX9_tellDone 11 = .ok (.aload_n 0, 1) := by decide +kernel
theorem dX9_tellDone_12 : decode cX9_tellDone 12 = .ok (.getfield 64, 3) := by decide +kernel
theorem dX9_tellDone_15 : decode cX9_tellDone 15 = .ok (.iconst 1, 1) := by decide +kernel
theorem dX9_tellDone_16 : decode cX9_tellDone 16 = .ok (.iload_n 1, 1) := by decide +kernel
theorem dX9_tellDone_17 : decode cX9_tellDone 17 = .ok (.iload_n 2, 1) := by decide +kernel
theorem dX9_tellDone_18 : decode cX9_tellDone 18 = .ok (.invokevirtual 292, 3) := by decide +kernel
theorem dX9_tellDone_21 : decode cX9_tellDone 21 = .ok (.goto 4, 3) := by decide +kernel
theorem dX9_tellDone_24 : decode cX9_tellDone 24 = .ok (.iconst (-1), 1) := by decide +kernel
theorem dX9_tellDone_25 : decode cX9_tellDone 25 = .ok (.ireturn, 1) := by decide +kernel
theorem dX9_forget_0 : decode cX9_forget 0 = .ok (.aload_n 0, 1) := by decide +kernel
theorem dX9_forget_1 : decode cX9_forget 1 = .ok (.getfield 64, 3) := by decide +kernel
theorem dX9_forget_4 : decode cX9_forget 4 = .ok (.getfield 84, 3) := by decide +kernel
theorem dX9_forget_7 : decode cX9_forget 7 = .ok (.istore_n 1, 1) := by decide +kernel
theorem dX9_forget_8 : decode cX9_forget 8 = .ok (.aload_n 0, 1) := by decide +kernel
theorem dX9_forget_9 : decode cX9_forget 9 = .ok (.getfield 64, 3) := by decide +kernel
theorem dX9_forget_12 : decode cX9_forget 12 = .ok (.iconst 0, 1) := by decide +kernel
theorem dX9_forget_13 : decode cX9_forget 13 = .ok (.putfield 84, 3) := by decide +kernel
theorem dX9_forget_16 : decode cX9_forget 16 = .ok (.iload_n 1, 1) := by decide +kernel
theorem dX9_forget_17 : decode cX9_forget 17 = .ok (.ireturn, 1) := by decide +kernel
theorem dX9_isFact_0 : decode cX9_isFact 0 = .ok (.iload_n 0, 1) := by decide +kernel
theorem dX9_isFact_1 : decode cX9_isFact 1 = .ok (.ifCond .lt 13, 3) := by decide +kernel
theorem dX9_isFact_4 : decode cX9_isFact 4 = .ok (.iload_n 0, 1) := by decide +kernel
theorem dX9_isFact_5 : decode cX9_isFact 5 = .ok (.bipush 8, 2) := by decide +kernel
theorem dX9_isFact_7 : decode cX9_isFact 7 = .ok (.if_icmp .ge 7, 3) := by decide +kernel
theorem dX9_isFact_10 : decode cX9_isFact 10 = .ok (.iconst 1, 1) := by decide +kernel
theorem dX9_isFact_11 : decode cX9_isFact 11 = .ok (.goto 4, 3) := by decide +kernel
theorem dX9_isFact_14 : decode cX9_isFact 14 = .ok (.iconst 0, 1) := by decide +kernel
theorem dX9_isFact_15 : decode cX9_isFact 15 = .ok (.ireturn, 1) := by decide +kernel
theorem dX9_isNumberOfEvenings_0 : decode cX9_isNumberOfEvenings 0 = .ok (.iload_n 0, 1) := by decide +kernel
theorem dX9_isNumberOfEvenings_1 : decode cX9_isNumberOfEvenings 1 = .ok (.ifCond .lt 13, 3) := by decide +kernel
theorem dX9_isNumberOfEvenings_4 : decode cX9_isNumberOfEvenings 4 = .ok (.iload_n 0, 1) := by decide +kernel
theorem dX9_isNumberOfEvenings_5 : decode cX9_isNumberOfEvenings 5 = .ok (.bipush 30, 2) := by decide +kernel
theorem dX9_isNumberOfEvenings_7 : decode cX9_isNumberOfEvenings 7 = .ok (.if_icmp .gt 7, 3) := by decide +kernel
theorem dX9_isNumberOfEvenings_10 : decode cX9_isNumberOfEvenings 10 = .ok (.iconst 1, 1) := by decide +kernel
theorem dX9_isNumberOfEvenings_11 : decode cX9_isNumberOfEvenings 11 = .ok (.goto 4, 3) := by decide +kernel
theorem dX9_isNumberOfEvenings_14 : decode cX9_isNumberOfEvenings 14 = .ok (.iconst 0, 1) := by decide +kernel
theorem dX9_isNumberOfEvenings_15 : decode cX9_isNumberOfEvenings 15 = .ok (.ireturn, 1) := by decide +kernel
theorem dX9_holds_0 : decode cX9_holds 0 = .ok (.iload_n 0, 1) := by decide +kernel
theorem dX9_holds_1 : decode cX9_holds 1 = .ok (.iload_n 1, 1) := by decide +kernel
theorem dX9_holds_2 : decode cX9_holds 2 = .ok (.iushr, 1) := by decide +kernel
theorem dX9_holds_3 : decode cX9_holds 3 = .ok (.iconst 1, 1) := by decide +kernel
theorem dX9_holds_4 : decode cX9_holds 4 = .ok (.iand, 1) := by decide +kernel
theorem dX9_holds_5 : decode cX9_holds 5 = .ok (.ifCond .eq 7, 3) := by decide +kernel
theorem dX9_holds_8 : decode cX9_holds 8 = .ok (.iconst 1, 1) := by decide +kernel
theorem dX9_holds_9 : decode cX9_holds 9 = .ok (.goto 4, 3) := by decide +kernel
theorem dX9_holds_12 : decode cX9_holds 12 = .ok (.iconst 0, 1) := by decide +kernel
theorem dX9_holds_13 : decode cX9_holds 13 = .ok (.ireturn, 1) := by decide +kernel
theorem dX9_within_0 : decode cX9_within 0 = .ok (.iload_n 1, 1) := by decide +kernel
theorem dX9_within_1 : decode cX9_within 1 = .ok (.iload_n 2, 1) := by decide +kernel
theorem dX9_within_2 : decode cX9_within 2 = .ok (.iload_n 0, 1) := by decide +kernel
theorem dX9_within_3 : decode cX9_within 3 = .ok (.invokestatic 311, 3) := by decide +kernel
theorem dX9_within_6 : decode cX9_within 6 = .ok (.invokestatic 306, 3) := by decide +kernel
theorem dX9_within_9 : decode cX9_within 9 = .ok (.ireturn, 1) := by decide +kernel
theorem dX10_put_0 : decode cX10_put 0 = .ok (.bipush 24, 2) := by decide +kernel
theorem dX10_put_2 : decode cX10_put 2 = .ok (.istore_n 2, 1) := by decide +kernel
theorem dX10_put_3 : decode cX10_put 3 = .ok (.iload_n 2, 1) := by decide +kernel
theorem dX10_put_4 : decode cX10_put 4 = .ok (.ifCond .lt 32, 3) := by decide +kernel
theorem dX10_put_7 : decode cX10_put 7 = .ok (.aload_n 0, 1) := by decide +kernel
theorem dX10_put_8 : decode cX10_put 8 = .ok (.getfield 13, 3) := by decide +kernel
theorem dX10_put_11 : decode cX10_put 11 = .ok (.aload_n 0, 1) := by decide +kernel
theorem dX10_put_12 : decode cX10_put 12 = .ok (.getfield 167, 3) := by decide +kernel
theorem dX10_put_15 : decode cX10_put 15 = .ok (.iload_n 1, 1) := by decide +kernel
theorem dX10_put_16 : decode cX10_put 16 = .ok (.iload_n 2, 1) := by decide +kernel
theorem dX10_put_17 : decode cX10_put 17 = .ok (.ishr, 1) := by decide +kernel
theorem dX10_put_18 : decode cX10_put 18 = .ok (.i2b, 1) := by decide +kernel
theorem dX10_put_19 : decode cX10_put 19 = .ok (.bastore, 1) := by decide +kernel
theorem dX10_put_20 : decode cX10_put 20 = .ok (.aload_n 0, 1) := by decide +kernel
theorem dX10_put_21 : decode cX10_put 21 = .ok (.dup, 1) := by decide +kernel
theorem dX10_put_22 : decode cX10_put 22 = .ok (.getfield 167, 3) := by decide +kernel
theorem dX10_put_25 : decode cX10_put 25 = .ok (.iconst 1, 1) := by decide +kernel
theorem dX10_put_26 : decode cX10_put 26 = .ok (.iadd, 1) := by decide +kernel
theorem dX10_put_27 : decode cX10_put 27 = .ok (.putfield 167, 3) := by decide +kernel
theorem dX10_put_30 : decode cX10_put 30 = .ok (.iinc 2 (-8), 3) := by decide +kernel
theorem dX10_put_33 : decode cX10_put 33 = .ok (.goto (-30), 3) := by decide +kernel
theorem dX10_put_36 : decode cX10_put 36 = .ok (.return_, 1) := by decide +kernel
theorem dX10_back_0 : decode cX10_back 0 = .ok (.iload_n 1, 1) := by decide +kernel
theorem dX10_back_1 : decode cX10_back 1 = .ok (.ifCond .lt 11, 3) := by decide +kernel
theorem dX10_back_4 : decode cX10_back 4 = .ok (.iload_n 1, 1) := by decide +kernel
theorem dX10_back_5 : decode cX10_back 5 = .ok (.aload_n 0, 1) := by decide +kernel
theorem dX10_back_6 : decode cX10_back 6 = .ok (.getfield 167, 3) := by decide +kernel
theorem dX10_back_9 : decode cX10_back 9 = .ok (.if_icmp .le 5, 3) := by decide +kernel
theorem dX10_back_12 : decode cX10_back 12 = .ok (.iconst (-1), 1) := by decide +kernel
theorem dX10_back_13 : decode cX10_back 13 = .ok (.ireturn, 1) := by decide +kernel
theorem dX10_back_14 : decode cX10_back 14 = .ok (.aload_n 0, 1) := by decide +kernel
theorem dX10_back_15 : decode cX10_back 15 = .ok (.dup, 1) := by decide +kernel
theorem dX10_back_16 : decode cX10_back 16 = .ok (.getfield 167, 3) := by decide +kernel
theorem dX10_back_19 : decode cX10_back 19 = .ok (.iload_n 1, 1) := by decide +kernel
theorem dX10_back_20 : decode cX10_back 20 = .ok (.isub, 1) := by decide +kernel
theorem dX10_back_21 : decode cX10_back 21 = .ok (.putfield 167, 3) := by decide +kernel
theorem dX10_back_24 : decode cX10_back 24 = .ok (.aload_n 0, 1) := by decide +kernel
theorem dX10_back_25 : decode cX10_back 25 = .ok (.getfield 167, 3) := by decide +kernel
theorem dX10_back_28 : decode cX10_back 28 = .ok (.ireturn, 1) := by decide +kernel
theorem dX10_byteAt_0 : decode cX10_byteAt 0 = .ok (.iload_n 1, 1) := by decide +kernel
theorem dX10_byteAt_1 : decode cX10_byteAt 1 = .ok (.aload_n 0, 1) := by decide +kernel
theorem dX10_byteAt_2 : decode cX10_byteAt 2 = .ok (.getfield 173, 3) := by decide +kernel
theorem dX10_byteAt_5 : decode cX10_byteAt 5 = .ok (.if_icmp .ge 16, 3) := by decide +kernel
theorem dX10_byteAt_8 : decode cX10_byteAt 8 = .ok (.aload_n 0, 1) := by decide +kernel
theorem dX10_byteAt_9 : decode cX10_byteAt 9 = .ok (.getfield 17, 3) := by decide +kernel
theorem dX10_byteAt_12 : decode cX10_byteAt 12 = .ok (.iload_n 1, 1) := by decide +kernel
theorem dX10_byteAt_13 : decode cX10_byteAt 13 = .ok (.baload, 1) := by decide +kernel
theorem dX10_byteAt_14 : decode cX10_byteAt 14 = .ok (.sipush 255, 3) := by decide +kernel
theorem dX10_byteAt_17 : decode cX10_byteAt 17 = .ok (.iand, 1) := by decide +kernel
theorem dX10_byteAt_18 : decode cX10_byteAt 18 = .ok (.goto 4, 3) := by decide +kernel
theorem dX10_byteAt_21 : decode cX10_byteAt 21 = .ok (.iconst 0, 1) := by decide +kernel
theorem dX10_byteAt_22 : decode cX10_byteAt 22 = .ok (.ireturn, 1) := by decide +kernel
theorem dX10_isDigit_0 : decode cX10_isDigit 0 = .ok (.iload_n 0, 1) := by decide +kernel
theorem dX10_isDigit_1 : decode cX10_isDigit 1 = .ok (.bipush 48, 2) := by decide +kernel
theorem dX10_isDigit_3 : decode cX10_isDigit 3 = .ok (.if_icmp .lt 13, 3) := by decide +kernel
theorem dX10_isDigit_6 : decode cX10_isDigit 6 = .ok (.iload_n 0, 1) := by decide +kernel
theorem dX10_isDigit_7 : decode cX10_isDigit 7 = .ok (.bipush 57, 2) := by decide +kernel
theorem dX10_isDigit_9 : decode cX10_isDigit 9 = .ok (.if_icmp .gt 7, 3) := by decide +kernel
theorem dX10_isDigit_12 : decode cX10_isDigit 12 = .ok (.iconst 1, 1) := by decide +kernel
theorem dX10_isDigit_13 : decode cX10_isDigit 13 = .ok (.goto 4, 3) := by decide +kernel
theorem dX10_isDigit_16 : decode cX10_isDigit 16 = .ok (.iconst 0, 1) := by decide +kernel
theorem dX10_isDigit_17 : decode cX10_isDigit 17 = .ok (.ireturn, 1) := by decide +kernel
theorem dX10_isLetter_0 : decode cX10_isLetter 0 = .ok (.iload_n 0, 1) := by decide +kernel
theorem dX10_isLetter_1 : decode cX10_isLetter 1 = .ok (.bipush 97, 2) := by decide +kernel
theorem dX10_isLetter_3 : decode cX10_isLetter 3 = .ok (.if_icmp .lt 13, 3) := by decide +kernel
theorem dX10_isLetter_6 : decode cX10_isLetter 6 = .ok (.iload_n 0, 1) := by decide +kernel
theorem dX10_isLetter_7 : decode cX10_isLetter 7 = .ok (.bipush 122, 2) := by decide +kernel
theorem dX10_isLetter_9 : decode cX10_isLetter 9 = .ok (.if_icmp .gt 7, 3) := by decide +kernel
theorem dX10_isLetter_12 : decode cX10_isLetter 12 = .ok (.iconst 1, 1) := by decide +kernel
theorem dX10_isLetter_13 : decode cX10_isLetter 13 = .ok (.goto 4, 3) := by decide +kernel
theorem dX10_isLetter_16 : decode cX10_isLetter 16 = .ok (.iconst 0, 1) := by decide +kernel
theorem dX10_isLetter_17 : decode cX10_isLetter 17 = .ok (.ireturn, 1) := by decide +kernel
theorem dX10_appends_0 : decode cX10_appends 0 = .ok (.iload_n 2, 1) := by decide +kernel
theorem dX10_appends_1 : decode cX10_appends 1 = .ok (.ifCond .ne 7, 3) := by decide +kernel
theorem dX10_appends_4 : decode cX10_appends 4 = .ok (.lload_n 0, 1) := by decide +kernel
theorem dX10_appends_5 : decode cX10_appends 5 = .ok (.goto 16, 3) := by decide +kernel
theorem dX10_appends_8 : decode cX10_appends 8 = .ok (.ldc2_w 176, 3) := by decide +kernel
theorem dX10_appends_11 : decode cX10_appends 11 = .ok (.lload_n 0, 1) := by decide +kernel
theorem dX10_appends_12 : decode cX10_appends 12 = .ok (.lmul, 1) := by decide +kernel
theorem dX10_appends_13 : decode cX10_appends 13 = .ok (.iload_n 2, 1) := by decide +kernel
theorem dX10_appends_14 : decode cX10_appends 14 = .ok (.bipush 97, 2) := by decide +kernel
theorem dX10_appends_16 : decode cX10_appends 16 = .ok (.isub, 1) := by decide +kernel
theorem dX10_appends_17 : decode cX10_appends 17 = .ok (.iconst 1, 1) := by decide +kernel
theorem dX10_appends_18 : decode cX10_appends 18 = .ok (.iadd, 1) := by decide +kernel
theorem dX10_appends_19 : decode cX10_appends 19 = .ok (.i2l, 1) := by decide +kernel
theorem dX10_appends_20 : decode cX10_appends 20 = .ok (.ladd, 1) := by decide +kernel
theorem dX10_appends_21 : decode cX10_appends 21 = .ok (.lreturn, 1) := by decide +kernel
theorem dX10_word_0 : decode cX10_word 0 = .ok (.lconst 0, 1) := by decide +kernel
theorem dX10_word_1 : decode cX10_word 1 = .ok (.iload_n 0, 1) := by decide +kernel
theorem dX10_word_2 : decode cX10_word 2 = .ok (.invokestatic 157, 3) := by decide +kernel
theorem dX10_word_5 : decode cX10_word 5 = .ok (.iload_n 1, 1) := by decide +kernel
theorem dX10_word_6 : decode cX10_word 6 = .ok (.invokestatic 157, 3) := by decide +kernel
theorem dX10_word_9 : decode cX10_word 9 = .ok (.iload_n 2, 1) := by decide +kernel
theorem dX10_word_10 : decode cX10_word 10 = .ok (.invokestatic 157, 3) := by decide +kernel
theorem dX10_word_13 : decode cX10_word 13 = .ok (.iload_n 3, 1) := by decide +kernel
theorem dX10_word_14 : decode cX10_word 14 = .ok (.invokestatic 157, 3) := by decide +kernel
theorem dX10_word_17 : decode cX10_word 17 = .ok (.iload 4, 2) := by decide +kernel
theorem dX10_word_19 : decode cX10_word 19 = .ok (.invokestatic 157, 3) := by decide +kernel
theorem dX10_word_22 : decode cX10_word 22 = .ok (.iload 5, 2) := by decide +kernel
theorem dX10_word_24 : decode cX10_word 24 = .ok (.invokestatic 157, 3) := by decide +kernel
theorem dX10_word_27 : decode cX10_word 27 = .ok (.iload 6, 2) := by decide +kernel
theorem dX10_word_29 : decode cX10_word 29 = .ok (.invokestatic 157, 3) := by decide +kernel
theorem dX10_word_32 : decode cX10_word 32 = .ok (.lreturn, 1) := by decide +kernel
theorem dX10_token_0 : decode cX10_token 0 = .ok (.aload_n 0, 1) := by decide +kernel
theorem dX10_token_1 : decode cX10_token 1 = .ok (.getfield 20, 3) := by decide +kernel
theorem dX10_token_4 : decode cX10_token 4 = .ok (.aload_n 0, 1) := by decide +kernel
theorem dX10_token_5 : decode cX10_token 5 = .ok (.getfield 178, 3) := by decide +kernel
theorem dX10_token_8 : decode cX10_token 8 = .ok (.iload_n 1, 1) := by decide +kernel
theorem dX10_token_9 : decode cX10_token 9 = .ok (.iastore, 1) := by decide +kernel
theorem dX10_token_10 : decode cX10_token 10 = .ok (.aload_n 0, 1) := by decide +kernel
theorem dX10_token_11 : decode cX10_token 11 = .ok (.getfield 24, 3) := by decide +kernel
theorem dX10_token_14 : decode cX10_token 14 = .ok (.aload_n 0, 1) := by decide +kernel
theorem dX10_token_15 : decode cX10_token 15 = .ok (.getfield 178, 3) := by decide +kernel
theorem dX10_token_18 : decode cX10_token 18 = .ok (.iload_n 2, 1) := by decide +kernel
theorem dX10_token_19 : decode cX10_token 19 = .ok (.iastore, 1) := by decide +kernel
theorem dX10_token_20 : decode cX10_token 20 = .ok (.aload_n 0, 1) := by decide +kernel
theorem dX10_token_21 : decode cX10_token 21 = .ok (.getfield 27, 3) := by decide +kernel
theorem dX10_token_24 : decode cX10_token 24 = .ok (.aload_n 0, 1) := by decide +kernel
theorem dX10_token_25 : decode cX10_token 25 = .ok (.getfield 178, 3) := by decide +kernel
theorem dX10_token_28 : decode cX10_token 28 = .ok (.iload_n 3, 1) := by decide +kernel
theorem dX10_token_29 : decode cX10_token 29 = .ok (.iastore, 1) := by decide +kernel
theorem dX10_token_30 : decode cX10_token 30 = .ok (.aload_n 0, 1) := by decide +kernel
theorem dX10_token_31 : decode cX10_token 31 = .ok (.getfield 30, 3) := by decide +kernel
theorem dX10_token_34 : decode cX10_token 34 = .ok (.aload_n 0, 1) := by decide +kernel
theorem dX10_token_35 : decode cX10_token 35 = .ok (.getfield 178, 3) := by decide +kernel
theorem dX10_token_38 : decode cX10_token 38 = .ok (.lload 4, 2) := by decide +kernel
theorem dX10_token_40 : decode cX10_token 40 = .ok (.lastore, 1) := by decide +kernel
theorem dX10_token_41 : decode cX10_token 41 = .ok (.aload_n 0, 1) := by decide +kernel
theorem dX10_token_42 : decode cX10_token 42 = .ok (.dup, 1) := by decide +kernel
theorem dX10_token_43 : decode cX10_token 43 = .ok (.getfield 178, 3) := by decide +kernel
theorem dX10_token_46 : decode cX10_token 46 = .ok (.iconst 1, 1) := by decide +kernel
theorem dX10_token_47 : decode cX10_token 47 = .ok (.iadd, 1) := by decide +kernel
theorem dX10_token_48 : decode cX10_token 48 = .ok (.putfield 178, 3) := by decide +kernel
theorem dX10_token_51 : decode cX10_token 51 = .ok (.return_, 1) := by decide +kernel
theorem dX10_sign_0 : decode cX10_sign 0 = .ok (.iload_n 2, 1) := by decide +kernel
theorem dX10_sign_1 : decode cX10_sign 1 = .ok (.bipush 59, 2) := by decide +kernel
theorem dX10_sign_3 : decode cX10_sign 3 = .ok (.if_icmp .ne 7, 3) := by decide +kernel
theorem dX10_sign_6 : decode cX10_sign 6 = .ok (.iconst 4, 1) := by decide +kernel
theorem dX10_sign_7 : decode cX10_sign 7 = .ok (.goto 36, 3) := by decide +kernel
theorem dX10_sign_10 : decode cX10_sign 10 = .ok (.iload_n 2, 1) := by decide +kernel
theorem dX10_sign_11 : decode cX10_sign 11 = .ok (.bipush 61, 2) := by decide +kernel
theorem dX10_sign_13 : decode cX10_sign 13 = .ok (.if_icmp .ne 7, 3) := by decide +kernel
theorem dX10_sign_16 : decode cX10_sign 16 = .ok (.iconst 5, 1) := by decide +kernel
theorem dX10_sign_17 : decode cX10_sign 17 = .ok (.goto 26, 3) := by decide +kernel
theorem dX10_sign_20 : decode cX10_sign 20 = .ok (.iload_n 2, 1) := by decide +kernel
theorem dX10_sign_21 : decode cX10_sign 21 = .ok (.bipush 40, 2) := by decide +kernel
theorem dX10_sign_23 : decode cX10_sign 23 = .ok (.if_icmp .ne 8, 3) := by decide +kernel
theorem dX10_sign_26 : decode cX10_sign 26 = .ok (.bipush 6, 2) := by decide +kernel
theorem dX10_sign_28 : decode cX10_sign 28 = .ok (.goto 15, 3) := by decide +kernel
theorem dX10_sign_31 : decode cX10_sign 31 = .ok (.iload_n 2, 1) := by decide +kernel
theorem dX10_sign_32 : decode cX10_sign 32 = .ok (.bipush 41, 2) := by decide +kernel
theorem dX10_sign_34 : decode cX10_sign 34 = .ok (.if_icmp .ne 8, 3) := by decide +kernel
theorem dX10_sign_37 : decode cX10_sign 37 = .ok (.bipush 7, 2) := by decide +kernel
theorem dX10_sign_39 : decode cX10_sign 39 = .ok (.goto 4, 3) := by decide +kernel
theorem dX10_sign_42 : decode cX10_sign 42 = .ok (.iconst 3, 1) := by decide +kernel
theorem dX10_sign_43 : decode cX10_sign 43 = .ok (.istore 4, 2) := by decide +kernel
theorem dX10_sign_45 : decode cX10_sign 45 = .ok (.iload_n 2, 1) := by decide +kernel
theorem dX10_sign_46 : decode cX10_sign 46 = .ok (.bipush 43, 2) := by decide +kernel
theorem dX10_sign_48 : decode cX10_sign 48 = .ok (.if_icmp .ne 7, 3) := by decide +kernel
theorem dX10_sign_51 : decode cX10_sign 51 = .ok (.bipush 8, 2) := by decide +kernel
theorem dX10_sign_53 : decode cX10_sign 53 = .ok (.istore 4, 2) := by decide +kernel
theorem dX10_sign_55 : decode cX10_sign 55 = .ok (.iload_n 2, 1) := by decide +kernel
theorem dX10_sign_56 : decode cX10_sign 56 = .ok (.bipush 45, 2) := by decide +kernel
theorem dX10_sign_58 : decode cX10_sign 58 = .ok (.if_icmp .ne 7, 3) := by decide +kernel
theorem dX10_sign_61 : decode cX10_sign 61 = .ok (.bipush 9, 2) := by decide +kernel
theorem dX10_sign_63 : decode cX10_sign 63 = .ok (.istore 4, 2) := by decide +kernel
theorem dX10_sign_65 : decode cX10_sign 65 = .ok (.iload_n 2, 1) := by decide +kernel
theorem dX10_sign_66 : decode cX10_sign 66 = .ok (.bipush 42, 2) := by decide +kernel
theorem dX10_sign_68 : decode cX10_sign 68 = .ok (.if_icmp .ne 7, 3) := by decide +kernel
theorem dX10_sign_71 : decode cX10_sign 71 = .ok (.bipush 10, 2) := by decide +kernel
theorem dX10_sign_73 : decode cX10_sign 73 = .ok (.istore 4, 2) := by decide +kernel
theorem dX10_sign_75 : decode cX10_sign 75 = .ok (.iload_n 2, 1) := by decide +kernel
theorem dX10_sign_76 : decode cX10_sign 76 = .ok (.bipush 47, 2) := by decide +kernel
theorem dX10_sign_78 : decode cX10_sign 78 = .ok (.if_icmp .ne 7, 3) := by decide +kernel
theorem dX10_sign_81 : decode cX10_sign 81 = .ok (.bipush 15, 2) := by decide +kernel
theorem dX10_sign_83 : decode cX10_sign 83 = .ok (.istore 4, 2) := by decide +kernel
theorem dX10_sign_85 : decode cX10_sign 85 = .ok (.iload_n 2, 1) := by decide +kernel
theorem dX10_sign_86 : decode cX10_sign 86 = .ok (.bipush 60, 2) := by decide +kernel
theorem dX10_sign_88 : decode cX10_sign 88 = .ok (.if_icmp .ne 7, 3) := by decide +kernel
theorem dX10_sign_91 : decode cX10_sign 91 = .ok (.bipush 13, 2) := by decide +kernel
theorem dX10_sign_93 : decode cX10_sign 93 = .ok (.istore 4, 2) := by decide +kernel
theorem dX10_sign_95 : decode cX10_sign 95 = .ok (.aload_n 0, 1) := by decide +kernel
theorem dX10_sign_96 : decode cX10_sign 96 = .ok (.iload 4, 2) := by decide +kernel
theorem dX10_sign_98 : decode cX10_sign 98 = .ok (.iload_n 1, 1) := by decide +kernel
theorem dX10_sign_99 : decode cX10_sign 99 = .ok (.iconst 0, 1) := by decide +kernel
theorem dX10_sign_100 : decode cX10_sign 100 = .ok (.lconst 0, 1) := by decide +kernel
theorem dX10_sign_101 : decode cX10_sign 101 = .ok (.invokevirtual 185, 3) := by decide +kernel
theorem dX10_sign_104 : decode cX10_sign 104 = .ok (.iconst 1, 1) := by decide +kernel
theorem dX10_sign_105 : decode cX10_sign 105 = .ok (.ireturn, 1) := by decide +kernel
theorem dX10_is_0 : decode cX10_is 0 = .ok (.aload_n 0, 1) := by decide +kernel
theorem dX10_is_1 : decode cX10_is 1 = .ok (.getfield 200, 3) := by decide +kernel
theorem dX10_is_4 : decode cX10_is 4 = .ok (.ifCond .ne 20, 3) := by decide +kernel
theorem dX10_is_7 : decode cX10_is 7 = .ok (.aload_n 0, 1) := by decide +kernel
theorem dX10_is_8 : decode cX10_is 8 = .ok (.getfield 20, 3) := by decide +kernel
theorem dX10_is_11 : decode cX10_is 11 = .ok (.aload_n 0, 1) := by decide +kernel
theorem dX10_is_12 : decode cX10_is 12 = .ok (.getfield 203, 3) := by decide +kernel
theorem dX10_is_15 : decode cX10_is 15 = .ok (.iaload, 1) := by decide +kernel
theorem dX10_is_16 : decode cX10_is 16 = .ok (.iload_n 1, 1) := by decide +kernel
theorem dX10_is_17 : decode cX10_is 17 = .ok (.if_icmp .ne 7, 3) := by decide +kernel
theorem dX10_is_20 : decode cX10_is 20 = .ok (.iconst 1, 1) := by decide +kernel
theorem dX10_is_21 : decode cX10_is 21 = .ok (.goto 4, 3) := by decide +kernel
theorem dX10_is_24 : decode cX10_is 24 = .ok (.iconst 0, 1) := by decide +kernel
theorem dX10_is_25 : decode cX10_is 25 = .ok (.ireturn, 1) := by decide +kernel
theorem dX10_fail_0 : decode cX10_fail 0 = .ok (.aload_n 0, 1) := by decide +kernel
theorem dX10_fail_1 : decode cX10_fail 1 = .ok (.getfield 200, 3) := by decide +kernel
theorem dX10_fail_4 : decode cX10_fail 4 = .ok (.ifCond .le 4, 3) := by decide +kernel
theorem dX10_fail_7 : decode cX10_fail 7 = .ok (.return_, 1) := by decide +kernel
theorem dX10_fail_8 : decode cX10_fail 8 = .ok (.aload_n 0, 1) := by decide +kernel
theorem dX10_fail_9 : decode cX10_fail 9 = .ok (.iload_n 1, 1) := by decide +kernel
theorem dX10_fail_10 : decode cX10_fail 10 = .ok (.putfield 200, 3) := by decide +kernel
theorem dX10_fail_13 : decode cX10_fail 13 = .ok (.aload_n 0, 1) := by decide +kernel
theorem dX10_fail_14 : decode cX10_fail 14 = .ok (.aload_n 0, 1) := by decide +kernel
theorem dX10_fail_15 : decode cX10_fail 15 = .ok (.getfield 24, 3) := by decide +kernel
theorem dX10_fail_18 : decode cX10_fail 18 = .ok (.aload_n 0, 1) := by decide +kernel
theorem dX10_fail_19 : decode cX10_fail 19 = .ok (.getfield 203, 3) := by decide +kernel
theorem dX10_fail_22 : decode cX10_fail 22 = .ok (.iaload, 1) := by decide +kernel
theorem dX10_fail_23 : decode cX10_fail 23 = .ok (.putfield 206, 3) := by decide +kernel
theorem dX10_fail_26 : decode cX10_fail 26 = .ok (.return_, 1) := by decide +kernel
theorem dX10_wrong_0 : decode cX10_wrong 0 = .ok (.aload_n 0, 1) := by decide +kernel
theorem dX10_wrong_1 : decode cX10_wrong 1 = .ok (.getfield 24, 3) := by decide +kernel
theorem dX10_wrong_4 : decode cX10_wrong 4 = .ok (.iload_n 2, 1) := by decide +kernel
theorem dX10_wrong_5 : decode cX10_wrong 5 = .ok (.iaload, 1) := by decide +kernel
theorem dX10_wrong_6 : decode cX10_wrong 6 = .ok (.istore_n 3, 1) := by decide +kernel
theorem dX10_wrong_7 : decode cX10_wrong 7 = .ok (.aload_n 0, 1) := by decide +kernel
theorem dX10_wrong_8 : decode cX10_wrong 8 = .ok (.getfield 200, 3) := by decide +kernel
theorem dX10_wrong_11 : decode cX10_wrong 11 = .ok (.ifCond .gt 34, 3) := by decide +kernel
theorem dX10_wrong_14 : decode cX10_wrong 14 = .ok (.aload_n 0, 1) := by decide +kernel
theorem dX10_wrong_15 : decode cX10_wrong 15 = .ok (.getfield 209, 3) := by decide +kernel
theorem dX10_wrong_18 : decode cX10_wrong 18 = .ok (.ifCond .eq 28, 3) := by decide +kernel
theorem dX10_wrong_21 : decode cX10_wrong 21 = .ok (.iload_n 3, 1) := by decide +kernel
theorem dX10_wrong_22 : decode cX10_wrong 22 = .ok (.aload_n 0, 1) := by decide +kernel
theorem dX10_wrong_23 : decode cX10_wrong 23 = .ok (.getfield 212, 3) := by decide +kernel
theorem dX10_wrong_26 : decode cX10_wrong 26 = .ok (.if_icmp .gt 19, 3) := by decide +kernel
theorem dX10_wrong_29 : decode cX10_wrong 29 = .ok (.iload_n 3, 1) := by decide +kernel
theorem dX10_wrong_30 : decode cX10_wrong 30 = .ok (.aload_n 0, 1) := by decide +kernel
theorem dX10_wrong_31 : decode cX10_wrong 31 = .ok (.getfield 212, 3) := by decide +kernel
theorem dX10_wrong_34 : decode cX10_wrong 34 = .ok (.if_icmp .ne 12, 3) := by decide +kernel
theorem dX10_wrong_37 : decode cX10_wrong 37 = .ok (.iload_n 1, 1) := by decide +kernel
theorem dX10_wrong_38 : decode cX10_wrong 38 = .ok (.aload_n 0, 1) := by decide +kernel
theorem dX10_wrong_39 : decode cX10_wrong 39 = .ok (.getfield 209, 3) := by decide +kernel
theorem dX10_wrong_42 : decode cX10_wrong 42 = .ok (.if_icmp .lt 4, 3) := by decide +kernel
theorem dX10_wrong_45 : decode cX10_wrong 45 = .ok (.return_, 1) := by decide +kernel
theorem dX10_wrong_46 : decode cX10_wrong 46 = .ok (.aload_n 0, 1) := by decide +kernel
theorem dX10_wrong_47 : decode cX10_wrong 47 = .ok (.iload_n 1, 1) := by decide +kernel
theorem dX10_wrong_48 : decode cX10_wrong 48 = .ok (.putfield 209, 3) := by decide +kernel
theorem dX10_wrong_51 : decode cX10_wrong 51 = .ok (.aload_n 0, 1) := by decide +kernel
theorem dX10_wrong_52 : decode cX10_wrong 52 = .ok (.iload_n 3, 1) := by decide +kernel
theorem dX10_wrong_53 : decode cX10_wrong 53 = .ok (.putfield 212, 3) := by decide +kernel
theorem dX10_wrong_56 : decode cX10_wrong 56 = .ok (.return_, 1) := by decide +kernel
theorem dX10_goesOn_0 : decode cX10_goesOn 0 = .ok (.aload_n 0, 1) := by decide +kernel
theorem dX10_goesOn_1 : decode cX10_goesOn 1 = .ok (.getfield 203, 3) := by decide +kernel
theorem dX10_goesOn_4 : decode cX10_goesOn 4 = .ok (.sipush 400, 3) := by decide +kernel
theorem dX10_goesOn_7 : decode cX10_goesOn 7 = .ok (.if_icmp .ne 11, 3) := by decide +kernel
theorem dX10_goesOn_10 : decode cX10_goesOn 10 = .ok (.aload_n 0, 1) := by decide +kernel
theorem dX10_goesOn_11 : decode cX10_goesOn 11 = .ok (.iconst 2, 1) := by decide +kernel
theorem dX10_goesOn_12 : decode cX10_goesOn 12 = .ok (.invokevirtual 215, 3) := by decide +kernel
theorem dX10_goesOn_15 : decode cX10_goesOn 15 = .ok (.goto 13, 3) := by decide +kernel
theorem dX10_goesOn_18 : decode cX10_goesOn 18 = .ok (.aload_n 0, 1) := by decide +kernel
theorem dX10_goesOn_19 : decode cX10_goesOn 19 = .ok (.dup, 1) := by decide +kernel
theorem dX10_goesOn_20 : decode cX10_goesOn 20 = .ok (.getfield 203, 3) := by decide +kernel
theorem dX10_goesOn_23 : decode cX10_goesOn 23 = .ok (.iconst 1, 1) := by decide +kernel
theorem dX10_goesOn_24 : decode cX10_goesOn 24 = .ok (.iadd, 1) := by decide +kernel
theorem dX10_goesOn_25 : decode cX10_goesOn 25 = .ok (.putfield 203, 3) := by decide +kernel
theorem dX10_goesOn_28 : decode cX10_goesOn 28 = .ok (.return_, 1) := by decide +kernel
theorem dX10_must_0 : decode cX10_must 0 = .ok (.aload_n 0, 1) := by decide +kernel
theorem dX10_must_1 : decode cX10_must 1 = .ok (.iload_n 1, 1) := by decide +kernel
theorem dX10_must_2 : decode cX10_must 2 = .ok (.invokevirtual 218, 3) := by decide +kernel
theorem dX10_must_5 : decode cX10_must 5 = .ok (.ifCond .eq 10, 3) := by decide +kernel
theorem dX10_must_8 : decode cX10_must 8 = .ok (.aload_n 0, 1) := by decide +kernel
theorem dX10_must_9 : decode cX10_must 9 = .ok (.invokevirtual 221, 3) := by decide +kernel
theorem dX10_must_12 : decode cX10_must 12 = .ok (.goto 8, 3) := by decide +kernel
theorem dX10_must_15 : decode cX10_must 15 = .ok (.aload_n 0, 1) := by decide +kernel
theorem dX10_must_16 : decode cX10_must 16 = .ok (.iconst 1, 1) := by decide +kernel
theorem dX10_must_17 : decode cX10_must 17 = .ok (.invokevirtual 215, 3) := by decide +kernel
theorem dX10_must_20 : decode cX10_must 20 = .ok (.return_, 1) := by decide +kernel
theorem dX10_plain_0 : decode cX10_plain 0 = .ok (.aload_n 0, 1) := by decide +kernel
theorem dX10_plain_1 : decode cX10_plain 1 = .ok (.getfield 46, 3) := by decide +kernel
theorem dX10_plain_4 : decode cX10_plain 4 = .ok (.iload_n 1, 1) := by decide +kernel
theorem dX10_plain_5 : decode cX10_plain 5 = .ok (.iconst 0, 1) := by decide +kernel
theorem dX10_plain_6 : decode cX10_plain 6 = .ok (.iastore, 1) := by decide +kernel
theorem dX10_plain_7 : decode cX10_plain 7 = .ok (.aload_n 0, 1) := by decide +kernel
theorem dX10_plain_8 : decode cX10_plain 8 = .ok (.getfield 55, 3) := by decide +kernel
theorem dX10_plain_11 : decode cX10_plain 11 = .ok (.iload_n 1, 1) := by decide +kernel
theorem dX10_plain_12 : decode cX10_plain 12 = .ok (.iconst 0, 1) := by decide +kernel
theorem dX10_plain_13 : decode cX10_plain 13 = .ok (.iastore, 1) := by decide +kernel
theorem dX10_plain_14 : decode cX10_plain 14 = .ok (.aload_n 0, 1) := by decide +kernel
theorem dX10_plain_15 : decode cX10_plain 15 = .ok (.getfield 70, 3) := by decide +kernel
theorem dX10_plain_18 : decode cX10_plain 18 = .ok (.iload_n 1, 1) := by decide +kernel
theorem dX10_plain_19 : decode cX10_plain 19 = .ok (.iconst 0, 1) := by decide +kernel
theorem dX10_plain_20 : decode cX10_plain 20 = .ok (.iastore, 1) := by decide +kernel
theorem dX10_plain_21 : decode cX10_plain 21 = .ok (.aload_n 0, 1) := by decide +kernel
theorem dX10_plain_22 : decode cX10_plain 22 = .ok (.getfield 73, 3) := by decide +kernel
theorem dX10_plain_25 : decode cX10_plain 25 = .ok (.iload_n 1, 1) := by decide +kernel
theorem dX10_plain_26 : decode cX10_plain 26 = .ok (.iconst 0, 1) := by decide +kernel
theorem dX10_plain_27 : decode cX10_plain 27 = .ok (.iastore, 1) := by decide +kernel
theorem dX10_plain_28 : decode cX10_plain 28 = .ok (.aload_n 0, 1) := by decide +kernel
theorem dX10_plain_29 : decode cX10_plain 29 = .ok (.getfield 76, 3) := by decide +kernel
theorem dX10_plain_32 : decode cX10_plain 32 = .ok (.iload_n 1, 1) := by decide +kernel
theorem dX10_plain_33 : decode cX10_plain 33 = .ok (.iconst 3, 1) := by decide +kernel
theorem dX10_plain_34 : decode cX10_plain 34 = .ok (.iastore, 1) := by decide +kernel
theorem dX10_plain_35 : decode cX10_plain 35 = .ok (.aload_n 0, 1) := by decide +kernel
theorem dX10_plain_36 : decode cX10_plain 36 = .ok (.getfield 79, 3) := by decide +kernel
theorem dX10_plain_39 : decode cX10_plain 39 = .ok (.iload_n 1, 1) := by decide +kernel
theorem dX10_plain_40 : decode cX10_plain 40 = .ok (.iconst 0, 1) := by decide +kernel
theorem dX10_plain_41 : decode cX10_plain 41 = .ok (.iastore, 1) := by decide +kernel
theorem dX10_plain_42 : decode cX10_plain 42 = .ok (.iconst 0, 1) := by decide +kernel
theorem dX10_plain_43 : decode cX10_plain 43 = .ok (.istore_n 2, 1) := by decide +kernel
theorem dX10_plain_44 : decode cX10_plain 44 = .ok (.iload_n 2, 1) := by decide +kernel
theorem dX10_plain_45 : decode cX10_plain 45 = .ok (.bipush 6, 2) := by decide +kernel
theorem dX10_plain_47 : decode cX10_plain 47 = .ok (.if_icmp .ge 21, 3) := by decide +kernel
theorem dX10_plain_50 : decode cX10_plain 50 = .ok (.aload_n 0, 1) := by decide +kernel
theorem dX10_plain_51 : decode cX10_plain 51 = .ok (.getfield 67, 3) := by decide +kernel
theorem dX10_plain_54 : decode cX10_plain 54 = .ok (.bipush 6, 2) := by decide +kernel
theorem dX10_plain_56 : decode cX10_plain 56 = .ok (.iload_n 1, 1) := by decide +kernel
theorem dX10_plain_57 : decode cX10_plain 57 = .ok (.imul, 1) := by decide +kernel
theorem dX10_plain_58 : decode cX10_plain 58 = .ok (.iload_n 2, 1) := by decide +kernel
theorem dX10_plain_59 : decode cX10_plain 59 = .ok (.iadd, 1) := by decide +kernel
theorem dX10_plain_60 : decode cX10_plain 60 = .ok (.iconst 0, 1) := by decide +kernel
theorem dX10_plain_61 : decode cX10_plain 61 = .ok (.iastore, 1) := by decide +kernel
theorem dX10_plain_62 : decode cX10_plain 62 = .ok (.iinc 2 1, 3) := by decide +kernel
theorem dX10_plain_65 : decode cX10_plain 65 = .ok (.goto (-21), 3) := by decide +kernel
theorem dX10_plain_68 : decode cX10_plain 68 = .ok (.iconst 0, 1) := by decide +kernel
theorem dX10_plain_69 : decode cX10_plain 69 = .ok (.istore_n 2, 1) := by decide +kernel
theorem dX10_plain_70 : decode cX10_plain 70 = .ok (.iload_n 2, 1) := by decide +kernel
theorem dX10_plain_71 : decode cX10_plain 71 = .ok (.iconst 4, 1) := by decide +kernel
theorem dX10_plain_72 : decode cX10_plain 72 = .ok (.if_icmp .ge 31, 3) := by decide +kernel
theorem dX10_plain_75 : decode cX10_plain 75 = .ok (.aload_n 0, 1) := by decide +kernel
theorem dX10_plain_76 : decode cX10_plain 76 = .ok (.getfield 82, 3) := by decide +kernel
theorem dX10_plain_79 : decode cX10_plain 79 = .ok (.iconst 4, 1) := by decide +kernel
theorem dX10_plain_80 : decode cX10_plain 80 = .ok (.iload_n 1, 1) := by decide +kernel
theorem dX10_plain_81 : decode cX10_plain 81 = .ok (.imul, 1) := by decide +kernel
theorem dX10_plain_82 : decode cX10_plain 82 = .ok (.iload_n 2, 1) := by decide +kernel
theorem dX10_plain_83 : decode cX10_plain 83 = .ok (.iadd, 1) := by decide +kernel
theorem dX10_plain_84 : decode cX10_plain 84 = .ok (.iconst 0, 1) := by decide +kernel
theorem dX10_plain_85 : decode cX10_plain 85 = .ok (.iastore, 1) := by decide +kernel
theorem dX10_plain_86 : decode cX10_plain 86 = .ok (.aload_n 0, 1) := by decide +kernel
theorem dX10_plain_87 : decode cX10_plain 87 = .ok (.getfield 85, 3) := by decide +kernel
theorem dX10_plain_90 : decode cX10_plain 90 = .ok (.iconst 4, 1) := by decide +kernel
theorem dX10_plain_91 : decode cX10_plain 91 = .ok (.iload_n 1, 1) := by decide +kernel
theorem dX10_plain_92 : decode cX10_plain 92 = .ok (.imul, 1) := by decide +kernel
theorem dX10_plain_93 : decode cX10_plain 93 = .ok (.iload_n 2, 1) := by decide +kernel
theorem dX10_plain_94 : decode cX10_plain 94 = .ok (.iadd, 1) := by decide +kernel
theorem dX10_plain_95 : decode cX10_plain 95 = .ok (.iconst 0, 1) := by decide +kernel
theorem dX10_plain_96 : decode cX10_plain 96 = .ok (.iastore, 1) := by decide +kernel
theorem dX10_plain_97 : decode cX10_plain 97 = .ok (.iinc 2 1, 3) := by decide +kernel
theorem dX10_plain_100 : decode cX10_plain 100 = .ok (.goto (-30), 3) := by decide +kernel
theorem dX10_plain_103 : decode cX10_plain 103 = .ok (.return_, 1) := by decide +kernel
theorem dX10_place_0 : decode cX10_place 0 = .ok (.aload_n 0, 1) := by decide +kernel
theorem dX10_place_1 : decode cX10_place 1 = .ok (.getfield 37, 3) := by decide +kernel
theorem dX10_place_4 : decode cX10_place 4 = .ok (.ireturn, 1) := by decide +kernel
theorem dX10_roomFor_0 : decode cX10_roomFor 0 = .ok (.iload_n 1, 1) := by decide +kernel
theorem dX10_roomFor_1 : decode cX10_roomFor 1 = .ok (.iload_n 2, 1) := by decide +kernel
theorem dX10_roomFor_2 : decode cX10_roomFor 2 = .ok (.if_icmp .ne 8, 3) := by decide +kernel
theorem dX10_roomFor_5 : decode cX10_roomFor 5 = .ok (.aload_n 0, 1) := by decide +kernel
theorem dX10_roomFor_6 : decode cX10_roomFor 6 = .ok (.iconst 2, 1) := by decide +kernel
theorem dX10_roomFor_7 : decode cX10_roomFor 7 = .ok (.invokevirtual 215, 3) := by decide +kernel
theorem dX10_roomFor_10 : decode cX10_roomFor 10 = .ok (.aload_n 0, 1) := by decide +kernel
theorem dX10_roomFor_11 : decode cX10_roomFor 11 = .ok (.getfield 200, 3) := by decide +kernel
theorem dX10_roomFor_14 : decode cX10_roomFor 14 = .ok (.ifCond .ne 7, 3) := by decide +kernel
theorem dX10_roomFor_17 : decode cX10_roomFor 17 = .ok (.aload_n 0, 1) := by decide +kernel
theorem dX10_roomFor_18 : decode cX10_roomFor 18 = .ok (.invokevirtual 221, 3) := by decide +kernel
theorem dX10_roomFor_21 : decode cX10_roomFor 21 = .ok (.return_, 1) := by decide +kernel
theorem dX10_named_0 : decode cX10_named 0 = .ok (.aload_n 0, 1) := by decide +kernel
theorem dX10_named_1 : decode cX10_named 1 = .ok (.getfield 203, 3) := by decide +kernel
theorem dX10_named_4 : decode cX10_named 4 = .ok (.istore_n 1, 1) := by decide +kernel
theorem dX10_named_5 : decode cX10_named 5 = .ok (.aload_n 0, 1) := by decide +kernel
theorem dX10_named_6 : decode cX10_named 6 = .ok (.iconst 1, 1) := by decide +kernel
theorem dX10_named_7 : decode cX10_named 7 = .ok (.invokevirtual 258, 3) := by decide +kernel
theorem dX10_named_10 : decode cX10_named 10 = .ok (.iconst 0, 1) := by decide +kernel
theorem dX10_named_11 : decode cX10_named 11 = .ok (.istore_n 2, 1) := by decide +kernel
theorem dX10_named_12 : decode cX10_named 12 = .ok (.iload_n 2, 1) := by decide +kernel
theorem dX10_named_13 : decode cX10_named 13 = .ok (.aload_n 0, 1) := by decide +kernel
theorem dX10_named_14 : decode cX10_named 14 = .ok (.getfield 236, 3) := by decide +kernel
theorem dX10_named_17 : decode cX10_named 17 = .ok (.if_icmp .ge 38, 3) := by decide +kernel
theorem dX10_named_20 : decode cX10_named 20 = .ok (.aload_n 0, 1) := by decide +kernel
theorem dX10_named_21 : decode cX10_named 21 = .ok (.getfield 200, 3) := by decide +kernel
theorem dX10_named_24 : decode cX10_named 24 = .ok (.ifCond .ne 31, 3) := by decide +kernel
theorem dX10_named_27 : decode cX10_named 27 = .ok (.aload_n 0, 1) := by decide +kernel
theorem dX10_named_28 : decode cX10_named 28 = .ok (.getfield 40, 3) := by decide +kernel
theorem dX10_named_31 : decode cX10_named 31 = .ok (.iload_n 2, 1) := by decide +kernel
theorem dX10_named_32 : decode cX10_named 32 = .ok (.laload, 1) := by decide +kernel
theorem dX10_named_33 : decode cX10_named 33 = .ok (.aload_n 0, 1) := by decide +kernel
theorem dX10_named_34 : decode cX10_named 34 = .ok (.getfield 30, 3) := by decide +kernel
theorem dX10_named_37 : decode cX10_named 37 = .ok (.iload_n 1, 1) := by decide +kernel
theorem dX10_named_38 : decode cX10_named 38 = .ok (.laload, 1) := by decide +kernel
theorem dX10_named_39 : decode cX10_named 39 = .ok (.lcmp, 1) := by decide +kernel
theorem dX10_named_40 : decode cX10_named 40 = .ok (.ifCond .ne 9, 3) := by decide +kernel
theorem dX10_named_43 : decode cX10_named 43 = .ok (.aload_n 0, 1) := by decide +kernel
theorem dX10_named_44 : decode cX10_named 44 = .ok (.iconst 3, 1) := by decide +kernel
theorem dX10_named_45 : decode cX10_named 45 = .ok (.iload_n 1, 1) := by decide +kernel
theorem dX10_named_46 : decode cX10_named 46 = .ok (.invokevirtual 281, 3) := by decide +kernel
theorem dX10_named_49 : decode cX10_named 49 = .ok (.iinc 2 1, 3) := by decide +kernel
theorem dX10_named_52 : decode cX10_named 52 = .ok (.goto (-40), 3) := by decide +kernel
theorem dX10_named_55 : decode cX10_named 55 = .ok (.iload_n 1, 1) := by decide +kernel
theorem dX10_named_56 : decode cX10_named 56 = .ok (.ireturn, 1) := by decide +kernel
theorem dX10_endsName_0 : decode cX10_endsName 0 = .ok (.aload_n 0, 1) := by decide +kernel
theorem dX10_endsName_1 : decode cX10_endsName 1 = .ok (.iconst 4, 1) := by decide +kernel
theorem dX10_endsName_2 : decode cX10_endsName 2 = .ok (.invokevirtual 258, 3) := by decide +kernel
theorem dX10_endsName_5 : decode cX10_endsName 5 = .ok (.aload_n 0, 1) := by decide +kernel
theorem dX10_endsName_6 : decode cX10_endsName 6 = .ok (.getfield 200, 3) := by decide +kernel
theorem dX10_endsName_9 : decode cX10_endsName 9 = .ok (.ifCond .le 4, 3) := by decide +kernel
theorem dX10_endsName_12 : decode cX10_endsName 12 = .ok (.return_, 1) := by decide +kernel
theorem dX10_endsName_13 : decode cX10_endsName 13 = .ok (.aload_n 0, 1) := by decide +kernel
theorem dX10_endsName_14 : decode cX10_endsName 14 = .ok (.getfield 40, 3) := by decide +kernel
theorem dX10_endsName_17 : decode cX10_endsName 17 = .ok (.aload_n 0, 1) := by decide +kernel
theorem dX10_endsName_18 : decode cX10_endsName 18 = .ok (.getfield 236, 3) := by decide +kernel
theorem dX10_endsName_21 : decode cX10_endsName 21 = .ok (.aload_n 0, 1) := by decide +kernel
theorem dX10_endsName_22 : decode cX10_endsName 22 = .ok (.getfield 30, 3) := by decide +kernel
theorem dX10_endsName_25 : decode cX10_endsName 25 = .ok (.iload_n 1, 1) := by decide +kernel
theorem dX10_endsName_26 : decode cX10_endsName 26 = .ok (.laload, 1) := by decide +kernel
theorem dX10_endsName_27 : decode cX10_endsName 27 = .ok (.lastore, 1) := by decide +kernel
theorem dX10_endsName_28 : decode cX10_endsName 28 = .ok (.aload_n 0, 1) := by decide +kernel
theorem dX10_endsName_29 : decode cX10_endsName 29 = .ok (.getfield 43, 3) := by decide +kernel
theorem dX10_endsName_32 : decode cX10_endsName 32 = .ok (.aload_n 0, 1) := by decide +kernel
theorem dX10_endsName_33 : decode cX10_endsName 33 = .ok (.getfield 236, 3) := by decide +kernel
theorem dX10_endsName_36 : decode cX10_endsName 36 = .ok (.iload_n 2, 1) := by decide +kernel
theorem dX10_endsName_37 : decode cX10_endsName 37 = .ok (.iastore, 1) := by decide +kernel
theorem dX10_endsName_38 : decode cX10_endsName 38 = .ok (.aload_n 0, 1) := by decide +kernel
theorem dX10_endsName_39 : decode cX10_endsName 39 = .ok (.dup, 1) := by decide +kernel
theorem dX10_endsName_40 : decode cX10_endsName 40 = .ok (.getfield 236, 3) := by decide +kernel
theorem dX10_endsName_43 : decode cX10_endsName 43 = .ok (.iconst 1, 1) := by decide +kernel
theorem dX10_endsName_44 : decode cX10_endsName 44 = .ok (.iadd, 1) := by decide +kernel
theorem dX10_endsName_45 : decode cX10_endsName 45 = .ok (.putfield 236, 3) := by decide +kernel
theorem dX10_endsName_48 : decode cX10_endsName 48 = .ok (.return_, 1) := by decide +kernel
theorem dX10_knownName_0 : decode cX10_knownName 0 = .ok (.aload_n 0, 1) := by decide +kernel
theorem dX10_knownName_1 : decode cX10_knownName 1 = .ok (.getfield 203, 3) := by decide +kernel
theorem dX10_knownName_4 : decode cX10_knownName 4 = .ok (.istore_n 2, 1) := by decide +kernel
theorem dX10_knownName_5 : decode cX10_knownName 5 = .ok (.aload_n 0, 1) := by decide +kernel
theorem dX10_knownName_6 : decode cX10_knownName 6 = .ok (.iconst 1, 1) := by decide +kernel
theorem dX10_knownName_7 : decode cX10_knownName 7 = .ok (.invokevirtual 258, 3) := by decide +kernel
theorem dX10_knownName_10 : decode cX10_knownName 10 = .ok (.aload_n 0, 1) := by decide +kernel
theorem dX10_knownName_11 : decode cX10_knownName 11 = .ok (.getfield 200, 3) := by decide +kernel
theorem dX10_knownName_14 : decode cX10_knownName 14 = .ok (.ifCond .le 5, 3) := by decide +kernel
theorem dX10_knownName_17 : decode cX10_knownName 17 = .ok (.iconst (-1), 1) := by decide +kernel
theorem dX10_knownName_18 : decode cX10_knownName 18 = .ok (.ireturn, 1) := by decide +kernel
theorem dX10_knownName_19 : decode cX10_knownName 19 = .ok (.iconst 0, 1) := by decide +kernel
theorem dX10_knownName_20 : decode cX10_knownName 20 = .ok (.istore_n 3, 1) := by decide +kernel
theorem dX10_knownName_21 : decode cX10_knownName 21 = .ok (.iload_n 3, 1) := by decide +kernel
theorem dX10_knownName_22 : decode cX10_knownName 22 = .ok (.aload_n 0, 1) := by decide +kernel
theorem dX10_knownName_23 : decode cX10_knownName 23 = .ok (.getfield 236, 3) := by decide +kernel
theorem dX10_knownName_26 : decode cX10_knownName 26 = .ok (.if_icmp .ge 57, 3) := by decide +kernel
theorem dX10_knownName_29 : decode cX10_knownName 29 = .ok (.aload_n 0, 1) := by decide +kernel
theorem dX10_knownName_30 : decode cX10_knownName 30 = .ok (.getfield 40, 3) := by decide +kernel
theorem dX10_knownName_33 : decode cX10_knownName 33 = .ok (.iload_n 3, 1) := by decide +kernel
theorem dX10_knownName_34 : decode cX10_knownName 34 = .ok (.laload, 1) := by decide +kernel
theorem dX10_knownName_35 : decode cX10_knownName 35 = .ok (.aload_n 0, 1) := by decide +kernel
theorem dX10_knownName_36 : decode cX10_knownName 36 = .ok (.getfield 30, 3) := by decide +kernel
theorem dX10_knownName_39 : decode cX10_knownName 39 = .ok (.iload_n 2, 1) := by decide +kernel
theorem dX10_knownName_40 : decode cX10_knownName 40 = .ok (.laload, 1) := by decide +kernel
theorem dX10_knownName_41 : decode cX10_knownName 41 = .ok (.lcmp, 1) := by decide +kernel
theorem dX10_knownName_42 : decode cX10_knownName 42 = .ok (.ifCond .ne 35, 3) := by decide +kernel
theorem dX10_knownName_45 : decode cX10_knownName 45 = .ok (.aload_n 0, 1) := by decide +kernel
theorem dX10_knownName_46 : decode cX10_knownName 46 = .ok (.getfield 43, 3) := by decide +kernel
theorem dX10_knownName_49 : decode cX10_knownName 49 = .ok (.iload_n 3, 1) := by decide +kernel
theorem dX10_knownName_50 : decode cX10_knownName 50 = .ok (.iaload, 1) := by decide +kernel
theorem dX10_knownName_51 : decode cX10_knownName 51 = .ok (.iload_n 1, 1) := by decide +kernel
theorem dX10_knownName_52 : decode cX10_knownName 52 = .ok (.if_icmp .lt 25, 3) := by decide +kernel
theorem dX10_knownName_55 : decode cX10_knownName 55 = .ok (.aload_n 0, 1) := by decide +kernel
theorem dX10_knownName_56 : decode cX10_knownName 56 = .ok (.getfield 43, 3) := by decide +kernel
theorem dX10_knownName_59 : decode cX10_knownName 59 = .ok (.iload_n 3, 1) := by decide +kernel
theorem dX10_knownName_60 : decode cX10_knownName 60 = .ok (.iaload, 1) := by decide +kernel
theorem dX10_knownName_61 : decode cX10_knownName 61 = .ok (.iload_n 1, 1) := by decide +kernel
theorem dX10_knownName_62 : decode cX10_knownName 62 = .ok (.bipush 10, 2) := by decide +kernel
theorem dX10_knownName_64 : decode cX10_knownName 64 = .ok (.iadd, 1) := by decide +kernel
theorem dX10_knownName_65 : decode cX10_knownName 65 = .ok (.if_icmp .ge 12, 3) := by decide +kernel
theorem dX10_knownName_68 : decode cX10_knownName 68 = .ok (.aload_n 0, 1) := by decide +kernel
theorem dX10_knownName_69 : decode cX10_knownName 69 = .ok (.getfield 43, 3) := by decide +kernel
theorem dX10_knownName_72 : decode cX10_knownName 72 = .ok (.iload_n 3, 1) := by decide +kernel
theorem dX10_knownName_73 : decode cX10_knownName 73 = .ok (.iaload, 1) := by decide +kernel
theorem dX10_knownName_74 : decode cX10_knownName 74 = .ok (.iload_n 1, 1) := by decide +kernel
theorem dX10_knownName_75 : decode cX10_knownName 75 = .ok (.isub, 1) := by decide +kernel
theorem dX10_knownName_76 : decode cX10_knownName 76 = .ok (.ireturn, 1) := by decide +kernel
theorem dX10_knownName_77 : decode cX10_knownName 77 = .ok (.iinc 3 1, 3) := by decide +kernel
theorem dX10_knownName_80 : decode cX10_knownName 80 = .ok (.goto (-59), 3) := by decide +kernel
theorem dX10_knownName_83 : decode cX10_knownName 83 = .ok (.aload_n 0, 1) := by decide +kernel
theorem dX10_knownName_84 : decode cX10_knownName 84 = .ok (.iconst 4, 1) := by decide +kernel
theorem dX10_knownName_85 : decode cX10_knownName 85 = .ok (.iload_n 2, 1) := by decide +kernel
theorem dX10_knownName_86 : decode cX10_knownName 86 = .ok (.invokevirtual 281, 3) := by decide +kernel
theorem dX10_knownName_89 : decode cX10_knownName 89 = .ok (.iconst (-1), 1) := by decide +kernel
theorem dX10_knownName_90 : decode cX10_knownName 90 = .ok (.ireturn, 1) := by decide +kernel
theorem dX10_bounded_0 : decode cX10_bounded 0 = .ok (.aload_n 0, 1) := by decide +kernel
theorem dX10_bounded_1 : decode cX10_bounded 1 = .ok (.getfield 200, 3) := by decide +kernel
theorem dX10_bounded_4 : decode cX10_bounded 4 = .ok (.ifCond .gt 11, 3) := by decide +kernel
theorem dX10_bounded_7 : decode cX10_bounded 7 = .ok (.aload_n 0, 1) := by decide +kernel
theorem dX10_bounded_8 : decode cX10_bounded 8 = .ok (.iconst 2, 1) := by decide +kernel
theorem dX10_bounded_9 : decode cX10_bounded 9 = .ok (.invokevirtual 218, 3) := by decide +kernel
theorem dX10_bounded_12 : decode cX10_bounded 12 = .ok (.ifCond .ne 10, 3) := by decide +kernel
theorem dX10_bounded_15 : decode cX10_bounded 15 = .ok (.aload_n 0, 1) := by decide +kernel
theorem dX10_bounded_16 : decode cX10_bounded 16 = .ok (.iconst 1, 1) := by decide +kernel
theorem dX10_bounded_17 : decode cX10_bounded 17 = .ok (.invokevirtual 215, 3) := by decide +kernel
theorem dX10_bounded_20 : decode cX10_bounded 20 = .ok (.iload_n 1, 1) := by decide +kernel
theorem dX10_bounded_21 : decode cX10_bounded 21 = .ok (.ireturn, 1) := by decide +kernel
theorem dX10_bounded_22 : decode cX10_bounded 22 = .ok (.aload_n 0, 1) := by decide +kernel
theorem dX10_bounded_23 : decode cX10_bounded 23 = .ok (.getfield 27, 3) := by decide +kernel
theorem dX10_bounded_26 : decode cX10_bounded 26 = .ok (.aload_n 0, 1) := by decide +kernel
theorem dX10_bounded_27 : decode cX10_bounded 27 = .ok (.getfield 203, 3) := by decide +kernel
theorem dX10_bounded_30 : decode cX10_bounded 30 = .ok (.iaload, 1) := by decide +kernel
theorem dX10_bounded_31 : decode cX10_bounded 31 = .ok (.istore_n 3, 1) := by decide +kernel
theorem dX10_bounded_32 : decode cX10_bounded 32 = .ok (.iload_n 3, 1) := by decide +kernel
theorem dX10_bounded_33 : decode cX10_bounded 33 = .ok (.iload_n 1, 1) := by decide +kernel
theorem dX10_bounded_34 : decode cX10_bounded 34 = .ok (.if_icmp .lt 8, 3) := by decide +kernel
theorem dX10_bounded_37 : decode cX10_bounded 37 = .ok (.iload_n 3, 1) := by decide +kernel
theorem dX10_bounded_38 : decode cX10_bounded 38 = .ok (.iload_n 2, 1) := by decide +kernel
theorem dX10_bounded_39 : decode cX10_bounded 39 = .ok (.if_icmp .le 12, 3) := by decide +kernel
theorem dX10_bounded_42 : decode cX10_bounded 42 = .ok (.aload_n 0, 1) := by decide +kernel
theorem dX10_bounded_43 : decode cX10_bounded 43 = .ok (.iconst 5, 1) := by decide +kernel
theorem dX10_bounded_44 : decode cX10_bounded 44 = .ok (.aload_n 0, 1) := by decide +kernel
theorem dX10_bounded_45 : decode cX10_bounded 45 = .ok (.getfield 203, 3) := by decide +kernel
theorem dX10_bounded_48 : decode cX10_bounded 48 = .ok (.invokevirtual 281, 3) := by decide +kernel
theorem dX10_bounded_51 : decode cX10_bounded 51 = .ok (.aload_n 0, 1) := by decide +kernel
theorem dX10_bounded_52 : decode cX10_bounded 52 = .ok (.invokevirtual 221, 3) := by decide +kernel
theorem dX10_bounded_55 : decode cX10_bounded 55 = .ok (.iload_n 3, 1) := by decide +kernel
theorem dX10_bounded_56 : decode cX10_bounded 56 = .ok (.ireturn, 1) := by decide +kernel
theorem dX10_tellReally_0 : decode cX10_tellReally 0 = .ok (.aload_n 0, 1) := by decide +kernel
theorem dX10_tellReally_1 : decode cX10_tellReally 1 = .ok (.bipush 10, 2) := by decide +kernel
theorem dX10_tellReally_3 : decode cX10_tellReally 3 = .ok (.invokevirtual 284, 3) := by decide +kernel
theorem dX10_tellReally_6 : decode cX10_tellReally 6 = .ok (.istore_n 1, 1) := by decide +kernel
theorem dX10_tellReally_7 : decode cX10_tellReally 7 = .ok (.aload_n 0, 1) := by decide +kernel
theorem dX10_tellReally_8 : decode cX10_tellReally 8 = .ok (.getfield 203, 3) := by decide +kernel
theorem dX10_tellReally_11 : decode cX10_tellReally 11 = .ok (.istore_n 2, 1) := by decide +kernel
theorem dX10_tellReally_12 : decode cX10_tellReally 12 = .ok (.aload_n 0, 1) := by decide +kernel
theorem dX10_tellReally_13 : decode cX10_tellReally 13 = .ok (.iconst 0, 1) := by decide +kernel
theorem dX10_tellReally_14 : decode cX10_tellReally 14 = .ok (.invokevirtual 284, 3) := by decide +kernel
theorem dX10_tellReally_17 : decode cX10_tellReally 17 = .ok (.istore_n 3, 1) := by decide +kernel
theorem dX10_tellReally_18 : decode cX10_tellReally 18 = .ok (.iload_n 1, 1) := by decide +kernel
theorem dX10_tellReally_19 : decode cX10_tellReally 19 = .ok (.ifCond .lt 11, 3) := by decide +kernel
theorem dX10_tellReally_22 : decode cX10_tellReally 22 = .ok (.iload_n 3, 1) := by decide +kernel
theorem dX10_tellReally_23 : decode cX10_tellReally 23 = .ok (.ifCond .lt 7, 3) := by decide +kernel
theorem dX10_tellReally_26 : decode cX10_tellReally 26 = .ok (.iconst 1, 1) := by decide +kernel
theorem dX10_tellReally_27 : decode cX10_tellReally 27 = .ok (.goto 4, 3) := by decide +kernel
theorem dX10_tellReally_30 : decode cX10_tellReally 30 = .ok (.iconst 0, 1) := by decide +kernel
theorem dX10_tellReally_31 : decode cX10_tellReally 31 = .ok (.istore 4, 2) := by decide +kernel
theorem dX10_tellReally_33 : decode cX10_tellReally 33 = .ok (.iload 4, 2) := by decide +kernel
theorem dX10_tellReally_35 : decode cX10_tellReally 35 = .ok (.ifCond .eq 31, 3) := by decide +kernel
theorem dX10_tellReally_38 : decode cX10_tellReally 38 = .ok (.aload_n 0, 1) := by decide +kernel
theorem dX10_tellReally_39 : decode cX10_tellReally 39 = .ok (.getfield 67, 3) := by decide +kernel
theorem dX10_tellReally_42 : decode cX10_tellReally 42 = .ok (.bipush 6, 2) := by decide +kernel
theorem dX10_tellReally_44 : decode cX10_tellReally 44 = .ok (.aload_n 0, 1) := by decide +kernel
theorem dX10_tellReally_45 : decode cX10_tellReally 45 = .ok (.getfield 233, 3) := by decide +kernel
theorem dX10_tellReally_48 : decode cX10_tellReally 48 = .ok (.imul, 1) := by decide +kernel
theorem dX10_tellReally_49 : decode cX10_tellReally 49 = .ok (.iload_n 1, 1) := by decide +kernel
theorem dX10_tellReally_50 : decode cX10_tellReally 50 = .ok (.iadd, 1) := by decide +kernel
theorem dX10_tellReally_51 : decode cX10_tellReally 51 = .ok (.iaload, 1) := by decide +kernel
theorem dX10_tellReally_52 : decode cX10_tellReally 52 = .ok (.iload_n 3, 1) := by decide +kernel
theorem dX10_tellReally_53 : decode cX10_tellReally 53 = .ok (.ishr, 1) := by decide +kernel
theorem dX10_tellReally_54 : decode cX10_tellReally 54 = .ok (.iconst 1, 1) := by decide +kernel
theorem dX10_tellReally_55 : decode cX10_tellReally 55 = .ok (.iand, 1) := by decide +kernel
theorem dX10_tellReally_56 : decode cX10_tellReally 56 = .ok (.iconst 1, 1) := by decide +kernel
theorem dX10_tellReally_57 : decode cX10_tellReally 57 = .ok (.if_icmp .ne 9, 3) := by decide +kernel
theorem dX10_tellReally_60 : decode cX10_tellReally 60 = .ok (.aload_n 0, 1) := by decide +kernel
theorem dX10_tellReally_61 : decode cX10_tellReally 61 = .ok (.iconst 3, 1) := by decide +kernel
theorem dX10_tellReally_62 : decode cX10_tellReally 62 = .ok (.iload_n 2, 1) := by decide +kernel
theorem dX10_tellReally_63 : decode cX10_tellReally 63 = .ok (.invokevirtual 281, 3) := by decide +kernel
theorem dX10_tellReally_66 : decode cX10_tellReally 66 = .ok (.aload_n 0, 1) := by decide +kernel
theorem dX10_tellReally_67 : decode cX10_tellReally 67 = .ok (.iconst 4, 1) := by decide +kernel
theorem dX10_tellReally_68 : decode cX10_tellReally 68 = .ok (.invokevirtual 258, 3) := by decide +kernel
theorem dX10_tellReally_71 : decode cX10_tellReally 71 = .ok (.aload_n 0, 1) := by decide +kernel
theorem dX10_tellReally_72 : decode cX10_tellReally 72 = .ok (.getfield 200, 3) := by decide +kernel
theorem dX10_tellReally_75 : decode cX10_tellReally 75 = .ok (.ifCond .le 4, 3) := by decide +kernel
theorem dX10_tellReally_78 : decode cX10_tellReally 78 = .ok (.return_, 1) := by decide +kernel
theorem dX10_tellReally_79 : decode cX10_tellReally 79 = .ok (.aload_n 0, 1) := by decide +kernel
theorem dX10_tellReally_80 : decode cX10_tellReally 80 = .ok (.getfield 70, 3) := by decide +kernel
theorem dX10_tellReally_83 : decode cX10_tellReally 83 = .ok (.aload_n 0, 1) := by decide +kernel
theorem dX10_tellReally_84 : decode cX10_tellReally 84 = .ok (.getfield 233, 3) := by decide +kernel
theorem dX10_tellReally_87 : decode cX10_tellReally 87 = .ok (.dup2, 1) := by decide +kernel
theorem dX10_tellReally_88 : decode cX10_tellReally 88 = .ok (.iaload, 1) := by decide +kernel
theorem dX10_tellReally_89 : decode cX10_tellReally 89 = .ok (.iconst 1, 1) := by decide +kernel
theorem dX10_tellReally_90 : decode cX10_tellReally 90 = .ok (.iadd, 1) := by decide +kernel
theorem dX10_tellReally_91 : decode cX10_tellReally 91 = .ok (.iastore, 1) := by decide +kernel
theorem dX10_tellReally_92 : decode cX10_tellReally 92 = .ok (.iload 4, 2) := by decide +kernel
theorem dX10_tellReally_94 : decode cX10_tellReally 94 = .ok (.ifCond .eq 23, 3) := by decide +kernel
theorem dX10_tellReally_97 : decode cX10_tellReally 97 = .ok (.aload_n 0, 1) := by decide +kernel
theorem dX10_tellReally_98 : decode cX10_tellReally 98 = .ok (.getfield 67, 3) := by decide +kernel
theorem dX10_tellReally_101 : decode cX10_tellReally 101 = .ok (.bipush 6, 2) := by decide +kernel
theorem dX10_tellReally_103 : decode cX10_tellReally 103 = .ok (.aload_n 0, 1) := by decide +kernel
theorem dX10_tellReally_104 : decode cX10_tellReally 104 = .ok (.getfield 233, 3) := by decide +kernel
theorem dX10_tellReally_107 : decode cX10_tellReally 107 = .ok (.imul, 1) := by decide +kernel
theorem dX10_tellReally_108 : decode cX10_tellReally 108 = .ok (.iload_n 1, 1) := by decide +kernel
theorem dX10_tellReally_109 : decode cX10_tellReally 109 = .ok (.iadd, 1) := by decide +kernel
theorem dX10_tellReally_110 : decode cX10_tellReally 110 = .ok (.dup2, 1) := by decide +kernel
theorem dX10_tellReally_111 : decode cX10_tellReally 111 = .ok (.iaload, 1) := by decide +kernel
theorem dX10_tellReally_112 : decode cX10_tellReally 112 = .ok (.iconst 1, 1) := by decide +kernel
theorem dX10_tellReally_113 : decode cX10_tellReally 113 = .ok (.iload_n 3, 1) := by decide +kernel
theorem dX10_tellReally_114 : decode cX10_tellReally 114 = .ok (.ishl, 1) := by decide +kernel
theorem dX10_tellReally_115 : decode cX10_tellReally 115 = .ok (.ior, 1) := by decide +kernel
theorem dX10_tellReally_116 : decode cX10_tellReally 116 = .ok (.iastore, 1) := by decide +kernel
theorem dX10_tellReally_117 : decode cX10_tellReally 117 = .ok (.return_, 1) := by decide +kernel
theorem dX10_emit_0 : decode cX10_emit 0 = .ok (.aload_n 0, 1) := by decide +kernel
theorem dX10_emit_1 : decode cX10_emit 1 = .ok (.getfield 104, 3) := by decide +kernel
theorem dX10_emit_4 : decode cX10_emit 4 = .ok (.aload_n 0, 1) := by decide +kernel
theorem dX10_emit_5 : decode cX10_emit 5 = .ok (.getfield 242, 3) := by decide +kernel
theorem dX10_emit_8 : decode cX10_emit 8 = .ok (.iload_n 1, 1) := by decide +kernel
theorem dX10_emit_9 : decode cX10_emit 9 = .ok (.iastore, 1) := by decide +kernel
theorem dX10_emit_10 : decode cX10_emit 10 = .ok (.aload_n 0, 1) := by decide +kernel
theorem dX10_emit_11 : decode cX10_emit 11 = .ok (.getfield 107, 3) := by decide +kernel
theorem dX10_emit_14 : decode cX10_emit 14 = .ok (.aload_n 0, 1) := by decide +kernel
theorem dX10_emit_15 : decode cX10_emit 15 = .ok (.getfield 242, 3) := by decide +kernel
theorem dX10_emit_18 : decode cX10_emit 18 = .ok (.iload_n 2, 1) := by decide +kernel
theorem dX10_emit_19 : decode cX10_emit 19 = .ok (.iastore, 1) := by decide +kernel
theorem dX10_emit_20 : decode cX10_emit 20 = .ok (.aload_n 0, 1) := by decide +kernel
theorem dX10_emit_21 : decode cX10_emit 21 = .ok (.dup, 1) := by decide +kernel
theorem dX10_emit_22 : decode cX10_emit 22 = .ok (.getfield 242, 3) := by decide +kernel
theorem dX10_emit_25 : decode cX10_emit 25 = .ok (.iconst 1, 1) := by decide +kernel
theorem dX10_emit_26 : decode cX10_emit 26 = .ok (.iadd, 1) := by decide +kernel
theorem dX10_emit_27 : decode cX10_emit 27 = .ok (.putfield 242, 3) := by decide +kernel
theorem dX10_emit_30 : decode cX10_emit 30 = .ok (.return_, 1) := by decide +kernel
theorem dX10_comesOut_0 : decode cX10_comesOut 0 = .ok (.aload_n 0, 1) := by decide +kernel
theorem dX10_comesOut_1 : decode cX10_comesOut 1 = .ok (.getfield 293, 3) := by decide +kernel
theorem dX10_comesOut_4 : decode cX10_comesOut 4 = .ok (.ifCond .le 87, 3) := by decide +kernel
theorem dX10_comesOut_7 : decode cX10_comesOut 7 = .ok (.aload_n 0, 1) := by decide +kernel
theorem dX10_comesOut_8 : decode cX10_comesOut 8 = .ok (.getfield 110, 3) := by decide +kernel
theorem dX10_comesOut_11 : decode cX10_comesOut 11 = .ok (.aload_n 0, 1) := by decide +kernel
theorem dX10_comesOut_12 : decode cX10_comesOut 12 = .ok (.getfield 293, 3) := by decide +kernel
theorem dX10_comesOut_15 : decode cX10_comesOut 15 = .ok (.iconst 1, 1) := by decide +kernel
theorem dX10_comesOut_16 : decode cX10_comesOut 16 = .ok (.isub, 1) := by decide +kernel
theorem dX10_comesOut_17 : decode cX10_comesOut 17 = .ok (.iaload, 1) := by decide +kernel
theorem dX10_comesOut_18 : decode cX10_comesOut 18 = .ok (.istore_n 2, 1) := by decide +kernel
theorem dX10_comesOut_19 : decode cX10_comesOut 19 = .ok (.iload_n 2, 1) := by decide +kernel
theorem dX10_comesOut_20 : decode cX10_comesOut 20 = .ok (.bipush 6, 2) := by decide +kernel
theorem dX10_comesOut_22 : decode cX10_comesOut 22 = .ok (.if_icmp .eq 19, 3) := by decide +kernel
theorem dX10_comesOut_25 : decode cX10_comesOut 25 = .ok (.iload_n 1, 1) := by decide +kernel
theorem dX10_comesOut_26 : decode cX10_comesOut 26 = .ok (.ifCond .eq 16, 3) := by decide +kernel
theorem dX10_comesOut_29 : decode cX10_comesOut 29 = .ok (.iload_n 2, 1) := by decide +kernel
theorem dX10_comesOut_30 : decode cX10_comesOut 30 = .ok (.bipush 8, 2) := by decide +kernel
theorem dX10_comesOut_32 : decode cX10_comesOut 32 = .ok (.if_icmp .eq 9, 3) := by decide +kernel
theorem dX10_comesOut_35 : decode cX10_comesOut 35 = .ok (.iload_n 2, 1) := by decide +kernel
theorem dX10_comesOut_36 : decode cX10_comesOut 36 = .ok (.bipush 9, 2) := by decide +kernel
theorem dX10_comesOut_38 : decode cX10_comesOut 38 = .ok (.if_icmp .ne 4, 3) := by decide +kernel
theorem dX10_comesOut_41 : decode cX10_comesOut 41 = .ok (.return_, 1) := by decide +kernel
theorem dX10_comesOut_42 : decode cX10_comesOut 42 = .ok (.aload_n 0, 1) := by decide +kernel
theorem dX10_comesOut_43 : decode cX10_comesOut 43 = .ok (.dup, 1) := by decide +kernel
theorem dX10_comesOut_44 : decode cX10_comesOut 44 = .ok (.getfield 293, 3) := by decide +kernel
theorem dX10_comesOut_47 : decode cX10_comesOut 47 = .ok (.iconst 1, 1) := by decide +kernel
theorem dX10_comesOut_48 : decode cX10_comesOut 48 = .ok (.isub, 1) := by decide +kernel
theorem dX10_comesOut_49 : decode cX10_comesOut 49 = .ok (.putfield 293, 3) := by decide +kernel
theorem dX10_comesOut_52 : decode cX10_comesOut 52 = .ok (.aload_n 0, 1) := by decide +kernel
theorem dX10_comesOut_53 : decode cX10_comesOut 53 = .ok (.iload_n 2, 1) := by decide +kernel
theorem dX10_comesOut_54 : decode cX10_comesOut 54 = .ok (.bipush 8, 2) := by decide +kernel
theorem dX10_comesOut_56 : decode cX10_comesOut 56 = .ok (.if_icmp .ne 7, 3) := by decide +kernel
theorem dX10_comesOut_59 : decode cX10_comesOut 59 = .ok (.iconst 2, 1) := by decide +kernel
theorem dX10_comesOut_60 : decode cX10_comesOut 60 = .ok (.goto 24, 3) := by decide +kernel
theorem dX10_comesOut_63 : decode cX10_comesOut 63 = .ok (.iload_n 2, 1) := by decide +kernel
theorem dX10_comesOut_64 : decode cX10_comesOut 64 = .ok (.bipush 9, 2) := by decide +kernel
theorem dX10_comesOut_66 : decode cX10_comesOut 66 = .ok (.if_icmp .ne 7, 3) := by decide +kernel
theorem dX10_comesOut_69 : decode cX10_comesOut 69 = .ok (.iconst 3, 1) := by decide +kernel
theorem dX10_comesOut_70 : decode cX10_comesOut 70 = .ok (.goto 14, 3) := by decide +kernel
theorem dX10_comesOut_73 : decode cX10_comesOut 73 = .ok (.iload_n 2, 1) := by decide +kernel
theorem dX10_comesOut_74 : decode cX10_comesOut 74 = .ok (.bipush 10, 2) := by decide +kernel
theorem dX10_comesOut_76 : decode cX10_comesOut 76 = .ok (.if_icmp .ne 7, 3) := by decide +kernel
theorem dX10_comesOut_79 : decode cX10_comesOut 79 = .ok (.iconst 4, 1) := by decide +kernel
theorem dX10_comesOut_80 : decode cX10_comesOut 80 = .ok (.goto 4, 3) := by decide +kernel
theorem dX10_comesOut_83 : decode cX10_comesOut 83 = .ok (.iconst 5, 1) := by decide +kernel
theorem dX10_comesOut_84 : decode cX10_comesOut 84 = .ok (.iconst 0, 1) := by decide +kernel
theorem dX10_comesOut_85 : decode cX10_comesOut 85 = .ok (.invokevirtual 296, 3) := by decide +kernel
theorem dX10_comesOut_88 : decode cX10_comesOut 88 = .ok (.goto (-88), 3) := by decide +kernel
theorem dX10_comesOut_91 : decode cX10_comesOut 91 = .ok (.return_, 1) := by decide +kernel
theorem dX10_unit_0 : decode cX10_unit 0 = .ok (.aload_n 0, 1) := by decide +kernel
theorem dX10_unit_1 : decode cX10_unit 1 = .ok (.iconst 2, 1) := by decide +kernel
theorem dX10_unit_2 : decode cX10_unit 2 = .ok (.invokevirtual 218, 3) := by decide +kernel
theorem dX10_unit_5 : decode cX10_unit 5 = .ok (.ifCond .eq 24, 3) := by decide +kernel
theorem dX10_unit_8 : decode cX10_unit 8 = .ok (.aload_n 0, 1) := by decide +kernel
theorem dX10_unit_9 : decode cX10_unit 9 = .ok (.iconst 0, 1) := by decide +kernel
theorem dX10_unit_10 : decode cX10_unit 10 = .ok (.aload_n 0, 1) := by decide +kernel
theorem dX10_unit_11 : decode cX10_unit 11 = .ok (.getfield 27, 3) := by decide +kernel
theorem dX10_unit_14 : decode cX10_unit 14 = .ok (.aload_n 0, 1) := by decide +kernel
theorem dX10_unit_15 : decode cX10_unit 15 = .ok (.getfield 203, 3) := by decide +kernel
theorem dX10_unit_18 : decode cX10_unit 18 = .ok (.iaload, 1) := by decide +kernel
theorem dX10_unit_19 : decode cX10_unit 19 = .ok (.invokevirtual 296, 3) := by decide +kernel
theorem dX10_unit_22 : decode cX10_unit 22 = .ok (.aload_n 0, 1) := by decide +kernel
theorem dX10_unit_23 : decode cX10_unit 23 = .ok (.invokevirtual 221, 3) := by decide +kernel
theorem dX10_unit_26 : decode cX10_unit 26 = .ok (.goto 67, 3) := by decide +kernel
theorem dX10_unit_29 : decode cX10_unit 29 = .ok (.aload_n 0, 1) := by decide +kernel
theorem dX10_unit_30 : decode cX10_unit 30 = .ok (.getfield 200, 3) := by decide +kernel
theorem dX10_unit_33 : decode cX10_unit 33 = .ok (.ifCond .ne 55, 3) := by decide +kernel
theorem dX10_unit_36 : decode cX10_unit 36 = .ok (.aload_n 0, 1) := by decide +kernel
theorem dX10_unit_37 : decode cX10_unit 37 = .ok (.getfield 20, 3) := by decide +kernel
theorem dX10_unit_40 : decode cX10_unit 40 = .ok (.aload_n 0, 1) := by decide +kernel
theorem dX10_unit_41 : decode cX10_unit 41 = .ok (.getfield 203, 3) := by decide +kernel
theorem dX10_unit_44 : decode cX10_unit 44 = .ok (.iaload, 1) := by decide +kernel
theorem dX10_unit_45 : decode cX10_unit 45 = .ok (.bipush 33, 2) := by decide +kernel
theorem dX10_unit_47 : decode cX10_unit 47 = .ok (.if_icmp .lt 41, 3) := by decide +kernel
theorem dX10_unit_50 : decode cX10_unit 50 = .ok (.aload_n 0, 1) := by decide +kernel
theorem dX10_unit_51 : decode cX10_unit 51 = .ok (.getfield 20, 3) := by decide +kernel
theorem dX10_unit_54 : decode cX10_unit 54 = .ok (.aload_n 0, 1) := by decide +kernel
theorem dX10_unit_55 : decode cX10_unit 55 = .ok (.getfield 203, 3) := by decide +kernel
theorem dX10_unit_58 : decode cX10_unit 58 = .ok (.iaload, 1) := by decide +kernel
theorem dX10_unit_59 : decode cX10_unit 59 = .ok (.bipush 41, 2) := by decide +kernel
theorem dX10_unit_61 : decode cX10_unit 61 = .ok (.if_icmp .gt 27, 3) := by decide +kernel
theorem dX10_unit_64 : decode cX10_unit 64 = .ok (.aload_n 0, 1) := by decide +kernel
theorem dX10_unit_65 : decode cX10_unit 65 = .ok (.iconst 1, 1) := by decide +kernel
theorem dX10_unit_66 : decode cX10_unit 66 = .ok (.aload_n 0, 1) := by decide +kernel
theorem dX10_unit_67 : decode cX10_unit 67 = .ok (.getfield 20, 3) := by decide +kernel
theorem dX10_unit_70 : decode cX10_unit 70 = .ok (.aload_n 0, 1) := by decide +kernel
theorem dX10_unit_71 : decode cX10_unit 71 = .ok (.getfield 203, 3) := by decide +kernel
theorem dX10_unit_74 : decode cX10_unit 74 = .ok (.iaload, 1) := by decide +kernel
theorem dX10_unit_75 : decode cX10_unit 75 = .ok (.bipush 33, 2) := by decide +kernel
theorem dX10_unit_77 : decode cX10_unit 77 = .ok (.isub, 1) := by decide +kernel
theorem dX10_unit_78 : decode cX10_unit 78 = .ok (.invokevirtual 296, 3) := by decide +kernel
theorem dX10_unit_81 : decode cX10_unit 81 = .ok (.aload_n 0, 1) := by decide +kernel
theorem dX10_unit_82 : decode cX10_unit 82 = .ok (.invokevirtual 221, 3) := by decide +kernel
theorem dX10_unit_85 : decode cX10_unit 85 = .ok (.goto 8, 3) := by decide +kernel
theorem dX10_unit_88 : decode cX10_unit 88 = .ok (.aload_n 0, 1) := by decide +kernel
theorem dX10_unit_89 : decode cX10_unit 89 = .ok (.iconst 1, 1) := by decide +kernel
theorem dX10_unit_90 : decode cX10_unit 90 = .ok (.invokevirtual 215, 3) := by decide +kernel
theorem dX10_unit_93 : decode cX10_unit 93 = .ok (.return_, 1) := by decide +kernel
set_option maxRecDepth 100000 in
set_option maxHeartbeats 4000000 in
theorem tX7_isDigit (G : gx) (fu : Nat) (v0 : Int32) (h : mh) : Ct lI G yX7_isDigit cX7_isDigit 1 (some .boolean) 1 [.int v0] h (fX7_isDigit fu v0 h) := by
  refine ct_ls (ls := [(0, .int v0)]) rfl (by decide) (Nat.le_of_ble_eq_true rfl) ?_
  unfold fX7_isDigit
  refine ev_step (st_iload_n (pc := 0) (j := 0) dX7_isDigit_0 rfl rfl) ?_
  refine ev_step (st_bipush (pc := 1) dX7_isDigit_1 nb_48) ?_
  refine ev_br (br_icmp_lt (tgt := 16) (pc := 3) dX7_isDigit_3 (by decide)) (fun _ => ?_) (fun _ => ?_)
  · refine ev_step (st_iconst (pc := 16) dX7_isDigit_16 ni_0) ?_
    exact ev_zret (pc := 17) dX7_isDigit_17
  · refine ev_step (st_iload_n (pc := 6) (j := 0) dX7_isDigit_6 rfl rfl) ?_
    refine ev_step (st_bipush (pc := 7) dX7_isDigit_7 nb_57) ?_
    refine ev_br (br_icmp_gt (tgt := 16) (pc := 9) dX7_isDigit_9 (by decide)) (fun _ => ?_) (fun _ => ?_)
    · refine ev_step (st_iconst (pc := 16) dX7_isDigit_16 ni_0) ?_
      exact ev_zret (pc := 17) dX7_isDigit_17
    · refine ev_step (st_iconst (pc := 12) dX7_isDigit_12 ni_1) ?_
      refine ev_step (st_goto (pc := 13) (tgt := 17) dX7_isDigit_13 (by decide)) ?_
      exact ev_zret (pc := 17) dX7_isDigit_17
set_option maxRecDepth 100000 in
set_option maxHeartbeats 4000000 in
theorem tX8_init (G : gx) (fu : Nat) (v0 : Nat) (h : mh) : Ct lV G yX8_init cX8_init 1 (none) 1 [.ref (gB G + v0)] h (fX8_init fu v0 h) := by
  refine ct_ls (ls := [(0, .ref (gB G + v0))]) rfl (by decide) (Nat.le_of_ble_eq_true rfl) ?_
  unfold fX8_init
  refine ev_step (st_aload_n (pc := 0) (j := 0) dX8_init_0 rfl rfl) ?_
  refine ev_step (st_objinit (pc := 1) o_X8_3 (by decide) (Nat.le_of_ble_eq_true rfl) dX8_init_1) ?_
  refine ev_step (st_aload_n (pc := 4) (j := 0) dX8_init_4 rfl rfl) ?_
  refine ev_step (st_bipush (pc := 5) dX8_init_5 nb_20) ?_
  refine ev_newa (pc := 7) (t := 3) (ty := .boolean) ac_boolean rfl (Or.inr (Or.inr (Or.inl rfl))) dX8_init_7 (fun a1 h2 => ?_)
  refine ev_putR (pc := 9) (p_X8_9 _ rfl rfl) (Or.inr ⟨_, rfl⟩) dX8_init_9 (fun h3 => ?_)
  refine ev_step (st_aload_n (pc := 12) (j := 0) dX8_init_12 rfl rfl) ?_
  refine ev_step (st_bipush (pc := 13) dX8_init_13 nb_20) ?_
  refine ev_newa (pc := 15) (t := 1) (ty := .int) ac_int rfl (Or.inl rfl) dX8_init_15 (fun a4 h5 => ?_)
  refine ev_putR (pc := 17) (p_X8_15 _ rfl rfl) (Or.inr ⟨_, rfl⟩) dX8_init_17 (fun h6 => ?_)
  refine ev_step (st_aload_n (pc := 20) (j := 0) dX8_init_20 rfl rfl) ?_
  refine ev_step (st_bipush (pc := 21) dX8_init_21 nb_20) ?_
  refine ev_newa (pc := 23) (t := 3) (ty := .boolean) ac_boolean rfl (Or.inr (Or.inr (Or.inl rfl))) dX8_init_23 (fun a7 h8 => ?_)
  refine ev_putR (pc := 25) (p_X8_19 _ rfl rfl) (Or.inr ⟨_, rfl⟩) dX8_init_25 (fun h9 => ?_)
  refine ev_step (st_aload_n (pc := 28) (j := 0) dX8_init_28 rfl rfl) ?_
  refine ev_step (st_iconst (pc := 29) dX8_init_29 ni_0) ?_
  refine ev_putI (pc := 30) (p_X8_22 _ rfl) rfl dX8_init_30 (fun h10 => ?_)
  exact ev_vret (pc := 33) dX8_init_33
set_option maxRecDepth 100000 in
set_option maxHeartbeats 4000000 in
theorem tX8_add (G : gx) (fu : Nat) (v0 : Nat) (v1 : Int32) (v2 : Int32) (v3 : Int32) (h : mh) : Ct lI G yX8_add cX8_add 4 (some .int) 1 [.ref (gB G + v0), .int v1, .int v2, .int v3] h (fX8_add fu v0 v1 v2 v3 h) := by
  refine ct_ls (ls := [(0, .ref (gB G + v0)), (1, .int v1), (2, .int v2), (3, .int v3)]) rfl (by decide) (Nat.le_of_ble_eq_true rfl) ?_
  unfold fX8_add
  refine ev_step (st_aload_n (pc := 0) (j := 0) dX8_add_0 rfl rfl) ?_
  refine ev_getI (pc := 1) k_X8_22 rfl dX8_add_1 (fun x1 => ?_)
  refine ev_step (st_bipush (pc := 4) dX8_add_4 nb_20) ?_
  refine ev_br (br_icmp_lt (tgt := 11) (pc := 6) dX8_add_6 (by decide)) (fun _ => ?_) (fun _ => ?_)
  · refine ev_step (st_aload_n (pc := 11) (j := 0) dX8_add_11 rfl rfl) ?_
    refine ev_getR (pc := 12) k_X8_9 rfl dX8_add_12 (fun a2 => ?_)
    refine ev_step (st_aload_n (pc := 15) (j := 0) dX8_add_15 rfl rfl) ?_
    refine ev_getI (pc := 16) k_X8_22 rfl dX8_add_16 (fun x3 => ?_)
    refine ev_step (st_iload_n (pc := 19) (j := 1) dX8_add_19 rfl rfl) ?_
    refine ev_stz (pc := 20) dX8_add_20 (fun h4 => ?_)
    refine ev_step (st_aload_n (pc := 21) (j := 0) dX8_add_21 rfl rfl) ?_
    refine ev_getR (pc := 22) k_X8_15 rfl dX8_add_22 (fun a5 => ?_)
    refine ev_step (st_aload_n (pc := 25) (j := 0) dX8_add_25 rfl rfl) ?_
    refine ev_getI (pc := 26) k_X8_22 rfl dX8_add_26 (fun x6 => ?_)
    refine ev_step (st_iload_n (pc := 29) (j := 2) dX8_add_29 rfl rfl) ?_
    refine ev_sti (pc := 30) dX8_add_30 (fun h7 => ?_)
    refine ev_step (st_aload_n (pc := 31) (j := 0) dX8_add_31 rfl rfl) ?_
    refine ev_getR (pc := 32) k_X8_19 rfl dX8_add_32 (fun a8 => ?_)
    refine ev_step (st_aload_n (pc := 35) (j := 0) dX8_add_35 rfl rfl) ?_
    refine ev_getI (pc := 36) k_X8_22 rfl dX8_add_36 (fun x9 => ?_)
    refine ev_step (st_iload_n (pc := 39) (j := 3) dX8_add_39 rfl rfl) ?_
    refine ev_stz (pc := 40) dX8_add_40 (fun h10 => ?_)
    refine ev_step (st_aload_n (pc := 41) (j := 0) dX8_add_41 rfl rfl) ?_
    refine ev_step (st_dup (pc := 42) dX8_add_42 rfl) ?_
    refine ev_getI (pc := 43) k_X8_22 rfl dX8_add_43 (fun x11 => ?_)
    refine ev_step (st_iconst (pc := 46) dX8_add_46 ni_1) ?_
    refine ev_step (st_iadd (pc := 47) dX8_add_47) ?_
    refine ev_putI (pc := 48) (p_X8_22 _ rfl) rfl dX8_add_48 (fun h12 => ?_)
    refine ev_step (st_aload_n (pc := 51) (j := 0) dX8_add_51 rfl rfl) ?_
    refine ev_getI (pc := 52) k_X8_22 rfl dX8_add_52 (fun x13 => ?_)
    refine ev_step (st_iconst (pc := 55) dX8_add_55 ni_1) ?_
    refine ev_step (st_isub (pc := 56) dX8_add_56) ?_
    exact ev_iret (pc := 57) dX8_add_57
  · refine ev_step (st_iconst (pc := 9) dX8_add_9 ni_m1) ?_
    exact ev_iret (pc := 10) dX8_add_10
set_option maxRecDepth 100000 in
set_option maxHeartbeats 4000000 in
theorem tX9_putOnTape_3 (G : gx) (fu : Nat) (h0 : mh) (v0 : Nat) (v1 : Int32) (n : Nat) (v2 : Int32) (h : mh) : Ev lV G yX9_putOnTape cX9_putOnTape 3 (none) 1 h0 3 [(0, .ref (gB G + v0)), (1, .int v1), (2, .int v2)] [] h (itr (bX9_putOnTape_3 fu v0 v1) n (v2, h)) := by
  refine ev_itr (P := fun (q : Int32 × mh) (R9 : Option (Unit × mh)) => Ev lV G yX9_putOnTape cX9_putOnTape 3 (none) 1 h0 3 [(0, .ref (gB G + v0)), (1, .int v1), (2, .int q.1)] [] q.2 R9) (fun _ => ev_none) (fun k3 hk9 q => ?_) n (v2, h)
  obtain ⟨v2, h⟩ := q
  have hk3 : ∀ (v2 : Int32) (h : mh), Ev lV G yX9_putOnTape cX9_putOnTape 3 (none) 1 h0 3 [(0, .ref (gB G + v0)), (1, .int v1), (2, .int v2)] [] h (k3 (v2, h)) := fun v2 h => hk9 (v2, h)
  show Ev lV G yX9_putOnTape cX9_putOnTape 3 (none) 1 h0 3 [(0, .ref (gB G + v0)), (1, .int v1), (2, .int v2)] [] h (bX9_putOnTape_3 fu v0 v1 k3 (v2, h))
  unfold bX9_putOnTape_3
  refine ev_step (st_iload_n (pc := 3) (j := 2) dX9_putOnTape_3 rfl rfl) ?_
  refine ev_br (br_if_lt (tgt := 46) (pc := 4) dX9_putOnTape_4 (by decide)) (fun _ => ?_) (fun _ => ?_)
  · exact ev_vret (pc := 46) dX9_putOnTape_46
  · refine ev_step (st_aload_n (pc := 7) (j := 0) dX9_putOnTape_7 rfl rfl) ?_
    refine ev_getI (pc := 8) k_X9_13 rfl dX9_putOnTape_8 (fun x1 => ?_)
    refine ev_step (st_sipush (pc := 11) dX9_putOnTape_11 ns_2000) ?_
    refine ev_br (br_icmp_ge (tgt := 46) (pc := 14) dX9_putOnTape_14 (by decide)) (fun _ => ?_) (fun _ => ?_)
    · exact ev_vret (pc := 46) dX9_putOnTape_46
    · refine ev_step (st_aload_n (pc := 17) (j := 0) dX9_putOnTape_17 rfl rfl) ?_
      refine ev_getR (pc := 18) k_X9_9 rfl dX9_putOnTape_18 (fun a2 => ?_)
      refine ev_step (st_aload_n (pc := 21) (j := 0) dX9_putOnTape_21 rfl rfl) ?_
      refine ev_getI (pc := 22) k_X9_13 rfl dX9_putOnTape_22 (fun x3 => ?_)
      refine ev_step (st_iload_n (pc := 25) (j := 1) dX9_putOnTape_25 rfl rfl) ?_
      refine ev_step (st_iload_n (pc := 26) (j := 2) dX9_putOnTape_26 rfl rfl) ?_
      refine ev_step (st_iushr (pc := 27) dX9_putOnTape_27) ?_
      refine ev_step (st_i2b (pc := 28) dX9_putOnTape_28) ?_
      refine ev_stb (pc := 29) dX9_putOnTape_29 (fun h4 => ?_)
      refine ev_step (st_aload_n (pc := 30) (j := 0) dX9_putOnTape_30 rfl rfl) ?_
      refine ev_step (st_dup (pc := 31) dX9_putOnTape_31 rfl) ?_
      refine ev_getI (pc := 32) k_X9_13 rfl dX9_putOnTape_32 (fun x5 => ?_)
      refine ev_step (st_iconst (pc := 35) dX9_putOnTape_35 ni_1) ?_
      refine ev_step (st_iadd (pc := 36) dX9_putOnTape_36) ?_
      refine ev_putI (pc := 37) (p_X9_13 _ rfl) rfl dX9_putOnTape_37 (fun h6 => ?_)
      refine ev_step (st_inc (pc := 40) (j := 2) (ls' := [(2, .int (v2 + (-8 : Int32))), (0, .ref (gB G + v0)), (1, .int v1)]) dX9_putOnTape_40 rfl ni_m8 (by decide) rfl) ?_
      refine ev_step (st_goto (pc := 43) (tgt := 3) dX9_putOnTape_43 (by decide)) ?_
      refine ev_sub (ls' := [(0, .ref (gB G + v0)), (1, .int v1), (2, .int (v2 + (-8 : Int32)))]) [1, 2, 0] rfl ?_
      exact hk3 (v2 + (-8 : Int32)) h6
set_option maxRecDepth 100000 in
set_option maxHeartbeats 4000000 in
theorem tX9_putOnTape (G : gx) (fu : Nat) (v0 : Nat) (v1 : Int32) (h : mh) : Ct lV G yX9_putOnTape cX9_putOnTape 3 (none) 1 [.ref (gB G + v0), .int v1] h (fX9_putOnTape fu v0 v1 h) := by
  refine ct_ls (ls := [(0, .ref (gB G + v0)), (1, .int v1)]) rfl (by decide) (Nat.le_of_ble_eq_true rfl) ?_
  unfold fX9_putOnTape
  refine ev_step (st_bipush (pc := 0) dX9_putOnTape_0 nb_24) ?_
  refine ev_step (st_istore_n (pc := 2) (ls' := [(2, .int ((24 : Int32))), (0, .ref (gB G + v0)), (1, .int v1)]) dX9_putOnTape_2 rfl (by decide) rfl) ?_
  refine ev_sub (ls' := [(0, .ref (gB G + v0)), (1, .int v1), (2, .int ((24 : Int32)))]) [1, 2, 0] rfl ?_
  exact tX9_putOnTape_3 G fu h v0 v1 fu ((24 : Int32)) h
set_option maxRecDepth 100000 in
set_option maxHeartbeats 4000000 in
theorem tX9_back (G : gx) (fu : Nat) (v0 : Nat) (v1 : Int32) (h : mh) : Ct lI G yX9_back cX9_back 2 (some .int) 1 [.ref (gB G + v0), .int v1] h (fX9_back fu v0 v1 h) := by
  refine ct_ls (ls := [(0, .ref (gB G + v0)), (1, .int v1)]) rfl (by decide) (Nat.le_of_ble_eq_true rfl) ?_
  unfold fX9_back
  refine ev_step (st_iload_n (pc := 0) (j := 1) dX9_back_0 rfl rfl) ?_
  refine ev_br (br_if_lt (tgt := 12) (pc := 1) dX9_back_1 (by decide)) (fun _ => ?_) (fun _ => ?_)
  · refine ev_step (st_iconst (pc := 12) dX9_back_12 ni_m1) ?_
    exact ev_iret (pc := 13) dX9_back_13
  · refine ev_step (st_iload_n (pc := 4) (j := 1) dX9_back_4 rfl rfl) ?_
    refine ev_step (st_aload_n (pc := 5) (j := 0) dX9_back_5 rfl rfl) ?_
    refine ev_getI (pc := 6) k_X9_13 rfl dX9_back_6 (fun x1 => ?_)
    refine ev_br (br_icmp_le (tgt := 14) (pc := 9) dX9_back_9 (by decide)) (fun _ => ?_) (fun _ => ?_)
    · refine ev_step (st_aload_n (pc := 14) (j := 0) dX9_back_14 rfl rfl) ?_
      refine ev_step (st_dup (pc := 15) dX9_back_15 rfl) ?_
      refine ev_getI (pc := 16) k_X9_13 rfl dX9_back_16 (fun x2 => ?_)
      refine ev_step (st_iload_n (pc := 19) (j := 1) dX9_back_19 rfl rfl) ?_
      refine ev_step (st_isub (pc := 20) dX9_back_20) ?_
      refine ev_putI (pc := 21) (p_X9_13 _ rfl) rfl dX9_back_21 (fun h3 => ?_)
      refine ev_step (st_aload_n (pc := 24) (j := 0) dX9_back_24 rfl rfl) ?_
      refine ev_getI (pc := 25) k_X9_13 rfl dX9_back_25 (fun x4 => ?_)
      exact ev_iret (pc := 28) dX9_back_28
    · refine ev_step (st_iconst (pc := 12) dX9_back_12 ni_m1) ?_
      exact ev_iret (pc := 13) dX9_back_13
set_option maxRecDepth 100000 in
set_option maxHeartbeats 4000000 in
theorem tX9_place (G : gx) (fu : Nat) (v0 : Nat) (h : mh) : Ct lI G yX9_place cX9_place 1 (some .int) 1 [.ref (gB G + v0)] h (fX9_place fu v0 h) := by
  refine ct_ls (ls := [(0, .ref (gB G + v0))]) rfl (by decide) (Nat.le_of_ble_eq_true rfl) ?_
  unfold fX9_place
  refine ev_step (st_aload_n (pc := 0) (j := 0) dX9_place_0 rfl rfl) ?_
  refine ev_getI (pc := 1) k_X9_17 rfl dX9_place_1 (fun x1 => ?_)
  exact ev_iret (pc := 4) dX9_place_4
set_option maxRecDepth 100000 in
set_option maxHeartbeats 4000000 in
theorem tX9_missing (G : gx) (fu : Nat) (v0 : Nat) (v1 : Int32) (h : mh) : Ct lI G yX9_missing cX9_missing 2 (some .int) 2 [.ref (gB G + v0), .int v1] h (fX9_missing fu v0 v1 h) := by
  refine ct_ls (ls := [(0, .ref (gB G + v0)), (1, .int v1)]) rfl (by decide) (Nat.le_of_ble_eq_true rfl) ?_
  unfold fX9_missing
  refine ev_step (st_aload_n (pc := 0) (j := 0) dX9_missing_0 rfl rfl) ?_
  refine ev_getR (pc := 1) k_X9_30 rfl dX9_missing_1 (fun a1 => ?_)
  refine ev_step (st_iload_n (pc := 4) (j := 1) dX9_missing_4 rfl rfl) ?_
  refine ev_ck (fun ha hS => ?_)
  refine ev_callI (iv_V (As := [.int v1]) (st := []) (pc := 5) rfl m_X6_hasListener l_X9_112 i_X6_hasListener e_X6_hasListener ha hS rfl (Nat.le_of_ble_eq_true rfl) rfl dX9_missing_5) (tX6_hasListener G fu a1 v1 h) (by decide) (by decide) (fun x3 h2 => ?_)
  refine ev_br (br_if_eq (tgt := 26) (pc := 8) dX9_missing_8 (by decide)) (fun _ => ?_) (fun _ => ?_)
  · refine ev_step (st_iconst (pc := 26) dX9_missing_26 ni_m1) ?_
    exact ev_iret (pc := 27) dX9_missing_27
  · refine ev_step (st_aload_n (pc := 11) (j := 0) dX9_missing_11 rfl rfl) ?_
    refine ev_getR (pc := 12) k_X9_30 rfl dX9_missing_12 (fun a4 => ?_)
    refine ev_step (st_aload_n (pc := 15) (j := 0) dX9_missing_15 rfl rfl) ?_
    refine ev_getR (pc := 16) k_X9_40 rfl dX9_missing_16 (fun a5 => ?_)
    refine ev_step (st_iload_n (pc := 19) (j := 1) dX9_missing_19 rfl rfl) ?_
    refine ev_ck (fun ha hS => ?_)
    refine ev_callI (iv_V (As := [.ref (gB G + a5), .int v1]) (st := []) (pc := 20) rfl m_X6_lackedBy l_X9_274 i_X6_lackedBy e_X6_lackedBy ha hS rfl (Nat.le_of_ble_eq_true rfl) rfl dX9_missing_20) (tX6_lackedBy G fu a4 a5 v1 h2) (by decide) (by decide) (fun x7 h6 => ?_)
    refine ev_step (st_goto (pc := 23) (tgt := 27) dX9_missing_23 (by decide)) ?_
    exact ev_iret (pc := 27) dX9_missing_27
set_option maxRecDepth 100000 in
set_option maxHeartbeats 4000000 in
theorem tX9_never (G : gx) (fu : Nat) (v0 : Nat) (v1 : Int32) (h : mh) : Ct lI G yX9_never cX9_never 2 (some .int) 2 [.ref (gB G + v0), .int v1] h (fX9_never fu v0 v1 h) := by
  refine ct_ls (ls := [(0, .ref (gB G + v0)), (1, .int v1)]) rfl (by decide) (Nat.le_of_ble_eq_true rfl) ?_
  unfold fX9_never
  refine ev_step (st_aload_n (pc := 0) (j := 0) dX9_never_0 rfl rfl) ?_
  refine ev_getR (pc := 1) k_X9_30 rfl dX9_never_1 (fun a1 => ?_)
  refine ev_step (st_iload_n (pc := 4) (j := 1) dX9_never_4 rfl rfl) ?_
  refine ev_ck (fun ha hS => ?_)
  refine ev_callI (iv_V (As := [.int v1]) (st := []) (pc := 5) rfl m_X6_hasListener l_X9_112 i_X6_hasListener e_X6_hasListener ha hS rfl (Nat.le_of_ble_eq_true rfl) rfl dX9_never_5) (tX6_hasListener G fu a1 v1 h) (by decide) (by decide) (fun x3 h2 => ?_)
  refine ev_br (br_if_ne (tgt := 13) (pc := 8) dX9_never_8 (by decide)) (fun _ => ?_) (fun _ => ?_)
  · refine ev_step (st_iconst (pc := 11) dX9_never_11 ni_m1) ?_
    exact ev_iret (pc := 12) dX9_never_12
  · refine ev_step (st_aload_n (pc := 13) (j := 0) dX9_never_13 rfl rfl) ?_
    refine ev_getR (pc := 14) k_X9_30 rfl dX9_never_14 (fun a4 => ?_)
    refine ev_step (st_aload_n (pc := 17) (j := 0) dX9_never_17 rfl rfl) ?_
    refine ev_getR (pc := 18) k_X9_40 rfl dX9_never_18 (fun a5 => ?_)
    refine ev_step (st_iload_n (pc := 21) (j := 1) dX9_never_21 rfl rfl) ?_
    refine ev_ck (fun ha hS => ?_)
    refine ev_callI (iv_V (As := [.ref (gB G + a5), .int v1]) (st := []) (pc := 22) rfl m_X6_lackedBy l_X9_274 i_X6_lackedBy e_X6_lackedBy ha hS rfl (Nat.le_of_ble_eq_true rfl) rfl dX9_never_22) (tX6_lackedBy G fu a4 a5 v1 h2) (by decide) (by decide) (fun x7 h6 => ?_)
    refine ev_step (st_aload_n (pc := 25) (j := 0) dX9_never_25 rfl rfl) ?_
    refine ev_getR (pc := 26) k_X9_30 rfl dX9_never_26 (fun a8 => ?_)
    refine ev_ck (fun ha hS => ?_)
    refine ev_callI (iv_V (As := []) (st := [.int x7]) (pc := 29) rfl m_X6_knownByRoles l_X9_280 i_X6_knownByRoles e_X6_knownByRoles ha hS rfl (Nat.le_of_ble_eq_true rfl) rfl dX9_never_29) (tX6_knownByRoles G fu a8 h6) (by decide) (by decide) (fun x10 h9 => ?_)
    refine ev_step (st_iconst (pc := 32) dX9_never_32 ni_m1) ?_
    refine ev_step (st_ixor (pc := 33) dX9_never_33) ?_
    refine ev_step (st_iand (pc := 34) dX9_never_34) ?_
    exact ev_iret (pc := 35) dX9_never_35
set_option maxRecDepth 100000 in
set_option maxHeartbeats 4000000 in
theorem tX9_unlike (G : gx) (fu : Nat) (v0 : Nat) (v1 : Int32) (v2 : Int32) (h : mh) : Ct lI G yX9_unlike cX9_unlike 3 (some .int) 2 [.ref (gB G + v0), .int v1, .int v2] h (fX9_unlike fu v0 v1 v2 h) := by
  refine ct_ls (ls := [(0, .ref (gB G + v0)), (1, .int v1), (2, .int v2)]) rfl (by decide) (Nat.le_of_ble_eq_true rfl) ?_
  unfold fX9_unlike
  refine ev_step (st_aload_n (pc := 0) (j := 0) dX9_unlike_0 rfl rfl) ?_
  refine ev_getR (pc := 1) k_X9_30 rfl dX9_unlike_1 (fun a1 => ?_)
  refine ev_step (st_iload_n (pc := 4) (j := 1) dX9_unlike_4 rfl rfl) ?_
  refine ev_ck (fun ha hS => ?_)
  refine ev_callI (iv_V (As := [.int v1]) (st := []) (pc := 5) rfl m_X6_hasRole l_X9_87 i_X6_hasRole e_X6_hasRole ha hS rfl (Nat.le_of_ble_eq_true rfl) rfl dX9_unlike_5) (tX6_hasRole G fu a1 v1 h) (by decide) (by decide) (fun x3 h2 => ?_)
  refine ev_br (br_if_eq (tgt := 27) (pc := 8) dX9_unlike_8 (by decide)) (fun _ => ?_) (fun _ => ?_)
  · refine ev_step (st_iconst (pc := 27) dX9_unlike_27 ni_m1) ?_
    exact ev_iret (pc := 28) dX9_unlike_28
  · refine ev_step (st_aload_n (pc := 11) (j := 0) dX9_unlike_11 rfl rfl) ?_
    refine ev_getR (pc := 12) k_X9_30 rfl dX9_unlike_12 (fun a4 => ?_)
    refine ev_step (st_iload_n (pc := 15) (j := 2) dX9_unlike_15 rfl rfl) ?_
    refine ev_ck (fun ha hS => ?_)
    refine ev_callI (iv_V (As := [.int v2]) (st := []) (pc := 16) rfl m_X6_hasRole l_X9_87 i_X6_hasRole e_X6_hasRole ha hS rfl (Nat.le_of_ble_eq_true rfl) rfl dX9_unlike_16) (tX6_hasRole G fu a4 v2 h2) (by decide) (by decide) (fun x6 h5 => ?_)
    refine ev_br (br_if_eq (tgt := 27) (pc := 19) dX9_unlike_19 (by decide)) (fun _ => ?_) (fun _ => ?_)
    · refine ev_step (st_iconst (pc := 27) dX9_unlike_27 ni_m1) ?_
      exact ev_iret (pc := 28) dX9_unlike_28
    · refine ev_step (st_iload_n (pc := 22) (j := 1) dX9_unlike_22 rfl rfl) ?_
      refine ev_step (st_iload_n (pc := 23) (j := 2) dX9_unlike_23 rfl rfl) ?_
      refine ev_br (br_icmp_ne (tgt := 29) (pc := 24) dX9_unlike_24 (by decide)) (fun _ => ?_) (fun _ => ?_)
      · refine ev_step (st_iconst (pc := 27) dX9_unlike_27 ni_m1) ?_
        exact ev_iret (pc := 28) dX9_unlike_28
      · refine ev_step (st_aload_n (pc := 29) (j := 0) dX9_unlike_29 rfl rfl) ?_
        refine ev_getR (pc := 30) k_X9_30 rfl dX9_unlike_30 (fun a7 => ?_)
        refine ev_getR (pc := 33) k_X9_91 rfl dX9_unlike_33 (fun a8 => ?_)
        refine ev_step (st_iload_n (pc := 36) (j := 1) dX9_unlike_36 rfl rfl) ?_
        refine ev_ldi (pc := 37) dX9_unlike_37 (fun x9 => ?_)
        refine ev_step (st_aload_n (pc := 38) (j := 0) dX9_unlike_38 rfl rfl) ?_
        refine ev_getR (pc := 39) k_X9_30 rfl dX9_unlike_39 (fun a10 => ?_)
        refine ev_getR (pc := 42) k_X9_91 rfl dX9_unlike_42 (fun a11 => ?_)
        refine ev_step (st_iload_n (pc := 45) (j := 2) dX9_unlike_45 rfl rfl) ?_
        refine ev_ldi (pc := 46) dX9_unlike_46 (fun x12 => ?_)
        refine ev_step (st_ixor (pc := 47) dX9_unlike_47) ?_
        exact ev_iret (pc := 48) dX9_unlike_48
set_option maxRecDepth 100000 in
set_option maxHeartbeats 4000000 in
theorem tX9_tellDone (G : gx) (fu : Nat) (v0 : Nat) (v1 : Int32) (v2 : Int32) (h : mh) : Ct lI G yX9_tellDone cX9_tellDone 3 (some .int) 2 [.ref (gB G + v0), .int v1, .int v2] h (fX9_tellDone fu v0 v1 v2 h) := by
  refine ct_ls (ls := [(0, .ref (gB G + v0)), (1, .int v1), (2, .int v2)]) rfl (by decide) (Nat.le_of_ble_eq_true rfl) ?_
  unfold fX9_tellDone
  refine ev_step (st_aload_n (pc := 0) (j := 0) dX9_tellDone_0 rfl rfl) ?_
  refine ev_getR (pc := 1) k_X9_30 rfl dX9_tellDone_1 (fun a1 => ?_)
  refine ev_step (st_iload_n (pc := 4) (j := 1) dX9_tellDone_4 rfl rfl) ?_
  refine ev_ck (fun ha hS => ?_)
  refine ev_callI (iv_V (As := [.int v1]) (st := []) (pc := 5) rfl m_X6_hasListener l_X9_112 i_X6_hasListener e_X6_hasListener ha hS rfl (Nat.le_of_ble_eq_true rfl) rfl dX9_tellDone_5) (tX6_hasListener G fu a1 v1 h) (by decide) (by decide) (fun x3 h2 => ?_)
  refine ev_br (br_if_eq (tgt := 24) (pc := 8) dX9_tellDone_8 (by decide)) (fun _ => ?_) (fun _ => ?_)
  · refine ev_step (st_iconst (pc := 24) dX9_tellDone_24 ni_m1) ?_
    exact ev_iret (pc := 25) dX9_tellDone_25
  · refine ev_step (st_aload_n (pc := 11) (j := 0) dX9_tellDone_11 rfl rfl) ?_
    refine ev_getR (pc := 12) k_X9_64 rfl dX9_tellDone_12 (fun a4 => ?_)
    refine ev_step (st_iconst (pc := 15) dX9_tellDone_15 ni_1) ?_
    refine ev_step (st_iload_n (pc := 16) (j := 1) dX9_tellDone_16 rfl rfl) ?_
    refine ev_step (st_iload_n (pc := 17) (j := 2) dX9_tellDone_17 rfl rfl) ?_
    refine ev_ck (fun ha hS => ?_)
    refine ev_callI (iv_V (As := [.int ((1 : Int32)), .int v1, .int v2]) (st := []) (pc := 18) rfl m_X8_add l_X9_292 i_X8_add e_X8_add ha hS rfl (Nat.le_of_ble_eq_true rfl) rfl dX9_tellDone_18) (tX8_add G fu a4 ((1 : Int32)) v1 v2 h2) (by decide) (by decide) (fun x6 h5 => ?_)
    refine ev_step (st_goto (pc := 21) (tgt := 25) dX9_tellDone_21 (by decide)) ?_
    exact ev_iret (pc := 25) dX9_tellDone_25
set_option maxRecDepth 100000 in
set_option maxHeartbeats 4000000 in
theorem tX9_forget (G : gx) (fu : Nat) (v0 : Nat) (h : mh) : Ct lI G yX9_forget cX9_forget 2 (some .int) 1 [.ref (gB G + v0)] h (fX9_forget fu v0 h) := by
  refine ct_ls (ls := [(0, .ref (gB G + v0))]) rfl (by decide) (Nat.le_of_ble_eq_true rfl) ?_
  unfold fX9_forget
  refine ev_step (st_aload_n (pc := 0) (j := 0) dX9_forget_0 rfl rfl) ?_
  refine ev_getR (pc := 1) k_X9_64 rfl dX9_forget_1 (fun a1 => ?_)
  refine ev_getI (pc := 4) k_X9_84 rfl dX9_forget_4 (fun x2 => ?_)
  refine ev_step (st_istore_n (pc := 7) (ls' := [(1, .int x2), (0, .ref (gB G + v0))]) dX9_forget_7 rfl (by decide) rfl) ?_
  refine ev_step (st_aload_n (pc := 8) (j := 1) dX9_forget_8 rfl rfl) ?_
  refine ev_getR (pc := 9) k_X9_64 rfl dX9_forget_9 (fun a3 => ?_)
  refine ev_step (st_iconst (pc := 12) dX9_forget_12 ni_0) ?_
  refine ev_putI (pc := 13) (p_X9_84 _ rfl) rfl dX9_forget_13 (fun h4 => ?_)
  refine ev_step (st_iload_n (pc := 16) (j := 0) dX9_forget_16 rfl rfl) ?_
  exact ev_iret (pc := 17) dX9_forget_17
set_option maxRecDepth 100000 in
set_option maxHeartbeats 4000000 in
theorem tX9_isFact (G : gx) (fu : Nat) (v0 : Int32) (h : mh) : Ct lI G yX9_isFact cX9_isFact 1 (some .boolean) 1 [.int v0] h (fX9_isFact fu v0 h) := by
  refine ct_ls (ls := [(0, .int v0)]) rfl (by decide) (Nat.le_of_ble_eq_true rfl) ?_
  unfold fX9_isFact
  refine ev_step (st_iload_n (pc := 0) (j := 0) dX9_isFact_0 rfl rfl) ?_
  refine ev_br (br_if_lt (tgt := 14) (pc := 1) dX9_isFact_1 (by decide)) (fun _ => ?_) (fun _ => ?_)
  · refine ev_step (st_iconst (pc := 14) dX9_isFact_14 ni_0) ?_
    exact ev_zret (pc := 15) dX9_isFact_15
  · refine ev_step (st_iload_n (pc := 4) (j := 0) dX9_isFact_4 rfl rfl) ?_
    refine ev_step (st_bipush (pc := 5) dX9_isFact_5 nb_8) ?_
    refine ev_br (br_icmp_ge (tgt := 14) (pc := 7) dX9_isFact_7 (by decide)) (fun _ => ?_) (fun _ => ?_)
    · refine ev_step (st_iconst (pc := 14) dX9_isFact_14 ni_0) ?_
      exact ev_zret (pc := 15) dX9_isFact_15
    · refine ev_step (st_iconst (pc := 10) dX9_isFact_10 ni_1) ?_
      refine ev_step (st_goto (pc := 11) (tgt := 15) dX9_isFact_11 (by decide)) ?_
      exact ev_zret (pc := 15) dX9_isFact_15
set_option maxRecDepth 100000 in
set_option maxHeartbeats 4000000 in
theorem tX9_isNumberOfEvenings (G : gx) (fu : Nat) (v0 : Int32) (h : mh) : Ct lI G yX9_isNumberOfEvenings cX9_isNumberOfEvenings 1 (some .boolean) 1 [.int v0] h (fX9_isNumberOfEvenings fu v0 h) := by
  refine ct_ls (ls := [(0, .int v0)]) rfl (by decide) (Nat.le_of_ble_eq_true rfl) ?_
  unfold fX9_isNumberOfEvenings
  refine ev_step (st_iload_n (pc := 0) (j := 0) dX9_isNumberOfEvenings_0 rfl rfl) ?_
  refine ev_br (br_if_lt (tgt := 14) (pc := 1) dX9_isNumberOfEvenings_1 (by decide)) (fun _ => ?_) (fun _ => ?_)
  · refine ev_step (st_iconst (pc := 14) dX9_isNumberOfEvenings_14 ni_0) ?_
    exact ev_zret (pc := 15) dX9_isNumberOfEvenings_15
  · refine ev_step (st_iload_n (pc := 4) (j := 0) dX9_isNumberOfEvenings_4 rfl rfl) ?_
    refine ev_step (st_bipush (pc := 5) dX9_isNumberOfEvenings_5 nb_30) ?_
    refine ev_br (br_icmp_gt (tgt := 14) (pc := 7) dX9_isNumberOfEvenings_7 (by decide)) (fun _ => ?_) (fun _ => ?_)
    · refine ev_step (st_iconst (pc := 14) dX9_isNumberOfEvenings_14 ni_0) ?_
      exact ev_zret (pc := 15) dX9_isNumberOfEvenings_15
    · refine ev_step (st_iconst (pc := 10) dX9_isNumberOfEvenings_10 ni_1) ?_
      refine ev_step (st_goto (pc := 11) (tgt := 15) dX9_isNumberOfEvenings_11 (by decide)) ?_
      exact ev_zret (pc := 15) dX9_isNumberOfEvenings_15
set_option maxRecDepth 100000 in
set_option maxHeartbeats 4000000 in
theorem tX9_holds (G : gx) (fu : Nat) (v0 : Int32) (v1 : Int32) (h : mh) : Ct lI G yX9_holds cX9_holds 2 (some .boolean) 1 [.int v0, .int v1] h (fX9_holds fu v0 v1 h) := by
  refine ct_ls (ls := [(0, .int v0), (1, .int v1)]) rfl (by decide) (Nat.le_of_ble_eq_true rfl) ?_
  unfold fX9_holds
  refine ev_step (st_iload_n (pc := 0) (j := 0) dX9_holds_0 rfl rfl) ?_
  refine ev_step (st_iload_n (pc := 1) (j := 1) dX9_holds_1 rfl rfl) ?_
  refine ev_step (st_iushr (pc := 2) dX9_holds_2) ?_
  refine ev_step (st_iconst (pc := 3) dX9_holds_3 ni_1) ?_
  refine ev_step (st_iand (pc := 4) dX9_holds_4) ?_
  refine ev_br (br_if_eq (tgt := 12) (pc := 5) dX9_holds_5 (by decide)) (fun _ => ?_) (fun _ => ?_)
  · refine ev_step (st_iconst (pc := 12) dX9_holds_12 ni_0) ?_
    exact ev_zret (pc := 13) dX9_holds_13
  · refine ev_step (st_iconst (pc := 8) dX9_holds_8 ni_1) ?_
    refine ev_step (st_goto (pc := 9) (tgt := 13) dX9_holds_9 (by decide)) ?_
    exact ev_zret (pc := 13) dX9_holds_13
set_option maxRecDepth 100000 in
set_option maxHeartbeats 4000000 in
theorem tX9_within (G : gx) (fu : Nat) (v0 : Int32) (v1 : Int32) (v2 : Int32) (h : mh) : Ct lI G yX9_within cX9_within 3 (some .int) 1 [.int v0, .int v1, .int v2] h (fX9_within fu v0 v1 v2 h) := by
  refine ct_ls (ls := [(0, .int v0), (1, .int v1), (2, .int v2)]) rfl (by decide) (Nat.le_of_ble_eq_true rfl) ?_
  unfold fX9_within
  refine ev_step (st_iload_n (pc := 0) (j := 1) dX9_within_0 rfl rfl) ?_
  refine ev_step (st_iload_n (pc := 1) (j := 2) dX9_within_1 rfl rfl) ?_
  refine ev_step (st_iload_n (pc := 2) (j := 0) dX9_within_2 rfl rfl) ?_
  refine ev_mmin (pc := 3) mm_X9_311 (by decide) (Nat.le_of_ble_eq_true rfl) dX9_within_3 ?_
  refine ev_mmax (pc := 6) mm_X9_306 (by decide) (Nat.le_of_ble_eq_true rfl) dX9_within_6 ?_
  exact ev_iret (pc := 9) dX9_within_9
set_option maxRecDepth 100000 in
set_option maxHeartbeats 4000000 in
theorem tX10_put_3 (G : gx) (fu : Nat) (h0 : mh) (v0 : Nat) (v1 : Int32) (n : Nat) (v2 : Int32) (h : mh) : Ev lV G yX10_put cX10_put 3 (none) 1 h0 3 [(0, .ref (gB G + v0)), (1, .int v1), (2, .int v2)] [] h (itr (bX10_put_3 fu v0 v1) n (v2, h)) := by
  refine ev_itr (P := fun (q : Int32 × mh) (R9 : Option (Unit × mh)) => Ev lV G yX10_put cX10_put 3 (none) 1 h0 3 [(0, .ref (gB G + v0)), (1, .int v1), (2, .int q.1)] [] q.2 R9) (fun _ => ev_none) (fun k3 hk9 q => ?_) n (v2, h)
  obtain ⟨v2, h⟩ := q
  have hk3 : ∀ (v2 : Int32) (h : mh), Ev lV G yX10_put cX10_put 3 (none) 1 h0 3 [(0, .ref (gB G + v0)), (1, .int v1), (2, .int v2)] [] h (k3 (v2, h)) := fun v2 h => hk9 (v2, h)
  show Ev lV G yX10_put cX10_put 3 (none) 1 h0 3 [(0, .ref (gB G + v0)), (1, .int v1), (2, .int v2)] [] h (bX10_put_3 fu v0 v1 k3 (v2, h))
  unfold bX10_put_3
  refine ev_step (st_iload_n (pc := 3) (j := 2) dX10_put_3 rfl rfl) ?_
  refine ev_br (br_if_lt (tgt := 36) (pc := 4) dX10_put_4 (by decide)) (fun _ => ?_) (fun _ => ?_)
  · exact ev_vret (pc := 36) dX10_put_36
  · refine ev_step (st_aload_n (pc := 7) (j := 0) dX10_put_7 rfl rfl) ?_
    refine ev_getR (pc := 8) k_X10_13 rfl dX10_put_8 (fun a1 => ?_)
    refine ev_step (st_aload_n (pc := 11) (j := 0) dX10_put_11 rfl rfl) ?_
    refine ev_getI (pc := 12) k_X10_167 rfl dX10_put_12 (fun x2 => ?_)
    refine ev_step (st_iload_n (pc := 15) (j := 1) dX10_put_15 rfl rfl) ?_
    refine ev_step (st_iload_n (pc := 16) (j := 2) dX10_put_16 rfl rfl) ?_
    refine ev_step (st_ishr (pc := 17) dX10_put_17) ?_
    refine ev_step (st_i2b (pc := 18) dX10_put_18) ?_
    refine ev_stb (pc := 19) dX10_put_19 (fun h3 => ?_)
    refine ev_step (st_aload_n (pc := 20) (j := 0) dX10_put_20 rfl rfl) ?_
    refine ev_step (st_dup (pc := 21) dX10_put_21 rfl) ?_
    refine ev_getI (pc := 22) k_X10_167 rfl dX10_put_22 (fun x4 => ?_)
    refine ev_step (st_iconst (pc := 25) dX10_put_25 ni_1) ?_
    refine ev_step (st_iadd (pc := 26) dX10_put_26) ?_
    refine ev_putI (pc := 27) (p_X10_167 _ rfl) rfl dX10_put_27 (fun h5 => ?_)
    refine ev_step (st_inc (pc := 30) (j := 2) (ls' := [(2, .int (v2 + (-8 : Int32))), (0, .ref (gB G + v0)), (1, .int v1)]) dX10_put_30 rfl ni_m8 (by decide) rfl) ?_
    refine ev_step (st_goto (pc := 33) (tgt := 3) dX10_put_33 (by decide)) ?_
    refine ev_sub (ls' := [(0, .ref (gB G + v0)), (1, .int v1), (2, .int (v2 + (-8 : Int32)))]) [1, 2, 0] rfl ?_
    exact hk3 (v2 + (-8 : Int32)) h5
set_option maxRecDepth 100000 in
set_option maxHeartbeats 4000000 in
theorem tX10_put (G : gx) (fu : Nat) (v0 : Nat) (v1 : Int32) (h : mh) : Ct lV G yX10_put cX10_put 3 (none) 1 [.ref (gB G + v0), .int v1] h (fX10_put fu v0 v1 h) := by
  refine ct_ls (ls := [(0, .ref (gB G + v0)), (1, .int v1)]) rfl (by decide) (Nat.le_of_ble_eq_true rfl) ?_
  unfold fX10_put
  refine ev_step (st_bipush (pc := 0) dX10_put_0 nb_24) ?_
  refine ev_step (st_istore_n (pc := 2) (ls' := [(2, .int ((24 : Int32))), (0, .ref (gB G + v0)), (1, .int v1)]) dX10_put_2 rfl (by decide) rfl) ?_
  refine ev_sub (ls' := [(0, .ref (gB G + v0)), (1, .int v1), (2, .int ((24 : Int32)))]) [1, 2, 0] rfl ?_
  exact tX10_put_3 G fu h v0 v1 fu ((24 : Int32)) h
set_option maxRecDepth 100000 in
set_option maxHeartbeats 4000000 in
theorem tX10_back (G : gx) (fu : Nat) (v0 : Nat) (v1 : Int32) (h : mh) : Ct lI G yX10_back cX10_back 2 (some .int) 1 [.ref (gB G + v0), .int v1] h (fX10_back fu v0 v1 h) := by
  refine ct_ls (ls := [(0, .ref (gB G + v0)), (1, .int v1)]) rfl (by decide) (Nat.le_of_ble_eq_true rfl) ?_
  unfold fX10_back
  refine ev_step (st_iload_n (pc := 0) (j := 1) dX10_back_0 rfl rfl) ?_
  refine ev_br (br_if_lt (tgt := 12) (pc := 1) dX10_back_1 (by decide)) (fun _ => ?_) (fun _ => ?_)
  · refine ev_step (st_iconst (pc := 12) dX10_back_12 ni_m1) ?_
    exact ev_iret (pc := 13) dX10_back_13
  · refine ev_step (st_iload_n (pc := 4) (j := 1) dX10_back_4 rfl rfl) ?_
    refine ev_step (st_aload_n (pc := 5) (j := 0) dX10_back_5 rfl rfl) ?_
    refine ev_getI (pc := 6) k_X10_167 rfl dX10_back_6 (fun x1 => ?_)
    refine ev_br (br_icmp_le (tgt := 14) (pc := 9) dX10_back_9 (by decide)) (fun _ => ?_) (fun _ => ?_)
    · refine ev_step (st_aload_n (pc := 14) (j := 0) dX10_back_14 rfl rfl) ?_
      refine ev_step (st_dup (pc := 15) dX10_back_15 rfl) ?_
      refine ev_getI (pc := 16) k_X10_167 rfl dX10_back_16 (fun x2 => ?_)
      refine ev_step (st_iload_n (pc := 19) (j := 1) dX10_back_19 rfl rfl) ?_
      refine ev_step (st_isub (pc := 20) dX10_back_20) ?_
      refine ev_putI (pc := 21) (p_X10_167 _ rfl) rfl dX10_back_21 (fun h3 => ?_)
      refine ev_step (st_aload_n (pc := 24) (j := 0) dX10_back_24 rfl rfl) ?_
      refine ev_getI (pc := 25) k_X10_167 rfl dX10_back_25 (fun x4 => ?_)
      exact ev_iret (pc := 28) dX10_back_28
    · refine ev_step (st_iconst (pc := 12) dX10_back_12 ni_m1) ?_
      exact ev_iret (pc := 13) dX10_back_13
set_option maxRecDepth 100000 in
set_option maxHeartbeats 4000000 in
theorem tX10_byteAt (G : gx) (fu : Nat) (v0 : Nat) (v1 : Int32) (h : mh) : Ct lI G yX10_byteAt cX10_byteAt 2 (some .int) 1 [.ref (gB G + v0), .int v1] h (fX10_byteAt fu v0 v1 h) := by
  refine ct_ls (ls := [(0, .ref (gB G + v0)), (1, .int v1)]) rfl (by decide) (Nat.le_of_ble_eq_true rfl) ?_
  unfold fX10_byteAt
  refine ev_step (st_iload_n (pc := 0) (j := 1) dX10_byteAt_0 rfl rfl) ?_
  refine ev_step (st_aload_n (pc := 1) (j := 0) dX10_byteAt_1 rfl rfl) ?_
  refine ev_getI (pc := 2) k_X10_173 rfl dX10_byteAt_2 (fun x1 => ?_)
  refine ev_br (br_icmp_ge (tgt := 21) (pc := 5) dX10_byteAt_5 (by decide)) (fun _ => ?_) (fun _ => ?_)
  · refine ev_step (st_iconst (pc := 21) dX10_byteAt_21 ni_0) ?_
    exact ev_iret (pc := 22) dX10_byteAt_22
  · refine ev_step (st_aload_n (pc := 8) (j := 0) dX10_byteAt_8 rfl rfl) ?_
    refine ev_getR (pc := 9) k_X10_17 rfl dX10_byteAt_9 (fun a2 => ?_)
    refine ev_step (st_iload_n (pc := 12) (j := 1) dX10_byteAt_12 rfl rfl) ?_
    refine ev_ldb (pc := 13) dX10_byteAt_13 (fun x3 => ?_)
    refine ev_step (st_sipush (pc := 14) dX10_byteAt_14 ns_255) ?_
    refine ev_step (st_iand (pc := 17) dX10_byteAt_17) ?_
    refine ev_step (st_goto (pc := 18) (tgt := 22) dX10_byteAt_18 (by decide)) ?_
    exact ev_iret (pc := 22) dX10_byteAt_22
set_option maxRecDepth 100000 in
set_option maxHeartbeats 4000000 in
theorem tX10_isDigit (G : gx) (fu : Nat) (v0 : Int32) (h : mh) : Ct lI G yX10_isDigit cX10_isDigit 1 (some .boolean) 1 [.int v0] h (fX10_isDigit fu v0 h) := by
  refine ct_ls (ls := [(0, .int v0)]) rfl (by decide) (Nat.le_of_ble_eq_true rfl) ?_
  unfold fX10_isDigit
  refine ev_step (st_iload_n (pc := 0) (j := 0) dX10_isDigit_0 rfl rfl) ?_
  refine ev_step (st_bipush (pc := 1) dX10_isDigit_1 nb_48) ?_
  refine ev_br (br_icmp_lt (tgt := 16) (pc := 3) dX10_isDigit_3 (by decide)) (fun _ => ?_) (fun _ => ?_)
  · refine ev_step (st_iconst (pc := 16) dX10_isDigit_16 ni_0) ?_
    exact ev_zret (pc := 17) dX10_isDigit_17
  · refine ev_step (st_iload_n (pc := 6) (j := 0) dX10_isDigit_6 rfl rfl) ?_
    refine ev_step (st_bipush (pc := 7) dX10_isDigit_7 nb_57) ?_
    refine ev_br (br_icmp_gt (tgt := 16) (pc := 9) dX10_isDigit_9 (by decide)) (fun _ => ?_) (fun _ => ?_)
    · refine ev_step (st_iconst (pc := 16) dX10_isDigit_16 ni_0) ?_
      exact ev_zret (pc := 17) dX10_isDigit_17
    · refine ev_step (st_iconst (pc := 12) dX10_isDigit_12 ni_1) ?_
      refine ev_step (st_goto (pc := 13) (tgt := 17) dX10_isDigit_13 (by decide)) ?_
      exact ev_zret (pc := 17) dX10_isDigit_17
set_option maxRecDepth 100000 in
set_option maxHeartbeats 4000000 in
theorem tX10_isLetter (G : gx) (fu : Nat) (v0 : Int32) (h : mh) : Ct lI G yX10_isLetter cX10_isLetter 1 (some .boolean) 1 [.int v0] h (fX10_isLetter fu v0 h) := by
  refine ct_ls (ls := [(0, .int v0)]) rfl (by decide) (Nat.le_of_ble_eq_true rfl) ?_
  unfold fX10_isLetter
  refine ev_step (st_iload_n (pc := 0) (j := 0) dX10_isLetter_0 rfl rfl) ?_
  refine ev_step (st_bipush (pc := 1) dX10_isLetter_1 nb_97) ?_
  refine ev_br (br_icmp_lt (tgt := 16) (pc := 3) dX10_isLetter_3 (by decide)) (fun _ => ?_) (fun _ => ?_)
  · refine ev_step (st_iconst (pc := 16) dX10_isLetter_16 ni_0) ?_
    exact ev_zret (pc := 17) dX10_isLetter_17
  · refine ev_step (st_iload_n (pc := 6) (j := 0) dX10_isLetter_6 rfl rfl) ?_
    refine ev_step (st_bipush (pc := 7) dX10_isLetter_7 nb_122) ?_
    refine ev_br (br_icmp_gt (tgt := 16) (pc := 9) dX10_isLetter_9 (by decide)) (fun _ => ?_) (fun _ => ?_)
    · refine ev_step (st_iconst (pc := 16) dX10_isLetter_16 ni_0) ?_
      exact ev_zret (pc := 17) dX10_isLetter_17
    · refine ev_step (st_iconst (pc := 12) dX10_isLetter_12 ni_1) ?_
      refine ev_step (st_goto (pc := 13) (tgt := 17) dX10_isLetter_13 (by decide)) ?_
      exact ev_zret (pc := 17) dX10_isLetter_17
set_option maxRecDepth 100000 in
set_option maxHeartbeats 4000000 in
theorem tX10_appends (G : gx) (fu : Nat) (v0 : Int64) (v2 : Int32) (h : mh) : Ct lL G yX10_appends cX10_appends 3 (some .long) 1 [.long v0, .int v2] h (fX10_appends fu v0 v2 h) := by
  refine ct_ls (ls := [(0, .long v0), (2, .int v2)]) rfl (by decide) (Nat.le_of_ble_eq_true rfl) ?_
  unfold fX10_appends
  refine ev_step (st_iload_n (pc := 0) (j := 1) dX10_appends_0 rfl rfl) ?_
  refine ev_br (br_if_ne (tgt := 8) (pc := 1) dX10_appends_1 (by decide)) (fun _ => ?_) (fun _ => ?_)
  · refine ev_step (st_lload_n (pc := 4) (j := 0) dX10_appends_4 rfl rfl) ?_
    refine ev_step (st_goto (pc := 5) (tgt := 21) dX10_appends_5 (by decide)) ?_
    exact ev_lret (pc := 21) dX10_appends_21
  · refine ev_step (st_ldc2 (pc := 8) dX10_appends_8 cc_X10_176) ?_
    refine ev_step (st_lload_n (pc := 11) (j := 0) dX10_appends_11 rfl rfl) ?_
    refine ev_step (st_lmul (pc := 12) dX10_appends_12) ?_
    refine ev_step (st_iload_n (pc := 13) (j := 1) dX10_appends_13 rfl rfl) ?_
    refine ev_step (st_bipush (pc := 14) dX10_appends_14 nb_97) ?_
    refine ev_step (st_isub (pc := 16) dX10_appends_16) ?_
    refine ev_step (st_iconst (pc := 17) dX10_appends_17 ni_1) ?_
    refine ev_step (st_iadd (pc := 18) dX10_appends_18) ?_
    refine ev_step (st_i2l (pc := 19) dX10_appends_19) ?_
    refine ev_step (st_ladd (pc := 20) dX10_appends_20) ?_
    exact ev_lret (pc := 21) dX10_appends_21
set_option maxRecDepth 100000 in
set_option maxHeartbeats 4000000 in
theorem tX10_word (G : gx) (fu : Nat) (v0 : Int32) (v1 : Int32) (v2 : Int32) (v3 : Int32) (v4 : Int32) (v5 : Int32) (v6 : Int32) (h : mh) : Ct lL G yX10_word cX10_word 7 (some .long) 2 [.int v0, .int v1, .int v2, .int v3, .int v4, .int v5, .int v6] h (fX10_word fu v0 v1 v2 v3 v4 v5 v6 h) := by
  refine ct_ls (ls := [(0, .int v0), (1, .int v1), (2, .int v2), (3, .int v3), (4, .int v4), (5, .int v5), (6, .int v6)]) rfl (by decide) (Nat.le_of_ble_eq_true rfl) ?_
  unfold fX10_word
  refine ev_step (st_lconst (pc := 0) (v := 0) dX10_word_0 rfl) ?_
  refine ev_step (st_iload_n (pc := 1) (j := 0) dX10_word_1 rfl rfl) ?_
  refine ev_callL (iv_S (As := [.long ((0 : Int64)), .int v0]) (st := []) (pc := 2) m_X10_appends l_X10_157 z_X10_appends rfl (Nat.le_of_ble_eq_true rfl) rfl dX10_word_2) (tX10_appends G fu ((0 : Int64)) v0 h) (by decide) (by decide) (fun x2 h1 => ?_)
  refine ev_step (st_iload_n (pc := 5) (j := 1) dX10_word_5 rfl rfl) ?_
  refine ev_callL (iv_S (As := [.long x2, .int v1]) (st := []) (pc := 6) m_X10_appends l_X10_157 z_X10_appends rfl (Nat.le_of_ble_eq_true rfl) rfl dX10_word_6) (tX10_appends G fu x2 v1 h1) (by decide) (by decide) (fun x4 h3 => ?_)
  refine ev_step (st_iload_n (pc := 9) (j := 2) dX10_word_9 rfl rfl) ?_
  refine ev_callL (iv_S (As := [.long x4, .int v2]) (st := []) (pc := 10) m_X10_appends l_X10_157 z_X10_appends rfl (Nat.le_of_ble_eq_true rfl) rfl dX10_word_10) (tX10_appends G fu x4 v2 h3) (by decide) (by decide) (fun x6 h5 => ?_)
  refine ev_step (st_iload_n (pc := 13) (j := 3) dX10_word_13 rfl rfl) ?_
  refine ev_callL (iv_S (As := [.long x6, .int v3]) (st := []) (pc := 14) m_X10_appends l_X10_157 z_X10_appends rfl (Nat.le_of_ble_eq_true rfl) rfl dX10_word_14) (tX10_appends G fu x6 v3 h5) (by decide) (by decide) (fun x8 h7 => ?_)
  refine ev_step (st_iload (pc := 17) (j := 4) dX10_word_17 rfl) ?_
  refine ev_callL (iv_S (As := [.long x8, .int v4]) (st := []) (pc := 19) m_X10_appends l_X10_157 z_X10_appends rfl (Nat.le_of_ble_eq_true rfl) rfl dX10_word_19) (tX10_appends G fu x8 v4 h7) (by decide) (by decide) (fun x10 h9 => ?_)
  refine ev_step (st_iload (pc := 22) (j := 5) dX10_word_22 rfl) ?_
  refine ev_callL (iv_S (As := [.long x10, .int v5]) (st := []) (pc := 24) m_X10_appends l_X10_157 z_X10_appends rfl (Nat.le_of_ble_eq_true rfl) rfl dX10_word_24) (tX10_appends G fu x10 v5 h9) (by decide) (by decide) (fun x12 h11 => ?_)
  refine ev_step (st_iload (pc := 27) (j := 6) dX10_word_27 rfl) ?_
  refine ev_callL (iv_S (As := [.long x12, .int v6]) (st := []) (pc := 29) m_X10_appends l_X10_157 z_X10_appends rfl (Nat.le_of_ble_eq_true rfl) rfl dX10_word_29) (tX10_appends G fu x12 v6 h11) (by decide) (by decide) (fun x14 h13 => ?_)
  exact ev_lret (pc := 32) dX10_word_32
set_option maxRecDepth 100000 in
set_option maxHeartbeats 4000000 in
theorem tX10_token (G : gx) (fu : Nat) (v0 : Nat) (v1 : Int32) (v2 : Int32) (v3 : Int32) (v4 : Int64) (h : mh) : Ct lV G yX10_token cX10_token 6 (none) 1 [.ref (gB G + v0), .int v1, .int v2, .int v3, .long v4] h (fX10_token fu v0 v1 v2 v3 v4 h) := by
  refine ct_ls (ls := [(0, .ref (gB G + v0)), (1, .int v1), (2, .int v2), (3, .int v3), (4, .long v4)]) rfl (by decide) (Nat.le_of_ble_eq_true rfl) ?_
  unfold fX10_token
  refine ev_step (st_aload_n (pc := 0) (j := 0) dX10_token_0 rfl rfl) ?_
  refine ev_getR (pc := 1) k_X10_20 rfl dX10_token_1 (fun a1 => ?_)
  refine ev_step (st_aload_n (pc := 4) (j := 0) dX10_token_4 rfl rfl) ?_
  refine ev_getI (pc := 5) k_X10_178 rfl dX10_token_5 (fun x2 => ?_)
  refine ev_step (st_iload_n (pc := 8) (j := 1) dX10_token_8 rfl rfl) ?_
  refine ev_sti (pc := 9) dX10_token_9 (fun h3 => ?_)
  refine ev_step (st_aload_n (pc := 10) (j := 0) dX10_token_10 rfl rfl) ?_
  refine ev_getR (pc := 11) k_X10_24 rfl dX10_token_11 (fun a4 => ?_)
  refine ev_step (st_aload_n (pc := 14) (j := 0) dX10_token_14 rfl rfl) ?_
  refine ev_getI (pc := 15) k_X10_178 rfl dX10_token_15 (fun x5 => ?_)
  refine ev_step (st_iload_n (pc := 18) (j := 2) dX10_token_18 rfl rfl) ?_
  refine ev_sti (pc := 19) dX10_token_19 (fun h6 => ?_)
  refine ev_step (st_aload_n (pc := 20) (j := 0) dX10_token_20 rfl rfl) ?_
  refine ev_getR (pc := 21) k_X10_27 rfl dX10_token_21 (fun a7 => ?_)
  refine ev_step (st_aload_n (pc := 24) (j := 0) dX10_token_24 rfl rfl) ?_
  refine ev_getI (pc := 25) k_X10_178 rfl dX10_token_25 (fun x8 => ?_)
  refine ev_step (st_iload_n (pc := 28) (j := 3) dX10_token_28 rfl rfl) ?_
  refine ev_sti (pc := 29) dX10_token_29 (fun h9 => ?_)
  refine ev_step (st_aload_n (pc := 30) (j := 0) dX10_token_30 rfl rfl) ?_
  refine ev_getR (pc := 31) k_X10_30 rfl dX10_token_31 (fun a10 => ?_)
  refine ev_step (st_aload_n (pc := 34) (j := 0) dX10_token_34 rfl rfl) ?_
  refine ev_getI (pc := 35) k_X10_178 rfl dX10_token_35 (fun x11 => ?_)
  refine ev_step (st_lload (pc := 38) (j := 4) dX10_token_38 rfl) ?_
  refine ev_stj (pc := 40) dX10_token_40 (fun h12 => ?_)
  refine ev_step (st_aload_n (pc := 41) (j := 0) dX10_token_41 rfl rfl) ?_
  refine ev_step (st_dup (pc := 42) dX10_token_42 rfl) ?_
  refine ev_getI (pc := 43) k_X10_178 rfl dX10_token_43 (fun x13 => ?_)
  refine ev_step (st_iconst (pc := 46) dX10_token_46 ni_1) ?_
  refine ev_step (st_iadd (pc := 47) dX10_token_47) ?_
  refine ev_putI (pc := 48) (p_X10_178 _ rfl) rfl dX10_token_48 (fun h14 => ?_)
  exact ev_vret (pc := 51) dX10_token_51
set_option maxRecDepth 100000 in
set_option maxHeartbeats 4000000 in
theorem tX10_sign_95 (G : gx) (fu : Nat) (h0 : mh) (v0 : Nat) (v1 : Int32) (v2 : Int32) (v3 : Int32) (v4 : Int32) (h : mh) : Ev lI G yX10_sign cX10_sign 5 (some .int) 2 h0 95 [(0, .ref (gB G + v0)), (1, .int v1), (2, .int v2), (3, .int v3), (4, .int v4)] [] h (fX10_sign_95 fu v0 v1 v2 v3 v4 h) := by
  unfold fX10_sign_95
  refine ev_step (st_aload_n (pc := 95) (j := 0) dX10_sign_95 rfl rfl) ?_
  refine ev_step (st_iload (pc := 96) (j := 4) dX10_sign_96 rfl) ?_
  refine ev_step (st_iload_n (pc := 98) (j := 1) dX10_sign_98 rfl rfl) ?_
  refine ev_step (st_iconst (pc := 99) dX10_sign_99 ni_0) ?_
  refine ev_step (st_lconst (pc := 100) (v := 0) dX10_sign_100 rfl) ?_
  refine ev_ck (fun ha hS => ?_)
  refine ev_callV (iv_V (As := [.int v4, .int v1, .int ((0 : Int32)), .long ((0 : Int64))]) (st := []) (pc := 101) rfl m_X10_token l_X10_185 i_X10_token e_X10_token ha hS rfl (Nat.le_of_ble_eq_true rfl) rfl dX10_sign_101) (tX10_token G fu v0 v4 v1 ((0 : Int32)) ((0 : Int64)) h) (by decide) (by decide) (fun h1 => ?_)
  refine ev_step (st_iconst (pc := 104) dX10_sign_104 ni_1) ?_
  exact ev_iret (pc := 105) dX10_sign_105
set_option maxRecDepth 100000 in
set_option maxHeartbeats 4000000 in
theorem tX10_sign_85 (G : gx) (fu : Nat) (h0 : mh) (v0 : Nat) (v1 : Int32) (v2 : Int32) (v3 : Int32) (v4 : Int32) (h : mh) : Ev lI G yX10_sign cX10_sign 5 (some .int) 2 h0 85 [(0, .ref (gB G + v0)), (1, .int v1), (2, .int v2), (3, .int v3), (4, .int v4)] [] h (fX10_sign_85 fu v0 v1 v2 v3 v4 h) := by
  unfold fX10_sign_85
  refine ev_step (st_iload_n (pc := 85) (j := 2) dX10_sign_85 rfl rfl) ?_
  refine ev_step (st_bipush (pc := 86) dX10_sign_86 nb_60) ?_
  refine ev_br (br_icmp_ne (tgt := 95) (pc := 88) dX10_sign_88 (by decide)) (fun _ => ?_) (fun _ => ?_)
  · refine ev_step (st_bipush (pc := 91) dX10_sign_91 nb_13) ?_
    refine ev_step (st_istore (pc := 93) (ls' := [(4, .int ((13 : Int32))), (0, .ref (gB G + v0)), (1, .int v1), (2, .int v2), (3, .int v3)]) dX10_sign_93 (by decide) rfl) ?_
    refine ev_sub (ls' := [(0, .ref (gB G + v0)), (1, .int v1), (2, .int v2), (3, .int v3), (4, .int ((13 : Int32)))]) [1, 2, 3, 4, 0] rfl ?_
    exact tX10_sign_95 G fu h0 v0 v1 v2 v3 ((13 : Int32)) h
  · refine ev_sub (ls' := [(0, .ref (gB G + v0)), (1, .int v1), (2, .int v2), (3, .int v3), (4, .int v4)]) [0, 1, 2, 3, 4] rfl ?_
    exact tX10_sign_95 G fu h0 v0 v1 v2 v3 v4 h
set_option maxRecDepth 100000 in
set_option maxHeartbeats 4000000 in
theorem tX10_sign_75 (G : gx) (fu : Nat) (h0 : mh) (v0 : Nat) (v1 : Int32) (v2 : Int32) (v3 : Int32) (v4 : Int32) (h : mh) : Ev lI G yX10_sign cX10_sign 5 (some .int) 2 h0 75 [(0, .ref (gB G + v0)), (1, .int v1), (2, .int v2), (3, .int v3), (4, .int v4)] [] h (fX10_sign_75 fu v0 v1 v2 v3 v4 h) := by
  unfold fX10_sign_75
  refine ev_step (st_iload_n (pc := 75) (j := 2) dX10_sign_75 rfl rfl) ?_
  refine ev_step (st_bipush (pc := 76) dX10_sign_76 nb_47) ?_
  refine ev_br (br_icmp_ne (tgt := 85) (pc := 78) dX10_sign_78 (by decide)) (fun _ => ?_) (fun _ => ?_)
  · refine ev_step (st_bipush (pc := 81) dX10_sign_81 nb_15) ?_
    refine ev_step (st_istore (pc := 83) (ls' := [(4, .int ((15 : Int32))), (0, .ref (gB G + v0)), (1, .int v1), (2, .int v2), (3, .int v3)]) dX10_sign_83 (by decide) rfl) ?_
    refine ev_sub (ls' := [(0, .ref (gB G + v0)), (1, .int v1), (2, .int v2), (3, .int v3), (4, .int ((15 : Int32)))]) [1, 2, 3, 4, 0] rfl ?_
    exact tX10_sign_85 G fu h0 v0 v1 v2 v3 ((15 : Int32)) h
  · refine ev_sub (ls' := [(0, .ref (gB G + v0)), (1, .int v1), (2, .int v2), (3, .int v3), (4, .int v4)]) [0, 1, 2, 3, 4] rfl ?_
    exact tX10_sign_85 G fu h0 v0 v1 v2 v3 v4 h
set_option maxRecDepth 100000 in
set_option maxHeartbeats 4000000 in
theorem tX10_sign_65 (G : gx) (fu : Nat) (h0 : mh) (v0 : Nat) (v1 : Int32) (v2 : Int32) (v3 : Int32) (v4 : Int32) (h : mh) : Ev lI G yX10_sign cX10_sign 5 (some .int) 2 h0 65 [(0, .ref (gB G + v0)), (1, .int v1), (2, .int v2), (3, .int v3), (4, .int v4)] [] h (fX10_sign_65 fu v0 v1 v2 v3 v4 h) := by
  unfold fX10_sign_65
  refine ev_step (st_iload_n (pc := 65) (j := 2) dX10_sign_65 rfl rfl) ?_
  refine ev_step (st_bipush (pc := 66) dX10_sign_66 nb_42) ?_
  refine ev_br (br_icmp_ne (tgt := 75) (pc := 68) dX10_sign_68 (by decide)) (fun _ => ?_) (fun _ => ?_)
  · refine ev_step (st_bipush (pc := 71) dX10_sign_71 nb_10) ?_
    refine ev_step (st_istore (pc := 73) (ls' := [(4, .int ((10 : Int32))), (0, .ref (gB G + v0)), (1, .int v1), (2, .int v2), (3, .int v3)]) dX10_sign_73 (by decide) rfl) ?_
    refine ev_sub (ls' := [(0, .ref (gB G + v0)), (1, .int v1), (2, .int v2), (3, .int v3), (4, .int ((10 : Int32)))]) [1, 2, 3, 4, 0] rfl ?_
    exact tX10_sign_75 G fu h0 v0 v1 v2 v3 ((10 : Int32)) h
  · refine ev_sub (ls' := [(0, .ref (gB G + v0)), (1, .int v1), (2, .int v2), (3, .int v3), (4, .int v4)]) [0, 1, 2, 3, 4] rfl ?_
    exact tX10_sign_75 G fu h0 v0 v1 v2 v3 v4 h
set_option maxRecDepth 100000 in
set_option maxHeartbeats 4000000 in
theorem tX10_sign_55 (G : gx) (fu : Nat) (h0 : mh) (v0 : Nat) (v1 : Int32) (v2 : Int32) (v3 : Int32) (v4 : Int32) (h : mh) : Ev lI G yX10_sign cX10_sign 5 (some .int) 2 h0 55 [(0, .ref (gB G + v0)), (1, .int v1), (2, .int v2), (3, .int v3), (4, .int v4)] [] h (fX10_sign_55 fu v0 v1 v2 v3 v4 h) := by
  unfold fX10_sign_55
  refine ev_step (st_iload_n (pc := 55) (j := 2) dX10_sign_55 rfl rfl) ?_
  refine ev_step (st_bipush (pc := 56) dX10_sign_56 nb_45) ?_
  refine ev_br (br_icmp_ne (tgt := 65) (pc := 58) dX10_sign_58 (by decide)) (fun _ => ?_) (fun _ => ?_)
  · refine ev_step (st_bipush (pc := 61) dX10_sign_61 nb_9) ?_
    refine ev_step (st_istore (pc := 63) (ls' := [(4, .int ((9 : Int32))), (0, .ref (gB G + v0)), (1, .int v1), (2, .int v2), (3, .int v3)]) dX10_sign_63 (by decide) rfl) ?_
    refine ev_sub (ls' := [(0, .ref (gB G + v0)), (1, .int v1), (2, .int v2), (3, .int v3), (4, .int ((9 : Int32)))]) [1, 2, 3, 4, 0] rfl ?_
    exact tX10_sign_65 G fu h0 v0 v1 v2 v3 ((9 : Int32)) h
  · refine ev_sub (ls' := [(0, .ref (gB G + v0)), (1, .int v1), (2, .int v2), (3, .int v3), (4, .int v4)]) [0, 1, 2, 3, 4] rfl ?_
    exact tX10_sign_65 G fu h0 v0 v1 v2 v3 v4 h
set_option maxRecDepth 100000 in
set_option maxHeartbeats 4000000 in
theorem tX10_sign_43 (G : gx) (fu : Nat) (h0 : mh) (v0 : Nat) (v1 : Int32) (v2 : Int32) (v3 : Int32) (s0 : Int32) (h : mh) : Ev lI G yX10_sign cX10_sign 5 (some .int) 2 h0 43 [(0, .ref (gB G + v0)), (1, .int v1), (2, .int v2), (3, .int v3)] [.int s0] h (fX10_sign_43 fu v0 v1 v2 v3 s0 h) := by
  unfold fX10_sign_43
  refine ev_step (st_istore (pc := 43) (ls' := [(4, .int s0), (0, .ref (gB G + v0)), (1, .int v1), (2, .int v2), (3, .int v3)]) dX10_sign_43 (by decide) rfl) ?_
  refine ev_step (st_iload_n (pc := 45) (j := 3) dX10_sign_45 rfl rfl) ?_
  refine ev_step (st_bipush (pc := 46) dX10_sign_46 nb_43) ?_
  refine ev_br (br_icmp_ne (tgt := 55) (pc := 48) dX10_sign_48 (by decide)) (fun _ => ?_) (fun _ => ?_)
  · refine ev_step (st_bipush (pc := 51) dX10_sign_51 nb_8) ?_
    refine ev_step (st_istore (pc := 53) (ls' := [(4, .int ((8 : Int32))), (0, .ref (gB G + v0)), (1, .int v1), (2, .int v2), (3, .int v3)]) dX10_sign_53 (by decide) rfl) ?_
    refine ev_sub (ls' := [(0, .ref (gB G + v0)), (1, .int v1), (2, .int v2), (3, .int v3), (4, .int ((8 : Int32)))]) [1, 2, 3, 4, 0] rfl ?_
    exact tX10_sign_55 G fu h0 v0 v1 v2 v3 ((8 : Int32)) h
  · refine ev_sub (ls' := [(0, .ref (gB G + v0)), (1, .int v1), (2, .int v2), (3, .int v3), (4, .int s0)]) [1, 2, 3, 4, 0] rfl ?_
    exact tX10_sign_55 G fu h0 v0 v1 v2 v3 s0 h
set_option maxRecDepth 100000 in
set_option maxHeartbeats 4000000 in
theorem tX10_sign (G : gx) (fu : Nat) (v0 : Nat) (v1 : Int32) (v2 : Int32) (v3 : Int32) (h : mh) : Ct lI G yX10_sign cX10_sign 5 (some .int) 2 [.ref (gB G + v0), .int v1, .int v2, .int v3] h (fX10_sign fu v0 v1 v2 v3 h) := by
  refine ct_ls (ls := [(0, .ref (gB G + v0)), (1, .int v1), (2, .int v2), (3, .int v3)]) rfl (by decide) (Nat.le_of_ble_eq_true rfl) ?_
  unfold fX10_sign
  refine ev_step (st_iload_n (pc := 0) (j := 2) dX10_sign_0 rfl rfl) ?_
  refine ev_step (st_bipush (pc := 1) dX10_sign_1 nb_59) ?_
  refine ev_br (br_icmp_ne (tgt := 10) (pc := 3) dX10_sign_3 (by decide)) (fun _ => ?_) (fun _ => ?_)
  · refine ev_step (st_iconst (pc := 6) dX10_sign_6 ni_4) ?_
    refine ev_step (st_goto (pc := 7) (tgt := 43) dX10_sign_7 (by decide)) ?_
    refine ev_sub (ls' := [(0, .ref (gB G + v0)), (1, .int v1), (2, .int v2), (3, .int v3)]) [0, 1, 2, 3] rfl ?_
    exact tX10_sign_43 G fu h v0 v1 v2 v3 ((4 : Int32)) h
  · refine ev_step (st_iload_n (pc := 10) (j := 2) dX10_sign_10 rfl rfl) ?_
    refine ev_step (st_bipush (pc := 11) dX10_sign_11 nb_61) ?_
    refine ev_br (br_icmp_ne (tgt := 20) (pc := 13) dX10_sign_13 (by decide)) (fun _ => ?_) (fun _ => ?_)
    · refine ev_step (st_iconst (pc := 16) dX10_sign_16 ni_5) ?_
      refine ev_step (st_goto (pc := 17) (tgt := 43) dX10_sign_17 (by decide)) ?_
      refine ev_sub (ls' := [(0, .ref (gB G + v0)), (1, .int v1), (2, .int v2), (3, .int v3)]) [0, 1, 2, 3] rfl ?_
      exact tX10_sign_43 G fu h v0 v1 v2 v3 ((5 : Int32)) h
    · refine ev_step (st_iload_n (pc := 20) (j := 2) dX10_sign_20 rfl rfl) ?_
      refine ev_step (st_bipush (pc := 21) dX10_sign_21 nb_40) ?_
      refine ev_br (br_icmp_ne (tgt := 31) (pc := 23) dX10_sign_23 (by decide)) (fun _ => ?_) (fun _ => ?_)
      · refine ev_step (st_bipush (pc := 26) dX10_sign_26 nb_6) ?_
        refine ev_step (st_goto (pc := 28) (tgt := 43) dX10_sign_28 (by decide)) ?_
        refine ev_sub (ls' := [(0, .ref (gB G + v0)), (1, .int v1), (2, .int v2), (3, .int v3)]) [0, 1, 2, 3] rfl ?_
        exact tX10_sign_43 G fu h v0 v1 v2 v3 ((6 : Int32)) h
      · refine ev_step (st_iload_n (pc := 31) (j := 2) dX10_sign_31 rfl rfl) ?_
        refine ev_step (st_bipush (pc := 32) dX10_sign_32 nb_41) ?_
        refine ev_br (br_icmp_ne (tgt := 42) (pc := 34) dX10_sign_34 (by decide)) (fun _ => ?_) (fun _ => ?_)
        · refine ev_step (st_bipush (pc := 37) dX10_sign_37 nb_7) ?_
          refine ev_step (st_goto (pc := 39) (tgt := 43) dX10_sign_39 (by decide)) ?_
          refine ev_sub (ls' := [(0, .ref (gB G + v0)), (1, .int v1), (2, .int v2), (3, .int v3)]) [0, 1, 2, 3] rfl ?_
          exact tX10_sign_43 G fu h v0 v1 v2 v3 ((7 : Int32)) h
        · refine ev_step (st_iconst (pc := 42) dX10_sign_42 ni_3) ?_
          refine ev_sub (ls' := [(0, .ref (gB G + v0)), (1, .int v1), (2, .int v2), (3, .int v3)]) [0, 1, 2, 3] rfl ?_
          exact tX10_sign_43 G fu h v0 v1 v2 v3 ((3 : Int32)) h
set_option maxRecDepth 100000 in
set_option maxHeartbeats 4000000 in
theorem tX10_is (G : gx) (fu : Nat) (v0 : Nat) (v1 : Int32) (h : mh) : Ct lI G yX10_is cX10_is 2 (some .boolean) 1 [.ref (gB G + v0), .int v1] h (fX10_is fu v0 v1 h) := by
  refine ct_ls (ls := [(0, .ref (gB G + v0)), (1, .int v1)]) rfl (by decide) (Nat.le_of_ble_eq_true rfl) ?_
  unfold fX10_is
  refine ev_step (st_aload_n (pc := 0) (j := 0) dX10_is_0 rfl rfl) ?_
  refine ev_getI (pc := 1) k_X10_200 rfl dX10_is_1 (fun x1 => ?_)
  refine ev_br (br_if_ne (tgt := 24) (pc := 4) dX10_is_4 (by decide)) (fun _ => ?_) (fun _ => ?_)
  · refine ev_step (st_aload_n (pc := 7) (j := 0) dX10_is_7 rfl rfl) ?_
    refine ev_getR (pc := 8) k_X10_20 rfl dX10_is_8 (fun a2 => ?_)
    refine ev_step (st_aload_n (pc := 11) (j := 0) dX10_is_11 rfl rfl) ?_
    refine ev_getI (pc := 12) k_X10_203 rfl dX10_is_12 (fun x3 => ?_)
    refine ev_ldi (pc := 15) dX10_is_15 (fun x4 => ?_)
    refine ev_step (st_iload_n (pc := 16) (j := 1) dX10_is_16 rfl rfl) ?_
    refine ev_br (br_icmp_ne (tgt := 24) (pc := 17) dX10_is_17 (by decide)) (fun _ => ?_) (fun _ => ?_)
    · refine ev_step (st_iconst (pc := 20) dX10_is_20 ni_1) ?_
      refine ev_step (st_goto (pc := 21) (tgt := 25) dX10_is_21 (by decide)) ?_
      exact ev_zret (pc := 25) dX10_is_25
    · refine ev_step (st_iconst (pc := 24) dX10_is_24 ni_0) ?_
      exact ev_zret (pc := 25) dX10_is_25
  · refine ev_step (st_iconst (pc := 24) dX10_is_24 ni_0) ?_
    exact ev_zret (pc := 25) dX10_is_25
set_option maxRecDepth 100000 in
set_option maxHeartbeats 4000000 in
theorem tX10_fail (G : gx) (fu : Nat) (v0 : Nat) (v1 : Int32) (h : mh) : Ct lV G yX10_fail cX10_fail 2 (none) 1 [.ref (gB G + v0), .int v1] h (fX10_fail fu v0 v1 h) := by
  refine ct_ls (ls := [(0, .ref (gB G + v0)), (1, .int v1)]) rfl (by decide) (Nat.le_of_ble_eq_true rfl) ?_
  unfold fX10_fail
  refine ev_step (st_aload_n (pc := 0) (j := 0) dX10_fail_0 rfl rfl) ?_
  refine ev_getI (pc := 1) k_X10_200 rfl dX10_fail_1 (fun x1 => ?_)
  refine ev_br (br_if_le (tgt := 8) (pc := 4) dX10_fail_4 (by decide)) (fun _ => ?_) (fun _ => ?_)
  · refine ev_step (st_aload_n (pc := 8) (j := 0) dX10_fail_8 rfl rfl) ?_
    refine ev_step (st_iload_n (pc := 9) (j := 1) dX10_fail_9 rfl rfl) ?_
    refine ev_putI (pc := 10) (p_X10_200 _ rfl) rfl dX10_fail_10 (fun h2 => ?_)
    refine ev_step (st_aload_n (pc := 13) (j := 0) dX10_fail_13 rfl rfl) ?_
    refine ev_step (st_aload_n (pc := 14) (j := 0) dX10_fail_14 rfl rfl) ?_
    refine ev_getR (pc := 15) k_X10_24 rfl dX10_fail_15 (fun a3 => ?_)
    refine ev_step (st_aload_n (pc := 18) (j := 0) dX10_fail_18 rfl rfl) ?_
    refine ev_getI (pc := 19) k_X10_203 rfl dX10_fail_19 (fun x4 => ?_)
    refine ev_ldi (pc := 22) dX10_fail_22 (fun x5 => ?_)
    refine ev_putI (pc := 23) (p_X10_206 _ rfl) rfl dX10_fail_23 (fun h6 => ?_)
    exact ev_vret (pc := 26) dX10_fail_26
  · exact ev_vret (pc := 7) dX10_fail_7
set_option maxRecDepth 100000 in
set_option maxHeartbeats 4000000 in
theorem tX10_wrong_46 (G : gx) (fu : Nat) (h0 : mh) (v0 : Nat) (v1 : Int32) (v2 : Int32) (v3 : Int32) (h : mh) : Ev lV G yX10_wrong cX10_wrong 4 (none) 1 h0 46 [(0, .ref (gB G + v0)), (1, .int v1), (2, .int v2), (3, .int v3)] [] h (fX10_wrong_46 fu v0 v1 v2 v3 h) := by
  unfold fX10_wrong_46
  refine ev_step (st_aload_n (pc := 46) (j := 0) dX10_wrong_46 rfl rfl) ?_
  refine ev_step (st_iload_n (pc := 47) (j := 1) dX10_wrong_47 rfl rfl) ?_
  refine ev_putI (pc := 48) (p_X10_209 _ rfl) rfl dX10_wrong_48 (fun h1 => ?_)
  refine ev_step (st_aload_n (pc := 51) (j := 0) dX10_wrong_51 rfl rfl) ?_
  refine ev_step (st_iload_n (pc := 52) (j := 3) dX10_wrong_52 rfl rfl) ?_
  refine ev_putI (pc := 53) (p_X10_212 _ rfl) rfl dX10_wrong_53 (fun h2 => ?_)
  exact ev_vret (pc := 56) dX10_wrong_56
set_option maxRecDepth 100000 in
set_option maxHeartbeats 4000000 in
theorem tX10_wrong (G : gx) (fu : Nat) (v0 : Nat) (v1 : Int32) (v2 : Int32) (h : mh) : Ct lV G yX10_wrong cX10_wrong 4 (none) 1 [.ref (gB G + v0), .int v1, .int v2] h (fX10_wrong fu v0 v1 v2 h) := by
  refine ct_ls (ls := [(0, .ref (gB G + v0)), (1, .int v1), (2, .int v2)]) rfl (by decide) (Nat.le_of_ble_eq_true rfl) ?_
  unfold fX10_wrong
  refine ev_step (st_aload_n (pc := 0) (j := 0) dX10_wrong_0 rfl rfl) ?_
  refine ev_getR (pc := 1) k_X10_24 rfl dX10_wrong_1 (fun a1 => ?_)
  refine ev_step (st_iload_n (pc := 4) (j := 2) dX10_wrong_4 rfl rfl) ?_
  refine ev_ldi (pc := 5) dX10_wrong_5 (fun x2 => ?_)
  refine ev_step (st_istore_n (pc := 6) (ls' := [(3, .int x2), (0, .ref (gB G + v0)), (1, .int v1), (2, .int v2)]) dX10_wrong_6 rfl (by decide) rfl) ?_
  refine ev_step (st_aload_n (pc := 7) (j := 1) dX10_wrong_7 rfl rfl) ?_
  refine ev_getI (pc := 8) k_X10_200 rfl dX10_wrong_8 (fun x3 => ?_)
  refine ev_br (br_if_gt (tgt := 45) (pc := 11) dX10_wrong_11 (by decide)) (fun _ => ?_) (fun _ => ?_)
  · exact ev_vret (pc := 45) dX10_wrong_45
  · refine ev_step (st_aload_n (pc := 14) (j := 1) dX10_wrong_14 rfl rfl) ?_
    refine ev_getI (pc := 15) k_X10_209 rfl dX10_wrong_15 (fun x4 => ?_)
    refine ev_br (br_if_eq (tgt := 46) (pc := 18) dX10_wrong_18 (by decide)) (fun _ => ?_) (fun _ => ?_)
    · refine ev_sub (ls' := [(0, .ref (gB G + v0)), (1, .int v1), (2, .int v2), (3, .int x2)]) [1, 2, 3, 0] rfl ?_
      exact tX10_wrong_46 G fu h v0 v1 v2 x2 h
    · refine ev_step (st_iload_n (pc := 21) (j := 0) dX10_wrong_21 rfl rfl) ?_
      refine ev_step (st_aload_n (pc := 22) (j := 1) dX10_wrong_22 rfl rfl) ?_
      refine ev_getI (pc := 23) k_X10_212 rfl dX10_wrong_23 (fun x5 => ?_)
      refine ev_br (br_icmp_gt (tgt := 45) (pc := 26) dX10_wrong_26 (by decide)) (fun _ => ?_) (fun _ => ?_)
      · exact ev_vret (pc := 45) dX10_wrong_45
      · refine ev_step (st_iload_n (pc := 29) (j := 0) dX10_wrong_29 rfl rfl) ?_
        refine ev_step (st_aload_n (pc := 30) (j := 1) dX10_wrong_30 rfl rfl) ?_
        refine ev_getI (pc := 31) k_X10_212 rfl dX10_wrong_31 (fun x6 => ?_)
        refine ev_br (br_icmp_ne (tgt := 46) (pc := 34) dX10_wrong_34 (by decide)) (fun _ => ?_) (fun _ => ?_)
        · refine ev_step (st_iload_n (pc := 37) (j := 2) dX10_wrong_37 rfl rfl) ?_
          refine ev_step (st_aload_n (pc := 38) (j := 1) dX10_wrong_38 rfl rfl) ?_
          refine ev_getI (pc := 39) k_X10_209 rfl dX10_wrong_39 (fun x7 => ?_)
          refine ev_br (br_icmp_lt (tgt := 46) (pc := 42) dX10_wrong_42 (by decide)) (fun _ => ?_) (fun _ => ?_)
          · refine ev_sub (ls' := [(0, .ref (gB G + v0)), (1, .int v1), (2, .int v2), (3, .int x2)]) [1, 2, 3, 0] rfl ?_
            exact tX10_wrong_46 G fu h v0 v1 v2 x2 h
          · exact ev_vret (pc := 45) dX10_wrong_45
        · refine ev_sub (ls' := [(0, .ref (gB G + v0)), (1, .int v1), (2, .int v2), (3, .int x2)]) [1, 2, 3, 0] rfl ?_
          exact tX10_wrong_46 G fu h v0 v1 v2 x2 h
set_option maxRecDepth 100000 in
set_option maxHeartbeats 4000000 in
theorem tX10_goesOn (G : gx) (fu : Nat) (v0 : Nat) (h : mh) : Ct lV G yX10_goesOn cX10_goesOn 1 (none) 2 [.ref (gB G + v0)] h (fX10_goesOn fu v0 h) := by
  refine ct_ls (ls := [(0, .ref (gB G + v0))]) rfl (by decide) (Nat.le_of_ble_eq_true rfl) ?_
  unfold fX10_goesOn
  refine ev_step (st_aload_n (pc := 0) (j := 0) dX10_goesOn_0 rfl rfl) ?_
  refine ev_getI (pc := 1) k_X10_203 rfl dX10_goesOn_1 (fun x1 => ?_)
  refine ev_step (st_sipush (pc := 4) dX10_goesOn_4 ns_400) ?_
  refine ev_br (br_icmp_ne (tgt := 18) (pc := 7) dX10_goesOn_7 (by decide)) (fun _ => ?_) (fun _ => ?_)
  · refine ev_step (st_aload_n (pc := 10) (j := 0) dX10_goesOn_10 rfl rfl) ?_
    refine ev_step (st_iconst (pc := 11) dX10_goesOn_11 ni_2) ?_
    refine ev_ck (fun ha hS => ?_)
    refine ev_callV (iv_V (As := [.int ((2 : Int32))]) (st := []) (pc := 12) rfl m_X10_fail l_X10_215 i_X10_fail e_X10_fail ha hS rfl (Nat.le_of_ble_eq_true rfl) rfl dX10_goesOn_12) (tX10_fail G fu v0 ((2 : Int32)) h) (by decide) (by decide) (fun h2 => ?_)
    refine ev_step (st_goto (pc := 15) (tgt := 28) dX10_goesOn_15 (by decide)) ?_
    exact ev_vret (pc := 28) dX10_goesOn_28
  · refine ev_step (st_aload_n (pc := 18) (j := 0) dX10_goesOn_18 rfl rfl) ?_
    refine ev_step (st_dup (pc := 19) dX10_goesOn_19 rfl) ?_
    refine ev_getI (pc := 20) k_X10_203 rfl dX10_goesOn_20 (fun x3 => ?_)
    refine ev_step (st_iconst (pc := 23) dX10_goesOn_23 ni_1) ?_
    refine ev_step (st_iadd (pc := 24) dX10_goesOn_24) ?_
    refine ev_putI (pc := 25) (p_X10_203 _ rfl) rfl dX10_goesOn_25 (fun h4 => ?_)
    exact ev_vret (pc := 28) dX10_goesOn_28
set_option maxRecDepth 100000 in
set_option maxHeartbeats 4000000 in
theorem tX10_must (G : gx) (fu : Nat) (v0 : Nat) (v1 : Int32) (h : mh) : Ct lV G yX10_must cX10_must 2 (none) 3 [.ref (gB G + v0), .int v1] h (fX10_must fu v0 v1 h) := by
  refine ct_ls (ls := [(0, .ref (gB G + v0)), (1, .int v1)]) rfl (by decide) (Nat.le_of_ble_eq_true rfl) ?_
  unfold fX10_must
  refine ev_step (st_aload_n (pc := 0) (j := 0) dX10_must_0 rfl rfl) ?_
  refine ev_step (st_iload_n (pc := 1) (j := 1) dX10_must_1 rfl rfl) ?_
  refine ev_ck (fun ha hS => ?_)
  refine ev_callI (iv_V (As := [.int v1]) (st := []) (pc := 2) rfl m_X10_is l_X10_218 i_X10_is e_X10_is ha hS rfl (Nat.le_of_ble_eq_true rfl) rfl dX10_must_2) (tX10_is G fu v0 v1 h) (by decide) (by decide) (fun x2 h1 => ?_)
  refine ev_br (br_if_eq (tgt := 15) (pc := 5) dX10_must_5 (by decide)) (fun _ => ?_) (fun _ => ?_)
  · refine ev_step (st_aload_n (pc := 15) (j := 0) dX10_must_15 rfl rfl) ?_
    refine ev_step (st_iconst (pc := 16) dX10_must_16 ni_1) ?_
    refine ev_ck (fun ha hS => ?_)
    refine ev_callV (iv_V (As := [.int ((1 : Int32))]) (st := []) (pc := 17) rfl m_X10_fail l_X10_215 i_X10_fail e_X10_fail ha hS rfl (Nat.le_of_ble_eq_true rfl) rfl dX10_must_17) (tX10_fail G fu v0 ((1 : Int32)) h1) (by decide) (by decide) (fun h3 => ?_)
    exact ev_vret (pc := 20) dX10_must_20
  · refine ev_step (st_aload_n (pc := 8) (j := 0) dX10_must_8 rfl rfl) ?_
    refine ev_ck (fun ha hS => ?_)
    refine ev_callV (iv_V (As := []) (st := []) (pc := 9) rfl m_X10_goesOn l_X10_221 i_X10_goesOn e_X10_goesOn ha hS rfl (Nat.le_of_ble_eq_true rfl) rfl dX10_must_9) (tX10_goesOn G fu v0 h1) (by decide) (by decide) (fun h4 => ?_)
    refine ev_step (st_goto (pc := 12) (tgt := 20) dX10_must_12 (by decide)) ?_
    exact ev_vret (pc := 20) dX10_must_20
set_option maxRecDepth 100000 in
set_option maxHeartbeats 4000000 in
theorem tX10_plain_70 (G : gx) (fu : Nat) (h0 : mh) (v0 : Nat) (v1 : Int32) (n : Nat) (v2 : Int32) (h : mh) : Ev lV G yX10_plain cX10_plain 3 (none) 1 h0 70 [(0, .ref (gB G + v0)), (1, .int v1), (2, .int v2)] [] h (itr (bX10_plain_70 fu v0 v1) n (v2, h)) := by
  refine ev_itr (P := fun (q : Int32 × mh) (R9 : Option (Unit × mh)) => Ev lV G yX10_plain cX10_plain 3 (none) 1 h0 70 [(0, .ref (gB G + v0)), (1, .int v1), (2, .int q.1)] [] q.2 R9) (fun _ => ev_none) (fun k70 hk9 q => ?_) n (v2, h)
  obtain ⟨v2, h⟩ := q
  have hk70 : ∀ (v2 : Int32) (h : mh), Ev lV G yX10_plain cX10_plain 3 (none) 1 h0 70 [(0, .ref (gB G + v0)), (1, .int v1), (2, .int v2)] [] h (k70 (v2, h)) := fun v2 h => hk9 (v2, h)
  show Ev lV G yX10_plain cX10_plain 3 (none) 1 h0 70 [(0, .ref (gB G + v0)), (1, .int v1), (2, .int v2)] [] h (bX10_plain_70 fu v0 v1 k70 (v2, h))
  unfold bX10_plain_70
  refine ev_step (st_iload_n (pc := 70) (j := 2) dX10_plain_70 rfl rfl) ?_
  refine ev_step (st_iconst (pc := 71) dX10_plain_71 ni_4) ?_
  refine ev_br (br_icmp_ge (tgt := 103) (pc := 72) dX10_plain_72 (by decide)) (fun _ => ?_) (fun _ => ?_)
  · exact ev_vret (pc := 103) dX10_plain_103
  · refine ev_step (st_aload_n (pc := 75) (j := 0) dX10_plain_75 rfl rfl) ?_
    refine ev_getR (pc := 76) k_X10_82 rfl dX10_plain_76 (fun a1 => ?_)
    refine ev_step (st_iconst (pc := 79) dX10_plain_79 ni_4) ?_
    refine ev_step (st_iload_n (pc := 80) (j := 1) dX10_plain_80 rfl rfl) ?_
    refine ev_step (st_imul (pc := 81) dX10_plain_81) ?_
    refine ev_step (st_iload_n (pc := 82) (j := 2) dX10_plain_82 rfl rfl) ?_
    refine ev_step (st_iadd (pc := 83) dX10_plain_83) ?_
    refine ev_step (st_iconst (pc := 84) dX10_plain_84 ni_0) ?_
    refine ev_sti (pc := 85) dX10_plain_85 (fun h2 => ?_)
    refine ev_step (st_aload_n (pc := 86) (j := 0) dX10_plain_86 rfl rfl) ?_
    refine ev_getR (pc := 87) k_X10_85 rfl dX10_plain_87 (fun a3 => ?_)
    refine ev_step (st_iconst (pc := 90) dX10_plain_90 ni_4) ?_
    refine ev_step (st_iload_n (pc := 91) (j := 1) dX10_plain_91 rfl rfl) ?_
    refine ev_step (st_imul (pc := 92) dX10_plain_92) ?_
    refine ev_step (st_iload_n (pc := 93) (j := 2) dX10_plain_93 rfl rfl) ?_
    refine ev_step (st_iadd (pc := 94) dX10_plain_94) ?_
    refine ev_step (st_iconst (pc := 95) dX10_plain_95 ni_0) ?_
    refine ev_sti (pc := 96) dX10_plain_96 (fun h4 => ?_)
    refine ev_step (st_inc (pc := 97) (j := 2) (ls' := [(2, .int (v2 + (1 : Int32))), (0, .ref (gB G + v0)), (1, .int v1)]) dX10_plain_97 rfl ni_1 (by decide) rfl) ?_
    refine ev_step (st_goto (pc := 100) (tgt := 70) dX10_plain_100 (by decide)) ?_
    refine ev_sub (ls' := [(0, .ref (gB G + v0)), (1, .int v1), (2, .int (v2 + (1 : Int32)))]) [1, 2, 0] rfl ?_
    exact hk70 (v2 + (1 : Int32)) h4
set_option maxRecDepth 100000 in
set_option maxHeartbeats 4000000 in
theorem tX10_plain_68 (G : gx) (fu : Nat) (h0 : mh) (v0 : Nat) (v1 : Int32) (v2 : Int32) (h : mh) : Ev lV G yX10_plain cX10_plain 3 (none) 1 h0 68 [(0, .ref (gB G + v0)), (1, .int v1), (2, .int v2)] [] h (fX10_plain_68 fu v0 v1 v2 h) := by
  unfold fX10_plain_68
  refine ev_step (st_iconst (pc := 68) dX10_plain_68 ni_0) ?_
  refine ev_step (st_istore_n (pc := 69) (ls' := [(2, .int ((0 : Int32))), (0, .ref (gB G + v0)), (1, .int v1)]) dX10_plain_69 rfl (by decide) rfl) ?_
  refine ev_sub (ls' := [(0, .ref (gB G + v0)), (1, .int v1), (2, .int ((0 : Int32)))]) [1, 2, 0] rfl ?_
  exact tX10_plain_70 G fu h0 v0 v1 fu ((0 : Int32)) h
set_option maxRecDepth 100000 in
set_option maxHeartbeats 4000000 in
theorem tX10_plain_44 (G : gx) (fu : Nat) (h0 : mh) (v0 : Nat) (v1 : Int32) (n : Nat) (v2 : Int32) (h : mh) : Ev lV G yX10_plain cX10_plain 3 (none) 1 h0 44 [(0, .ref (gB G + v0)), (1, .int v1), (2, .int v2)] [] h (itr (bX10_plain_44 fu v0 v1) n (v2, h)) := by
  refine ev_itr (P := fun (q : Int32 × mh) (R9 : Option (Unit × mh)) => Ev lV G yX10_plain cX10_plain 3 (none) 1 h0 44 [(0, .ref (gB G + v0)), (1, .int v1), (2, .int q.1)] [] q.2 R9) (fun _ => ev_none) (fun k44 hk9 q => ?_) n (v2, h)
  obtain ⟨v2, h⟩ := q
  have hk44 : ∀ (v2 : Int32) (h : mh), Ev lV G yX10_plain cX10_plain 3 (none) 1 h0 44 [(0, .ref (gB G + v0)), (1, .int v1), (2, .int v2)] [] h (k44 (v2, h)) := fun v2 h => hk9 (v2, h)
  show Ev lV G yX10_plain cX10_plain 3 (none) 1 h0 44 [(0, .ref (gB G + v0)), (1, .int v1), (2, .int v2)] [] h (bX10_plain_44 fu v0 v1 k44 (v2, h))
  unfold bX10_plain_44
  refine ev_step (st_iload_n (pc := 44) (j := 2) dX10_plain_44 rfl rfl) ?_
  refine ev_step (st_bipush (pc := 45) dX10_plain_45 nb_6) ?_
  refine ev_br (br_icmp_ge (tgt := 68) (pc := 47) dX10_plain_47 (by decide)) (fun _ => ?_) (fun _ => ?_)
  · refine ev_sub (ls' := [(0, .ref (gB G + v0)), (1, .int v1), (2, .int v2)]) [0, 1, 2] rfl ?_
    exact tX10_plain_68 G fu h0 v0 v1 v2 h
  · refine ev_step (st_aload_n (pc := 50) (j := 0) dX10_plain_50 rfl rfl) ?_
    refine ev_getR (pc := 51) k_X10_67 rfl dX10_plain_51 (fun a1 => ?_)
    refine ev_step (st_bipush (pc := 54) dX10_plain_54 nb_6) ?_
    refine ev_step (st_iload_n (pc := 56) (j := 1) dX10_plain_56 rfl rfl) ?_
    refine ev_step (st_imul (pc := 57) dX10_plain_57) ?_
    refine ev_step (st_iload_n (pc := 58) (j := 2) dX10_plain_58 rfl rfl) ?_
    refine ev_step (st_iadd (pc := 59) dX10_plain_59) ?_
    refine ev_step (st_iconst (pc := 60) dX10_plain_60 ni_0) ?_
    refine ev_sti (pc := 61) dX10_plain_61 (fun h2 => ?_)
    refine ev_step (st_inc (pc := 62) (j := 2) (ls' := [(2, .int (v2 + (1 : Int32))), (0, .ref (gB G + v0)), (1, .int v1)]) dX10_plain_62 rfl ni_1 (by decide) rfl) ?_
    refine ev_step (st_goto (pc := 65) (tgt := 44) dX10_plain_65 (by decide)) ?_
    refine ev_sub (ls' := [(0, .ref (gB G + v0)), (1, .int v1), (2, .int (v2 + (1 : Int32)))]) [1, 2, 0] rfl ?_
    exact hk44 (v2 + (1 : Int32)) h2
set_option maxRecDepth 100000 in
set_option maxHeartbeats 4000000 in
theorem tX10_plain (G : gx) (fu : Nat) (v0 : Nat) (v1 : Int32) (h : mh) : Ct lV G yX10_plain cX10_plain 3 (none) 1 [.ref (gB G + v0), .int v1] h (fX10_plain fu v0 v1 h) := by
  refine ct_ls (ls := [(0, .ref (gB G + v0)), (1, .int v1)]) rfl (by decide) (Nat.le_of_ble_eq_true rfl) ?_
  unfold fX10_plain
  refine ev_step (st_aload_n (pc := 0) (j := 0) dX10_plain_0 rfl rfl) ?_
  refine ev_getR (pc := 1) k_X10_46 rfl dX10_plain_1 (fun a1 => ?_)
  refine ev_step (st_iload_n (pc := 4) (j := 1) dX10_plain_4 rfl rfl) ?_
  refine ev_step (st_iconst (pc := 5) dX10_plain_5 ni_0) ?_
  refine ev_sti (pc := 6) dX10_plain_6 (fun h2 => ?_)
  refine ev_step (st_aload_n (pc := 7) (j := 0) dX10_plain_7 rfl rfl) ?_
  refine ev_getR (pc := 8) k_X10_55 rfl dX10_plain_8 (fun a3 => ?_)
  refine ev_step (st_iload_n (pc := 11) (j := 1) dX10_plain_11 rfl rfl) ?_
  refine ev_step (st_iconst (pc := 12) dX10_plain_12 ni_0) ?_
  refine ev_sti (pc := 13) dX10_plain_13 (fun h4 => ?_)
  refine ev_step (st_aload_n (pc := 14) (j := 0) dX10_plain_14 rfl rfl) ?_
  refine ev_getR (pc := 15) k_X10_70 rfl dX10_plain_15 (fun a5 => ?_)
  refine ev_step (st_iload_n (pc := 18) (j := 1) dX10_plain_18 rfl rfl) ?_
  refine ev_step (st_iconst (pc := 19) dX10_plain_19 ni_0) ?_
  refine ev_sti (pc := 20) dX10_plain_20 (fun h6 => ?_)
  refine ev_step (st_aload_n (pc := 21) (j := 0) dX10_plain_21 rfl rfl) ?_
  refine ev_getR (pc := 22) k_X10_73 rfl dX10_plain_22 (fun a7 => ?_)
  refine ev_step (st_iload_n (pc := 25) (j := 1) dX10_plain_25 rfl rfl) ?_
  refine ev_step (st_iconst (pc := 26) dX10_plain_26 ni_0) ?_
  refine ev_sti (pc := 27) dX10_plain_27 (fun h8 => ?_)
  refine ev_step (st_aload_n (pc := 28) (j := 0) dX10_plain_28 rfl rfl) ?_
  refine ev_getR (pc := 29) k_X10_76 rfl dX10_plain_29 (fun a9 => ?_)
  refine ev_step (st_iload_n (pc := 32) (j := 1) dX10_plain_32 rfl rfl) ?_
  refine ev_step (st_iconst (pc := 33) dX10_plain_33 ni_3) ?_
  refine ev_sti (pc := 34) dX10_plain_34 (fun h10 => ?_)
  refine ev_step (st_aload_n (pc := 35) (j := 0) dX10_plain_35 rfl rfl) ?_
  refine ev_getR (pc := 36) k_X10_79 rfl dX10_plain_36 (fun a11 => ?_)
  refine ev_step (st_iload_n (pc := 39) (j := 1) dX10_plain_39 rfl rfl) ?_
  refine ev_step (st_iconst (pc := 40) dX10_plain_40 ni_0) ?_
  refine ev_sti (pc := 41) dX10_plain_41 (fun h12 => ?_)
  refine ev_step (st_iconst (pc := 42) dX10_plain_42 ni_0) ?_
  refine ev_step (st_istore_n (pc := 43) (ls' := [(2, .int ((0 : Int32))), (0, .ref (gB G + v0)), (1, .int v1)]) dX10_plain_43 rfl (by decide) rfl) ?_
  refine ev_sub (ls' := [(0, .ref (gB G + v0)), (1, .int v1), (2, .int ((0 : Int32)))]) [1, 2, 0] rfl ?_
  exact tX10_plain_44 G fu h v0 v1 fu ((0 : Int32)) h12
set_option maxRecDepth 100000 in
set_option maxHeartbeats 4000000 in
theorem tX10_place (G : gx) (fu : Nat) (v0 : Nat) (h : mh) : Ct lI G yX10_place cX10_place 1 (some .int) 1 [.ref (gB G + v0)] h (fX10_place fu v0 h) := by
  refine ct_ls (ls := [(0, .ref (gB G + v0))]) rfl (by decide) (Nat.le_of_ble_eq_true rfl) ?_
  unfold fX10_place
  refine ev_step (st_aload_n (pc := 0) (j := 0) dX10_place_0 rfl rfl) ?_
  refine ev_getI (pc := 1) k_X10_37 rfl dX10_place_1 (fun x1 => ?_)
  exact ev_iret (pc := 4) dX10_place_4
set_option maxRecDepth 100000 in
set_option maxHeartbeats 4000000 in
theorem tX10_roomFor_10 (G : gx) (fu : Nat) (h0 : mh) (v0 : Nat) (v1 : Int32) (v2 : Int32) (h : mh) : Ev lV G yX10_roomFor cX10_roomFor 3 (none) 3 h0 10 [(0, .ref (gB G + v0)), (1, .int v1), (2, .int v2)] [] h (fX10_roomFor_10 fu v0 v1 v2 h) := by
  unfold fX10_roomFor_10
  refine ev_step (st_aload_n (pc := 10) (j := 0) dX10_roomFor_10 rfl rfl) ?_
  refine ev_getI (pc := 11) k_X10_200 rfl dX10_roomFor_11 (fun x1 => ?_)
  refine ev_br (br_if_ne (tgt := 21) (pc := 14) dX10_roomFor_14 (by decide)) (fun _ => ?_) (fun _ => ?_)
  · refine ev_step (st_aload_n (pc := 17) (j := 0) dX10_roomFor_17 rfl rfl) ?_
    refine ev_ck (fun ha hS => ?_)
    refine ev_callV (iv_V (As := []) (st := []) (pc := 18) rfl m_X10_goesOn l_X10_221 i_X10_goesOn e_X10_goesOn ha hS rfl (Nat.le_of_ble_eq_true rfl) rfl dX10_roomFor_18) (tX10_goesOn G fu v0 h) (by decide) (by decide) (fun h2 => ?_)
    exact ev_vret (pc := 21) dX10_roomFor_21
  · exact ev_vret (pc := 21) dX10_roomFor_21
set_option maxRecDepth 100000 in
set_option maxHeartbeats 4000000 in
theorem tX10_roomFor (G : gx) (fu : Nat) (v0 : Nat) (v1 : Int32) (v2 : Int32) (h : mh) : Ct lV G yX10_roomFor cX10_roomFor 3 (none) 3 [.ref (gB G + v0), .int v1, .int v2] h (fX10_roomFor fu v0 v1 v2 h) := by
  refine ct_ls (ls := [(0, .ref (gB G + v0)), (1, .int v1), (2, .int v2)]) rfl (by decide) (Nat.le_of_ble_eq_true rfl) ?_
  unfold fX10_roomFor
  refine ev_step (st_iload_n (pc := 0) (j := 1) dX10_roomFor_0 rfl rfl) ?_
  refine ev_step (st_iload_n (pc := 1) (j := 2) dX10_roomFor_1 rfl rfl) ?_
  refine ev_br (br_icmp_ne (tgt := 10) (pc := 2) dX10_roomFor_2 (by decide)) (fun _ => ?_) (fun _ => ?_)
  · refine ev_step (st_aload_n (pc := 5) (j := 0) dX10_roomFor_5 rfl rfl) ?_
    refine ev_step (st_iconst (pc := 6) dX10_roomFor_6 ni_2) ?_
    refine ev_ck (fun ha hS => ?_)
    refine ev_callV (iv_V (As := [.int ((2 : Int32))]) (st := []) (pc := 7) rfl m_X10_fail l_X10_215 i_X10_fail e_X10_fail ha hS rfl (Nat.le_of_ble_eq_true rfl) rfl dX10_roomFor_7) (tX10_fail G fu v0 ((2 : Int32)) h) (by decide) (by decide) (fun h1 => ?_)
    refine ev_sub (ls' := [(0, .ref (gB G + v0)), (1, .int v1), (2, .int v2)]) [0, 1, 2] rfl ?_
    exact tX10_roomFor_10 G fu h v0 v1 v2 h1
  · refine ev_sub (ls' := [(0, .ref (gB G + v0)), (1, .int v1), (2, .int v2)]) [0, 1, 2] rfl ?_
    exact tX10_roomFor_10 G fu h v0 v1 v2 h
set_option maxRecDepth 100000 in
set_option maxHeartbeats 4000000 in
theorem tX10_named_49 (G : gx) (fu : Nat) (h0 : mh) (v0 : Nat) (v1 : Int32) (v2 : Int32) (k12 : Int32 × mh → Option (Int32 × mh)) (hk12 : ∀ (v2 : Int32) (h : mh), Ev lI G yX10_named cX10_named 3 (some .int) 4 h0 12 [(0, .ref (gB G + v0)), (1, .int v1), (2, .int v2)] [] h (k12 (v2, h))) (h : mh) : Ev lI G yX10_named cX10_named 3 (some .int) 4 h0 49 [(0, .ref (gB G + v0)), (1, .int v1), (2, .int v2)] [] h (fX10_named_49 fu k12 v0 v1 v2 h) := by
  unfold fX10_named_49
  refine ev_step (st_inc (pc := 49) (j := 2) (ls' := [(2, .int (v2 + (1 : Int32))), (0, .ref (gB G + v0)), (1, .int v1)]) dX10_named_49 rfl ni_1 (by decide) rfl) ?_
  refine ev_step (st_goto (pc := 52) (tgt := 12) dX10_named_52 (by decide)) ?_
  refine ev_sub (ls' := [(0, .ref (gB G + v0)), (1, .int v1), (2, .int (v2 + (1 : Int32)))]) [1, 2, 0] rfl ?_
  exact hk12 (v2 + (1 : Int32)) h
set_option maxRecDepth 100000 in
set_option maxHeartbeats 4000000 in
theorem tX10_named_12 (G : gx) (fu : Nat) (h0 : mh) (v0 : Nat) (v1 : Int32) (n : Nat) (v2 : Int32) (h : mh) : Ev lI G yX10_named cX10_named 3 (some .int) 4 h0 12 [(0, .ref (gB G + v0)), (1, .int v1), (2, .int v2)] [] h (itr (bX10_named_12 fu v0 v1) n (v2, h)) := by
  refine ev_itr (P := fun (q : Int32 × mh) (R9 : Option (Int32 × mh)) => Ev lI G yX10_named cX10_named 3 (some .int) 4 h0 12 [(0, .ref (gB G + v0)), (1, .int v1), (2, .int q.1)] [] q.2 R9) (fun _ => ev_none) (fun k12 hk9 q => ?_) n (v2, h)
  obtain ⟨v2, h⟩ := q
  have hk12 : ∀ (v2 : Int32) (h : mh), Ev lI G yX10_named cX10_named 3 (some .int) 4 h0 12 [(0, .ref (gB G + v0)), (1, .int v1), (2, .int v2)] [] h (k12 (v2, h)) := fun v2 h => hk9 (v2, h)
  show Ev lI G yX10_named cX10_named 3 (some .int) 4 h0 12 [(0, .ref (gB G + v0)), (1, .int v1), (2, .int v2)] [] h (bX10_named_12 fu v0 v1 k12 (v2, h))
  unfold bX10_named_12
  refine ev_step (st_iload_n (pc := 12) (j := 2) dX10_named_12 rfl rfl) ?_
  refine ev_step (st_aload_n (pc := 13) (j := 0) dX10_named_13 rfl rfl) ?_
  refine ev_getI (pc := 14) k_X10_236 rfl dX10_named_14 (fun x1 => ?_)
  refine ev_br (br_icmp_ge (tgt := 55) (pc := 17) dX10_named_17 (by decide)) (fun _ => ?_) (fun _ => ?_)
  · refine ev_step (st_iload_n (pc := 55) (j := 1) dX10_named_55 rfl rfl) ?_
    exact ev_iret (pc := 56) dX10_named_56
  · refine ev_step (st_aload_n (pc := 20) (j := 0) dX10_named_20 rfl rfl) ?_
    refine ev_getI (pc := 21) k_X10_200 rfl dX10_named_21 (fun x2 => ?_)
    refine ev_br (br_if_ne (tgt := 55) (pc := 24) dX10_named_24 (by decide)) (fun _ => ?_) (fun _ => ?_)
    · refine ev_step (st_aload_n (pc := 27) (j := 0) dX10_named_27 rfl rfl) ?_
      refine ev_getR (pc := 28) k_X10_40 rfl dX10_named_28 (fun a3 => ?_)
      refine ev_step (st_iload_n (pc := 31) (j := 2) dX10_named_31 rfl rfl) ?_
      refine ev_ldj (pc := 32) dX10_named_32 (fun x4 => ?_)
      refine ev_step (st_aload_n (pc := 33) (j := 0) dX10_named_33 rfl rfl) ?_
      refine ev_getR (pc := 34) k_X10_30 rfl dX10_named_34 (fun a5 => ?_)
      refine ev_step (st_iload_n (pc := 37) (j := 1) dX10_named_37 rfl rfl) ?_
      refine ev_ldj (pc := 38) dX10_named_38 (fun x6 => ?_)
      refine ev_step (st_lcmp (pc := 39) dX10_named_39) ?_
      refine ev_br (br_if_ne (tgt := 49) (pc := 40) dX10_named_40 (by decide)) (fun _ => ?_) (fun _ => ?_)
      · refine ev_step (st_aload_n (pc := 43) (j := 0) dX10_named_43 rfl rfl) ?_
        refine ev_step (st_iconst (pc := 44) dX10_named_44 ni_3) ?_
        refine ev_step (st_iload_n (pc := 45) (j := 1) dX10_named_45 rfl rfl) ?_
        refine ev_ck (fun ha hS => ?_)
        refine ev_callV (iv_V (As := [.int ((3 : Int32)), .int v1]) (st := []) (pc := 46) rfl m_X10_wrong l_X10_281 i_X10_wrong e_X10_wrong ha hS rfl (Nat.le_of_ble_eq_true rfl) rfl dX10_named_46) (tX10_wrong G fu v0 ((3 : Int32)) v1 h) (by decide) (by decide) (fun h7 => ?_)
        refine ev_sub (ls' := [(0, .ref (gB G + v0)), (1, .int v1), (2, .int v2)]) [0, 1, 2] rfl ?_
        exact tX10_named_49 G fu h0 v0 v1 v2 k12 hk12 h7
      · refine ev_sub (ls' := [(0, .ref (gB G + v0)), (1, .int v1), (2, .int v2)]) [0, 1, 2] rfl ?_
        exact tX10_named_49 G fu h0 v0 v1 v2 k12 hk12 h
    · refine ev_step (st_iload_n (pc := 55) (j := 1) dX10_named_55 rfl rfl) ?_
      exact ev_iret (pc := 56) dX10_named_56
set_option maxRecDepth 100000 in
set_option maxHeartbeats 4000000 in
theorem tX10_named (G : gx) (fu : Nat) (v0 : Nat) (h : mh) : Ct lI G yX10_named cX10_named 3 (some .int) 4 [.ref (gB G + v0)] h (fX10_named fu v0 h) := by
  refine ct_ls (ls := [(0, .ref (gB G + v0))]) rfl (by decide) (Nat.le_of_ble_eq_true rfl) ?_
  unfold fX10_named
  refine ev_step (st_aload_n (pc := 0) (j := 0) dX10_named_0 rfl rfl) ?_
  refine ev_getI (pc := 1) k_X10_203 rfl dX10_named_1 (fun x1 => ?_)
  refine ev_step (st_istore_n (pc := 4) (ls' := [(1, .int x1), (0, .ref (gB G + v0))]) dX10_named_4 rfl (by decide) rfl) ?_
  refine ev_step (st_aload_n (pc := 5) (j := 1) dX10_named_5 rfl rfl) ?_
  refine ev_step (st_iconst (pc := 6) dX10_named_6 ni_1) ?_
  refine ev_ck (fun ha hS => ?_)
  refine ev_callV (iv_V (As := [.int ((1 : Int32))]) (st := []) (pc := 7) rfl m_X10_must l_X10_258 i_X10_must e_X10_must ha hS rfl (Nat.le_of_ble_eq_true rfl) rfl dX10_named_7) (tX10_must G fu v0 ((1 : Int32)) h) (by decide) (by decide) (fun h2 => ?_)
  refine ev_step (st_iconst (pc := 10) dX10_named_10 ni_0) ?_
  refine ev_step (st_istore_n (pc := 11) (ls' := [(2, .int ((0 : Int32))), (1, .int x1), (0, .ref (gB G + v0))]) dX10_named_11 rfl (by decide) rfl) ?_
  refine ev_sub (ls' := [(0, .ref (gB G + v0)), (1, .int x1), (2, .int ((0 : Int32)))]) [2, 1, 0] rfl ?_
  exact tX10_named_12 G fu h v0 x1 fu ((0 : Int32)) h2
set_option maxRecDepth 100000 in
set_option maxHeartbeats 4000000 in
theorem tX10_endsName (G : gx) (fu : Nat) (v0 : Nat) (v1 : Int32) (v2 : Int32) (h : mh) : Ct lV G yX10_endsName cX10_endsName 3 (none) 4 [.ref (gB G + v0), .int v1, .int v2] h (fX10_endsName fu v0 v1 v2 h) := by
  refine ct_ls (ls := [(0, .ref (gB G + v0)), (1, .int v1), (2, .int v2)]) rfl (by decide) (Nat.le_of_ble_eq_true rfl) ?_
  unfold fX10_endsName
  refine ev_step (st_aload_n (pc := 0) (j := 0) dX10_endsName_0 rfl rfl) ?_
  refine ev_step (st_iconst (pc := 1) dX10_endsName_1 ni_4) ?_
  refine ev_ck (fun ha hS => ?_)
  refine ev_callV (iv_V (As := [.int ((4 : Int32))]) (st := []) (pc := 2) rfl m_X10_must l_X10_258 i_X10_must e_X10_must ha hS rfl (Nat.le_of_ble_eq_true rfl) rfl dX10_endsName_2) (tX10_must G fu v0 ((4 : Int32)) h) (by decide) (by decide) (fun h1 => ?_)
  refine ev_step (st_aload_n (pc := 5) (j := 0) dX10_endsName_5 rfl rfl) ?_
  refine ev_getI (pc := 6) k_X10_200 rfl dX10_endsName_6 (fun x2 => ?_)
  refine ev_br (br_if_le (tgt := 13) (pc := 9) dX10_endsName_9 (by decide)) (fun _ => ?_) (fun _ => ?_)
  · refine ev_step (st_aload_n (pc := 13) (j := 0) dX10_endsName_13 rfl rfl) ?_
    refine ev_getR (pc := 14) k_X10_40 rfl dX10_endsName_14 (fun a3 => ?_)
    refine ev_step (st_aload_n (pc := 17) (j := 0) dX10_endsName_17 rfl rfl) ?_
    refine ev_getI (pc := 18) k_X10_236 rfl dX10_endsName_18 (fun x4 => ?_)
    refine ev_step (st_aload_n (pc := 21) (j := 0) dX10_endsName_21 rfl rfl) ?_
    refine ev_getR (pc := 22) k_X10_30 rfl dX10_endsName_22 (fun a5 => ?_)
    refine ev_step (st_iload_n (pc := 25) (j := 1) dX10_endsName_25 rfl rfl) ?_
    refine ev_ldj (pc := 26) dX10_endsName_26 (fun x6 => ?_)
    refine ev_stj (pc := 27) dX10_endsName_27 (fun h7 => ?_)
    refine ev_step (st_aload_n (pc := 28) (j := 0) dX10_endsName_28 rfl rfl) ?_
    refine ev_getR (pc := 29) k_X10_43 rfl dX10_endsName_29 (fun a8 => ?_)
    refine ev_step (st_aload_n (pc := 32) (j := 0) dX10_endsName_32 rfl rfl) ?_
    refine ev_getI (pc := 33) k_X10_236 rfl dX10_endsName_33 (fun x9 => ?_)
    refine ev_step (st_iload_n (pc := 36) (j := 2) dX10_endsName_36 rfl rfl) ?_
    refine ev_sti (pc := 37) dX10_endsName_37 (fun h10 => ?_)
    refine ev_step (st_aload_n (pc := 38) (j := 0) dX10_endsName_38 rfl rfl) ?_
    refine ev_step (st_dup (pc := 39) dX10_endsName_39 rfl) ?_
    refine ev_getI (pc := 40) k_X10_236 rfl dX10_endsName_40 (fun x11 => ?_)
    refine ev_step (st_iconst (pc := 43) dX10_endsName_43 ni_1) ?_
    refine ev_step (st_iadd (pc := 44) dX10_endsName_44) ?_
    refine ev_putI (pc := 45) (p_X10_236 _ rfl) rfl dX10_endsName_45 (fun h12 => ?_)
    exact ev_vret (pc := 48) dX10_endsName_48
  · exact ev_vret (pc := 12) dX10_endsName_12
set_option maxRecDepth 100000 in
set_option maxHeartbeats 4000000 in
theorem tX10_knownName_68 (G : gx) (fu : Nat) (h0 : mh) (v0 : Nat) (v1 : Int32) (v2 : Int32) (v3 : Int32) (h : mh) : Ev lI G yX10_knownName cX10_knownName 4 (some .int) 4 h0 68 [(0, .ref (gB G + v0)), (1, .int v1), (2, .int v2), (3, .int v3)] [] h (fX10_knownName_68 fu v0 v1 v2 v3 h) := by
  unfold fX10_knownName_68
  refine ev_step (st_aload_n (pc := 68) (j := 0) dX10_knownName_68 rfl rfl) ?_
  refine ev_getR (pc := 69) k_X10_43 rfl dX10_knownName_69 (fun a1 => ?_)
  refine ev_step (st_iload_n (pc := 72) (j := 3) dX10_knownName_72 rfl rfl) ?_
  refine ev_ldi (pc := 73) dX10_knownName_73 (fun x2 => ?_)
  refine ev_step (st_iload_n (pc := 74) (j := 1) dX10_knownName_74 rfl rfl) ?_
  refine ev_step (st_isub (pc := 75) dX10_knownName_75) ?_
  exact ev_iret (pc := 76) dX10_knownName_76
set_option maxRecDepth 100000 in
set_option maxHeartbeats 4000000 in
theorem tX10_knownName_77 (G : gx) (fu : Nat) (h0 : mh) (v0 : Nat) (v1 : Int32) (v2 : Int32) (v3 : Int32) (k21 : Int32 × mh → Option (Int32 × mh)) (hk21 : ∀ (v3 : Int32) (h : mh), Ev lI G yX10_knownName cX10_knownName 4 (some .int) 4 h0 21 [(0, .ref (gB G + v0)), (1, .int v1), (2, .int v2), (3, .int v3)] [] h (k21 (v3, h))) (h : mh) : Ev lI G yX10_knownName cX10_knownName 4 (some .int) 4 h0 77 [(0, .ref (gB G + v0)), (1, .int v1), (2, .int v2), (3, .int v3)] [] h (fX10_knownName_77 fu k21 v0 v1 v2 v3 h) := by
  unfold fX10_knownName_77
  refine ev_step (st_inc (pc := 77) (j := 3) (ls' := [(3, .int (v3 + (1 : Int32))), (0, .ref (gB G + v0)), (1, .int v1), (2, .int v2)]) dX10_knownName_77 rfl ni_1 (by decide) rfl) ?_
  refine ev_step (st_goto (pc := 80) (tgt := 21) dX10_knownName_80 (by decide)) ?_
  refine ev_sub (ls' := [(0, .ref (gB G + v0)), (1, .int v1), (2, .int v2), (3, .int (v3 + (1 : Int32)))]) [1, 2, 3, 0] rfl ?_
  exact hk21 (v3 + (1 : Int32)) h
set_option maxRecDepth 100000 in
set_option maxHeartbeats 4000000 in
theorem tX10_knownName_83 (G : gx) (fu : Nat) (h0 : mh) (v0 : Nat) (v1 : Int32) (v2 : Int32) (v3 : Int32) (h : mh) : Ev lI G yX10_knownName cX10_knownName 4 (some .int) 4 h0 83 [(0, .ref (gB G + v0)), (1, .int v1), (2, .int v2), (3, .int v3)] [] h (fX10_knownName_83 fu v0 v1 v2 v3 h) := by
  unfold fX10_knownName_83
  refine ev_step (st_aload_n (pc := 83) (j := 0) dX10_knownName_83 rfl rfl) ?_
  refine ev_step (st_iconst (pc := 84) dX10_knownName_84 ni_4) ?_
  refine ev_step (st_iload_n (pc := 85) (j := 2) dX10_knownName_85 rfl rfl) ?_
  refine ev_ck (fun ha hS => ?_)
  refine ev_callV (iv_V (As := [.int ((4 : Int32)), .int v2]) (st := []) (pc := 86) rfl m_X10_wrong l_X10_281 i_X10_wrong e_X10_wrong ha hS rfl (Nat.le_of_ble_eq_true rfl) rfl dX10_knownName_86) (tX10_wrong G fu v0 ((4 : Int32)) v2 h) (by decide) (by decide) (fun h1 => ?_)
  refine ev_step (st_iconst (pc := 89) dX10_knownName_89 ni_m1) ?_
  exact ev_iret (pc := 90) dX10_knownName_90
set_option maxRecDepth 100000 in
set_option maxHeartbeats 4000000 in
theorem tX10_knownName_21 (G : gx) (fu : Nat) (h0 : mh) (v0 : Nat) (v1 : Int32) (v2 : Int32) (n : Nat) (v3 : Int32) (h : mh) : Ev lI G yX10_knownName cX10_knownName 4 (some .int) 4 h0 21 [(0, .ref (gB G + v0)), (1, .int v1), (2, .int v2), (3, .int v3)] [] h (itr (bX10_knownName_21 fu v0 v1 v2) n (v3, h)) := by
  refine ev_itr (P := fun (q : Int32 × mh) (R9 : Option (Int32 × mh)) => Ev lI G yX10_knownName cX10_knownName 4 (some .int) 4 h0 21 [(0, .ref (gB G + v0)), (1, .int v1), (2, .int v2), (3, .int q.1)] [] q.2 R9) (fun _ => ev_none) (fun k21 hk9 q => ?_) n (v3, h)
  obtain ⟨v3, h⟩ := q
  have hk21 : ∀ (v3 : Int32) (h : mh), Ev lI G yX10_knownName cX10_knownName 4 (some .int) 4 h0 21 [(0, .ref (gB G + v0)), (1, .int v1), (2, .int v2), (3, .int v3)] [] h (k21 (v3, h)) := fun v3 h => hk9 (v3, h)
  show Ev lI G yX10_knownName cX10_knownName 4 (some .int) 4 h0 21 [(0, .ref (gB G + v0)), (1, .int v1), (2, .int v2), (3, .int v3)] [] h (bX10_knownName_21 fu v0 v1 v2 k21 (v3, h))
  unfold bX10_knownName_21
  refine ev_step (st_iload_n (pc := 21) (j := 3) dX10_knownName_21 rfl rfl) ?_
  refine ev_step (st_aload_n (pc := 22) (j := 0) dX10_knownName_22 rfl rfl) ?_
  refine ev_getI (pc := 23) k_X10_236 rfl dX10_knownName_23 (fun x1 => ?_)
  refine ev_br (br_icmp_ge (tgt := 83) (pc := 26) dX10_knownName_26 (by decide)) (fun _ => ?_) (fun _ => ?_)
  · refine ev_sub (ls' := [(0, .ref (gB G + v0)), (1, .int v1), (2, .int v2), (3, .int v3)]) [0, 1, 2, 3] rfl ?_
    exact tX10_knownName_83 G fu h0 v0 v1 v2 v3 h
  · refine ev_step (st_aload_n (pc := 29) (j := 0) dX10_knownName_29 rfl rfl) ?_
    refine ev_getR (pc := 30) k_X10_40 rfl dX10_knownName_30 (fun a2 => ?_)
    refine ev_step (st_iload_n (pc := 33) (j := 3) dX10_knownName_33 rfl rfl) ?_
    refine ev_ldj (pc := 34) dX10_knownName_34 (fun x3 => ?_)
    refine ev_step (st_aload_n (pc := 35) (j := 0) dX10_knownName_35 rfl rfl) ?_
    refine ev_getR (pc := 36) k_X10_30 rfl dX10_knownName_36 (fun a4 => ?_)
    refine ev_step (st_iload_n (pc := 39) (j := 2) dX10_knownName_39 rfl rfl) ?_
    refine ev_ldj (pc := 40) dX10_knownName_40 (fun x5 => ?_)
    refine ev_step (st_lcmp (pc := 41) dX10_knownName_41) ?_
    refine ev_br (br_if_ne (tgt := 77) (pc := 42) dX10_knownName_42 (by decide)) (fun _ => ?_) (fun _ => ?_)
    · refine ev_step (st_aload_n (pc := 45) (j := 0) dX10_knownName_45 rfl rfl) ?_
      refine ev_getR (pc := 46) k_X10_43 rfl dX10_knownName_46 (fun a6 => ?_)
      refine ev_step (st_iload_n (pc := 49) (j := 3) dX10_knownName_49 rfl rfl) ?_
      refine ev_ldi (pc := 50) dX10_knownName_50 (fun x7 => ?_)
      refine ev_step (st_iload_n (pc := 51) (j := 1) dX10_knownName_51 rfl rfl) ?_
      refine ev_br (br_icmp_lt (tgt := 77) (pc := 52) dX10_knownName_52 (by decide)) (fun _ => ?_) (fun _ => ?_)
      · refine ev_sub (ls' := [(0, .ref (gB G + v0)), (1, .int v1), (2, .int v2), (3, .int v3)]) [0, 1, 2, 3] rfl ?_
        exact tX10_knownName_77 G fu h0 v0 v1 v2 v3 k21 hk21 h
      · refine ev_step (st_aload_n (pc := 55) (j := 0) dX10_knownName_55 rfl rfl) ?_
        refine ev_getR (pc := 56) k_X10_43 rfl dX10_knownName_56 (fun a8 => ?_)
        refine ev_step (st_iload_n (pc := 59) (j := 3) dX10_knownName_59 rfl rfl) ?_
        refine ev_ldi (pc := 60) dX10_knownName_60 (fun x9 => ?_)
        refine ev_step (st_iload_n (pc := 61) (j := 1) dX10_knownName_61 rfl rfl) ?_
        refine ev_step (st_bipush (pc := 62) dX10_knownName_62 nb_10) ?_
        refine ev_step (st_iadd (pc := 64) dX10_knownName_64) ?_
        refine ev_br (br_icmp_ge (tgt := 77) (pc := 65) dX10_knownName_65 (by decide)) (fun _ => ?_) (fun _ => ?_)
        · refine ev_sub (ls' := [(0, .ref (gB G + v0)), (1, .int v1), (2, .int v2), (3, .int v3)]) [0, 1, 2, 3] rfl ?_
          exact tX10_knownName_77 G fu h0 v0 v1 v2 v3 k21 hk21 h
        · refine ev_sub (ls' := [(0, .ref (gB G + v0)), (1, .int v1), (2, .int v2), (3, .int v3)]) [0, 1, 2, 3] rfl ?_
          exact tX10_knownName_68 G fu h0 v0 v1 v2 v3 h
    · refine ev_sub (ls' := [(0, .ref (gB G + v0)), (1, .int v1), (2, .int v2), (3, .int v3)]) [0, 1, 2, 3] rfl ?_
      exact tX10_knownName_77 G fu h0 v0 v1 v2 v3 k21 hk21 h
set_option maxRecDepth 100000 in
set_option maxHeartbeats 4000000 in
theorem tX10_knownName (G : gx) (fu : Nat) (v0 : Nat) (v1 : Int32) (h : mh) : Ct lI G yX10_knownName cX10_knownName 4 (some .int) 4 [.ref (gB G + v0), .int v1] h (fX10_knownName fu v0 v1 h) := by
  refine ct_ls (ls := [(0, .ref (gB G + v0)), (1, .int v1)]) rfl (by decide) (Nat.le_of_ble_eq_true rfl) ?_
  unfold fX10_knownName
  refine ev_step (st_aload_n (pc := 0) (j := 0) dX10_knownName_0 rfl rfl) ?_
  refine ev_getI (pc := 1) k_X10_203 rfl dX10_knownName_1 (fun x1 => ?_)
  refine ev_step (st_istore_n (pc := 4) (ls' := [(2, .int x1), (0, .ref (gB G + v0)), (1, .int v1)]) dX10_knownName_4 rfl (by decide) rfl) ?_
  refine ev_step (st_aload_n (pc := 5) (j := 1) dX10_knownName_5 rfl rfl) ?_
  refine ev_step (st_iconst (pc := 6) dX10_knownName_6 ni_1) ?_
  refine ev_ck (fun ha hS => ?_)
  refine ev_callV (iv_V (As := [.int ((1 : Int32))]) (st := []) (pc := 7) rfl m_X10_must l_X10_258 i_X10_must e_X10_must ha hS rfl (Nat.le_of_ble_eq_true rfl) rfl dX10_knownName_7) (tX10_must G fu v0 ((1 : Int32)) h) (by decide) (by decide) (fun h2 => ?_)
  refine ev_step (st_aload_n (pc := 10) (j := 1) dX10_knownName_10 rfl rfl) ?_
  refine ev_getI (pc := 11) k_X10_200 rfl dX10_knownName_11 (fun x3 => ?_)
  refine ev_br (br_if_le (tgt := 19) (pc := 14) dX10_knownName_14 (by decide)) (fun _ => ?_) (fun _ => ?_)
  · refine ev_step (st_iconst (pc := 19) dX10_knownName_19 ni_0) ?_
    refine ev_step (st_istore_n (pc := 20) (ls' := [(3, .int ((0 : Int32))), (2, .int x1), (0, .ref (gB G + v0)), (1, .int v1)]) dX10_knownName_20 rfl (by decide) rfl) ?_
    refine ev_sub (ls' := [(0, .ref (gB G + v0)), (1, .int v1), (2, .int x1), (3, .int ((0 : Int32)))]) [2, 3, 1, 0] rfl ?_
    exact tX10_knownName_21 G fu h v0 v1 x1 fu ((0 : Int32)) h2
  · refine ev_step (st_iconst (pc := 17) dX10_knownName_17 ni_m1) ?_
    exact ev_iret (pc := 18) dX10_knownName_18
set_option maxRecDepth 100000 in
set_option maxHeartbeats 4000000 in
theorem tX10_bounded_15 (G : gx) (fu : Nat) (h0 : mh) (v0 : Nat) (v1 : Int32) (v2 : Int32) (h : mh) : Ev lI G yX10_bounded cX10_bounded 4 (some .int) 3 h0 15 [(0, .ref (gB G + v0)), (1, .int v1), (2, .int v2)] [] h (fX10_bounded_15 fu v0 v1 v2 h) := by
  unfold fX10_bounded_15
  refine ev_step (st_aload_n (pc := 15) (j := 0) dX10_bounded_15 rfl rfl) ?_
  refine ev_step (st_iconst (pc := 16) dX10_bounded_16 ni_1) ?_
  refine ev_ck (fun ha hS => ?_)
  refine ev_callV (iv_V (As := [.int ((1 : Int32))]) (st := []) (pc := 17) rfl m_X10_fail l_X10_215 i_X10_fail e_X10_fail ha hS rfl (Nat.le_of_ble_eq_true rfl) rfl dX10_bounded_17) (tX10_fail G fu v0 ((1 : Int32)) h) (by decide) (by decide) (fun h1 => ?_)
  refine ev_step (st_iload_n (pc := 20) (j := 1) dX10_bounded_20 rfl rfl) ?_
  exact ev_iret (pc := 21) dX10_bounded_21
set_option maxRecDepth 100000 in
set_option maxHeartbeats 4000000 in
theorem tX10_bounded_51 (G : gx) (fu : Nat) (h0 : mh) (v0 : Nat) (v1 : Int32) (v2 : Int32) (v3 : Int32) (h : mh) : Ev lI G yX10_bounded cX10_bounded 4 (some .int) 3 h0 51 [(0, .ref (gB G + v0)), (1, .int v1), (2, .int v2), (3, .int v3)] [] h (fX10_bounded_51 fu v0 v1 v2 v3 h) := by
  unfold fX10_bounded_51
  refine ev_step (st_aload_n (pc := 51) (j := 0) dX10_bounded_51 rfl rfl) ?_
  refine ev_ck (fun ha hS => ?_)
  refine ev_callV (iv_V (As := []) (st := []) (pc := 52) rfl m_X10_goesOn l_X10_221 i_X10_goesOn e_X10_goesOn ha hS rfl (Nat.le_of_ble_eq_true rfl) rfl dX10_bounded_52) (tX10_goesOn G fu v0 h) (by decide) (by decide) (fun h1 => ?_)
  refine ev_step (st_iload_n (pc := 55) (j := 3) dX10_bounded_55 rfl rfl) ?_
  exact ev_iret (pc := 56) dX10_bounded_56
set_option maxRecDepth 100000 in
set_option maxHeartbeats 4000000 in
theorem tX10_bounded_42 (G : gx) (fu : Nat) (h0 : mh) (v0 : Nat) (v1 : Int32) (v2 : Int32) (v3 : Int32) (h : mh) : Ev lI G yX10_bounded cX10_bounded 4 (some .int) 3 h0 42 [(0, .ref (gB G + v0)), (1, .int v1), (2, .int v2), (3, .int v3)] [] h (fX10_bounded_42 fu v0 v1 v2 v3 h) := by
  unfold fX10_bounded_42
  refine ev_step (st_aload_n (pc := 42) (j := 0) dX10_bounded_42 rfl rfl) ?_
  refine ev_step (st_iconst (pc := 43) dX10_bounded_43 ni_5) ?_
  refine ev_step (st_aload_n (pc := 44) (j := 0) dX10_bounded_44 rfl rfl) ?_
  refine ev_getI (pc := 45) k_X10_203 rfl dX10_bounded_45 (fun x1 => ?_)
  refine ev_ck (fun ha hS => ?_)
  refine ev_callV (iv_V (As := [.int ((5 : Int32)), .int x1]) (st := []) (pc := 48) rfl m_X10_wrong l_X10_281 i_X10_wrong e_X10_wrong ha hS rfl (Nat.le_of_ble_eq_true rfl) rfl dX10_bounded_48) (tX10_wrong G fu v0 ((5 : Int32)) x1 h) (by decide) (by decide) (fun h2 => ?_)
  refine ev_sub (ls' := [(0, .ref (gB G + v0)), (1, .int v1), (2, .int v2), (3, .int v3)]) [0, 1, 2, 3] rfl ?_
  exact tX10_bounded_51 G fu h0 v0 v1 v2 v3 h2
set_option maxRecDepth 100000 in
set_option maxHeartbeats 4000000 in
theorem tX10_bounded (G : gx) (fu : Nat) (v0 : Nat) (v1 : Int32) (v2 : Int32) (h : mh) : Ct lI G yX10_bounded cX10_bounded 4 (some .int) 3 [.ref (gB G + v0), .int v1, .int v2] h (fX10_bounded fu v0 v1 v2 h) := by
  refine ct_ls (ls := [(0, .ref (gB G + v0)), (1, .int v1), (2, .int v2)]) rfl (by decide) (Nat.le_of_ble_eq_true rfl) ?_
  unfold fX10_bounded
  refine ev_step (st_aload_n (pc := 0) (j := 0) dX10_bounded_0 rfl rfl) ?_
  refine ev_getI (pc := 1) k_X10_200 rfl dX10_bounded_1 (fun x1 => ?_)
  refine ev_br (br_if_gt (tgt := 15) (pc := 4) dX10_bounded_4 (by decide)) (fun _ => ?_) (fun _ => ?_)
  · refine ev_sub (ls' := [(0, .ref (gB G + v0)), (1, .int v1), (2, .int v2)]) [0, 1, 2] rfl ?_
    exact tX10_bounded_15 G fu h v0 v1 v2 h
  · refine ev_step (st_aload_n (pc := 7) (j := 0) dX10_bounded_7 rfl rfl) ?_
    refine ev_step (st_iconst (pc := 8) dX10_bounded_8 ni_2) ?_
    refine ev_ck (fun ha hS => ?_)
    refine ev_callI (iv_V (As := [.int ((2 : Int32))]) (st := []) (pc := 9) rfl m_X10_is l_X10_218 i_X10_is e_X10_is ha hS rfl (Nat.le_of_ble_eq_true rfl) rfl dX10_bounded_9) (tX10_is G fu v0 ((2 : Int32)) h) (by decide) (by decide) (fun x3 h2 => ?_)
    refine ev_br (br_if_ne (tgt := 22) (pc := 12) dX10_bounded_12 (by decide)) (fun _ => ?_) (fun _ => ?_)
    · refine ev_sub (ls' := [(0, .ref (gB G + v0)), (1, .int v1), (2, .int v2)]) [0, 1, 2] rfl ?_
      exact tX10_bounded_15 G fu h v0 v1 v2 h2
    · refine ev_step (st_aload_n (pc := 22) (j := 0) dX10_bounded_22 rfl rfl) ?_
      refine ev_getR (pc := 23) k_X10_27 rfl dX10_bounded_23 (fun a4 => ?_)
      refine ev_step (st_aload_n (pc := 26) (j := 0) dX10_bounded_26 rfl rfl) ?_
      refine ev_getI (pc := 27) k_X10_203 rfl dX10_bounded_27 (fun x5 => ?_)
      refine ev_ldi (pc := 30) dX10_bounded_30 (fun x6 => ?_)
      refine ev_step (st_istore_n (pc := 31) (ls' := [(3, .int x6), (0, .ref (gB G + v0)), (1, .int v1), (2, .int v2)]) dX10_bounded_31 rfl (by decide) rfl) ?_
      refine ev_step (st_iload_n (pc := 32) (j := 0) dX10_bounded_32 rfl rfl) ?_
      refine ev_step (st_iload_n (pc := 33) (j := 2) dX10_bounded_33 rfl rfl) ?_
      refine ev_br (br_icmp_lt (tgt := 42) (pc := 34) dX10_bounded_34 (by decide)) (fun _ => ?_) (fun _ => ?_)
      · refine ev_sub (ls' := [(0, .ref (gB G + v0)), (1, .int v1), (2, .int v2), (3, .int x6)]) [1, 2, 3, 0] rfl ?_
        exact tX10_bounded_42 G fu h v0 v1 v2 x6 h2
      · refine ev_step (st_iload_n (pc := 37) (j := 0) dX10_bounded_37 rfl rfl) ?_
        refine ev_step (st_iload_n (pc := 38) (j := 3) dX10_bounded_38 rfl rfl) ?_
        refine ev_br (br_icmp_le (tgt := 51) (pc := 39) dX10_bounded_39 (by decide)) (fun _ => ?_) (fun _ => ?_)
        · refine ev_sub (ls' := [(0, .ref (gB G + v0)), (1, .int v1), (2, .int v2), (3, .int x6)]) [1, 2, 3, 0] rfl ?_
          exact tX10_bounded_51 G fu h v0 v1 v2 x6 h2
        · refine ev_sub (ls' := [(0, .ref (gB G + v0)), (1, .int v1), (2, .int v2), (3, .int x6)]) [1, 2, 3, 0] rfl ?_
          exact tX10_bounded_42 G fu h v0 v1 v2 x6 h2
set_option maxRecDepth 100000 in
set_option maxHeartbeats 4000000 in
theorem tX10_tellReally_66 (G : gx) (fu : Nat) (h0 : mh) (v0 : Nat) (v1 : Int32) (v2 : Int32) (v3 : Int32) (v4 : Int32) (h : mh) : Ev lV G yX10_tellReally cX10_tellReally 5 (none) 5 h0 66 [(0, .ref (gB G + v0)), (1, .int v1), (2, .int v2), (3, .int v3), (4, .int v4)] [] h (fX10_tellReally_66 fu v0 v1 v2 v3 v4 h) := by
  unfold fX10_tellReally_66
  refine ev_step (st_aload_n (pc := 66) (j := 0) dX10_tellReally_66 rfl rfl) ?_
  refine ev_step (st_iconst (pc := 67) dX10_tellReally_67 ni_4) ?_
  refine ev_ck (fun ha hS => ?_)
  refine ev_callV (iv_V (As := [.int ((4 : Int32))]) (st := []) (pc := 68) rfl m_X10_must l_X10_258 i_X10_must e_X10_must ha hS rfl (Nat.le_of_ble_eq_true rfl) rfl dX10_tellReally_68) (tX10_must G fu v0 ((4 : Int32)) h) (by decide) (by decide) (fun h1 => ?_)
  refine ev_step (st_aload_n (pc := 71) (j := 0) dX10_tellReally_71 rfl rfl) ?_
  refine ev_getI (pc := 72) k_X10_200 rfl dX10_tellReally_72 (fun x2 => ?_)
  refine ev_br (br_if_le (tgt := 79) (pc := 75) dX10_tellReally_75 (by decide)) (fun _ => ?_) (fun _ => ?_)
  · refine ev_step (st_aload_n (pc := 79) (j := 0) dX10_tellReally_79 rfl rfl) ?_
    refine ev_getR (pc := 80) k_X10_70 rfl dX10_tellReally_80 (fun a3 => ?_)
    refine ev_step (st_aload_n (pc := 83) (j := 0) dX10_tellReally_83 rfl rfl) ?_
    refine ev_getI (pc := 84) k_X10_233 rfl dX10_tellReally_84 (fun x4 => ?_)
    refine ev_step (st_dup2 (pc := 87) dX10_tellReally_87 rfl rfl) ?_
    refine ev_ldi (pc := 88) dX10_tellReally_88 (fun x5 => ?_)
    refine ev_step (st_iconst (pc := 89) dX10_tellReally_89 ni_1) ?_
    refine ev_step (st_iadd (pc := 90) dX10_tellReally_90) ?_
    refine ev_sti (pc := 91) dX10_tellReally_91 (fun h6 => ?_)
    refine ev_step (st_iload (pc := 92) (j := 4) dX10_tellReally_92 rfl) ?_
    refine ev_br (br_if_eq (tgt := 117) (pc := 94) dX10_tellReally_94 (by decide)) (fun _ => ?_) (fun _ => ?_)
    · exact ev_vret (pc := 117) dX10_tellReally_117
    · refine ev_step (st_aload_n (pc := 97) (j := 0) dX10_tellReally_97 rfl rfl) ?_
      refine ev_getR (pc := 98) k_X10_67 rfl dX10_tellReally_98 (fun a7 => ?_)
      refine ev_step (st_bipush (pc := 101) dX10_tellReally_101 nb_6) ?_
      refine ev_step (st_aload_n (pc := 103) (j := 0) dX10_tellReally_103 rfl rfl) ?_
      refine ev_getI (pc := 104) k_X10_233 rfl dX10_tellReally_104 (fun x8 => ?_)
      refine ev_step (st_imul (pc := 107) dX10_tellReally_107) ?_
      refine ev_step (st_iload_n (pc := 108) (j := 1) dX10_tellReally_108 rfl rfl) ?_
      refine ev_step (st_iadd (pc := 109) dX10_tellReally_109) ?_
      refine ev_step (st_dup2 (pc := 110) dX10_tellReally_110 rfl rfl) ?_
      refine ev_ldi (pc := 111) dX10_tellReally_111 (fun x9 => ?_)
      refine ev_step (st_iconst (pc := 112) dX10_tellReally_112 ni_1) ?_
      refine ev_step (st_iload_n (pc := 113) (j := 3) dX10_tellReally_113 rfl rfl) ?_
      refine ev_step (st_ishl (pc := 114) dX10_tellReally_114) ?_
      refine ev_step (st_ior (pc := 115) dX10_tellReally_115) ?_
      refine ev_sti (pc := 116) dX10_tellReally_116 (fun h10 => ?_)
      exact ev_vret (pc := 117) dX10_tellReally_117
  · exact ev_vret (pc := 78) dX10_tellReally_78
set_option maxRecDepth 100000 in
set_option maxHeartbeats 4000000 in
theorem tX10_tellReally_31 (G : gx) (fu : Nat) (h0 : mh) (v0 : Nat) (v1 : Int32) (v2 : Int32) (v3 : Int32) (s0 : Int32) (h : mh) : Ev lV G yX10_tellReally cX10_tellReally 5 (none) 5 h0 31 [(0, .ref (gB G + v0)), (1, .int v1), (2, .int v2), (3, .int v3)] [.int s0] h (fX10_tellReally_31 fu v0 v1 v2 v3 s0 h) := by
  unfold fX10_tellReally_31
  refine ev_step (st_istore (pc := 31) (ls' := [(4, .int s0), (0, .ref (gB G + v0)), (1, .int v1), (2, .int v2), (3, .int v3)]) dX10_tellReally_31 (by decide) rfl) ?_
  refine ev_step (st_iload (pc := 33) (j := 0) dX10_tellReally_33 rfl) ?_
  refine ev_br (br_if_eq (tgt := 66) (pc := 35) dX10_tellReally_35 (by decide)) (fun _ => ?_) (fun _ => ?_)
  · refine ev_sub (ls' := [(0, .ref (gB G + v0)), (1, .int v1), (2, .int v2), (3, .int v3), (4, .int s0)]) [1, 2, 3, 4, 0] rfl ?_
    exact tX10_tellReally_66 G fu h0 v0 v1 v2 v3 s0 h
  · refine ev_step (st_aload_n (pc := 38) (j := 1) dX10_tellReally_38 rfl rfl) ?_
    refine ev_getR (pc := 39) k_X10_67 rfl dX10_tellReally_39 (fun a1 => ?_)
    refine ev_step (st_bipush (pc := 42) dX10_tellReally_42 nb_6) ?_
    refine ev_step (st_aload_n (pc := 44) (j := 1) dX10_tellReally_44 rfl rfl) ?_
    refine ev_getI (pc := 45) k_X10_233 rfl dX10_tellReally_45 (fun x2 => ?_)
    refine ev_step (st_imul (pc := 48) dX10_tellReally_48) ?_
    refine ev_step (st_iload_n (pc := 49) (j := 2) dX10_tellReally_49 rfl rfl) ?_
    refine ev_step (st_iadd (pc := 50) dX10_tellReally_50) ?_
    refine ev_ldi (pc := 51) dX10_tellReally_51 (fun x3 => ?_)
    refine ev_step (st_iload_n (pc := 52) (j := 4) dX10_tellReally_52 rfl rfl) ?_
    refine ev_step (st_ishr (pc := 53) dX10_tellReally_53) ?_
    refine ev_step (st_iconst (pc := 54) dX10_tellReally_54 ni_1) ?_
    refine ev_step (st_iand (pc := 55) dX10_tellReally_55) ?_
    refine ev_step (st_iconst (pc := 56) dX10_tellReally_56 ni_1) ?_
    refine ev_br (br_icmp_ne (tgt := 66) (pc := 57) dX10_tellReally_57 (by decide)) (fun _ => ?_) (fun _ => ?_)
    · refine ev_step (st_aload_n (pc := 60) (j := 1) dX10_tellReally_60 rfl rfl) ?_
      refine ev_step (st_iconst (pc := 61) dX10_tellReally_61 ni_3) ?_
      refine ev_step (st_iload_n (pc := 62) (j := 3) dX10_tellReally_62 rfl rfl) ?_
      refine ev_ck (fun ha hS => ?_)
      refine ev_callV (iv_V (As := [.int ((3 : Int32)), .int v2]) (st := []) (pc := 63) rfl m_X10_wrong l_X10_281 i_X10_wrong e_X10_wrong ha hS rfl (Nat.le_of_ble_eq_true rfl) rfl dX10_tellReally_63) (tX10_wrong G fu v0 ((3 : Int32)) v2 h) (by decide) (by decide) (fun h4 => ?_)
      refine ev_sub (ls' := [(0, .ref (gB G + v0)), (1, .int v1), (2, .int v2), (3, .int v3), (4, .int s0)]) [1, 2, 3, 4, 0] rfl ?_
      exact tX10_tellReally_66 G fu h0 v0 v1 v2 v3 s0 h4
    · refine ev_sub (ls' := [(0, .ref (gB G + v0)), (1, .int v1), (2, .int v2), (3, .int v3), (4, .int s0)]) [1, 2, 3, 4, 0] rfl ?_
      exact tX10_tellReally_66 G fu h0 v0 v1 v2 v3 s0 h
set_option maxRecDepth 100000 in
set_option maxHeartbeats 4000000 in
theorem tX10_tellReally_30 (G : gx) (fu : Nat) (h0 : mh) (v0 : Nat) (v1 : Int32) (v2 : Int32) (v3 : Int32) (h : mh) : Ev lV G yX10_tellReally cX10_tellReally 5 (none) 5 h0 30 [(0, .ref (gB G + v0)), (1, .int v1), (2, .int v2), (3, .int v3)] [] h (fX10_tellReally_30 fu v0 v1 v2 v3 h) := by
  unfold fX10_tellReally_30
  refine ev_step (st_iconst (pc := 30) dX10_tellReally_30 ni_0) ?_
  refine ev_sub (ls' := [(0, .ref (gB G + v0)), (1, .int v1), (2, .int v2), (3, .int v3)]) [0, 1, 2, 3] rfl ?_
  exact tX10_tellReally_31 G fu h0 v0 v1 v2 v3 ((0 : Int32)) h
set_option maxRecDepth 100000 in
set_option maxHeartbeats 4000000 in
theorem tX10_tellReally (G : gx) (fu : Nat) (v0 : Nat) (h : mh) : Ct lV G yX10_tellReally cX10_tellReally 5 (none) 5 [.ref (gB G + v0)] h (fX10_tellReally fu v0 h) := by
  refine ct_ls (ls := [(0, .ref (gB G + v0))]) rfl (by decide) (Nat.le_of_ble_eq_true rfl) ?_
  unfold fX10_tellReally
  refine ev_step (st_aload_n (pc := 0) (j := 0) dX10_tellReally_0 rfl rfl) ?_
  refine ev_step (st_bipush (pc := 1) dX10_tellReally_1 nb_10) ?_
  refine ev_ck (fun ha hS => ?_)
  refine ev_callI (iv_V (As := [.int ((10 : Int32))]) (st := []) (pc := 3) rfl m_X10_knownName l_X10_284 i_X10_knownName e_X10_knownName ha hS rfl (Nat.le_of_ble_eq_true rfl) rfl dX10_tellReally_3) (tX10_knownName G fu v0 ((10 : Int32)) h) (by decide) (by decide) (fun x2 h1 => ?_)
  refine ev_step (st_istore_n (pc := 6) (ls' := [(1, .int x2), (0, .ref (gB G + v0))]) dX10_tellReally_6 rfl (by decide) rfl) ?_
  refine ev_step (st_aload_n (pc := 7) (j := 1) dX10_tellReally_7 rfl rfl) ?_
  refine ev_getI (pc := 8) k_X10_203 rfl dX10_tellReally_8 (fun x3 => ?_)
  refine ev_step (st_istore_n (pc := 11) (ls' := [(2, .int x3), (1, .int x2), (0, .ref (gB G + v0))]) dX10_tellReally_11 rfl (by decide) rfl) ?_
  refine ev_step (st_aload_n (pc := 12) (j := 2) dX10_tellReally_12 rfl rfl) ?_
  refine ev_step (st_iconst (pc := 13) dX10_tellReally_13 ni_0) ?_
  refine ev_ck (fun ha hS => ?_)
  refine ev_callI (iv_V (As := [.int ((0 : Int32))]) (st := []) (pc := 14) rfl m_X10_knownName l_X10_284 i_X10_knownName e_X10_knownName ha hS rfl (Nat.le_of_ble_eq_true rfl) rfl dX10_tellReally_14) (tX10_knownName G fu v0 ((0 : Int32)) h1) (by decide) (by decide) (fun x5 h4 => ?_)
  refine ev_step (st_istore_n (pc := 17) (ls' := [(3, .int x5), (2, .int x3), (1, .int x2), (0, .ref (gB G + v0))]) dX10_tellReally_17 rfl (by decide) rfl) ?_
  refine ev_step (st_iload_n (pc := 18) (j := 2) dX10_tellReally_18 rfl rfl) ?_
  refine ev_br (br_if_lt (tgt := 30) (pc := 19) dX10_tellReally_19 (by decide)) (fun _ => ?_) (fun _ => ?_)
  · refine ev_sub (ls' := [(0, .ref (gB G + v0)), (1, .int x2), (2, .int x3), (3, .int x5)]) [3, 2, 1, 0] rfl ?_
    exact tX10_tellReally_30 G fu h v0 x2 x3 x5 h4
  · refine ev_step (st_iload_n (pc := 22) (j := 0) dX10_tellReally_22 rfl rfl) ?_
    refine ev_br (br_if_lt (tgt := 30) (pc := 23) dX10_tellReally_23 (by decide)) (fun _ => ?_) (fun _ => ?_)
    · refine ev_sub (ls' := [(0, .ref (gB G + v0)), (1, .int x2), (2, .int x3), (3, .int x5)]) [3, 2, 1, 0] rfl ?_
      exact tX10_tellReally_30 G fu h v0 x2 x3 x5 h4
    · refine ev_step (st_iconst (pc := 26) dX10_tellReally_26 ni_1) ?_
      refine ev_step (st_goto (pc := 27) (tgt := 31) dX10_tellReally_27 (by decide)) ?_
      refine ev_sub (ls' := [(0, .ref (gB G + v0)), (1, .int x2), (2, .int x3), (3, .int x5)]) [3, 2, 1, 0] rfl ?_
      exact tX10_tellReally_31 G fu h v0 x2 x3 x5 ((1 : Int32)) h4
set_option maxRecDepth 100000 in
set_option maxHeartbeats 4000000 in
theorem tX10_emit (G : gx) (fu : Nat) (v0 : Nat) (v1 : Int32) (v2 : Int32) (h : mh) : Ct lV G yX10_emit cX10_emit 3 (none) 1 [.ref (gB G + v0), .int v1, .int v2] h (fX10_emit fu v0 v1 v2 h) := by
  refine ct_ls (ls := [(0, .ref (gB G + v0)), (1, .int v1), (2, .int v2)]) rfl (by decide) (Nat.le_of_ble_eq_true rfl) ?_
  unfold fX10_emit
  refine ev_step (st_aload_n (pc := 0) (j := 0) dX10_emit_0 rfl rfl) ?_
  refine ev_getR (pc := 1) k_X10_104 rfl dX10_emit_1 (fun a1 => ?_)
  refine ev_step (st_aload_n (pc := 4) (j := 0) dX10_emit_4 rfl rfl) ?_
  refine ev_getI (pc := 5) k_X10_242 rfl dX10_emit_5 (fun x2 => ?_)
  refine ev_step (st_iload_n (pc := 8) (j := 1) dX10_emit_8 rfl rfl) ?_
  refine ev_sti (pc := 9) dX10_emit_9 (fun h3 => ?_)
  refine ev_step (st_aload_n (pc := 10) (j := 0) dX10_emit_10 rfl rfl) ?_
  refine ev_getR (pc := 11) k_X10_107 rfl dX10_emit_11 (fun a4 => ?_)
  refine ev_step (st_aload_n (pc := 14) (j := 0) dX10_emit_14 rfl rfl) ?_
  refine ev_getI (pc := 15) k_X10_242 rfl dX10_emit_15 (fun x5 => ?_)
  refine ev_step (st_iload_n (pc := 18) (j := 2) dX10_emit_18 rfl rfl) ?_
  refine ev_sti (pc := 19) dX10_emit_19 (fun h6 => ?_)
  refine ev_step (st_aload_n (pc := 20) (j := 0) dX10_emit_20 rfl rfl) ?_
  refine ev_step (st_dup (pc := 21) dX10_emit_21 rfl) ?_
  refine ev_getI (pc := 22) k_X10_242 rfl dX10_emit_22 (fun x7 => ?_)
  refine ev_step (st_iconst (pc := 25) dX10_emit_25 ni_1) ?_
  refine ev_step (st_iadd (pc := 26) dX10_emit_26) ?_
  refine ev_putI (pc := 27) (p_X10_242 _ rfl) rfl dX10_emit_27 (fun h8 => ?_)
  exact ev_vret (pc := 30) dX10_emit_30
set_option maxRecDepth 100000 in
set_option maxHeartbeats 4000000 in
theorem tX10_comesOut_84 (G : gx) (fu : Nat) (h0 : mh) (v0 : Nat) (v1 : Int32) (v2 : Int32) (s0 : Nat) (s1 : Int32) (k0 : mh → Option (Unit × mh)) (hk0 : ∀ (h : mh), Ev lV G yX10_comesOut cX10_comesOut 3 (none) 2 h0 0 [(0, .ref (gB G + v0)), (1, .int v1)] [] h (k0 (h))) (h : mh) : Ev lV G yX10_comesOut cX10_comesOut 3 (none) 2 h0 84 [(0, .ref (gB G + v0)), (1, .int v1), (2, .int v2)] [.int s1, .ref (gB G + s0)] h (fX10_comesOut_84 fu k0 v0 v1 v2 s0 s1 h) := by
  unfold fX10_comesOut_84
  refine ev_step (st_iconst (pc := 84) dX10_comesOut_84 ni_0) ?_
  refine ev_ck (fun ha hS => ?_)
  refine ev_callV (iv_V (As := [.int s1, .int ((0 : Int32))]) (st := []) (pc := 85) rfl m_X10_emit l_X10_296 i_X10_emit e_X10_emit ha hS rfl (Nat.le_of_ble_eq_true rfl) rfl dX10_comesOut_85) (tX10_emit G fu s0 s1 ((0 : Int32)) h) (by decide) (by decide) (fun h1 => ?_)
  refine ev_step (st_goto (pc := 88) (tgt := 0) dX10_comesOut_88 (by decide)) ?_
  refine ev_sub (ls' := [(0, .ref (gB G + v0)), (1, .int v1)]) [0, 1] rfl ?_
  exact hk0  h1
set_option maxRecDepth 100000 in
set_option maxHeartbeats 4000000 in
theorem tX10_comesOut_42 (G : gx) (fu : Nat) (h0 : mh) (v0 : Nat) (v1 : Int32) (v2 : Int32) (k0 : mh → Option (Unit × mh)) (hk0 : ∀ (h : mh), Ev lV G yX10_comesOut cX10_comesOut 3 (none) 2 h0 0 [(0, .ref (gB G + v0)), (1, .int v1)] [] h (k0 (h))) (h : mh) : Ev lV G yX10_comesOut cX10_comesOut 3 (none) 2 h0 42 [(0, .ref (gB G + v0)), (1, .int v1), (2, .int v2)] [] h (fX10_comesOut_42 fu k0 v0 v1 v2 h) := by
  unfold fX10_comesOut_42
  refine ev_step (st_aload_n (pc := 42) (j := 0) dX10_comesOut_42 rfl rfl) ?_
  refine ev_step (st_dup (pc := 43) dX10_comesOut_43 rfl) ?_
  refine ev_getI (pc := 44) k_X10_293 rfl dX10_comesOut_44 (fun x1 => ?_)
  refine ev_step (st_iconst (pc := 47) dX10_comesOut_47 ni_1) ?_
  refine ev_step (st_isub (pc := 48) dX10_comesOut_48) ?_
  refine ev_putI (pc := 49) (p_X10_293 _ rfl) rfl dX10_comesOut_49 (fun h2 => ?_)
  refine ev_step (st_aload_n (pc := 52) (j := 0) dX10_comesOut_52 rfl rfl) ?_
  refine ev_step (st_iload_n (pc := 53) (j := 2) dX10_comesOut_53 rfl rfl) ?_
  refine ev_step (st_bipush (pc := 54) dX10_comesOut_54 nb_8) ?_
  refine ev_br (br_icmp_ne (tgt := 63) (pc := 56) dX10_comesOut_56 (by decide)) (fun _ => ?_) (fun _ => ?_)
  · refine ev_step (st_iconst (pc := 59) dX10_comesOut_59 ni_2) ?_
    refine ev_step (st_goto (pc := 60) (tgt := 84) dX10_comesOut_60 (by decide)) ?_
    refine ev_sub (ls' := [(0, .ref (gB G + v0)), (1, .int v1), (2, .int v2)]) [0, 1, 2] rfl ?_
    exact tX10_comesOut_84 G fu h0 v0 v1 v2 v0 ((2 : Int32)) k0 hk0 h2
  · refine ev_step (st_iload_n (pc := 63) (j := 2) dX10_comesOut_63 rfl rfl) ?_
    refine ev_step (st_bipush (pc := 64) dX10_comesOut_64 nb_9) ?_
    refine ev_br (br_icmp_ne (tgt := 73) (pc := 66) dX10_comesOut_66 (by decide)) (fun _ => ?_) (fun _ => ?_)
    · refine ev_step (st_iconst (pc := 69) dX10_comesOut_69 ni_3) ?_
      refine ev_step (st_goto (pc := 70) (tgt := 84) dX10_comesOut_70 (by decide)) ?_
      refine ev_sub (ls' := [(0, .ref (gB G + v0)), (1, .int v1), (2, .int v2)]) [0, 1, 2] rfl ?_
      exact tX10_comesOut_84 G fu h0 v0 v1 v2 v0 ((3 : Int32)) k0 hk0 h2
    · refine ev_step (st_iload_n (pc := 73) (j := 2) dX10_comesOut_73 rfl rfl) ?_
      refine ev_step (st_bipush (pc := 74) dX10_comesOut_74 nb_10) ?_
      refine ev_br (br_icmp_ne (tgt := 83) (pc := 76) dX10_comesOut_76 (by decide)) (fun _ => ?_) (fun _ => ?_)
      · refine ev_step (st_iconst (pc := 79) dX10_comesOut_79 ni_4) ?_
        refine ev_step (st_goto (pc := 80) (tgt := 84) dX10_comesOut_80 (by decide)) ?_
        refine ev_sub (ls' := [(0, .ref (gB G + v0)), (1, .int v1), (2, .int v2)]) [0, 1, 2] rfl ?_
        exact tX10_comesOut_84 G fu h0 v0 v1 v2 v0 ((4 : Int32)) k0 hk0 h2
      · refine ev_step (st_iconst (pc := 83) dX10_comesOut_83 ni_5) ?_
        refine ev_sub (ls' := [(0, .ref (gB G + v0)), (1, .int v1), (2, .int v2)]) [0, 1, 2] rfl ?_
        exact tX10_comesOut_84 G fu h0 v0 v1 v2 v0 ((5 : Int32)) k0 hk0 h2
set_option maxRecDepth 100000 in
set_option maxHeartbeats 4000000 in
theorem tX10_comesOut_0 (G : gx) (fu : Nat) (h0 : mh) (v0 : Nat) (v1 : Int32) (n : Nat) (h : mh) : Ev lV G yX10_comesOut cX10_comesOut 3 (none) 2 h0 0 [(0, .ref (gB G + v0)), (1, .int v1)] [] h (itr (bX10_comesOut_0 fu v0 v1) n (h)) := by
  refine ev_itr (P := fun (q : mh) (R9 : Option (Unit × mh)) => Ev lV G yX10_comesOut cX10_comesOut 3 (none) 2 h0 0 [(0, .ref (gB G + v0)), (1, .int v1)] [] q R9) (fun _ => ev_none) (fun k0 hk9 h => ?_) n (h)
  have hk0 : ∀ (h : mh), Ev lV G yX10_comesOut cX10_comesOut 3 (none) 2 h0 0 [(0, .ref (gB G + v0)), (1, .int v1)] [] h (k0 (h)) := fun h => hk9 (h)
  show Ev lV G yX10_comesOut cX10_comesOut 3 (none) 2 h0 0 [(0, .ref (gB G + v0)), (1, .int v1)] [] h (bX10_comesOut_0 fu v0 v1 k0 (h))
  unfold bX10_comesOut_0
  refine ev_step (st_aload_n (pc := 0) (j := 0) dX10_comesOut_0 rfl rfl) ?_
  refine ev_getI (pc := 1) k_X10_293 rfl dX10_comesOut_1 (fun x1 => ?_)
  refine ev_br (br_if_le (tgt := 91) (pc := 4) dX10_comesOut_4 (by decide)) (fun _ => ?_) (fun _ => ?_)
  · exact ev_vret (pc := 91) dX10_comesOut_91
  · refine ev_step (st_aload_n (pc := 7) (j := 0) dX10_comesOut_7 rfl rfl) ?_
    refine ev_getR (pc := 8) k_X10_110 rfl dX10_comesOut_8 (fun a2 => ?_)
    refine ev_step (st_aload_n (pc := 11) (j := 0) dX10_comesOut_11 rfl rfl) ?_
    refine ev_getI (pc := 12) k_X10_293 rfl dX10_comesOut_12 (fun x3 => ?_)
    refine ev_step (st_iconst (pc := 15) dX10_comesOut_15 ni_1) ?_
    refine ev_step (st_isub (pc := 16) dX10_comesOut_16) ?_
    refine ev_ldi (pc := 17) dX10_comesOut_17 (fun x4 => ?_)
    refine ev_step (st_istore_n (pc := 18) (ls' := [(2, .int x4), (0, .ref (gB G + v0)), (1, .int v1)]) dX10_comesOut_18 rfl (by decide) rfl) ?_
    refine ev_step (st_iload_n (pc := 19) (j := 0) dX10_comesOut_19 rfl rfl) ?_
    refine ev_step (st_bipush (pc := 20) dX10_comesOut_20 nb_6) ?_
    refine ev_br (br_icmp_eq (tgt := 41) (pc := 22) dX10_comesOut_22 (by decide)) (fun _ => ?_) (fun _ => ?_)
    · exact ev_vret (pc := 41) dX10_comesOut_41
    · refine ev_step (st_iload_n (pc := 25) (j := 2) dX10_comesOut_25 rfl rfl) ?_
      refine ev_br (br_if_eq (tgt := 42) (pc := 26) dX10_comesOut_26 (by decide)) (fun _ => ?_) (fun _ => ?_)
      · refine ev_sub (ls' := [(0, .ref (gB G + v0)), (1, .int v1), (2, .int x4)]) [1, 2, 0] rfl ?_
        exact tX10_comesOut_42 G fu h0 v0 v1 x4 k0 hk0 h
      · refine ev_step (st_iload_n (pc := 29) (j := 0) dX10_comesOut_29 rfl rfl) ?_
        refine ev_step (st_bipush (pc := 30) dX10_comesOut_30 nb_8) ?_
        refine ev_br (br_icmp_eq (tgt := 41) (pc := 32) dX10_comesOut_32 (by decide)) (fun _ => ?_) (fun _ => ?_)
        · exact ev_vret (pc := 41) dX10_comesOut_41
        · refine ev_step (st_iload_n (pc := 35) (j := 0) dX10_comesOut_35 rfl rfl) ?_
          refine ev_step (st_bipush (pc := 36) dX10_comesOut_36 nb_9) ?_
          refine ev_br (br_icmp_ne (tgt := 42) (pc := 38) dX10_comesOut_38 (by decide)) (fun _ => ?_) (fun _ => ?_)
          · exact ev_vret (pc := 41) dX10_comesOut_41
          · refine ev_sub (ls' := [(0, .ref (gB G + v0)), (1, .int v1), (2, .int x4)]) [1, 2, 0] rfl ?_
            exact tX10_comesOut_42 G fu h0 v0 v1 x4 k0 hk0 h
set_option maxRecDepth 100000 in
set_option maxHeartbeats 4000000 in
theorem tX10_comesOut (G : gx) (fu : Nat) (v0 : Nat) (v1 : Int32) (h : mh) : Ct lV G yX10_comesOut cX10_comesOut 3 (none) 2 [.ref (gB G + v0), .int v1] h (fX10_comesOut fu v0 v1 h) := by
  refine ct_ls (ls := [(0, .ref (gB G + v0)), (1, .int v1)]) rfl (by decide) (Nat.le_of_ble_eq_true rfl) ?_
  unfold fX10_comesOut
  refine ev_sub (ls' := [(0, .ref (gB G + v0)), (1, .int v1)]) [0, 1] rfl ?_
  exact tX10_comesOut_0 G fu h v0 v1 fu  h
set_option maxRecDepth 100000 in
set_option maxHeartbeats 4000000 in
theorem tX10_unit_88 (G : gx) (fu : Nat) (h0 : mh) (v0 : Nat) (h : mh) : Ev lV G yX10_unit cX10_unit 1 (none) 3 h0 88 [(0, .ref (gB G + v0))] [] h (fX10_unit_88 fu v0 h) := by
  unfold fX10_unit_88
  refine ev_step (st_aload_n (pc := 88) (j := 0) dX10_unit_88 rfl rfl) ?_
  refine ev_step (st_iconst (pc := 89) dX10_unit_89 ni_1) ?_
  refine ev_ck (fun ha hS => ?_)
  refine ev_callV (iv_V (As := [.int ((1 : Int32))]) (st := []) (pc := 90) rfl m_X10_fail l_X10_215 i_X10_fail e_X10_fail ha hS rfl (Nat.le_of_ble_eq_true rfl) rfl dX10_unit_90) (tX10_fail G fu v0 ((1 : Int32)) h) (by decide) (by decide) (fun h1 => ?_)
  exact ev_vret (pc := 93) dX10_unit_93
set_option maxRecDepth 100000 in
set_option maxHeartbeats 4000000 in
theorem tX10_unit (G : gx) (fu : Nat) (v0 : Nat) (h : mh) : Ct lV G yX10_unit cX10_unit 1 (none) 3 [.ref (gB G + v0)] h (fX10_unit fu v0 h) := by
  refine ct_ls (ls := [(0, .ref (gB G + v0))]) rfl (by decide) (Nat.le_of_ble_eq_true rfl) ?_
  unfold fX10_unit
  refine ev_step (st_aload_n (pc := 0) (j := 0) dX10_unit_0 rfl rfl) ?_
  refine ev_step (st_iconst (pc := 1) dX10_unit_1 ni_2) ?_
  refine ev_ck (fun ha hS => ?_)
  refine ev_callI (iv_V (As := [.int ((2 : Int32))]) (st := []) (pc := 2) rfl m_X10_is l_X10_218 i_X10_is e_X10_is ha hS rfl (Nat.le_of_ble_eq_true rfl) rfl dX10_unit_2) (tX10_is G fu v0 ((2 : Int32)) h) (by decide) (by decide) (fun x2 h1 => ?_)
  refine ev_br (br_if_eq (tgt := 29) (pc := 5) dX10_unit_5 (by decide)) (fun _ => ?_) (fun _ => ?_)
  · refine ev_step (st_aload_n (pc := 29) (j := 0) dX10_unit_29 rfl rfl) ?_
    refine ev_getI (pc := 30) k_X10_200 rfl dX10_unit_30 (fun x3 => ?_)
    refine ev_br (br_if_ne (tgt := 88) (pc := 33) dX10_unit_33 (by decide)) (fun _ => ?_) (fun _ => ?_)
    · refine ev_step (st_aload_n (pc := 36) (j := 0) dX10_unit_36 rfl rfl) ?_
      refine ev_getR (pc := 37) k_X10_20 rfl dX10_unit_37 (fun a4 => ?_)
      refine ev_step (st_aload_n (pc := 40) (j := 0) dX10_unit_40 rfl rfl) ?_
      refine ev_getI (pc := 41) k_X10_203 rfl dX10_unit_41 (fun x5 => ?_)
      refine ev_ldi (pc := 44) dX10_unit_44 (fun x6 => ?_)
      refine ev_step (st_bipush (pc := 45) dX10_unit_45 nb_33) ?_
      refine ev_br (br_icmp_lt (tgt := 88) (pc := 47) dX10_unit_47 (by decide)) (fun _ => ?_) (fun _ => ?_)
      · refine ev_sub (ls' := [(0, .ref (gB G + v0))]) [0] rfl ?_
        exact tX10_unit_88 G fu h v0 h1
      · refine ev_step (st_aload_n (pc := 50) (j := 0) dX10_unit_50 rfl rfl) ?_
        refine ev_getR (pc := 51) k_X10_20 rfl dX10_unit_51 (fun a7 => ?_)
        refine ev_step (st_aload_n (pc := 54) (j := 0) dX10_unit_54 rfl rfl) ?_
        refine ev_getI (pc := 55) k_X10_203 rfl dX10_unit_55 (fun x8 => ?_)
        refine ev_ldi (pc := 58) dX10_unit_58 (fun x9 => ?_)
        refine ev_step (st_bipush (pc := 59) dX10_unit_59 nb_41) ?_
        refine ev_br (br_icmp_gt (tgt := 88) (pc := 61) dX10_unit_61 (by decide)) (fun _ => ?_) (fun _ => ?_)
        · refine ev_sub (ls' := [(0, .ref (gB G + v0))]) [0] rfl ?_
          exact tX10_unit_88 G fu h v0 h1
        · refine ev_step (st_aload_n (pc := 64) (j := 0) dX10_unit_64 rfl rfl) ?_
          refine ev_step (st_iconst (pc := 65) dX10_unit_65 ni_1) ?_
          refine ev_step (st_aload_n (pc := 66) (j := 0) dX10_unit_66 rfl rfl) ?_
          refine ev_getR (pc := 67) k_X10_20 rfl dX10_unit_67 (fun a10 => ?_)
          refine ev_step (st_aload_n (pc := 70) (j := 0) dX10_unit_70 rfl rfl) ?_
          refine ev_getI (pc := 71) k_X10_203 rfl dX10_unit_71 (fun x11 => ?_)
          refine ev_ldi (pc := 74) dX10_unit_74 (fun x12 => ?_)
          refine ev_step (st_bipush (pc := 75) dX10_unit_75 nb_33) ?_
          refine ev_step (st_isub (pc := 77) dX10_unit_77) ?_
          refine ev_ck (fun ha hS => ?_)
          refine ev_callV (iv_V (As := [.int ((1 : Int32)), .int (x12 - ((33 : Int32)))]) (st := []) (pc := 78) rfl m_X10_emit l_X10_296 i_X10_emit e_X10_emit ha hS rfl (Nat.le_of_ble_eq_true rfl) rfl dX10_unit_78) (tX10_emit G fu v0 ((1 : Int32)) (x12 - ((33 : Int32))) h1) (by decide) (by decide) (fun h13 => ?_)
          refine ev_step (st_aload_n (pc := 81) (j := 0) dX10_unit_81 rfl rfl) ?_
          refine ev_ck (fun ha hS => ?_)
          refine ev_callV (iv_V (As := []) (st := []) (pc := 82) rfl m_X10_goesOn l_X10_221 i_X10_goesOn e_X10_goesOn ha hS rfl (Nat.le_of_ble_eq_true rfl) rfl dX10_unit_82) (tX10_goesOn G fu v0 h13) (by decide) (by decide) (fun h14 => ?_)
          refine ev_step (st_goto (pc := 85) (tgt := 93) dX10_unit_85 (by decide)) ?_
          exact ev_vret (pc := 93) dX10_unit_93
    · refine ev_sub (ls' := [(0, .ref (gB G + v0))]) [0] rfl ?_
      exact tX10_unit_88 G fu h v0 h1
  · refine ev_step (st_aload_n (pc := 8) (j := 0) dX10_unit_8 rfl rfl) ?_
    refine ev_step (st_iconst (pc := 9) dX10_unit_9 ni_0) ?_
    refine ev_step (st_aload_n (pc := 10) (j := 0) dX10_unit_10 rfl rfl) ?_
    refine ev_getR (pc := 11) k_X10_27 rfl dX10_unit_11 (fun a15 => ?_)
    refine ev_step (st_aload_n (pc := 14) (j := 0) dX10_unit_14 rfl rfl) ?_
    refine ev_getI (pc := 15) k_X10_203 rfl dX10_unit_15 (fun x16 => ?_)
    refine ev_ldi (pc := 18) dX10_unit_18 (fun x17 => ?_)
    refine ev_ck (fun ha hS => ?_)
    refine ev_callV (iv_V (As := [.int ((0 : Int32)), .int x17]) (st := []) (pc := 19) rfl m_X10_emit l_X10_296 i_X10_emit e_X10_emit ha hS rfl (Nat.le_of_ble_eq_true rfl) rfl dX10_unit_19) (tX10_emit G fu v0 ((0 : Int32)) x17 h1) (by decide) (by decide) (fun h18 => ?_)
    refine ev_step (st_aload_n (pc := 22) (j := 0) dX10_unit_22 rfl rfl) ?_
    refine ev_ck (fun ha hS => ?_)
    refine ev_callV (iv_V (As := []) (st := []) (pc := 23) rfl m_X10_goesOn l_X10_221 i_X10_goesOn e_X10_goesOn ha hS rfl (Nat.le_of_ble_eq_true rfl) rfl dX10_unit_23) (tX10_goesOn G fu v0 h18) (by decide) (by decide) (fun h19 => ?_)
    refine ev_step (st_goto (pc := 26) (tgt := 93) dX10_unit_26 (by decide)) ?_
    exact ev_vret (pc := 93) dX10_unit_93
