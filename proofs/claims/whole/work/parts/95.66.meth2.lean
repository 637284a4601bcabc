theorem dX10_termOf_0 : decode cX10_termOf 0 = .ok (.iconst 0, 1) := by decide +kernel
theorem dX10_termOf_1 : decode cX10_termOf 1 = .ok (.istore_n 3, 1) := by decide +kernel
theorem dX10_termOf_2 : decode cX10_termOf 2 = .ok (.iload_n 1, 1) := by decide +kernel
theorem dX10_termOf_3 : decode cX10_termOf 3 = .ok (.istore 4, 2) := by decide +kernel
theorem dX10_termOf_5 : decode cX10_termOf 5 = .ok (.iload 4, 2) := by decide +kernel
theorem dX10_termOf_7 : decode cX10_termOf 7 = .ok (.iload_n 2, 1) := by decide +kernel
theorem dX10_termOf_8 : decode cX10_termOf 8 = .ok (.if_icmp .ge 157, 3) := by decide +kernel
theorem dX10_termOf_11 : decode cX10_termOf 11 = .ok (.aload_n 0, 1) := by decide +kernel
theorem dX10_termOf_12 : decode cX10_termOf 12 = .ok (.getfield 104, 3) := by decide +kernel
theorem dX10_termOf_15 : decode cX10_termOf 15 = .ok (.iload 4, 2) := by decide +kernel
theorem dX10_termOf_17 : decode cX10_termOf 17 = .ok (.iaload, 1) := by decide +kernel
theorem dX10_termOf_18 : decode cX10_termOf 18 = .ok (.istore 5, 2) := by decide +kernel
theorem dX10_termOf_20 : decode cX10_termOf 20 = .ok (.iload 5, 2) := by decide +kernel
theorem dX10_termOf_22 : decode cX10_termOf 22 = .ok (.iconst 2, 1) := by decide +kernel
theorem dX10_termOf_23 : decode cX10_termOf 23 = .ok (.if_icmp .ge 42, 3) := by decide +kernel
theorem dX10_termOf_26 : decode cX10_termOf 26 = .ok (.aload_n 0, 1) := by decide +kernel
theorem dX10_termOf_27 : decode cX10_termOf 27 = .ok (.getfield 116, 3) := by decide +kernel
theorem dX10_termOf_30 : decode cX10_termOf 30 = .ok (.iload_n 3, 1) := by decide +kernel
theorem dX10_termOf_31 : decode cX10_termOf 31 = .ok (.iload 5, 2) := by decide +kernel
theorem dX10_termOf_33 : decode cX10_termOf 33 = .ok (.ifCond .ne 13, 3) := by decide +kernel
theorem dX10_termOf_36 : decode cX10_termOf 36 = .ok (.aload_n 0, 1) := by decide +kernel
theorem dX10_termOf_37 : decode cX10_termOf 37 = .ok (.getfield 107, 3) := by decide +kernel
theorem dX10_termOf_40 : decode cX10_termOf 40 = .ok (.iload 4, 2) := by decide +kernel
theorem dX10_termOf_42 : decode cX10_termOf 42 = .ok (.iaload, 1) := by decide +kernel
theorem dX10_termOf_43 : decode cX10_termOf 43 = .ok (.goto 15, 3) := by decide +kernel
theorem dX10_termOf_46 : decode cX10_termOf 46 = .ok (.aload_n 0, 1) := by decide +kernel
theorem dX10_termOf_47 : decode cX10_termOf 47 = .ok (.getfield 113, 3) := by decide +kernel
theorem dX10_termOf_50 : decode cX10_termOf 50 = .ok (.aload_n 0, 1) := by decide +kernel
theorem dX10_termOf_51 : decode cX10_termOf 51 = .ok (.getfield 107, 3) := by decide +kernel
theorem dX10_termOf_54 : decode cX10_termOf 54 = .ok (.iload 4, 2) := by decide +kernel
theorem dX10_termOf_56 : decode cX10_termOf 56 = .ok (.iaload, 1) := by decide +kernel
theorem dX10_termOf_57 : decode cX10_termOf 57 = .ok (.iaload, 1) := by decide +kernel
theorem dX10_termOf_58 : decode cX10_termOf 58 = .ok (.iastore, 1) := by decide +kernel
theorem dX10_termOf_59 : decode cX10_termOf 59 = .ok (.iinc 3 1, 3) := by decide +kernel
theorem dX10_termOf_62 : decode cX10_termOf 62 = .ok (.goto 97, 3) := by decide +kernel
theorem dX10_termOf_65 : decode cX10_termOf 65 = .ok (.iinc 3 (-1), 3) := by decide +kernel
theorem dX10_termOf_68 : decode cX10_termOf 68 = .ok (.aload_n 0, 1) := by decide +kernel
theorem dX10_termOf_69 : decode cX10_termOf 69 = .ok (.getfield 116, 3) := by decide +kernel
theorem dX10_termOf_72 : decode cX10_termOf 72 = .ok (.iload_n 3, 1) := by decide +kernel
theorem dX10_termOf_73 : decode cX10_termOf 73 = .ok (.iconst 1, 1) := by decide +kernel
theorem dX10_termOf_74 : decode cX10_termOf 74 = .ok (.isub, 1) := by decide +kernel
theorem dX10_termOf_75 : decode cX10_termOf 75 = .ok (.iaload, 1) := by decide +kernel
theorem dX10_termOf_76 : decode cX10_termOf 76 = .ok (.istore 6, 2) := by decide +kernel
theorem dX10_termOf_78 : decode cX10_termOf 78 = .ok (.aload_n 0, 1) := by decide +kernel
theorem dX10_termOf_79 : decode cX10_termOf 79 = .ok (.getfield 116, 3) := by decide +kernel
theorem dX10_termOf_82 : decode cX10_termOf 82 = .ok (.iload_n 3, 1) := by decide +kernel
theorem dX10_termOf_83 : decode cX10_termOf 83 = .ok (.iaload, 1) := by decide +kernel
theorem dX10_termOf_84 : decode cX10_termOf 84 = .ok (.istore 7, 2) := by decide +kernel
theorem dX10_termOf_86 : decode cX10_termOf 86 = .ok (.iload 5, 2) := by decide +kernel
theorem dX10_termOf_88 : decode cX10_termOf 88 = .ok (.iconst 5, 1) := by decide +kernel
theorem dX10_termOf_89 : decode cX10_termOf 89 = .ok (.if_icmp .ne 15, 3) := by decide +kernel
theorem dX10_termOf_92 : decode cX10_termOf 92 = .ok (.iload 7, 2) := by decide +kernel
theorem dX10_termOf_94 : decode cX10_termOf 94 = .ok (.ifCond .ne 10, 3) := by decide +kernel
theorem dX10_termOf_97 : decode cX10_termOf 97 = .ok (.aload_n 0, 1) := by decide +kernel
theorem dX10_termOf_98 : decode cX10_termOf 98 = .ok (.iconst 1, 1) := by decide +kernel
theorem dX10_termOf_99 : decode cX10_termOf 99 = .ok (.putfield 306, 3) := by decide +kernel
theorem dX10_termOf_102 : decode cX10_termOf 102 = .ok (.iconst 0, 1) := by decide +kernel
theorem dX10_termOf_103 : decode cX10_termOf 103 = .ok (.ireturn, 1) := by decide +kernel
theorem dX10_termOf_104 : decode cX10_termOf 104 = .ok (.aload_n 0, 1) := by decide +kernel
theorem dX10_termOf_105 : decode cX10_termOf 105 = .ok (.getfield 116, 3) := by decide +kernel
theorem dX10_termOf_108 : decode cX10_termOf 108 = .ok (.iload_n 3, 1) := by decide +kernel
theorem dX10_termOf_109 : decode cX10_termOf 109 = .ok (.iconst 1, 1) := by decide +kernel
theorem dX10_termOf_110 : decode cX10_termOf 110 = .ok (.isub, 1) := by decide +kernel
theorem dX10_termOf_111 : decode cX10_termOf 111 = .ok (.iload 5, 2) := by decide +kernel
theorem dX10_termOf_113 : decode cX10_termOf 113 = .ok (.iconst 2, 1) := by decide +kernel
theorem dX10_termOf_114 : decode cX10_termOf 114 = .ok (.if_icmp .ne 11, 3) := by decide +kernel
theorem dX10_termOf_117 : decode cX10_termOf 117 = .ok (.iload 6, 2) := by decide +kernel
theorem dX10_termOf_119 : decode cX10_termOf 119 = .ok (.iload 7, 2) := by decide +kernel
theorem dX10_termOf_121 : decode cX10_termOf 121 = .ok (.iadd, 1) := by decide +kernel
theorem dX10_termOf_122 : decode cX10_termOf 122 = .ok (.goto 36, 3) := by decide +kernel
theorem dX10_termOf_125 : decode cX10_termOf 125 = .ok (.iload 5, 2) := by decide +kernel
theorem dX10_termOf_127 : decode cX10_termOf 127 = .ok (.iconst 3, 1) := by decide +kernel
theorem dX10_termOf_128 : decode cX10_termOf 128 = .ok (.if_icmp .ne 11, 3) := by decide +kernel
theorem dX10_termOf_131 : decode cX10_termOf 131 = .ok (.iload 6, 2) := by decide +kernel
theorem dX10_termOf_133 : decode cX10_termOf 133 = .ok (.iload 7, 2) := by decide +kernel
theorem dX10_termOf_135 : decode cX10_termOf 135 = .ok (.isub, 1) := by decide +kernel
theorem dX10_termOf_136 : decode cX10_termOf 136 = .ok (.goto 22, 3) := by decide +kernel
theorem dX10_termOf_139 : decode cX10_termOf 139 = .ok (.iload 5, 2) := by decide +kernel
theorem dX10_termOf_141 : decode cX10_termOf 141 = .ok (.iconst 4, 1) := by decide +kernel
theorem dX10_termOf_142 : decode cX10_termOf 142 = .ok (.if_icmp .ne 11, 3) := by decide +kernel
theorem dX10_termOf_145 : decode cX10_termOf 145 = .ok (.iload 6, 2) := by decide +kernel
theorem dX10_termOf_147 : decode cX10_termOf 147 = .ok (.iload 7, 2) := by decide +kernel
theorem dX10_termOf_149 : decode cX10_termOf 149 = .ok (.imul, 1) := by decide +kernel
theorem dX10_termOf_150 : decode cX10_termOf 150 = .ok (.goto 8, 3) := by decide +kernel
theorem dX10_termOf_153 : decode cX10_termOf 153 = .ok (.iload 6, 2) := by decide +kernel
theorem dX10_termOf_155 : decode cX10_termOf 155 = .ok (.iload 7, 2) := by decide +kernel
theorem dX10_termOf_157 : decode cX10_termOf 157 = .ok (.idiv, 1) := by decide +kernel
theorem dX10_termOf_158 : decode cX10_termOf 158 = .ok (.iastore, 1) := by decide +kernel
theorem dX10_termOf_159 : decode cX10_termOf 159 = .ok (.iinc 4 1, 3) := by decide +kernel
theorem dX10_termOf_162 : decode cX10_termOf 162 = .ok (.goto (-157), 3) := by decide +kernel
theorem dX10_termOf_165 : decode cX10_termOf 165 = .ok (.aload_n 0, 1) := by decide +kernel
theorem dX10_termOf_166 : decode cX10_termOf 166 = .ok (.getfield 116, 3) := by decide +kernel
theorem dX10_termOf_169 : decode cX10_termOf 169 = .ok (.iconst 0, 1) := by decide +kernel
theorem dX10_termOf_170 : decode cX10_termOf 170 = .ok (.iaload, 1) := by decide +kernel
theorem dX10_termOf_171 : decode cX10_termOf 171 = .ok (.ireturn, 1) := by decide +kernel
theorem dX10_in_0 : decode cX10_in 0 = .ok (.iload_n 0, 1) := by decide +kernel
theorem dX10_in_1 : decode cX10_in 1 = .ok (.iload_n 1, 1) := by decide +kernel
theorem dX10_in_2 : decode cX10_in 2 = .ok (.if_icmp .lt 12, 3) := by decide +kernel
theorem dX10_in_5 : decode cX10_in 5 = .ok (.iload_n 0, 1) := by decide +kernel
theorem dX10_in_6 : decode cX10_in 6 = .ok (.iload_n 2, 1) := by decide +kernel
theorem dX10_in_7 : decode cX10_in 7 = .ok (.if_icmp .gt 7, 3) := by decide +kernel
theorem dX10_in_10 : decode cX10_in 10 = .ok (.iconst 1, 1) := by decide +kernel
theorem dX10_in_11 : decode cX10_in 11 = .ok (.goto 4, 3) := by decide +kernel
theorem dX10_in_14 : decode cX10_in 14 = .ok (.iconst 0, 1) := by decide +kernel
theorem dX10_in_15 : decode cX10_in 15 = .ok (.ireturn, 1) := by decide +kernel
theorem dX10_within_0 : decode cX10_within 0 = .ok (.iload_n 0, 1) := by decide +kernel
theorem dX10_within_1 : decode cX10_within 1 = .ok (.iload_n 1, 1) := by decide +kernel
theorem dX10_within_2 : decode cX10_within 2 = .ok (.if_icmp .ge 7, 3) := by decide +kernel
theorem dX10_within_5 : decode cX10_within 5 = .ok (.iload_n 1, 1) := by decide +kernel
theorem dX10_within_6 : decode cX10_within 6 = .ok (.goto 13, 3) := by decide +kernel
theorem dX10_within_9 : decode cX10_within 9 = .ok (.iload_n 0, 1) := by decide +kernel
theorem dX10_within_10 : decode cX10_within 10 = .ok (.iload_n 2, 1) := by decide +kernel
theorem dX10_within_11 : decode cX10_within 11 = .ok (.if_icmp .le 7, 3) := by decide +kernel
theorem dX10_within_14 : decode cX10_within 14 = .ok (.iload_n 2, 1) := by decide +kernel
theorem dX10_within_15 : decode cX10_within 15 = .ok (.goto 4, 3) := by decide +kernel
theorem dX10_within_18 : decode cX10_within 18 = .ok (.iload_n 0, 1) := by decide +kernel
theorem dX10_within_19 : decode cX10_within 19 = .ok (.ireturn, 1) := by decide +kernel
theorem dX10_bits_0 : decode cX10_bits 0 = .ok (.iconst 0, 1) := by decide +kernel
theorem dX10_bits_1 : decode cX10_bits 1 = .ok (.istore_n 1, 1) := by decide +kernel
theorem dX10_bits_2 : decode cX10_bits 2 = .ok (.iconst 0, 1) := by decide +kernel
theorem dX10_bits_3 : decode cX10_bits 3 = .ok (.istore_n 2, 1) := by decide +kernel
theorem dX10_bits_4 : decode cX10_bits 4 = .ok (.iload_n 2, 1) := by decide +kernel
theorem dX10_bits_5 : decode cX10_bits 5 = .ok (.bipush 8, 2) := by decide +kernel
theorem dX10_bits_7 : decode cX10_bits 7 = .ok (.if_icmp .ge 17, 3) := by decide +kernel
theorem dX10_bits_10 : decode cX10_bits 10 = .ok (.iload_n 1, 1) := by decide +kernel
theorem dX10_bits_11 : decode cX10_bits 11 = .ok (.iload_n 0, 1) := by decide +kernel
theorem dX10_bits_12 : decode cX10_bits 12 = .ok (.iload_n 2, 1) := by decide +kernel
theorem dX10_bits_13 : decode cX10_bits 13 = .ok (.ishr, 1) := by decide +kernel
theorem dX10_bits_14 : decode cX10_bits 14 = .ok (.iconst 1, 1) := by decide +kernel
theorem dX10_bits_15 : decode cX10_bits 15 = .ok (.iand, 1) := by decide +kernel
theorem dX10_bits_16 : decode cX10_bits 16 = .ok (.iadd, 1) := by decide +kernel
theorem dX10_bits_17 : decode cX10_bits 17 = .ok (.istore_n 1, 1) := by decide +kernel
theorem dX10_bits_18 : decode cX10_bits 18 = .ok (.iinc 2 1, 3) := by decide +kernel
theorem dX10_bits_21 : decode cX10_bits 21 = .ok (.goto (-17), 3) := by decide +kernel
theorem dX10_bits_24 : decode cX10_bits 24 = .ok (.iload_n 1, 1) := by decide +kernel
theorem dX10_bits_25 : decode cX10_bits 25 = .ok (.ireturn, 1) := by decide +kernel
theorem dX10_isRole_0 : decode cX10_isRole 0 = .ok (.iload_n 1, 1) := by decide +kernel
theorem dX10_isRole_1 : decode cX10_isRole 1 = .ok (.iconst 0, 1) := by decide +kernel
theorem dX10_isRole_2 : decode cX10_isRole 2 = .ok (.aload_n 0, 1) := by decide +kernel
theorem dX10_isRole_3 : decode cX10_isRole 3 = .ok (.getfield 46, 3) := by decide +kernel
theorem dX10_isRole_6 : decode cX10_isRole 6 = .ok (.aload_n 0, 1) := by decide +kernel
theorem dX10_isRole_7 : decode cX10_isRole 7 = .ok (.getfield 230, 3) := by decide +kernel
theorem dX10_isRole_10 : decode cX10_isRole 10 = .ok (.iaload, 1) := by decide +kernel
theorem dX10_isRole_11 : decode cX10_isRole 11 = .ok (.iconst 1, 1) := by decide +kernel
theorem dX10_isRole_12 : decode cX10_isRole 12 = .ok (.isub, 1) := by decide +kernel
theorem dX10_isRole_13 : decode cX10_isRole 13 = .ok (.invokestatic 310, 3) := by decide +kernel
theorem dX10_isRole_16 : decode cX10_isRole 16 = .ok (.ireturn, 1) := by decide +kernel
theorem dX10_isListener_0 : decode cX10_isListener 0 = .ok (.iload_n 1, 1) := by decide +kernel
theorem dX10_isListener_1 : decode cX10_isListener 1 = .ok (.iconst 0, 1) := by decide +kernel
theorem dX10_isListener_2 : decode cX10_isListener 2 = .ok (.aload_n 0, 1) := by decide +kernel
theorem dX10_isListener_3 : decode cX10_isListener 3 = .ok (.getfield 55, 3) := by decide +kernel
theorem dX10_isListener_6 : decode cX10_isListener 6 = .ok (.aload_n 0, 1) := by decide +kernel
theorem dX10_isListener_7 : decode cX10_isListener 7 = .ok (.getfield 230, 3) := by decide +kernel
theorem dX10_isListener_10 : decode cX10_isListener 10 = .ok (.iaload, 1) := by decide +kernel
theorem dX10_isListener_11 : decode cX10_isListener 11 = .ok (.iconst 1, 1) := by decide +kernel
theorem dX10_isListener_12 : decode cX10_isListener 12 = .ok (.isub, 1) := by decide +kernel
theorem dX10_isListener_13 : decode cX10_isListener 13 = .ok (.invokestatic 310, 3) := by decide +kernel
theorem dX10_isListener_16 : decode cX10_isListener 16 = .ok (.ireturn, 1) := by decide +kernel
theorem dX10_isFact_0 : decode cX10_isFact 0 = .ok (.iload_n 0, 1) := by decide +kernel
theorem dX10_isFact_1 : decode cX10_isFact 1 = .ok (.iconst 0, 1) := by decide +kernel
theorem dX10_isFact_2 : decode cX10_isFact 2 = .ok (.bipush 7, 2) := by decide +kernel
theorem dX10_isFact_4 : decode cX10_isFact 4 = .ok (.invokestatic 310, 3) := by decide +kernel
theorem dX10_isFact_7 : decode cX10_isFact 7 = .ok (.ireturn, 1) := by decide +kernel
theorem dX10_begins_0 : decode cX10_begins 0 = .ok (.iconst 0, 1) := by decide +kernel
theorem dX10_begins_1 : decode cX10_begins 1 = .ok (.istore_n 1, 1) := by decide +kernel
theorem dX10_begins_2 : decode cX10_begins 2 = .ok (.iload_n 1, 1) := by decide +kernel
theorem dX10_begins_3 : decode cX10_begins 3 = .ok (.bipush 33, 2) := by decide +kernel
theorem dX10_begins_5 : decode cX10_begins 5 = .ok (.if_icmp .ge 16, 3) := by decide +kernel
theorem dX10_begins_8 : decode cX10_begins 8 = .ok (.aload_n 0, 1) := by decide +kernel
theorem dX10_begins_9 : decode cX10_begins 9 = .ok (.getfield 122, 3) := by decide +kernel
theorem dX10_begins_12 : decode cX10_begins 12 = .ok (.iload_n 1, 1) := by decide +kernel
theorem dX10_begins_13 : decode cX10_begins 13 = .ok (.iconst 0, 1) := by decide +kernel
theorem dX10_begins_14 : decode cX10_begins 14 = .ok (.iastore, 1) := by decide +kernel
theorem dX10_begins_15 : decode cX10_begins 15 = .ok (.iinc 1 1, 3) := by decide +kernel
theorem dX10_begins_18 : decode cX10_begins 18 = .ok (.goto (-16), 3) := by decide +kernel
theorem dX10_begins_21 : decode cX10_begins 21 = .ok (.iconst 0, 1) := by decide +kernel
theorem dX10_begins_22 : decode cX10_begins 22 = .ok (.istore_n 1, 1) := by decide +kernel
theorem dX10_begins_23 : decode cX10_begins 23 = .ok (.iload_n 1, 1) := by decide +kernel
theorem dX10_begins_24 : decode cX10_begins 24 = .ok (.aload_n 0, 1) := by decide +kernel
theorem dX10_begins_25 : decode cX10_begins 25 = .ok (.getfield 55, 3) := by decide +kernel
theorem dX10_begins_28 : decode cX10_begins 28 = .ok (.aload_n 0, 1) := by decide +kernel
theorem dX10_begins_29 : decode cX10_begins 29 = .ok (.getfield 230, 3) := by decide +kernel
theorem dX10_begins_32 : decode cX10_begins 32 = .ok (.iaload, 1) := by decide +kernel
theorem dX10_begins_33 : decode cX10_begins 33 = .ok (.if_icmp .ge 65, 3) := by decide +kernel
theorem dX10_begins_36 : decode cX10_begins 36 = .ok (.aload_n 0, 1) := by decide +kernel
theorem dX10_begins_37 : decode cX10_begins 37 = .ok (.getfield 122, 3) := by decide +kernel
theorem dX10_begins_40 : decode cX10_begins 40 = .ok (.bipush 12, 2) := by decide +kernel
theorem dX10_begins_42 : decode cX10_begins 42 = .ok (.iload_n 1, 1) := by decide +kernel
theorem dX10_begins_43 : decode cX10_begins 43 = .ok (.iadd, 1) := by decide +kernel
theorem dX10_begins_44 : decode cX10_begins 44 = .ok (.aload_n 0, 1) := by decide +kernel
theorem dX10_begins_45 : decode cX10_begins 45 = .ok (.getfield 58, 3) := by decide +kernel
theorem dX10_begins_48 : decode cX10_begins 48 = .ok (.bipush 6, 2) := by decide +kernel
theorem dX10_begins_50 : decode cX10_begins 50 = .ok (.aload_n 0, 1) := by decide +kernel
theorem dX10_begins_51 : decode cX10_begins 51 = .ok (.getfield 230, 3) := by decide +kernel
theorem dX10_begins_54 : decode cX10_begins 54 = .ok (.imul, 1) := by decide +kernel
theorem dX10_begins_55 : decode cX10_begins 55 = .ok (.iload_n 1, 1) := by decide +kernel
theorem dX10_begins_56 : decode cX10_begins 56 = .ok (.iadd, 1) := by decide +kernel
theorem dX10_begins_57 : decode cX10_begins 57 = .ok (.iaload, 1) := by decide +kernel
theorem dX10_begins_58 : decode cX10_begins 58 = .ok (.iastore, 1) := by decide +kernel
theorem dX10_begins_59 : decode cX10_begins 59 = .ok (.aload_n 0, 1) := by decide +kernel
theorem dX10_begins_60 : decode cX10_begins 60 = .ok (.getfield 122, 3) := by decide +kernel
theorem dX10_begins_63 : decode cX10_begins 63 = .ok (.bipush 18, 2) := by decide +kernel
theorem dX10_begins_65 : decode cX10_begins 65 = .ok (.iload_n 1, 1) := by decide +kernel
theorem dX10_begins_66 : decode cX10_begins 66 = .ok (.iadd, 1) := by decide +kernel
theorem dX10_begins_67 : decode cX10_begins 67 = .ok (.aload_n 0, 1) := by decide +kernel
theorem dX10_begins_68 : decode cX10_begins 68 = .ok (.getfield 64, 3) := by decide +kernel
theorem dX10_begins_71 : decode cX10_begins 71 = .ok (.bipush 6, 2) := by decide +kernel
theorem dX10_begins_73 : decode cX10_begins 73 = .ok (.aload_n 0, 1) := by decide +kernel
theorem dX10_begins_74 : decode cX10_begins 74 = .ok (.getfield 230, 3) := by decide +kernel
theorem dX10_begins_77 : decode cX10_begins 77 = .ok (.imul, 1) := by decide +kernel
theorem dX10_begins_78 : decode cX10_begins 78 = .ok (.iload_n 1, 1) := by decide +kernel
theorem dX10_begins_79 : decode cX10_begins 79 = .ok (.iadd, 1) := by decide +kernel
theorem dX10_begins_80 : decode cX10_begins 80 = .ok (.iaload, 1) := by decide +kernel
theorem dX10_begins_81 : decode cX10_begins 81 = .ok (.iastore, 1) := by decide +kernel
theorem dX10_begins_82 : decode cX10_begins 82 = .ok (.aload_n 0, 1) := by decide +kernel
theorem dX10_begins_83 : decode cX10_begins 83 = .ok (.getfield 122, 3) := by decide +kernel
theorem dX10_begins_86 : decode cX10_begins 86 = .ok (.bipush 24, 2) := by decide +kernel
theorem dX10_begins_88 : decode cX10_begins 88 = .ok (.iload_n 1, 1) := by decide +kernel
theorem dX10_begins_89 : decode cX10_begins 89 = .ok (.iadd, 1) := by decide +kernel
theorem dX10_begins_90 : decode cX10_begins 90 = .ok (.iconst 1, 1) := by decide +kernel
theorem dX10_begins_91 : decode cX10_begins 91 = .ok (.iastore, 1) := by decide +kernel
theorem dX10_begins_92 : decode cX10_begins 92 = .ok (.iinc 1 1, 3) := by decide +kernel
theorem dX10_begins_95 : decode cX10_begins 95 = .ok (.goto (-72), 3) := by decide +kernel
theorem dX10_begins_98 : decode cX10_begins 98 = .ok (.aload_n 0, 1) := by decide +kernel
theorem dX10_begins_99 : decode cX10_begins 99 = .ok (.getfield 122, 3) := by decide +kernel
theorem dX10_begins_102 : decode cX10_begins 102 = .ok (.bipush 31, 2) := by decide +kernel
theorem dX10_begins_104 : decode cX10_begins 104 = .ok (.bipush (-2), 2) := by decide +kernel
theorem dX10_begins_106 : decode cX10_begins 106 = .ok (.iastore, 1) := by decide +kernel
theorem dX10_begins_107 : decode cX10_begins 107 = .ok (.aload_n 0, 1) := by decide +kernel
theorem dX10_begins_108 : decode cX10_begins 108 = .ok (.aload_n 0, 1) := by decide +kernel
theorem dX10_begins_109 : decode cX10_begins 109 = .ok (.getfield 79, 3) := by decide +kernel
theorem dX10_begins_112 : decode cX10_begins 112 = .ok (.aload_n 0, 1) := by decide +kernel
theorem dX10_begins_113 : decode cX10_begins 113 = .ok (.getfield 230, 3) := by decide +kernel
theorem dX10_begins_116 : decode cX10_begins 116 = .ok (.iaload, 1) := by decide +kernel
theorem dX10_begins_117 : decode cX10_begins 117 = .ok (.putfield 314, 3) := by decide +kernel
theorem dX10_begins_120 : decode cX10_begins 120 = .ok (.aload_n 0, 1) := by decide +kernel
theorem dX10_begins_121 : decode cX10_begins 121 = .ok (.iconst 0, 1) := by decide +kernel
theorem dX10_begins_122 : decode cX10_begins 122 = .ok (.putfield 317, 3) := by decide +kernel
theorem dX10_begins_125 : decode cX10_begins 125 = .ok (.return_, 1) := by decide +kernel
theorem dX10_keepsRow_0 : decode cX10_keepsRow 0 = .ok (.iconst 0, 1) := by decide +kernel
theorem dX10_keepsRow_1 : decode cX10_keepsRow 1 = .ok (.istore_n 1, 1) := by decide +kernel
theorem dX10_keepsRow_2 : decode cX10_keepsRow 2 = .ok (.iload_n 1, 1) := by decide +kernel
theorem dX10_keepsRow_3 : decode cX10_keepsRow 3 = .ok (.bipush 33, 2) := by decide +kernel
theorem dX10_keepsRow_5 : decode cX10_keepsRow 5 = .ok (.if_icmp .ge 21, 3) := by decide +kernel
theorem dX10_keepsRow_8 : decode cX10_keepsRow 8 = .ok (.aload_n 0, 1) := by decide +kernel
theorem dX10_keepsRow_9 : decode cX10_keepsRow 9 = .ok (.getfield 119, 3) := by decide +kernel
theorem dX10_keepsRow_12 : decode cX10_keepsRow 12 = .ok (.iload_n 1, 1) := by decide +kernel
theorem dX10_keepsRow_13 : decode cX10_keepsRow 13 = .ok (.aload_n 0, 1) := by decide +kernel
theorem dX10_keepsRow_14 : decode cX10_keepsRow 14 = .ok (.getfield 122, 3) := by decide +kernel
theorem dX10_keepsRow_17 : decode cX10_keepsRow 17 = .ok (.iload_n 1, 1) := by decide +kernel
theorem dX10_keepsRow_18 : decode cX10_keepsRow 18 = .ok (.iaload, 1) := by decide +kernel
theorem dX10_keepsRow_19 : decode cX10_keepsRow 19 = .ok (.iastore, 1) := by decide +kernel
theorem dX10_keepsRow_20 : decode cX10_keepsRow 20 = .ok (.iinc 1 1, 3) := by decide +kernel
theorem dX10_keepsRow_23 : decode cX10_keepsRow 23 = .ok (.goto (-21), 3) := by decide +kernel
theorem dX10_keepsRow_26 : decode cX10_keepsRow 26 = .ok (.return_, 1) := by decide +kernel
theorem dX10_copies_0 : decode cX10_copies 0 = .ok (.iconst 0, 1) := by decide +kernel
theorem dX10_copies_1 : decode cX10_copies 1 = .ok (.istore_n 1, 1) := by decide +kernel
theorem dX10_copies_2 : decode cX10_copies 2 = .ok (.iload_n 1, 1) := by decide +kernel
theorem dX10_copies_3 : decode cX10_copies 3 = .ok (.bipush 33, 2) := by decide +kernel
theorem dX10_copies_5 : decode cX10_copies 5 = .ok (.if_icmp .ge 21, 3) := by decide +kernel
theorem dX10_copies_8 : decode cX10_copies 8 = .ok (.aload_n 0, 1) := by decide +kernel
theorem dX10_copies_9 : decode cX10_copies 9 = .ok (.getfield 122, 3) := by decide +kernel
theorem dX10_copies_12 : decode cX10_copies 12 = .ok (.iload_n 1, 1) := by decide +kernel
theorem dX10_copies_13 : decode cX10_copies 13 = .ok (.aload_n 0, 1) := by decide +kernel
theorem dX10_copies_14 : decode cX10_copies 14 = .ok (.getfield 119, 3) := by decide +kernel
theorem dX10_copies_17 : decode cX10_copies 17 = .ok (.iload_n 1, 1) := by decide +kernel
theorem dX10_copies_18 : decode cX10_copies 18 = .ok (.iaload, 1) := by decide +kernel
theorem dX10_copies_19 : decode cX10_copies 19 = .ok (.iastore, 1) := by decide +kernel
theorem dX10_copies_20 : decode cX10_copies 20 = .ok (.iinc 1 1, 3) := by decide +kernel
theorem dX10_copies_23 : decode cX10_copies 23 = .ok (.goto (-21), 3) := by decide +kernel
theorem dX10_copies_26 : decode cX10_copies 26 = .ok (.aload_n 0, 1) := by decide +kernel
theorem dX10_copies_27 : decode cX10_copies 27 = .ok (.aload_n 0, 1) := by decide +kernel
theorem dX10_copies_28 : decode cX10_copies 28 = .ok (.getfield 79, 3) := by decide +kernel
theorem dX10_copies_31 : decode cX10_copies 31 = .ok (.aload_n 0, 1) := by decide +kernel
theorem dX10_copies_32 : decode cX10_copies 32 = .ok (.getfield 230, 3) := by decide +kernel
theorem dX10_copies_35 : decode cX10_copies 35 = .ok (.iaload, 1) := by decide +kernel
theorem dX10_copies_36 : decode cX10_copies 36 = .ok (.putfield 314, 3) := by decide +kernel
theorem dX10_copies_39 : decode cX10_copies 39 = .ok (.aload_n 0, 1) := by decide +kernel
theorem dX10_copies_40 : decode cX10_copies 40 = .ok (.iconst 0, 1) := by decide +kernel
theorem dX10_copies_41 : decode cX10_copies 41 = .ok (.putfield 317, 3) := by decide +kernel
theorem dX10_copies_44 : decode cX10_copies 44 = .ok (.return_, 1) := by decide +kernel
theorem dX10_copiesStill_0 : decode cX10_copiesStill 0 = .ok (.aload_n 0, 1) := by decide +kernel
theorem dX10_copiesStill_1 : decode cX10_copiesStill 1 = .ok (.invokevirtual 320, 3) := by decide +kernel
theorem dX10_copiesStill_4 : decode cX10_copiesStill 4 = .ok (.aload_n 0, 1) := by decide +kernel
theorem dX10_copiesStill_5 : decode cX10_copiesStill 5 = .ok (.iconst 1, 1) := by decide +kernel
theorem dX10_copiesStill_6 : decode cX10_copiesStill 6 = .ok (.putfield 317, 3) := by decide +kernel
theorem dX10_copiesStill_9 : decode cX10_copiesStill 9 = .ok (.return_, 1) := by decide +kernel
theorem dX10_mixed_0 : decode cX10_mixed 0 = .ok (.iload_n 0, 1) := by decide +kernel
theorem dX10_mixed_1 : decode cX10_mixed 1 = .ok (.iload_n 1, 1) := by decide +kernel
theorem dX10_mixed_2 : decode cX10_mixed 2 = .ok (.ixor, 1) := by decide +kernel
theorem dX10_mixed_3 : decode cX10_mixed 3 = .ok (.ldc_w 323, 3) := by decide +kernel
theorem dX10_mixed_6 : decode cX10_mixed 6 = .ok (.imul, 1) := by decide +kernel
theorem dX10_mixed_7 : decode cX10_mixed 7 = .ok (.sipush 12345, 3) := by decide +kernel
theorem dX10_mixed_10 : decode cX10_mixed 10 = .ok (.iadd, 1) := by decide +kernel
theorem dX10_mixed_11 : decode cX10_mixed 11 = .ok (.istore_n 2, 1) := by decide +kernel
theorem dX10_mixed_12 : decode cX10_mixed 12 = .ok (.iload_n 2, 1) := by decide +kernel
theorem dX10_mixed_13 : decode cX10_mixed 13 = .ok (.iload_n 2, 1) := by decide +kernel
theorem dX10_mixed_14 : decode cX10_mixed 14 = .ok (.bipush 15, 2) := by decide +kernel
theorem dX10_mixed_16 : decode cX10_mixed 16 = .ok (.iushr, 1) := by decide +kernel
theorem dX10_mixed_17 : decode cX10_mixed 17 = .ok (.ixor, 1) := by decide +kernel
theorem dX10_mixed_18 : decode cX10_mixed 18 = .ok (.ireturn, 1) := by decide +kernel
theorem dX10_isCrackle_0 : decode cX10_isCrackle 0 = .ok (.aload_n 0, 1) := by decide +kernel
theorem dX10_isCrackle_1 : decode cX10_isCrackle 1 = .ok (.getfield 314, 3) := by decide +kernel
theorem dX10_isCrackle_4 : decode cX10_isCrackle 4 = .ok (.sipush 141, 3) := by decide +kernel
theorem dX10_isCrackle_7 : decode cX10_isCrackle 7 = .ok (.invokestatic 324, 3) := by decide +kernel
theorem dX10_isCrackle_10 : decode cX10_isCrackle 10 = .ok (.iconst 4, 1) := by decide +kernel
theorem dX10_isCrackle_11 : decode cX10_isCrackle 11 = .ok (.aload_n 0, 1) := by decide +kernel
theorem dX10_isCrackle_12 : decode cX10_isCrackle 12 = .ok (.getfield 122, 3) := by decide +kernel
theorem dX10_isCrackle_15 : decode cX10_isCrackle 15 = .ok (.bipush 30, 2) := by decide +kernel
theorem dX10_isCrackle_17 : decode cX10_isCrackle 17 = .ok (.iaload, 1) := by decide +kernel
theorem dX10_isCrackle_18 : decode cX10_isCrackle 18 = .ok (.imul, 1) := by decide +kernel
theorem dX10_isCrackle_19 : decode cX10_isCrackle 19 = .ok (.invokestatic 324, 3) := by decide +kernel
theorem dX10_isCrackle_22 : decode cX10_isCrackle 22 = .ok (.iconst 1, 1) := by decide +kernel
theorem dX10_isCrackle_23 : decode cX10_isCrackle 23 = .ok (.iushr, 1) := by decide +kernel
theorem dX10_isCrackle_24 : decode cX10_isCrackle 24 = .ok (.bipush 100, 2) := by decide +kernel
theorem dX10_isCrackle_26 : decode cX10_isCrackle 26 = .ok (.irem, 1) := by decide +kernel
theorem dX10_isCrackle_27 : decode cX10_isCrackle 27 = .ok (.aload_n 0, 1) := by decide +kernel
theorem dX10_isCrackle_28 : decode cX10_isCrackle 28 = .ok (.getfield 73, 3) := by decide +kernel
theorem dX10_isCrackle_31 : decode cX10_isCrackle 31 = .ok (.aload_n 0, 1) := by decide +kernel
theorem dX10_isCrackle_32 : decode cX10_isCrackle 32 = .ok (.getfield 230, 3) := by decide +kernel
theorem dX10_isCrackle_35 : decode cX10_isCrackle 35 = .ok (.iaload, 1) := by decide +kernel
theorem dX10_isCrackle_36 : decode cX10_isCrackle 36 = .ok (.if_icmp .ge 7, 3) := by decide +kernel
theorem dX10_isCrackle_39 : decode cX10_isCrackle 39 = .ok (.iconst 1, 1) := by decide +kernel
theorem dX10_isCrackle_40 : decode cX10_isCrackle 40 = .ok (.goto 4, 3) := by decide +kernel
theorem dX10_isCrackle_43 : decode cX10_isCrackle 43 = .ok (.iconst 0, 1) := by decide +kernel
theorem dX10_isCrackle_44 : decode cX10_isCrackle 44 = .ok (.ireturn, 1) := by decide +kernel
theorem dX10_looks_0 : decode cX10_looks 0 = .ok (.iconst 0, 1) := by decide +kernel
theorem dX10_looks_1 : decode cX10_looks 1 = .ok (.istore_n 2, 1) := by decide +kernel
theorem dX10_looks_2 : decode cX10_looks 2 = .ok (.iload_n 2, 1) := by decide +kernel
theorem dX10_looks_3 : decode cX10_looks 3 = .ok (.bipush 9, 2) := by decide +kernel
theorem dX10_looks_5 : decode cX10_looks 5 = .ok (.if_icmp .ge 16, 3) := by decide +kernel
theorem dX10_looks_8 : decode cX10_looks 8 = .ok (.aload_n 0, 1) := by decide +kernel
theorem dX10_looks_9 : decode cX10_looks 9 = .ok (.getfield 113, 3) := by decide +kernel
theorem dX10_looks_12 : decode cX10_looks 12 = .ok (.iload_n 2, 1) := by decide +kernel
theorem dX10_looks_13 : decode cX10_looks 13 = .ok (.iconst 0, 1) := by decide +kernel
theorem dX10_looks_14 : decode cX10_looks 14 = .ok (.iastore, 1) := by decide +kernel
theorem dX10_looks_15 : decode cX10_looks 15 = .ok (.iinc 2 1, 3) := by decide +kernel
theorem dX10_looks_18 : decode cX10_looks 18 = .ok (.goto (-16), 3) := by decide +kernel
theorem dX10_looks_21 : decode cX10_looks 21 = .ok (.aload_n 0, 1) := by decide +kernel
theorem dX10_looks_22 : decode cX10_looks 22 = .ok (.getfield 113, 3) := by decide +kernel
theorem dX10_looks_25 : decode cX10_looks 25 = .ok (.iconst 0, 1) := by decide +kernel
theorem dX10_looks_26 : decode cX10_looks 26 = .ok (.aload_n 0, 1) := by decide +kernel
theorem dX10_looks_27 : decode cX10_looks 27 = .ok (.getfield 52, 3) := by decide +kernel
theorem dX10_looks_30 : decode cX10_looks 30 = .ok (.bipush 6, 2) := by decide +kernel
theorem dX10_looks_32 : decode cX10_looks 32 = .ok (.aload_n 0, 1) := by decide +kernel
theorem dX10_looks_33 : decode cX10_looks 33 = .ok (.getfield 230, 3) := by decide +kernel
theorem dX10_looks_36 : decode cX10_looks 36 = .ok (.imul, 1) := by decide +kernel
theorem dX10_looks_37 : decode cX10_looks 37 = .ok (.iload_n 1, 1) := by decide +kernel
theorem dX10_looks_38 : decode cX10_looks 38 = .ok (.iadd, 1) := by decide +kernel
theorem dX10_looks_39 : decode cX10_looks 39 = .ok (.iaload, 1) := by decide +kernel
theorem dX10_looks_40 : decode cX10_looks 40 = .ok (.iastore, 1) := by decide +kernel
theorem dX10_looks_41 : decode cX10_looks 41 = .ok (.aload_n 0, 1) := by decide +kernel
theorem dX10_looks_42 : decode cX10_looks 42 = .ok (.getfield 113, 3) := by decide +kernel
theorem dX10_looks_45 : decode cX10_looks 45 = .ok (.iconst 1, 1) := by decide +kernel
theorem dX10_looks_46 : decode cX10_looks 46 = .ok (.aload_n 0, 1) := by decide +kernel
theorem dX10_looks_47 : decode cX10_looks 47 = .ok (.getfield 122, 3) := by decide +kernel
theorem dX10_looks_50 : decode cX10_looks 50 = .ok (.iload_n 1, 1) := by decide +kernel
theorem dX10_looks_51 : decode cX10_looks 51 = .ok (.iaload, 1) := by decide +kernel
theorem dX10_looks_52 : decode cX10_looks 52 = .ok (.iastore, 1) := by decide +kernel
theorem dX10_looks_53 : decode cX10_looks 53 = .ok (.aload_n 0, 1) := by decide +kernel
theorem dX10_looks_54 : decode cX10_looks 54 = .ok (.getfield 113, 3) := by decide +kernel
theorem dX10_looks_57 : decode cX10_looks 57 = .ok (.iconst 3, 1) := by decide +kernel
theorem dX10_looks_58 : decode cX10_looks 58 = .ok (.aload_n 0, 1) := by decide +kernel
theorem dX10_looks_59 : decode cX10_looks 59 = .ok (.getfield 122, 3) := by decide +kernel
theorem dX10_looks_62 : decode cX10_looks 62 = .ok (.bipush 30, 2) := by decide +kernel
theorem dX10_looks_64 : decode cX10_looks 64 = .ok (.iaload, 1) := by decide +kernel
theorem dX10_looks_65 : decode cX10_looks 65 = .ok (.iastore, 1) := by decide +kernel
theorem dX10_looks_66 : decode cX10_looks 66 = .ok (.return_, 1) := by decide +kernel
theorem dX10_lawTells_0 : decode cX10_lawTells 0 = .ok (.iconst 4, 1) := by decide +kernel
theorem dX10_lawTells_1 : decode cX10_lawTells 1 = .ok (.aload_n 0, 1) := by decide +kernel
theorem dX10_lawTells_2 : decode cX10_lawTells 2 = .ok (.getfield 230, 3) := by decide +kernel
theorem dX10_lawTells_5 : decode cX10_lawTells 5 = .ok (.imul, 1) := by decide +kernel
theorem dX10_lawTells_6 : decode cX10_lawTells 6 = .ok (.iload_n 1, 1) := by decide +kernel
theorem dX10_lawTells_7 : decode cX10_lawTells 7 = .ok (.iadd, 1) := by decide +kernel
theorem dX10_lawTells_8 : decode cX10_lawTells 8 = .ok (.istore_n 3, 1) := by decide +kernel
theorem dX10_lawTells_9 : decode cX10_lawTells 9 = .ok (.aload_n 0, 1) := by decide +kernel
theorem dX10_lawTells_10 : decode cX10_lawTells 10 = .ok (.getfield 82, 3) := by decide +kernel
theorem dX10_lawTells_13 : decode cX10_lawTells 13 = .ok (.iload_n 3, 1) := by decide +kernel
theorem dX10_lawTells_14 : decode cX10_lawTells 14 = .ok (.iaload, 1) := by decide +kernel
theorem dX10_lawTells_15 : decode cX10_lawTells 15 = .ok (.aload_n 0, 1) := by decide +kernel
theorem dX10_lawTells_16 : decode cX10_lawTells 16 = .ok (.getfield 85, 3) := by decide +kernel
theorem dX10_lawTells_19 : decode cX10_lawTells 19 = .ok (.iload_n 3, 1) := by decide +kernel
theorem dX10_lawTells_20 : decode cX10_lawTells 20 = .ok (.iaload, 1) := by decide +kernel
theorem dX10_lawTells_21 : decode cX10_lawTells 21 = .ok (.if_icmp .ne 5, 3) := by decide +kernel
theorem dX10_lawTells_24 : decode cX10_lawTells 24 = .ok (.iload_n 2, 1) := by decide +kernel
theorem dX10_lawTells_25 : decode cX10_lawTells 25 = .ok (.ireturn, 1) := by decide +kernel
theorem dX10_lawTells_26 : decode cX10_lawTells 26 = .ok (.aload_n 0, 1) := by decide +kernel
theorem dX10_lawTells_27 : decode cX10_lawTells 27 = .ok (.iconst 0, 1) := by decide +kernel
theorem dX10_lawTells_28 : decode cX10_lawTells 28 = .ok (.putfield 306, 3) := by decide +kernel
theorem dX10_lawTells_31 : decode cX10_lawTells 31 = .ok (.aload_n 0, 1) := by decide +kernel
theorem dX10_lawTells_32 : decode cX10_lawTells 32 = .ok (.getfield 82, 3) := by decide +kernel
theorem dX10_lawTells_35 : decode cX10_lawTells 35 = .ok (.iload_n 3, 1) := by decide +kernel
theorem dX10_lawTells_36 : decode cX10_lawTells 36 = .ok (.iaload, 1) := by decide +kernel
theorem dX10_lawTells_37 : decode cX10_lawTells 37 = .ok (.istore 4, 2) := by decide +kernel
theorem dX10_lawTells_39 : decode cX10_lawTells 39 = .ok (.iload 4, 2) := by decide +kernel
theorem dX10_lawTells_41 : decode cX10_lawTells 41 = .ok (.aload_n 0, 1) := by decide +kernel
theorem dX10_lawTells_42 : decode cX10_lawTells 42 = .ok (.getfield 85, 3) := by decide +kernel
theorem dX10_lawTells_45 : decode cX10_lawTells 45 = .ok (.iload_n 3, 1) := by decide +kernel
theorem dX10_lawTells_46 : decode cX10_lawTells 46 = .ok (.iaload, 1) := by decide +kernel
theorem dX10_lawTells_47 : decode cX10_lawTells 47 = .ok (.if_icmp .ge 112, 3) := by decide +kernel
theorem dX10_lawTells_50 : decode cX10_lawTells 50 = .ok (.aload_n 0, 1) := by decide +kernel
theorem dX10_lawTells_51 : decode cX10_lawTells 51 = .ok (.getfield 88, 3) := by decide +kernel
theorem dX10_lawTells_54 : decode cX10_lawTells 54 = .ok (.iload 4, 2) := by decide +kernel
theorem dX10_lawTells_56 : decode cX10_lawTells 56 = .ok (.baload, 1) := by decide +kernel
theorem dX10_lawTells_57 : decode cX10_lawTells 57 = .ok (.ifCond .eq 62, 3) := by decide +kernel
theorem dX10_lawTells_60 : decode cX10_lawTells 60 = .ok (.aload_n 0, 1) := by decide +kernel
theorem dX10_lawTells_61 : decode cX10_lawTells 61 = .ok (.aload_n 0, 1) := by decide +kernel
theorem dX10_lawTells_62 : decode cX10_lawTells 62 = .ok (.getfield 92, 3) := by decide +kernel
theorem dX10_lawTells_65 : decode cX10_lawTells 65 = .ok (.iload 4, 2) := by decide +kernel
theorem dX10_lawTells_67 : decode cX10_lawTells 67 = .ok (.iaload, 1) := by decide +kernel
theorem dX10_lawTells_68 : decode cX10_lawTells 68 = .ok (.aload_n 0, 1) := by decide +kernel
theorem dX10_lawTells_69 : decode cX10_lawTells 69 = .ok (.getfield 95, 3) := by decide +kernel
theorem dX10_lawTells_72 : decode cX10_lawTells 72 = .ok (.iload 4, 2) := by decide +kernel
theorem dX10_lawTells_74 : decode cX10_lawTells 74 = .ok (.iaload, 1) := by decide +kernel
theorem dX10_lawTells_75 : decode cX10_lawTells 75 = .ok (.invokevirtual 327, 3) := by decide +kernel
theorem dX10_lawTells_78 : decode cX10_lawTells 78 = .ok (.istore 5, 2) := by decide +kernel
theorem dX10_lawTells_80 : decode cX10_lawTells 80 = .ok (.aload_n 0, 1) := by decide +kernel
theorem dX10_lawTells_81 : decode cX10_lawTells 81 = .ok (.aload_n 0, 1) := by decide +kernel
theorem dX10_lawTells_82 : decode cX10_lawTells 82 = .ok (.getfield 95, 3) := by decide +kernel
theorem dX10_lawTells_85 : decode cX10_lawTells 85 = .ok (.iload 4, 2) := by decide +kernel
theorem dX10_lawTells_87 : decode cX10_lawTells 87 = .ok (.iaload, 1) := by decide +kernel
theorem dX10_lawTells_88 : decode cX10_lawTells 88 = .ok (.aload_n 0, 1) := by decide +kernel
theorem dX10_lawTells_89 : decode cX10_lawTells 89 = .ok (.getfield 98, 3) := by decide +kernel
theorem dX10_lawTells_92 : decode cX10_lawTells 92 = .ok (.iload 4, 2) := by decide +kernel
theorem dX10_lawTells_94 : decode cX10_lawTells 94 = .ok (.iaload, 1) := by decide +kernel
theorem dX10_lawTells_95 : decode cX10_lawTells 95 = .ok (.invokevirtual 327, 3) := by decide +kernel
theorem dX10_lawTells_98 : decode cX10_lawTells 98 = .ok (.istore 6, 2) := by decide +kernel
theorem dX10_lawTells_100 : decode cX10_lawTells 100 = .ok (.aload_n 0, 1) := by decide +kernel
theorem dX10_lawTells_101 : decode cX10_lawTells 101 = .ok (.getfield 306, 3) := by decide +kernel
theorem dX10_lawTells_104 : decode cX10_lawTells 104 = .ok (.ifCond .eq 5, 3) := by decide +kernel
theorem dX10_lawTells_107 : decode cX10_lawTells 107 = .ok (.iconst 0, 1) := by decide +kernel
theorem dX10_lawTells_108 : decode cX10_lawTells 108 = .ok (.ireturn, 1) := by decide +kernel
theorem dX10_lawTells_109 : decode cX10_lawTells 109 = .ok (.iload 5, 2) := by decide +kernel
theorem dX10_lawTells_111 : decode cX10_lawTells 111 = .ok (.iload 6, 2) := by decide +kernel
theorem dX10_lawTells_113 : decode cX10_lawTells 113 = .ok (.if_icmp .lt 6, 3) := by decide +kernel
theorem dX10_lawTells_116 : decode cX10_lawTells 116 = .ok (.goto 37, 3) := by decide +kernel
theorem dX10_lawTells_119 : decode cX10_lawTells 119 = .ok (.aload_n 0, 1) := by decide +kernel
theorem dX10_lawTells_120 : decode cX10_lawTells 120 = .ok (.aload_n 0, 1) := by decide +kernel
theorem dX10_lawTells_121 : decode cX10_lawTells 121 = .ok (.getfield 98, 3) := by decide +kernel
theorem dX10_lawTells_124 : decode cX10_lawTells 124 = .ok (.iload 4, 2) := by decide +kernel
theorem dX10_lawTells_126 : decode cX10_lawTells 126 = .ok (.iaload, 1) := by decide +kernel
theorem dX10_lawTells_127 : decode cX10_lawTells 127 = .ok (.aload_n 0, 1) := by decide +kernel
theorem dX10_lawTells_128 : decode cX10_lawTells 128 = .ok (.getfield 101, 3) := by decide +kernel
theorem dX10_lawTells_131 : decode cX10_lawTells 131 = .ok (.iload 4, 2) := by decide +kernel
theorem dX10_lawTells_133 : decode cX10_lawTells 133 = .ok (.iaload, 1) := by decide +kernel
theorem dX10_lawTells_134 : decode cX10_lawTells 134 = .ok (.invokevirtual 327, 3) := by decide +kernel
theorem dX10_lawTells_137 : decode cX10_lawTells 137 = .ok (.istore 5, 2) := by decide +kernel
theorem dX10_lawTells_139 : decode cX10_lawTells 139 = .ok (.aload_n 0, 1) := by decide +kernel
theorem dX10_lawTells_140 : decode cX10_lawTells 140 = .ok (.getfield 306, 3) := by decide +kernel
theorem dX10_lawTells_143 : decode cX10_lawTells 143 = .ok (.ifCond .eq 7, 3) := by decide +kernel
theorem dX10_lawTells_146 : decode cX10_lawTells 146 = .ok (.iconst 0, 1) := by decide +kernel
theorem dX10_lawTells_147 : decode cX10_lawTells 147 = .ok (.goto 5, 3) := by decide +kernel
theorem dX10_lawTells_150 : decode cX10_lawTells 150 = .ok (.iload 5, 2) := by decide +kernel
theorem dX10_lawTells_152 : decode cX10_lawTells 152 = .ok (.ireturn, 1) := by decide +kernel
theorem dX10_lawTells_153 : decode cX10_lawTells 153 = .ok (.iinc 4 1, 3) := by decide +kernel
theorem dX10_lawTells_156 : decode cX10_lawTells 156 = .ok (.goto (-117), 3) := by decide +kernel
theorem dX10_lawTells_159 : decode cX10_lawTells 159 = .ok (.iconst 0, 1) := by decide +kernel
theorem dX10_lawTells_160 : decode cX10_lawTells 160 = .ok (.ireturn, 1) := by decide +kernel
theorem dX10_saidBy_0 : decode cX10_saidBy 0 = .ok (.iconst 0, 1) := by decide +kernel
theorem dX10_saidBy_1 : decode cX10_saidBy 1 = .ok (.istore_n 2, 1) := by decide +kernel
theorem dX10_saidBy_2 : decode cX10_saidBy 2 = .ok (.iconst 0, 1) := by decide +kernel
theorem dX10_saidBy_3 : decode cX10_saidBy 3 = .ok (.istore_n 3, 1) := by decide +kernel
theorem dX10_saidBy_4 : decode cX10_saidBy 4 = .ok (.iload_n 3, 1) := by decide +kernel
theorem dX10_saidBy_5 : decode cX10_saidBy 5 = .ok (.bipush 8, 2) := by decide +kernel
theorem dX10_saidBy_7 : decode cX10_saidBy 7 = .ok (.if_icmp .ge 68, 3) := by decide +kernel
theorem dX10_saidBy_10 : decode cX10_saidBy 10 = .ok (.aload_n 0, 1) := by decide +kernel
theorem dX10_saidBy_11 : decode cX10_saidBy 11 = .ok (.getfield 49, 3) := by decide +kernel
theorem dX10_saidBy_14 : decode cX10_saidBy 14 = .ok (.bipush 6, 2) := by decide +kernel
theorem dX10_saidBy_16 : decode cX10_saidBy 16 = .ok (.aload_n 0, 1) := by decide +kernel
theorem dX10_saidBy_17 : decode cX10_saidBy 17 = .ok (.getfield 230, 3) := by decide +kernel
theorem dX10_saidBy_20 : decode cX10_saidBy 20 = .ok (.imul, 1) := by decide +kernel
theorem dX10_saidBy_21 : decode cX10_saidBy 21 = .ok (.iload_n 1, 1) := by decide +kernel
theorem dX10_saidBy_22 : decode cX10_saidBy 22 = .ok (.iadd, 1) := by decide +kernel
theorem dX10_saidBy_23 : decode cX10_saidBy 23 = .ok (.iaload, 1) := by decide +kernel
theorem dX10_saidBy_24 : decode cX10_saidBy 24 = .ok (.iload_n 3, 1) := by decide +kernel
theorem dX10_saidBy_25 : decode cX10_saidBy 25 = .ok (.ishr, 1) := by decide +kernel
theorem dX10_saidBy_26 : decode cX10_saidBy 26 = .ok (.iconst 1, 1) := by decide +kernel
theorem dX10_saidBy_27 : decode cX10_saidBy 27 = .ok (.iand, 1) := by decide +kernel
theorem dX10_saidBy_28 : decode cX10_saidBy 28 = .ok (.ifCond .ne 6, 3) := by decide +kernel
theorem dX10_saidBy_31 : decode cX10_saidBy 31 = .ok (.goto 38, 3) := by decide +kernel
theorem dX10_saidBy_34 : decode cX10_saidBy 34 = .ok (.aload_n 0, 1) := by decide +kernel
theorem dX10_saidBy_35 : decode cX10_saidBy 35 = .ok (.iload_n 1, 1) := by decide +kernel
theorem dX10_saidBy_36 : decode cX10_saidBy 36 = .ok (.invokevirtual 330, 3) := by decide +kernel
theorem dX10_saidBy_39 : decode cX10_saidBy 39 = .ok (.aload_n 0, 1) := by decide +kernel
theorem dX10_saidBy_40 : decode cX10_saidBy 40 = .ok (.getfield 113, 3) := by decide +kernel
theorem dX10_saidBy_43 : decode cX10_saidBy 43 = .ok (.iconst 2, 1) := by decide +kernel
theorem dX10_saidBy_44 : decode cX10_saidBy 44 = .ok (.iload_n 3, 1) := by decide +kernel
theorem dX10_saidBy_45 : decode cX10_saidBy 45 = .ok (.iastore, 1) := by decide +kernel
theorem dX10_saidBy_46 : decode cX10_saidBy 46 = .ok (.aload_n 0, 1) := by decide +kernel
theorem dX10_saidBy_47 : decode cX10_saidBy 47 = .ok (.getfield 113, 3) := by decide +kernel
theorem dX10_saidBy_50 : decode cX10_saidBy 50 = .ok (.bipush 7, 2) := by decide +kernel
theorem dX10_saidBy_52 : decode cX10_saidBy 52 = .ok (.iload_n 1, 1) := by decide +kernel
theorem dX10_saidBy_53 : decode cX10_saidBy 53 = .ok (.iastore, 1) := by decide +kernel
theorem dX10_saidBy_54 : decode cX10_saidBy 54 = .ok (.aload_n 0, 1) := by decide +kernel
theorem dX10_saidBy_55 : decode cX10_saidBy 55 = .ok (.iconst 0, 1) := by decide +kernel
theorem dX10_saidBy_56 : decode cX10_saidBy 56 = .ok (.iconst 1, 1) := by decide +kernel
theorem dX10_saidBy_57 : decode cX10_saidBy 57 = .ok (.invokevirtual 333, 3) := by decide +kernel
theorem dX10_saidBy_60 : decode cX10_saidBy 60 = .ok (.ifCond .le 9, 3) := by decide +kernel
theorem dX10_saidBy_63 : decode cX10_saidBy 63 = .ok (.iload_n 2, 1) := by decide +kernel
theorem dX10_saidBy_64 : decode cX10_saidBy 64 = .ok (.iconst 1, 1) := by decide +kernel
theorem dX10_saidBy_65 : decode cX10_saidBy 65 = .ok (.iload_n 3, 1) := by decide +kernel
theorem dX10_saidBy_66 : decode cX10_saidBy 66 = .ok (.ishl, 1) := by decide +kernel
theorem dX10_saidBy_67 : decode cX10_saidBy 67 = .ok (.ior, 1) := by decide +kernel
theorem dX10_saidBy_68 : decode cX10_saidBy 68 = .ok (.istore_n 2, 1) := by decide +kernel
theorem dX10_saidBy_69 : decode cX10_saidBy 69 = .ok (.iinc 3 1, 3) := by decide +kernel
theorem dX10_saidBy_72 : decode cX10_saidBy 72 = .ok (.goto (-68), 3) := by decide +kernel
theorem dX10_saidBy_75 : decode cX10_saidBy 75 = .ok (.iload_n 2, 1) := by decide +kernel
theorem dX10_saidBy_76 : decode cX10_saidBy 76 = .ok (.ireturn, 1) := by decide +kernel
theorem dX10_isReally_0 : decode cX10_isReally 0 = .ok (.aload_n 0, 1) := by decide +kernel
theorem dX10_isReally_1 : decode cX10_isReally 1 = .ok (.getfield 67, 3) := by decide +kernel
theorem dX10_isReally_4 : decode cX10_isReally 4 = .ok (.bipush 6, 2) := by decide +kernel
theorem dX10_isReally_6 : decode cX10_isReally 6 = .ok (.aload_n 0, 1) := by decide +kernel
theorem dX10_isReally_7 : decode cX10_isReally 7 = .ok (.getfield 230, 3) := by decide +kernel
theorem dX10_isReally_10 : decode cX10_isReally 10 = .ok (.imul, 1) := by decide +kernel
theorem dX10_isReally_11 : decode cX10_isReally 11 = .ok (.iload_n 1, 1) := by decide +kernel
theorem dX10_isReally_12 : decode cX10_isReally 12 = .ok (.iadd, 1) := by decide +kernel
theorem dX10_isReally_13 : decode cX10_isReally 13 = .ok (.iaload, 1) := by decide +kernel
theorem dX10_isReally_14 : decode cX10_isReally 14 = .ok (.iload_n 2, 1) := by decide +kernel
theorem dX10_isReally_15 : decode cX10_isReally 15 = .ok (.ishr, 1) := by decide +kernel
theorem dX10_isReally_16 : decode cX10_isReally 16 = .ok (.iconst 1, 1) := by decide +kernel
theorem dX10_isReally_17 : decode cX10_isReally 17 = .ok (.iand, 1) := by decide +kernel
theorem dX10_isReally_18 : decode cX10_isReally 18 = .ok (.iconst 1, 1) := by decide +kernel
theorem dX10_isReally_19 : decode cX10_isReally 19 = .ok (.if_icmp .ne 7, 3) := by decide +kernel
theorem dX10_isReally_22 : decode cX10_isReally 22 = .ok (.iconst 1, 1) := by decide +kernel
theorem dX10_isReally_23 : decode cX10_isReally 23 = .ok (.goto 4, 3) := by decide +kernel
theorem dX10_isReally_26 : decode cX10_isReally 26 = .ok (.iconst 0, 1) := by decide +kernel
theorem dX10_isReally_27 : decode cX10_isReally 27 = .ok (.ireturn, 1) := by decide +kernel
theorem dX10_looksFor_0 : decode cX10_looksFor 0 = .ok (.aload_n 0, 1) := by decide +kernel
theorem dX10_looksFor_1 : decode cX10_looksFor 1 = .ok (.iload_n 2, 1) := by decide +kernel
theorem dX10_looksFor_2 : decode cX10_looksFor 2 = .ok (.invokevirtual 330, 3) := by decide +kernel
theorem dX10_looksFor_5 : decode cX10_looksFor 5 = .ok (.aload_n 0, 1) := by decide +kernel
theorem dX10_looksFor_6 : decode cX10_looksFor 6 = .ok (.getfield 113, 3) := by decide +kernel
theorem dX10_looksFor_9 : decode cX10_looksFor 9 = .ok (.iconst 4, 1) := by decide +kernel
theorem dX10_looksFor_10 : decode cX10_looksFor 10 = .ok (.aload_n 0, 1) := by decide +kernel
theorem dX10_looksFor_11 : decode cX10_looksFor 11 = .ok (.getfield 122, 3) := by decide +kernel
theorem dX10_looksFor_14 : decode cX10_looksFor 14 = .ok (.bipush 18, 2) := by decide +kernel
theorem dX10_looksFor_16 : decode cX10_looksFor 16 = .ok (.iload_n 1, 1) := by decide +kernel
theorem dX10_looksFor_17 : decode cX10_looksFor 17 = .ok (.iadd, 1) := by decide +kernel
theorem dX10_looksFor_18 : decode cX10_looksFor 18 = .ok (.iaload, 1) := by decide +kernel
theorem dX10_looksFor_19 : decode cX10_looksFor 19 = .ok (.iastore, 1) := by decide +kernel
theorem dX10_looksFor_20 : decode cX10_looksFor 20 = .ok (.aload_n 0, 1) := by decide +kernel
theorem dX10_looksFor_21 : decode cX10_looksFor 21 = .ok (.getfield 113, 3) := by decide +kernel
theorem dX10_looksFor_24 : decode cX10_looksFor 24 = .ok (.iconst 5, 1) := by decide +kernel
theorem dX10_looksFor_25 : decode cX10_looksFor 25 = .ok (.aload_n 0, 1) := by decide +kernel
theorem dX10_looksFor_26 : decode cX10_looksFor 26 = .ok (.getfield 122, 3) := by decide +kernel
theorem dX10_looksFor_29 : decode cX10_looksFor 29 = .ok (.bipush 12, 2) := by decide +kernel
theorem dX10_looksFor_31 : decode cX10_looksFor 31 = .ok (.iload_n 1, 1) := by decide +kernel
theorem dX10_looksFor_32 : decode cX10_looksFor 32 = .ok (.iadd, 1) := by decide +kernel
theorem dX10_looksFor_33 : decode cX10_looksFor 33 = .ok (.iaload, 1) := by decide +kernel
theorem dX10_looksFor_34 : decode cX10_looksFor 34 = .ok (.invokestatic 336, 3) := by decide +kernel
theorem dX10_looksFor_37 : decode cX10_looksFor 37 = .ok (.iastore, 1) := by decide +kernel
theorem dX10_looksFor_38 : decode cX10_looksFor 38 = .ok (.aload_n 0, 1) := by decide +kernel
theorem dX10_looksFor_39 : decode cX10_looksFor 39 = .ok (.getfield 113, 3) := by decide +kernel
theorem dX10_looksFor_42 : decode cX10_looksFor 42 = .ok (.bipush 6, 2) := by decide +kernel
theorem dX10_looksFor_44 : decode cX10_looksFor 44 = .ok (.iload_n 3, 1) := by decide +kernel
theorem dX10_looksFor_45 : decode cX10_looksFor 45 = .ok (.invokestatic 336, 3) := by decide +kernel
theorem dX10_looksFor_48 : decode cX10_looksFor 48 = .ok (.iastore, 1) := by decide +kernel
theorem dX10_looksFor_49 : decode cX10_looksFor 49 = .ok (.aload_n 0, 1) := by decide +kernel
theorem dX10_looksFor_50 : decode cX10_looksFor 50 = .ok (.getfield 113, 3) := by decide +kernel
theorem dX10_looksFor_53 : decode cX10_looksFor 53 = .ok (.bipush 7, 2) := by decide +kernel
theorem dX10_looksFor_55 : decode cX10_looksFor 55 = .ok (.iload_n 1, 1) := by decide +kernel
theorem dX10_looksFor_56 : decode cX10_looksFor 56 = .ok (.iastore, 1) := by decide +kernel
theorem dX10_looksFor_57 : decode cX10_looksFor 57 = .ok (.aload_n 0, 1) := by decide +kernel
theorem dX10_looksFor_58 : decode cX10_looksFor 58 = .ok (.getfield 113, 3) := by decide +kernel
theorem dX10_looksFor_61 : decode cX10_looksFor 61 = .ok (.bipush 8, 2) := by decide +kernel
theorem dX10_looksFor_63 : decode cX10_looksFor 63 = .ok (.aload_n 0, 1) := by decide +kernel
theorem dX10_looksFor_64 : decode cX10_looksFor 64 = .ok (.iload_n 1, 1) := by decide +kernel
theorem dX10_looksFor_65 : decode cX10_looksFor 65 = .ok (.iload_n 2, 1) := by decide +kernel
theorem dX10_looksFor_66 : decode cX10_looksFor 66 = .ok (.invokevirtual 339, 3) := by decide +kernel
theorem dX10_looksFor_69 : decode cX10_looksFor 69 = .ok (.ifCond .eq 7, 3) := by decide +kernel
theorem dX10_looksFor_72 : decode cX10_looksFor 72 = .ok (.iconst 1, 1) := by decide +kernel
theorem dX10_looksFor_73 : decode cX10_looksFor 73 = .ok (.goto 4, 3) := by decide +kernel
theorem dX10_looksFor_76 : decode cX10_looksFor 76 = .ok (.iconst 0, 1) := by decide +kernel
theorem dX10_looksFor_77 : decode cX10_looksFor 77 = .ok (.iastore, 1) := by decide +kernel
theorem dX10_looksFor_78 : decode cX10_looksFor 78 = .ok (.return_, 1) := by decide +kernel
theorem dX10_doesTrust_0 : decode cX10_doesTrust 0 = .ok (.aload_n 0, 1) := by decide +kernel
theorem dX10_doesTrust_1 : decode cX10_doesTrust 1 = .ok (.iload_n 1, 1) := by decide +kernel
theorem dX10_doesTrust_2 : decode cX10_doesTrust 2 = .ok (.iload_n 2, 1) := by decide +kernel
theorem dX10_doesTrust_3 : decode cX10_doesTrust 3 = .ok (.iload_n 3, 1) := by decide +kernel
theorem dX10_doesTrust_4 : decode cX10_doesTrust 4 = .ok (.invokevirtual 343, 3) := by decide +kernel
theorem dX10_doesTrust_7 : decode cX10_doesTrust 7 = .ok (.aload_n 0, 1) := by decide +kernel
theorem dX10_doesTrust_8 : decode cX10_doesTrust 8 = .ok (.iconst 1, 1) := by decide +kernel
theorem dX10_doesTrust_9 : decode cX10_doesTrust 9 = .ok (.iconst 1, 1) := by decide +kernel
theorem dX10_doesTrust_10 : decode cX10_doesTrust 10 = .ok (.invokevirtual 333, 3) := by decide +kernel
theorem dX10_doesTrust_13 : decode cX10_doesTrust 13 = .ok (.ifCond .le 7, 3) := by decide +kernel
theorem dX10_doesTrust_16 : decode cX10_doesTrust 16 = .ok (.iconst 1, 1) := by decide +kernel
theorem dX10_doesTrust_17 : decode cX10_doesTrust 17 = .ok (.goto 4, 3) := by decide +kernel
theorem dX10_doesTrust_20 : decode cX10_doesTrust 20 = .ok (.iconst 0, 1) := by decide +kernel
theorem dX10_doesTrust_21 : decode cX10_doesTrust 21 = .ok (.ireturn, 1) := by decide +kernel
theorem dX10_movesBy_0 : decode cX10_movesBy 0 = .ok (.aload_n 0, 1) := by decide +kernel
theorem dX10_movesBy_1 : decode cX10_movesBy 1 = .ok (.iload_n 1, 1) := by decide +kernel
theorem dX10_movesBy_2 : decode cX10_movesBy 2 = .ok (.iload_n 2, 1) := by decide +kernel
theorem dX10_movesBy_3 : decode cX10_movesBy 3 = .ok (.iload_n 3, 1) := by decide +kernel
theorem dX10_movesBy_4 : decode cX10_movesBy 4 = .ok (.invokevirtual 343, 3) := by decide +kernel
theorem dX10_movesBy_7 : decode cX10_movesBy 7 = .ok (.aload_n 0, 1) := by decide +kernel
theorem dX10_movesBy_8 : decode cX10_movesBy 8 = .ok (.iconst 2, 1) := by decide +kernel
theorem dX10_movesBy_9 : decode cX10_movesBy 9 = .ok (.iconst 0, 1) := by decide +kernel
theorem dX10_movesBy_10 : decode cX10_movesBy 10 = .ok (.invokevirtual 333, 3) := by decide +kernel
theorem dX10_movesBy_13 : decode cX10_movesBy 13 = .ok (.bipush (-99), 2) := by decide +kernel
theorem dX10_movesBy_15 : decode cX10_movesBy 15 = .ok (.bipush 99, 2) := by decide +kernel
theorem dX10_movesBy_17 : decode cX10_movesBy 17 = .ok (.invokestatic 347, 3) := by decide +kernel
theorem dX10_movesBy_20 : decode cX10_movesBy 20 = .ok (.ireturn, 1) := by decide +kernel
theorem dX10_doesRing_0 : decode cX10_doesRing 0 = .ok (.aload_n 0, 1) := by decide +kernel
theorem dX10_doesRing_1 : decode cX10_doesRing 1 = .ok (.iload_n 1, 1) := by decide +kernel
theorem dX10_doesRing_2 : decode cX10_doesRing 2 = .ok (.iload_n 2, 1) := by decide +kernel
theorem dX10_doesRing_3 : decode cX10_doesRing 3 = .ok (.iload_n 3, 1) := by decide +kernel
theorem dX10_doesRing_4 : decode cX10_doesRing 4 = .ok (.invokevirtual 343, 3) := by decide +kernel
theorem dX10_doesRing_7 : decode cX10_doesRing 7 = .ok (.aload_n 0, 1) := by decide +kernel
theorem dX10_doesRing_8 : decode cX10_doesRing 8 = .ok (.iconst 3, 1) := by decide +kernel
theorem dX10_doesRing_9 : decode cX10_doesRing 9 = .ok (.iconst 0, 1) := by decide +kernel
theorem dX10_doesRing_10 : decode cX10_doesRing 10 = .ok (.invokevirtual 333, 3) := by decide +kernel
theorem dX10_doesRing_13 : decode cX10_doesRing 13 = .ok (.ifCond .le 7, 3) := by decide +kernel
theorem dX10_doesRing_16 : decode cX10_doesRing 16 = .ok (.iconst 1, 1) := by decide +kernel
theorem dX10_doesRing_17 : decode cX10_doesRing 17 = .ok (.goto 4, 3) := by decide +kernel
theorem dX10_doesRing_20 : decode cX10_doesRing 20 = .ok (.iconst 0, 1) := by decide +kernel
theorem dX10_doesRing_21 : decode cX10_doesRing 21 = .ok (.ireturn, 1) := by decide +kernel
theorem dX10_isOn_0 : decode cX10_isOn 0 = .ok (.aload_n 0, 1) := by decide +kernel
theorem dX10_isOn_1 : decode cX10_isOn 1 = .ok (.getfield 122, 3) := by decide +kernel
theorem dX10_isOn_4 : decode cX10_isOn 4 = .ok (.bipush 24, 2) := by decide +kernel
theorem dX10_isOn_6 : decode cX10_isOn 6 = .ok (.iload_n 1, 1) := by decide +kernel
theorem dX10_isOn_7 : decode cX10_isOn 7 = .ok (.iadd, 1) := by decide +kernel
theorem dX10_isOn_8 : decode cX10_isOn 8 = .ok (.iaload, 1) := by decide +kernel
theorem dX10_isOn_9 : decode cX10_isOn 9 = .ok (.iconst 1, 1) := by decide +kernel
theorem dX10_isOn_10 : decode cX10_isOn 10 = .ok (.if_icmp .ne 7, 3) := by decide +kernel
theorem dX10_isOn_13 : decode cX10_isOn 13 = .ok (.iconst 1, 1) := by decide +kernel
theorem dX10_isOn_14 : decode cX10_isOn 14 = .ok (.goto 4, 3) := by decide +kernel
theorem dX10_isOn_17 : decode cX10_isOn 17 = .ok (.iconst 0, 1) := by decide +kernel
theorem dX10_isOn_18 : decode cX10_isOn 18 = .ok (.ireturn, 1) := by decide +kernel
theorem dX10_hasDone_0 : decode cX10_hasDone 0 = .ok (.aload_n 0, 1) := by decide +kernel
theorem dX10_hasDone_1 : decode cX10_hasDone 1 = .ok (.getfield 61, 3) := by decide +kernel
theorem dX10_hasDone_4 : decode cX10_hasDone 4 = .ok (.bipush 6, 2) := by decide +kernel
theorem dX10_hasDone_6 : decode cX10_hasDone 6 = .ok (.aload_n 0, 1) := by decide +kernel
theorem dX10_hasDone_7 : decode cX10_hasDone 7 = .ok (.getfield 230, 3) := by decide +kernel
theorem dX10_hasDone_10 : decode cX10_hasDone 10 = .ok (.imul, 1) := by decide +kernel
theorem dX10_hasDone_11 : decode cX10_hasDone 11 = .ok (.iload_n 1, 1) := by decide +kernel
theorem dX10_hasDone_12 : decode cX10_hasDone 12 = .ok (.iadd, 1) := by decide +kernel
theorem dX10_hasDone_13 : decode cX10_hasDone 13 = .ok (.iaload, 1) := by decide +kernel
theorem dX10_hasDone_14 : decode cX10_hasDone 14 = .ok (.aload_n 0, 1) := by decide +kernel
theorem dX10_hasDone_15 : decode cX10_hasDone 15 = .ok (.getfield 122, 3) := by decide +kernel
theorem dX10_hasDone_18 : decode cX10_hasDone 18 = .ok (.bipush 12, 2) := by decide +kernel
theorem dX10_hasDone_20 : decode cX10_hasDone 20 = .ok (.iload_n 1, 1) := by decide +kernel
theorem dX10_hasDone_21 : decode cX10_hasDone 21 = .ok (.iadd, 1) := by decide +kernel
theorem dX10_hasDone_22 : decode cX10_hasDone 22 = .ok (.iaload, 1) := by decide +kernel
theorem dX10_hasDone_23 : decode cX10_hasDone 23 = .ok (.iconst (-1), 1) := by decide +kernel
theorem dX10_hasDone_24 : decode cX10_hasDone 24 = .ok (.ixor, 1) := by decide +kernel
theorem dX10_hasDone_25 : decode cX10_hasDone 25 = .ok (.iand, 1) := by decide +kernel
theorem dX10_hasDone_26 : decode cX10_hasDone 26 = .ok (.ifCond .ne 7, 3) := by decide +kernel
theorem dX10_hasDone_29 : decode cX10_hasDone 29 = .ok (.iconst 1, 1) := by decide +kernel
theorem dX10_hasDone_30 : decode cX10_hasDone 30 = .ok (.goto 4, 3) := by decide +kernel
theorem dX10_hasDone_33 : decode cX10_hasDone 33 = .ok (.iconst 0, 1) := by decide +kernel
theorem dX10_hasDone_34 : decode cX10_hasDone 34 = .ok (.ireturn, 1) := by decide +kernel
theorem dX10_doneBits_0 : decode cX10_doneBits 0 = .ok (.iconst 0, 1) := by decide +kernel
theorem dX10_doneBits_1 : decode cX10_doneBits 1 = .ok (.istore_n 1, 1) := by decide +kernel
theorem dX10_doneBits_2 : decode cX10_doneBits 2 = .ok (.iconst 0, 1) := by decide +kernel
theorem dX10_doneBits_3 : decode cX10_doneBits 3 = .ok (.istore_n 2, 1) := by decide +kernel
theorem dX10_doneBits_4 : decode cX10_doneBits 4 = .ok (.iload_n 2, 1) := by decide +kernel
theorem dX10_doneBits_5 : decode cX10_doneBits 5 = .ok (.aload_n 0, 1) := by decide +kernel
theorem dX10_doneBits_6 : decode cX10_doneBits 6 = .ok (.getfield 55, 3) := by decide +kernel
theorem dX10_doneBits_9 : decode cX10_doneBits 9 = .ok (.aload_n 0, 1) := by decide +kernel
theorem dX10_doneBits_10 : decode cX10_doneBits 10 = .ok (.getfield 230, 3) := by decide +kernel
theorem dX10_doneBits_13 : decode cX10_doneBits 13 = .ok (.iaload, 1) := by decide +kernel
theorem dX10_doneBits_14 : decode cX10_doneBits 14 = .ok (.if_icmp .ge 23, 3) := by decide +kernel
theorem dX10_doneBits_17 : decode cX10_doneBits 17 = .ok (.aload_n 0, 1) := by decide +kernel
theorem dX10_doneBits_18 : decode cX10_doneBits 18 = .ok (.iload_n 2, 1) := by decide +kernel
theorem dX10_doneBits_19 : decode cX10_doneBits 19 = .ok (.invokevirtual 350, 3) := by decide +kernel
theorem dX10_doneBits_22 : decode cX10_doneBits 22 = .ok (.ifCond .eq 9, 3) := by decide +kernel
theorem dX10_doneBits_25 : decode cX10_doneBits 25 = .ok (.iload_n 1, 1) := by decide +kernel
theorem dX10_doneBits_26 : decode cX10_doneBits 26 = .ok (.iconst 1, 1) := by decide +kernel
theorem dX10_doneBits_27 : decode cX10_doneBits 27 = .ok (.iload_n 2, 1) := by decide +kernel
theorem dX10_doneBits_28 : decode cX10_doneBits 28 = .ok (.ishl, 1) := by decide +kernel
theorem dX10_doneBits_29 : decode cX10_doneBits 29 = .ok (.ior, 1) := by decide +kernel
theorem dX10_doneBits_30 : decode cX10_doneBits 30 = .ok (.istore_n 1, 1) := by decide +kernel
theorem dX10_doneBits_31 : decode cX10_doneBits 31 = .ok (.iinc 2 1, 3) := by decide +kernel
theorem dX10_doneBits_34 : decode cX10_doneBits 34 = .ok (.goto (-30), 3) := by decide +kernel
theorem dX10_doneBits_37 : decode cX10_doneBits 37 = .ok (.iload_n 1, 1) := by decide +kernel
theorem dX10_doneBits_38 : decode cX10_doneBits 38 = .ok (.ireturn, 1) := by decide +kernel
theorem dX10_sumOf_0 : decode cX10_sumOf 0 = .ok (.iconst 0, 1) := by decide +kernel
theorem dX10_sumOf_1 : decode cX10_sumOf 1 = .ok (.istore_n 2, 1) := by decide +kernel
theorem dX10_sumOf_2 : decode cX10_sumOf 2 = .ok (.iload_n 1, 1) := by decide +kernel
theorem dX10_sumOf_3 : decode cX10_sumOf 3 = .ok (.istore_n 3, 1) := by decide +kernel
theorem dX10_sumOf_4 : decode cX10_sumOf 4 = .ok (.iload_n 3, 1) := by decide +kernel
theorem dX10_sumOf_5 : decode cX10_sumOf 5 = .ok (.iload_n 1, 1) := by decide +kernel
theorem dX10_sumOf_6 : decode cX10_sumOf 6 = .ok (.bipush 6, 2) := by decide +kernel
theorem dX10_sumOf_8 : decode cX10_sumOf 8 = .ok (.iadd, 1) := by decide +kernel
theorem dX10_sumOf_9 : decode cX10_sumOf 9 = .ok (.if_icmp .ge 18, 3) := by decide +kernel
theorem dX10_sumOf_12 : decode cX10_sumOf 12 = .ok (.iload_n 2, 1) := by decide +kernel
theorem dX10_sumOf_13 : decode cX10_sumOf 13 = .ok (.aload_n 0, 1) := by decide +kernel
theorem dX10_sumOf_14 : decode cX10_sumOf 14 = .ok (.getfield 122, 3) := by decide +kernel
theorem dX10_sumOf_17 : decode cX10_sumOf 17 = .ok (.iload_n 3, 1) := by decide +kernel
theorem dX10_sumOf_18 : decode cX10_sumOf 18 = .ok (.iaload, 1) := by decide +kernel
theorem dX10_sumOf_19 : decode cX10_sumOf 19 = .ok (.iadd, 1) := by decide +kernel
theorem dX10_sumOf_20 : decode cX10_sumOf 20 = .ok (.istore_n 2, 1) := by decide +kernel
theorem dX10_sumOf_21 : decode cX10_sumOf 21 = .ok (.iinc 3 1, 3) := by decide +kernel
theorem dX10_sumOf_24 : decode cX10_sumOf 24 = .ok (.goto (-20), 3) := by decide +kernel
theorem dX10_sumOf_27 : decode cX10_sumOf 27 = .ok (.iload_n 2, 1) := by decide +kernel
theorem dX10_sumOf_28 : decode cX10_sumOf 28 = .ok (.ireturn, 1) := by decide +kernel
theorem dX10_knownMany_0 : decode cX10_knownMany 0 = .ok (.iconst 0, 1) := by decide +kernel
theorem dX10_knownMany_1 : decode cX10_knownMany 1 = .ok (.istore_n 1, 1) := by decide +kernel
theorem dX10_knownMany_2 : decode cX10_knownMany 2 = .ok (.iconst 0, 1) := by decide +kernel
theorem dX10_knownMany_3 : decode cX10_knownMany 3 = .ok (.istore_n 2, 1) := by decide +kernel
theorem dX10_knownMany_4 : decode cX10_knownMany 4 = .ok (.iload_n 2, 1) := by decide +kernel
theorem dX10_knownMany_5 : decode cX10_knownMany 5 = .ok (.aload_n 0, 1) := by decide +kernel
theorem dX10_knownMany_6 : decode cX10_knownMany 6 = .ok (.getfield 55, 3) := by decide +kernel
theorem dX10_knownMany_9 : decode cX10_knownMany 9 = .ok (.aload_n 0, 1) := by decide +kernel
theorem dX10_knownMany_10 : decode cX10_knownMany 10 = .ok (.getfield 230, 3) := by decide +kernel
theorem dX10_knownMany_13 : decode cX10_knownMany 13 = .ok (.iaload, 1) := by decide +kernel
theorem dX10_knownMany_14 : decode cX10_knownMany 14 = .ok (.if_icmp .ge 24, 3) := by decide +kernel
theorem dX10_knownMany_17 : decode cX10_knownMany 17 = .ok (.iload_n 1, 1) := by decide +kernel
theorem dX10_knownMany_18 : decode cX10_knownMany 18 = .ok (.aload_n 0, 1) := by decide +kernel
theorem dX10_knownMany_19 : decode cX10_knownMany 19 = .ok (.getfield 122, 3) := by decide +kernel
theorem dX10_knownMany_22 : decode cX10_knownMany 22 = .ok (.bipush 12, 2) := by decide +kernel
theorem dX10_knownMany_24 : decode cX10_knownMany 24 = .ok (.iload_n 2, 1) := by decide +kernel
theorem dX10_knownMany_25 : decode cX10_knownMany 25 = .ok (.iadd, 1) := by decide +kernel
theorem dX10_knownMany_26 : decode cX10_knownMany 26 = .ok (.iaload, 1) := by decide +kernel
theorem dX10_knownMany_27 : decode cX10_knownMany 27 = .ok (.invokestatic 336, 3) := by decide +kernel
theorem dX10_knownMany_30 : decode cX10_knownMany 30 = .ok (.iadd, 1) := by decide +kernel
theorem dX10_knownMany_31 : decode cX10_knownMany 31 = .ok (.istore_n 1, 1) := by decide +kernel
theorem dX10_knownMany_32 : decode cX10_knownMany 32 = .ok (.iinc 2 1, 3) := by decide +kernel
theorem dX10_knownMany_35 : decode cX10_knownMany 35 = .ok (.goto (-31), 3) := by decide +kernel
theorem dX10_knownMany_38 : decode cX10_knownMany 38 = .ok (.iload_n 1, 1) := by decide +kernel
theorem dX10_knownMany_39 : decode cX10_knownMany 39 = .ok (.ireturn, 1) := by decide +kernel
theorem dX10_isHeard_0 : decode cX10_isHeard 0 = .ok (.aload_n 0, 1) := by decide +kernel
theorem dX10_isHeard_1 : decode cX10_isHeard 1 = .ok (.iload_n 1, 1) := by decide +kernel
theorem dX10_isHeard_2 : decode cX10_isHeard 2 = .ok (.invokevirtual 353, 3) := by decide +kernel
theorem dX10_isHeard_5 : decode cX10_isHeard 5 = .ok (.istore_n 2, 1) := by decide +kernel
theorem dX10_isHeard_6 : decode cX10_isHeard 6 = .ok (.aload_n 0, 1) := by decide +kernel
theorem dX10_isHeard_7 : decode cX10_isHeard 7 = .ok (.iconst 0, 1) := by decide +kernel
theorem dX10_isHeard_8 : decode cX10_isHeard 8 = .ok (.putfield 356, 3) := by decide +kernel
theorem dX10_isHeard_11 : decode cX10_isHeard 11 = .ok (.iconst 0, 1) := by decide +kernel
theorem dX10_isHeard_12 : decode cX10_isHeard 12 = .ok (.istore_n 3, 1) := by decide +kernel
theorem dX10_isHeard_13 : decode cX10_isHeard 13 = .ok (.iload_n 3, 1) := by decide +kernel
theorem dX10_isHeard_14 : decode cX10_isHeard 14 = .ok (.aload_n 0, 1) := by decide +kernel
theorem dX10_isHeard_15 : decode cX10_isHeard 15 = .ok (.getfield 55, 3) := by decide +kernel
theorem dX10_isHeard_18 : decode cX10_isHeard 18 = .ok (.aload_n 0, 1) := by decide +kernel
theorem dX10_isHeard_19 : decode cX10_isHeard 19 = .ok (.getfield 230, 3) := by decide +kernel
theorem dX10_isHeard_22 : decode cX10_isHeard 22 = .ok (.iaload, 1) := by decide +kernel
theorem dX10_isHeard_23 : decode cX10_isHeard 23 = .ok (.if_icmp .ge 67, 3) := by decide +kernel
theorem dX10_isHeard_26 : decode cX10_isHeard 26 = .ok (.aload_n 0, 1) := by decide +kernel
theorem dX10_isHeard_27 : decode cX10_isHeard 27 = .ok (.getfield 125, 3) := by decide +kernel
theorem dX10_isHeard_30 : decode cX10_isHeard 30 = .ok (.iload_n 3, 1) := by decide +kernel
theorem dX10_isHeard_31 : decode cX10_isHeard 31 = .ok (.aload_n 0, 1) := by decide +kernel
theorem dX10_isHeard_32 : decode cX10_isHeard 32 = .ok (.iload_n 3, 1) := by decide +kernel
theorem dX10_isHeard_33 : decode cX10_isHeard 33 = .ok (.iload_n 1, 1) := by decide +kernel
theorem dX10_isHeard_34 : decode cX10_isHeard 34 = .ok (.iload_n 2, 1) := by decide +kernel
theorem dX10_isHeard_35 : decode cX10_isHeard 35 = .ok (.invokevirtual 359, 3) := by decide +kernel
theorem dX10_isHeard_38 : decode cX10_isHeard 38 = .ok (.bastore, 1) := by decide +kernel
theorem dX10_isHeard_39 : decode cX10_isHeard 39 = .ok (.aload_n 0, 1) := by decide +kernel
theorem dX10_isHeard_40 : decode cX10_isHeard 40 = .ok (.getfield 128, 3) := by decide +kernel
theorem dX10_isHeard_43 : decode cX10_isHeard 43 = .ok (.iload_n 3, 1) := by decide +kernel
theorem dX10_isHeard_44 : decode cX10_isHeard 44 = .ok (.aload_n 0, 1) := by decide +kernel
theorem dX10_isHeard_45 : decode cX10_isHeard 45 = .ok (.iload_n 3, 1) := by decide +kernel
theorem dX10_isHeard_46 : decode cX10_isHeard 46 = .ok (.iload_n 1, 1) := by decide +kernel
theorem dX10_isHeard_47 : decode cX10_isHeard 47 = .ok (.iload_n 2, 1) := by decide +kernel
theorem dX10_isHeard_48 : decode cX10_isHeard 48 = .ok (.invokevirtual 362, 3) := by decide +kernel
theorem dX10_isHeard_51 : decode cX10_isHeard 51 = .ok (.iastore, 1) := by decide +kernel
theorem dX10_isHeard_52 : decode cX10_isHeard 52 = .ok (.aload_n 0, 1) := by decide +kernel
theorem dX10_isHeard_53 : decode cX10_isHeard 53 = .ok (.iload_n 3, 1) := by decide +kernel
theorem dX10_isHeard_54 : decode cX10_isHeard 54 = .ok (.iload_n 1, 1) := by decide +kernel
theorem dX10_isHeard_55 : decode cX10_isHeard 55 = .ok (.invokevirtual 339, 3) := by decide +kernel
theorem dX10_isHeard_58 : decode cX10_isHeard 58 = .ok (.ifCond .eq 26, 3) := by decide +kernel
theorem dX10_isHeard_61 : decode cX10_isHeard 61 = .ok (.aload_n 0, 1) := by decide +kernel
theorem dX10_isHeard_62 : decode cX10_isHeard 62 = .ok (.iload_n 3, 1) := by decide +kernel
theorem dX10_isHeard_63 : decode cX10_isHeard 63 = .ok (.invokevirtual 365, 3) := by decide +kernel
theorem dX10_isHeard_66 : decode cX10_isHeard 66 = .ok (.ifCond .eq 18, 3) := by decide +kernel
theorem dX10_isHeard_69 : decode cX10_isHeard 69 = .ok (.aload_n 0, 1) := by decide +kernel
theorem dX10_isHeard_70 : decode cX10_isHeard 70 = .ok (.iload_n 3, 1) := by decide +kernel
theorem dX10_isHeard_71 : decode cX10_isHeard 71 = .ok (.iload_n 1, 1) := by decide +kernel
theorem dX10_isHeard_72 : decode cX10_isHeard 72 = .ok (.iload_n 2, 1) := by decide +kernel
theorem dX10_isHeard_73 : decode cX10_isHeard 73 = .ok (.invokevirtual 368, 3) := by decide +kernel
theorem dX10_isHeard_76 : decode cX10_isHeard 76 = .ok (.ifCond .eq 8, 3) := by decide +kernel
theorem dX10_isHeard_79 : decode cX10_isHeard 79 = .ok (.aload_n 0, 1) := by decide +kernel
theorem dX10_isHeard_80 : decode cX10_isHeard 80 = .ok (.iconst 1, 1) := by decide +kernel
theorem dX10_isHeard_81 : decode cX10_isHeard 81 = .ok (.putfield 356, 3) := by decide +kernel
theorem dX10_isHeard_84 : decode cX10_isHeard 84 = .ok (.iinc 3 1, 3) := by decide +kernel
theorem dX10_isHeard_87 : decode cX10_isHeard 87 = .ok (.goto (-74), 3) := by decide +kernel
theorem dX10_isHeard_90 : decode cX10_isHeard 90 = .ok (.iconst 0, 1) := by decide +kernel
theorem dX10_isHeard_91 : decode cX10_isHeard 91 = .ok (.istore_n 3, 1) := by decide +kernel
theorem dX10_isHeard_92 : decode cX10_isHeard 92 = .ok (.iload_n 3, 1) := by decide +kernel
theorem dX10_isHeard_93 : decode cX10_isHeard 93 = .ok (.aload_n 0, 1) := by decide +kernel
theorem dX10_isHeard_94 : decode cX10_isHeard 94 = .ok (.getfield 55, 3) := by decide +kernel
theorem dX10_isHeard_97 : decode cX10_isHeard 97 = .ok (.aload_n 0, 1) := by decide +kernel
theorem dX10_isHeard_98 : decode cX10_isHeard 98 = .ok (.getfield 230, 3) := by decide +kernel
theorem dX10_isHeard_101 : decode cX10_isHeard 101 = .ok (.iaload, 1) := by decide +kernel
theorem dX10_isHeard_102 : decode cX10_isHeard 102 = .ok (.if_icmp .ge 73, 3) := by decide +kernel
theorem dX10_isHeard_105 : decode cX10_isHeard 105 = .ok (.aload_n 0, 1) := by decide +kernel
theorem dX10_isHeard_106 : decode cX10_isHeard 106 = .ok (.iload_n 3, 1) := by decide +kernel
theorem dX10_isHeard_107 : decode cX10_isHeard 107 = .ok (.invokevirtual 365, 3) := by decide +kernel
theorem dX10_isHeard_110 : decode cX10_isHeard 110 = .ok (.ifCond .ne 6, 3) := by decide +kernel
theorem dX10_isHeard_113 : decode cX10_isHeard 113 = .ok (.goto 56, 3) := by decide +kernel
theorem dX10_isHeard_116 : decode cX10_isHeard 116 = .ok (.aload_n 0, 1) := by decide +kernel
theorem dX10_isHeard_117 : decode cX10_isHeard 117 = .ok (.getfield 125, 3) := by decide +kernel
theorem dX10_isHeard_120 : decode cX10_isHeard 120 = .ok (.iload_n 3, 1) := by decide +kernel
theorem dX10_isHeard_121 : decode cX10_isHeard 121 = .ok (.baload, 1) := by decide +kernel
theorem dX10_isHeard_122 : decode cX10_isHeard 122 = .ok (.ifCond .eq 16, 3) := by decide +kernel
theorem dX10_isHeard_125 : decode cX10_isHeard 125 = .ok (.aload_n 0, 1) := by decide +kernel
theorem dX10_isHeard_126 : decode cX10_isHeard 126 = .ok (.getfield 122, 3) := by decide +kernel
theorem dX10_isHeard_129 : decode cX10_isHeard 129 = .ok (.bipush 12, 2) := by decide +kernel
theorem dX10_isHeard_131 : decode cX10_isHeard 131 = .ok (.iload_n 3, 1) := by decide +kernel
theorem dX10_isHeard_132 : decode cX10_isHeard 132 = .ok (.iadd, 1) := by decide +kernel
theorem dX10_isHeard_133 : decode cX10_isHeard 133 = .ok (.dup2, 1) := by decide +kernel
theorem dX10_isHeard_134 : decode cX10_isHeard 134 = .ok (.iaload, 1) := by decide +kernel
theorem dX10_isHeard_135 : decode cX10_isHeard 135 = .ok (.iload_n 2, 1) := by decide +kernel
theorem dX10_isHeard_136 : decode cX10_isHeard 136 = .ok (.ior, 1) := by decide +kernel
theorem dX10_isHeard_137 : decode cX10_isHeard 137 = .ok (.iastore, 1) := by decide +kernel
theorem dX10_isHeard_138 : decode cX10_isHeard 138 = .ok (.aload_n 0, 1) := by decide +kernel
theorem dX10_isHeard_139 : decode cX10_isHeard 139 = .ok (.getfield 122, 3) := by decide +kernel
theorem dX10_isHeard_142 : decode cX10_isHeard 142 = .ok (.bipush 18, 2) := by decide +kernel
theorem dX10_isHeard_144 : decode cX10_isHeard 144 = .ok (.iload_n 3, 1) := by decide +kernel
theorem dX10_isHeard_145 : decode cX10_isHeard 145 = .ok (.iadd, 1) := by decide +kernel
theorem dX10_isHeard_146 : decode cX10_isHeard 146 = .ok (.aload_n 0, 1) := by decide +kernel
theorem dX10_isHeard_147 : decode cX10_isHeard 147 = .ok (.getfield 122, 3) := by decide +kernel
theorem dX10_isHeard_150 : decode cX10_isHeard 150 = .ok (.bipush 18, 2) := by decide +kernel
theorem dX10_isHeard_152 : decode cX10_isHeard 152 = .ok (.iload_n 3, 1) := by decide +kernel
theorem dX10_isHeard_153 : decode cX10_isHeard 153 = .ok (.iadd, 1) := by decide +kernel
theorem dX10_isHeard_154 : decode cX10_isHeard 154 = .ok (.iaload, 1) := by decide +kernel
theorem dX10_isHeard_155 : decode cX10_isHeard 155 = .ok (.aload_n 0, 1) := by decide +kernel
theorem dX10_isHeard_156 : decode cX10_isHeard 156 = .ok (.getfield 128, 3) := by decide +kernel
theorem dX10_isHeard_159 : decode cX10_isHeard 159 = .ok (.iload_n 3, 1) := by decide +kernel
theorem dX10_isHeard_160 : decode cX10_isHeard 160 = .ok (.iaload, 1) := by decide +kernel
theorem dX10_isHeard_161 : decode cX10_isHeard 161 = .ok (.iadd, 1) := by decide +kernel
theorem dX10_isHeard_162 : decode cX10_isHeard 162 = .ok (.iconst 0, 1) := by decide +kernel
theorem dX10_isHeard_163 : decode cX10_isHeard 163 = .ok (.bipush 99, 2) := by decide +kernel
theorem dX10_isHeard_165 : decode cX10_isHeard 165 = .ok (.invokestatic 347, 3) := by decide +kernel
theorem dX10_isHeard_168 : decode cX10_isHeard 168 = .ok (.iastore, 1) := by decide +kernel
theorem dX10_isHeard_169 : decode cX10_isHeard 169 = .ok (.iinc 3 1, 3) := by decide +kernel
theorem dX10_isHeard_172 : decode cX10_isHeard 172 = .ok (.goto (-80), 3) := by decide +kernel
theorem dX10_isHeard_175 : decode cX10_isHeard 175 = .ok (.aload_n 0, 1) := by decide +kernel
theorem dX10_isHeard_176 : decode cX10_isHeard 176 = .ok (.getfield 122, 3) := by decide +kernel
theorem dX10_isHeard_179 : decode cX10_isHeard 179 = .ok (.iload_n 1, 1) := by decide +kernel
theorem dX10_isHeard_180 : decode cX10_isHeard 180 = .ok (.dup2, 1) := by decide +kernel
theorem dX10_isHeard_181 : decode cX10_isHeard 181 = .ok (.iaload, 1) := by decide +kernel
theorem dX10_isHeard_182 : decode cX10_isHeard 182 = .ok (.iconst 1, 1) := by decide +kernel
theorem dX10_isHeard_183 : decode cX10_isHeard 183 = .ok (.iadd, 1) := by decide +kernel
theorem dX10_isHeard_184 : decode cX10_isHeard 184 = .ok (.iastore, 1) := by decide +kernel
theorem dX10_isHeard_185 : decode cX10_isHeard 185 = .ok (.return_, 1) := by decide +kernel
theorem dX10_eveningGoes_0 : decode cX10_eveningGoes 0 = .ok (.aload_n 0, 1) := by decide +kernel
theorem dX10_eveningGoes_1 : decode cX10_eveningGoes 1 = .ok (.getfield 122, 3) := by decide +kernel
theorem dX10_eveningGoes_4 : decode cX10_eveningGoes 4 = .ok (.bipush 31, 2) := by decide +kernel
theorem dX10_eveningGoes_6 : decode cX10_eveningGoes 6 = .ok (.iaload, 1) := by decide +kernel
theorem dX10_eveningGoes_7 : decode cX10_eveningGoes 7 = .ok (.istore_n 1, 1) := by decide +kernel
theorem dX10_eveningGoes_8 : decode cX10_eveningGoes 8 = .ok (.iload_n 1, 1) := by decide +kernel
theorem dX10_eveningGoes_9 : decode cX10_eveningGoes 9 = .ok (.ifCond .lt 21, 3) := by decide +kernel
theorem dX10_eveningGoes_12 : decode cX10_eveningGoes 12 = .ok (.aload_n 0, 1) := by decide +kernel
theorem dX10_eveningGoes_13 : decode cX10_eveningGoes 13 = .ok (.getfield 317, 3) := by decide +kernel
theorem dX10_eveningGoes_16 : decode cX10_eveningGoes 16 = .ok (.ifCond .ne 10, 3) := by decide +kernel
theorem dX10_eveningGoes_19 : decode cX10_eveningGoes 19 = .ok (.aload_n 0, 1) := by decide +kernel
theorem dX10_eveningGoes_20 : decode cX10_eveningGoes 20 = .ok (.invokevirtual 371, 3) := by decide +kernel
theorem dX10_eveningGoes_23 : decode cX10_eveningGoes 23 = .ok (.ifCond .ne 7, 3) := by decide +kernel
theorem dX10_eveningGoes_26 : decode cX10_eveningGoes 26 = .ok (.iconst 1, 1) := by decide +kernel
theorem dX10_eveningGoes_27 : decode cX10_eveningGoes 27 = .ok (.goto 4, 3) := by decide +kernel
theorem dX10_eveningGoes_30 : decode cX10_eveningGoes 30 = .ok (.iconst 0, 1) := by decide +kernel
theorem dX10_eveningGoes_31 : decode cX10_eveningGoes 31 = .ok (.istore_n 2, 1) := by decide +kernel
theorem dX10_eveningGoes_32 : decode cX10_eveningGoes 32 = .ok (.aload_n 0, 1) := by decide +kernel
theorem dX10_eveningGoes_33 : decode cX10_eveningGoes 33 = .ok (.iconst 0, 1) := by decide +kernel
theorem dX10_eveningGoes_34 : decode cX10_eveningGoes 34 = .ok (.putfield 356, 3) := by decide +kernel
theorem dX10_eveningGoes_37 : decode cX10_eveningGoes 37 = .ok (.iload_n 2, 1) := by decide +kernel
theorem dX10_eveningGoes_38 : decode cX10_eveningGoes 38 = .ok (.ifCond .eq 8, 3) := by decide +kernel
theorem dX10_eveningGoes_41 : decode cX10_eveningGoes 41 = .ok (.aload_n 0, 1) := by decide +kernel
theorem dX10_eveningGoes_42 : decode cX10_eveningGoes 42 = .ok (.iload_n 1, 1) := by decide +kernel
theorem dX10_eveningGoes_43 : decode cX10_eveningGoes 43 = .ok (.invokevirtual 375, 3) := by decide +kernel
theorem dX10_eveningGoes_46 : decode cX10_eveningGoes 46 = .ok (.bipush 6, 2) := by decide +kernel
theorem dX10_eveningGoes_48 : decode cX10_eveningGoes 48 = .ok (.istore_n 3, 1) := by decide +kernel
theorem dX10_eveningGoes_49 : decode cX10_eveningGoes 49 = .ok (.iload_n 3, 1) := by decide +kernel
theorem dX10_eveningGoes_50 : decode cX10_eveningGoes 50 = .ok (.bipush 12, 2) := by decide +kernel
theorem dX10_eveningGoes_52 : decode cX10_eveningGoes 52 = .ok (.if_icmp .ge 28, 3) := by decide +kernel
theorem dX10_eveningGoes_55 : decode cX10_eveningGoes 55 = .ok (.aload_n 0, 1) := by decide +kernel
theorem dX10_eveningGoes_56 : decode cX10_eveningGoes 56 = .ok (.getfield 122, 3) := by decide +kernel
theorem dX10_eveningGoes_59 : decode cX10_eveningGoes 59 = .ok (.iload_n 3, 1) := by decide +kernel
theorem dX10_eveningGoes_60 : decode cX10_eveningGoes 60 = .ok (.iaload, 1) := by decide +kernel
theorem dX10_eveningGoes_61 : decode cX10_eveningGoes 61 = .ok (.ifCond .le 13, 3) := by decide +kernel
theorem dX10_eveningGoes_64 : decode cX10_eveningGoes 64 = .ok (.aload_n 0, 1) := by decide +kernel
theorem dX10_eveningGoes_65 : decode cX10_eveningGoes 65 = .ok (.getfield 122, 3) := by decide +kernel
theorem dX10_eveningGoes_68 : decode cX10_eveningGoes 68 = .ok (.iload_n 3, 1) := by decide +kernel
theorem dX10_eveningGoes_69 : decode cX10_eveningGoes 69 = .ok (.dup2, 1) := by decide +kernel
theorem dX10_eveningGoes_70 : decode cX10_eveningGoes 70 = .ok (.iaload, 1) := by decide +kernel
theorem dX10_eveningGoes_71 : decode cX10_eveningGoes 71 = .ok (.iconst 1, 1) := by decide +kernel
theorem dX10_eveningGoes_72 : decode cX10_eveningGoes 72 = .ok (.isub, 1) := by decide +kernel
theorem dX10_eveningGoes_73 : decode cX10_eveningGoes 73 = .ok (.iastore, 1) := by decide +kernel
theorem dX10_eveningGoes_74 : decode cX10_eveningGoes 74 = .ok (.iinc 3 1, 3) := by decide +kernel
theorem dX10_eveningGoes_77 : decode cX10_eveningGoes 77 = .ok (.goto (-28), 3) := by decide +kernel
theorem dX10_eveningGoes_80 : decode cX10_eveningGoes 80 = .ok (.aload_n 0, 1) := by decide +kernel
theorem dX10_eveningGoes_81 : decode cX10_eveningGoes 81 = .ok (.getfield 356, 3) := by decide +kernel
theorem dX10_eveningGoes_84 : decode cX10_eveningGoes 84 = .ok (.ifCond .eq 32, 3) := by decide +kernel
theorem dX10_eveningGoes_87 : decode cX10_eveningGoes 87 = .ok (.aload_n 0, 1) := by decide +kernel
theorem dX10_eveningGoes_88 : decode cX10_eveningGoes 88 = .ok (.getfield 122, 3) := by decide +kernel
theorem dX10_eveningGoes_91 : decode cX10_eveningGoes 91 = .ok (.bipush 6, 2) := by decide +kernel
theorem dX10_eveningGoes_93 : decode cX10_eveningGoes 93 = .ok (.iload_n 1, 1) := by decide +kernel
theorem dX10_eveningGoes_94 : decode cX10_eveningGoes 94 = .ok (.iadd, 1) := by decide +kernel
theorem dX10_eveningGoes_95 : decode cX10_eveningGoes 95 = .ok (.aload_n 0, 1) := by decide +kernel
theorem dX10_eveningGoes_96 : decode cX10_eveningGoes 96 = .ok (.getfield 76, 3) := by decide +kernel
theorem dX10_eveningGoes_99 : decode cX10_eveningGoes 99 = .ok (.aload_n 0, 1) := by decide +kernel
theorem dX10_eveningGoes_100 : decode cX10_eveningGoes 100 = .ok (.getfield 230, 3) := by decide +kernel
theorem dX10_eveningGoes_103 : decode cX10_eveningGoes 103 = .ok (.iaload, 1) := by decide +kernel
theorem dX10_eveningGoes_104 : decode cX10_eveningGoes 104 = .ok (.iastore, 1) := by decide +kernel
theorem dX10_eveningGoes_105 : decode cX10_eveningGoes 105 = .ok (.aload_n 0, 1) := by decide +kernel
theorem dX10_eveningGoes_106 : decode cX10_eveningGoes 106 = .ok (.getfield 122, 3) := by decide +kernel
theorem dX10_eveningGoes_109 : decode cX10_eveningGoes 109 = .ok (.bipush 32, 2) := by decide +kernel
theorem dX10_eveningGoes_111 : decode cX10_eveningGoes 111 = .ok (.dup2, 1) := by decide +kernel
theorem dX10_eveningGoes_112 : decode cX10_eveningGoes 112 = .ok (.iaload, 1) := by decide +kernel
theorem dX10_eveningGoes_113 : decode cX10_eveningGoes 113 = .ok (.iconst 1, 1) := by decide +kernel
theorem dX10_eveningGoes_114 : decode cX10_eveningGoes 114 = .ok (.iadd, 1) := by decide +kernel
theorem dX10_eveningGoes_115 : decode cX10_eveningGoes 115 = .ok (.iastore, 1) := by decide +kernel
theorem dX10_eveningGoes_116 : decode cX10_eveningGoes 116 = .ok (.aload_n 0, 1) := by decide +kernel
theorem dX10_eveningGoes_117 : decode cX10_eveningGoes 117 = .ok (.getfield 122, 3) := by decide +kernel
theorem dX10_eveningGoes_120 : decode cX10_eveningGoes 120 = .ok (.bipush 30, 2) := by decide +kernel
theorem dX10_eveningGoes_122 : decode cX10_eveningGoes 122 = .ok (.dup2, 1) := by decide +kernel
theorem dX10_eveningGoes_123 : decode cX10_eveningGoes 123 = .ok (.iaload, 1) := by decide +kernel
theorem dX10_eveningGoes_124 : decode cX10_eveningGoes 124 = .ok (.iconst 1, 1) := by decide +kernel
theorem dX10_eveningGoes_125 : decode cX10_eveningGoes 125 = .ok (.iadd, 1) := by decide +kernel
theorem dX10_eveningGoes_126 : decode cX10_eveningGoes 126 = .ok (.iastore, 1) := by decide +kernel
theorem dX10_eveningGoes_127 : decode cX10_eveningGoes 127 = .ok (.aload_n 0, 1) := by decide +kernel
theorem dX10_eveningGoes_128 : decode cX10_eveningGoes 128 = .ok (.getfield 122, 3) := by decide +kernel
theorem dX10_eveningGoes_131 : decode cX10_eveningGoes 131 = .ok (.bipush 31, 2) := by decide +kernel
theorem dX10_eveningGoes_133 : decode cX10_eveningGoes 133 = .ok (.bipush (-2), 2) := by decide +kernel
theorem dX10_eveningGoes_135 : decode cX10_eveningGoes 135 = .ok (.iastore, 1) := by decide +kernel
theorem dX10_eveningGoes_136 : decode cX10_eveningGoes 136 = .ok (.return_, 1) := by decide +kernel
set_option maxRecDepth 100000 in
set_option maxHeartbeats 4000000 in
theorem tX10_termOf_159 (G : gx) (fu : Nat) (h0 : mh) (v0 : Nat) (v1 : Int32) (v2 : Int32) (v3 : Int32) (v4 : Int32) (v5 : Int32) (k5 : Int32 × Int32 × mh → Option (Int32 × mh)) (hk5 : ∀ (v3 : Int32) (v4 : Int32) (h : mh), Ev lI G yX10_termOf cX10_termOf 8 (some .int) 1 h0 5 [(0, .ref (gB G + v0)), (1, .int v1), (2, .int v2), (3, .int v3), (4, .int v4)] [] h (k5 (v3, v4, h))) (h : mh) : Ev lI G yX10_termOf cX10_termOf 8 (some .int) 1 h0 159 [(0, .ref (gB G + v0)), (1, .int v1), (2, .int v2), (3, .int v3), (4, .int v4), (5, .int v5)] [] h (fX10_termOf_159 fu k5 v0 v1 v2 v3 v4 v5 h) := by
  unfold fX10_termOf_159
  refine ev_step (st_inc (pc := 159) (j := 4) (ls' := [(4, .int (v4 + (1 : Int32))), (0, .ref (gB G + v0)), (1, .int v1), (2, .int v2), (3, .int v3), (5, .int v5)]) dX10_termOf_159 rfl ni_1 (by decide) rfl) ?_
  refine ev_step (st_goto (pc := 162) (tgt := 5) dX10_termOf_162 (by decide)) ?_
  refine ev_sub (ls' := [(0, .ref (gB G + v0)), (1, .int v1), (2, .int v2), (3, .int v3), (4, .int (v4 + (1 : Int32)))]) [1, 2, 3, 4, 0] rfl ?_
  exact hk5 v3 (v4 + (1 : Int32)) h
set_option maxRecDepth 100000 in
set_option maxHeartbeats 4000000 in
theorem tX10_termOf_58 (G : gx) (fu : Nat) (h0 : mh) (v0 : Nat) (v1 : Int32) (v2 : Int32) (v3 : Int32) (v4 : Int32) (v5 : Int32) (s0 : Nat) (s1 : Int32) (s2 : Int32) (k5 : Int32 × Int32 × mh → Option (Int32 × mh)) (hk5 : ∀ (v3 : Int32) (v4 : Int32) (h : mh), Ev lI G yX10_termOf cX10_termOf 8 (some .int) 1 h0 5 [(0, .ref (gB G + v0)), (1, .int v1), (2, .int v2), (3, .int v3), (4, .int v4)] [] h (k5 (v3, v4, h))) (h : mh) : Ev lI G yX10_termOf cX10_termOf 8 (some .int) 1 h0 58 [(0, .ref (gB G + v0)), (1, .int v1), (2, .int v2), (3, .int v3), (4, .int v4), (5, .int v5)] [.int s2, .int s1, .ref (gB G + s0)] h (fX10_termOf_58 fu k5 v0 v1 v2 v3 v4 v5 s0 s1 s2 h) := by
  unfold fX10_termOf_58
  refine ev_sti (pc := 58) dX10_termOf_58 (fun h1 => ?_)
  refine ev_step (st_inc (pc := 59) (j := 3) (ls' := [(3, .int (v3 + (1 : Int32))), (0, .ref (gB G + v0)), (1, .int v1), (2, .int v2), (4, .int v4), (5, .int v5)]) dX10_termOf_59 rfl ni_1 (by decide) rfl) ?_
  refine ev_step (st_goto (pc := 62) (tgt := 159) dX10_termOf_62 (by decide)) ?_
  refine ev_sub (ls' := [(0, .ref (gB G + v0)), (1, .int v1), (2, .int v2), (3, .int (v3 + (1 : Int32))), (4, .int v4), (5, .int v5)]) [1, 2, 3, 0, 4, 5] rfl ?_
  exact tX10_termOf_159 G fu h0 v0 v1 v2 (v3 + (1 : Int32)) v4 v5 k5 hk5 h1
set_option maxRecDepth 100000 in
set_option maxHeartbeats 4000000 in
theorem tX10_termOf_97 (G : gx) (fu : Nat) (h0 : mh) (v0 : Nat) (v1 : Int32) (v2 : Int32) (v3 : Int32) (v4 : Int32) (v5 : Int32) (v6 : Int32) (v7 : Int32) (h : mh) : Ev lI G yX10_termOf cX10_termOf 8 (some .int) 1 h0 97 [(0, .ref (gB G + v0)), (1, .int v1), (2, .int v2), (3, .int v3), (4, .int v4), (5, .int v5), (6, .int v6), (7, .int v7)] [] h (fX10_termOf_97 fu v0 v1 v2 v3 v4 v5 v6 v7 h) := by
  unfold fX10_termOf_97
  refine ev_step (st_aload_n (pc := 97) (j := 0) dX10_termOf_97 rfl rfl) ?_
  refine ev_step (st_iconst (pc := 98) dX10_termOf_98 ni_1) ?_
  refine ev_putZ (pc := 99) (p_X10_306 _ rfl) rfl dX10_termOf_99 (fun h1 => ?_)
  refine ev_step (st_iconst (pc := 102) dX10_termOf_102 ni_0) ?_
  exact ev_iret (pc := 103) dX10_termOf_103
set_option maxRecDepth 100000 in
set_option maxHeartbeats 4000000 in
theorem tX10_termOf_158 (G : gx) (fu : Nat) (h0 : mh) (v0 : Nat) (v1 : Int32) (v2 : Int32) (v3 : Int32) (v4 : Int32) (v5 : Int32) (v6 : Int32) (v7 : Int32) (s0 : Nat) (s1 : Int32) (s2 : Int32) (k5 : Int32 × Int32 × mh → Option (Int32 × mh)) (hk5 : ∀ (v3 : Int32) (v4 : Int32) (h : mh), Ev lI G yX10_termOf cX10_termOf 8 (some .int) 1 h0 5 [(0, .ref (gB G + v0)), (1, .int v1), (2, .int v2), (3, .int v3), (4, .int v4)] [] h (k5 (v3, v4, h))) (h : mh) : Ev lI G yX10_termOf cX10_termOf 8 (some .int) 1 h0 158 [(0, .ref (gB G + v0)), (1, .int v1), (2, .int v2), (3, .int v3), (4, .int v4), (5, .int v5), (6, .int v6), (7, .int v7)] [.int s2, .int s1, .ref (gB G + s0)] h (fX10_termOf_158 fu k5 v0 v1 v2 v3 v4 v5 v6 v7 s0 s1 s2 h) := by
  unfold fX10_termOf_158
  refine ev_sti (pc := 158) dX10_termOf_158 (fun h1 => ?_)
  refine ev_sub (ls' := [(0, .ref (gB G + v0)), (1, .int v1), (2, .int v2), (3, .int v3), (4, .int v4), (5, .int v5)]) [0, 1, 2, 3, 4, 5] rfl ?_
  exact tX10_termOf_159 G fu h0 v0 v1 v2 v3 v4 v5 k5 hk5 h1
set_option maxRecDepth 100000 in
set_option maxHeartbeats 4000000 in
theorem tX10_termOf_104 (G : gx) (fu : Nat) (h0 : mh) (v0 : Nat) (v1 : Int32) (v2 : Int32) (v3 : Int32) (v4 : Int32) (v5 : Int32) (v6 : Int32) (v7 : Int32) (k5 : Int32 × Int32 × mh → Option (Int32 × mh)) (hk5 : ∀ (v3 : Int32) (v4 : Int32) (h : mh), Ev lI G yX10_termOf cX10_termOf 8 (some .int) 1 h0 5 [(0, .ref (gB G + v0)), (1, .int v1), (2, .int v2), (3, .int v3), (4, .int v4)] [] h (k5 (v3, v4, h))) (h : mh) : Ev lI G yX10_termOf cX10_termOf 8 (some .int) 1 h0 104 [(0, .ref (gB G + v0)), (1, .int v1), (2, .int v2), (3, .int v3), (4, .int v4), (5, .int v5), (6, .int v6), (7, .int v7)] [] h (fX10_termOf_104 fu k5 v0 v1 v2 v3 v4 v5 v6 v7 h) := by
  unfold fX10_termOf_104
  refine ev_step (st_aload_n (pc := 104) (j := 0) dX10_termOf_104 rfl rfl) ?_
  refine ev_getR (pc := 105) k_X10_116 rfl dX10_termOf_105 (fun a1 => ?_)
  refine ev_step (st_iload_n (pc := 108) (j := 3) dX10_termOf_108 rfl rfl) ?_
  refine ev_step (st_iconst (pc := 109) dX10_termOf_109 ni_1) ?_
  refine ev_step (st_isub (pc := 110) dX10_termOf_110) ?_
  refine ev_step (st_iload (pc := 111) (j := 5) dX10_termOf_111 rfl) ?_
  refine ev_step (st_iconst (pc := 113) dX10_termOf_113 ni_2) ?_
  refine ev_br (br_icmp_ne (tgt := 125) (pc := 114) dX10_termOf_114 (by decide)) (fun _ => ?_) (fun _ => ?_)
  · refine ev_step (st_iload (pc := 117) (j := 6) dX10_termOf_117 rfl) ?_
    refine ev_step (st_iload (pc := 119) (j := 7) dX10_termOf_119 rfl) ?_
    refine ev_step (st_iadd (pc := 121) dX10_termOf_121) ?_
    refine ev_step (st_goto (pc := 122) (tgt := 158) dX10_termOf_122 (by decide)) ?_
    refine ev_sub (ls' := [(0, .ref (gB G + v0)), (1, .int v1), (2, .int v2), (3, .int v3), (4, .int v4), (5, .int v5), (6, .int v6), (7, .int v7)]) [0, 1, 2, 3, 4, 5, 6, 7] rfl ?_
    exact tX10_termOf_158 G fu h0 v0 v1 v2 v3 v4 v5 v6 v7 a1 (v3 - ((1 : Int32))) (v6 + v7) k5 hk5 h
  · refine ev_step (st_iload (pc := 125) (j := 5) dX10_termOf_125 rfl) ?_
    refine ev_step (st_iconst (pc := 127) dX10_termOf_127 ni_3) ?_
    refine ev_br (br_icmp_ne (tgt := 139) (pc := 128) dX10_termOf_128 (by decide)) (fun _ => ?_) (fun _ => ?_)
    · refine ev_step (st_iload (pc := 131) (j := 6) dX10_termOf_131 rfl) ?_
      refine ev_step (st_iload (pc := 133) (j := 7) dX10_termOf_133 rfl) ?_
      refine ev_step (st_isub (pc := 135) dX10_termOf_135) ?_
      refine ev_step (st_goto (pc := 136) (tgt := 158) dX10_termOf_136 (by decide)) ?_
      refine ev_sub (ls' := [(0, .ref (gB G + v0)), (1, .int v1), (2, .int v2), (3, .int v3), (4, .int v4), (5, .int v5), (6, .int v6), (7, .int v7)]) [0, 1, 2, 3, 4, 5, 6, 7] rfl ?_
      exact tX10_termOf_158 G fu h0 v0 v1 v2 v3 v4 v5 v6 v7 a1 (v3 - ((1 : Int32))) (v6 - v7) k5 hk5 h
    · refine ev_step (st_iload (pc := 139) (j := 5) dX10_termOf_139 rfl) ?_
      refine ev_step (st_iconst (pc := 141) dX10_termOf_141 ni_4) ?_
      refine ev_br (br_icmp_ne (tgt := 153) (pc := 142) dX10_termOf_142 (by decide)) (fun _ => ?_) (fun _ => ?_)
      · refine ev_step (st_iload (pc := 145) (j := 6) dX10_termOf_145 rfl) ?_
        refine ev_step (st_iload (pc := 147) (j := 7) dX10_termOf_147 rfl) ?_
        refine ev_step (st_imul (pc := 149) dX10_termOf_149) ?_
        refine ev_step (st_goto (pc := 150) (tgt := 158) dX10_termOf_150 (by decide)) ?_
        refine ev_sub (ls' := [(0, .ref (gB G + v0)), (1, .int v1), (2, .int v2), (3, .int v3), (4, .int v4), (5, .int v5), (6, .int v6), (7, .int v7)]) [0, 1, 2, 3, 4, 5, 6, 7] rfl ?_
        exact tX10_termOf_158 G fu h0 v0 v1 v2 v3 v4 v5 v6 v7 a1 (v3 - ((1 : Int32))) (v6 * v7) k5 hk5 h
      · refine ev_step (st_iload (pc := 153) (j := 6) dX10_termOf_153 rfl) ?_
        refine ev_step (st_iload (pc := 155) (j := 7) dX10_termOf_155 rfl) ?_
        refine ev_div (pc := 157) dX10_termOf_157 (fun x2 => ?_)
        refine ev_sub (ls' := [(0, .ref (gB G + v0)), (1, .int v1), (2, .int v2), (3, .int v3), (4, .int v4), (5, .int v5), (6, .int v6), (7, .int v7)]) [0, 1, 2, 3, 4, 5, 6, 7] rfl ?_
        exact tX10_termOf_158 G fu h0 v0 v1 v2 v3 v4 v5 v6 v7 a1 (v3 - ((1 : Int32))) x2 k5 hk5 h
set_option maxRecDepth 100000 in
set_option maxHeartbeats 4000000 in
theorem tX10_termOf_165 (G : gx) (fu : Nat) (h0 : mh) (v0 : Nat) (v1 : Int32) (v2 : Int32) (v3 : Int32) (v4 : Int32) (h : mh) : Ev lI G yX10_termOf cX10_termOf 8 (some .int) 1 h0 165 [(0, .ref (gB G + v0)), (1, .int v1), (2, .int v2), (3, .int v3), (4, .int v4)] [] h (fX10_termOf_165 fu v0 v1 v2 v3 v4 h) := by
  unfold fX10_termOf_165
  refine ev_step (st_aload_n (pc := 165) (j := 0) dX10_termOf_165 rfl rfl) ?_
  refine ev_getR (pc := 166) k_X10_116 rfl dX10_termOf_166 (fun a1 => ?_)
  refine ev_step (st_iconst (pc := 169) dX10_termOf_169 ni_0) ?_
  refine ev_ldi (pc := 170) dX10_termOf_170 (fun x2 => ?_)
  exact ev_iret (pc := 171) dX10_termOf_171
set_option maxRecDepth 100000 in
set_option maxHeartbeats 4000000 in
theorem tX10_termOf_5 (G : gx) (fu : Nat) (h0 : mh) (v0 : Nat) (v1 : Int32) (v2 : Int32) (n : Nat) (v3 : Int32) (v4 : Int32) (h : mh) : Ev lI G yX10_termOf cX10_termOf 8 (some .int) 1 h0 5 [(0, .ref (gB G + v0)), (1, .int v1), (2, .int v2), (3, .int v3), (4, .int v4)] [] h (itr (bX10_termOf_5 fu v0 v1 v2) n (v3, v4, h)) := by
  refine ev_itr (P := fun (q : Int32 × Int32 × mh) (R9 : Option (Int32 × mh)) => Ev lI G yX10_termOf cX10_termOf 8 (some .int) 1 h0 5 [(0, .ref (gB G + v0)), (1, .int v1), (2, .int v2), (3, .int q.1), (4, .int q.2.1)] [] q.2.2 R9) (fun _ => ev_none) (fun k5 hk9 q => ?_) n (v3, v4, h)
  obtain ⟨v3, v4, h⟩ := q
  have hk5 : ∀ (v3 : Int32) (v4 : Int32) (h : mh), Ev lI G yX10_termOf cX10_termOf 8 (some .int) 1 h0 5 [(0, .ref (gB G + v0)), (1, .int v1), (2, .int v2), (3, .int v3), (4, .int v4)] [] h (k5 (v3, v4, h)) := fun v3 v4 h => hk9 (v3, v4, h)
  show Ev lI G yX10_termOf cX10_termOf 8 (some .int) 1 h0 5 [(0, .ref (gB G + v0)), (1, .int v1), (2, .int v2), (3, .int v3), (4, .int v4)] [] h (bX10_termOf_5 fu v0 v1 v2 k5 (v3, v4, h))
  unfold bX10_termOf_5
  refine ev_step (st_iload (pc := 5) (j := 4) dX10_termOf_5 rfl) ?_
  refine ev_step (st_iload_n (pc := 7) (j := 2) dX10_termOf_7 rfl rfl) ?_
  refine ev_br (br_icmp_ge (tgt := 165) (pc := 8) dX10_termOf_8 (by decide)) (fun _ => ?_) (fun _ => ?_)
  · refine ev_sub (ls' := [(0, .ref (gB G + v0)), (1, .int v1), (2, .int v2), (3, .int v3), (4, .int v4)]) [0, 1, 2, 3, 4] rfl ?_
    exact tX10_termOf_165 G fu h0 v0 v1 v2 v3 v4 h
  · refine ev_step (st_aload_n (pc := 11) (j := 0) dX10_termOf_11 rfl rfl) ?_
    refine ev_getR (pc := 12) k_X10_104 rfl dX10_termOf_12 (fun a1 => ?_)
    refine ev_step (st_iload (pc := 15) (j := 4) dX10_termOf_15 rfl) ?_
    refine ev_ldi (pc := 17) dX10_termOf_17 (fun x2 => ?_)
    refine ev_step (st_istore (pc := 18) (ls' := [(5, .int x2), (0, .ref (gB G + v0)), (1, .int v1), (2, .int v2), (3, .int v3), (4, .int v4)]) dX10_termOf_18 (by decide) rfl) ?_
    refine ev_step (st_iload (pc := 20) (j := 0) dX10_termOf_20 rfl) ?_
    refine ev_step (st_iconst (pc := 22) dX10_termOf_22 ni_2) ?_
    refine ev_br (br_icmp_ge (tgt := 65) (pc := 23) dX10_termOf_23 (by decide)) (fun _ => ?_) (fun _ => ?_)
    · refine ev_step (st_inc (pc := 65) (j := 4) (ls' := [(3, .int (v3 + (-1 : Int32))), (5, .int x2), (0, .ref (gB G + v0)), (1, .int v1), (2, .int v2), (4, .int v4)]) dX10_termOf_65 rfl ni_m1 (by decide) rfl) ?_
      refine ev_step (st_aload_n (pc := 68) (j := 2) dX10_termOf_68 rfl rfl) ?_
      refine ev_getR (pc := 69) k_X10_116 rfl dX10_termOf_69 (fun a3 => ?_)
      refine ev_step (st_iload_n (pc := 72) (j := 0) dX10_termOf_72 rfl rfl) ?_
      refine ev_step (st_iconst (pc := 73) dX10_termOf_73 ni_1) ?_
      refine ev_step (st_isub (pc := 74) dX10_termOf_74) ?_
      refine ev_ldi (pc := 75) dX10_termOf_75 (fun x4 => ?_)
      refine ev_step (st_istore (pc := 76) (ls' := [(6, .int x4), (3, .int (v3 + (-1 : Int32))), (5, .int x2), (0, .ref (gB G + v0)), (1, .int v1), (2, .int v2), (4, .int v4)]) dX10_termOf_76 (by decide) rfl) ?_
      refine ev_step (st_aload_n (pc := 78) (j := 3) dX10_termOf_78 rfl rfl) ?_
      refine ev_getR (pc := 79) k_X10_116 rfl dX10_termOf_79 (fun a5 => ?_)
      refine ev_step (st_iload_n (pc := 82) (j := 1) dX10_termOf_82 rfl rfl) ?_
      refine ev_ldi (pc := 83) dX10_termOf_83 (fun x6 => ?_)
      refine ev_step (st_istore (pc := 84) (ls' := [(7, .int x6), (6, .int x4), (3, .int (v3 + (-1 : Int32))), (5, .int x2), (0, .ref (gB G + v0)), (1, .int v1), (2, .int v2), (4, .int v4)]) dX10_termOf_84 (by decide) rfl) ?_
      refine ev_step (st_iload (pc := 86) (j := 3) dX10_termOf_86 rfl) ?_
      refine ev_step (st_iconst (pc := 88) dX10_termOf_88 ni_5) ?_
      refine ev_br (br_icmp_ne (tgt := 104) (pc := 89) dX10_termOf_89 (by decide)) (fun _ => ?_) (fun _ => ?_)
      · refine ev_step (st_iload (pc := 92) (j := 0) dX10_termOf_92 rfl) ?_
        refine ev_br (br_if_ne (tgt := 104) (pc := 94) dX10_termOf_94 (by decide)) (fun _ => ?_) (fun _ => ?_)
        · refine ev_sub (ls' := [(0, .ref (gB G + v0)), (1, .int v1), (2, .int v2), (3, .int (v3 + (-1 : Int32))), (4, .int v4), (5, .int x2), (6, .int x4), (7, .int x6)]) [4, 5, 6, 2, 7, 3, 1, 0] rfl ?_
          exact tX10_termOf_97 G fu h0 v0 v1 v2 (v3 + (-1 : Int32)) v4 x2 x4 x6 h
        · refine ev_sub (ls' := [(0, .ref (gB G + v0)), (1, .int v1), (2, .int v2), (3, .int (v3 + (-1 : Int32))), (4, .int v4), (5, .int x2), (6, .int x4), (7, .int x6)]) [4, 5, 6, 2, 7, 3, 1, 0] rfl ?_
          exact tX10_termOf_104 G fu h0 v0 v1 v2 (v3 + (-1 : Int32)) v4 x2 x4 x6 k5 hk5 h
      · refine ev_sub (ls' := [(0, .ref (gB G + v0)), (1, .int v1), (2, .int v2), (3, .int (v3 + (-1 : Int32))), (4, .int v4), (5, .int x2), (6, .int x4), (7, .int x6)]) [4, 5, 6, 2, 7, 3, 1, 0] rfl ?_
        exact tX10_termOf_104 G fu h0 v0 v1 v2 (v3 + (-1 : Int32)) v4 x2 x4 x6 k5 hk5 h
    · refine ev_step (st_aload_n (pc := 26) (j := 1) dX10_termOf_26 rfl rfl) ?_
      refine ev_getR (pc := 27) k_X10_116 rfl dX10_termOf_27 (fun a7 => ?_)
      refine ev_step (st_iload_n (pc := 30) (j := 4) dX10_termOf_30 rfl rfl) ?_
      refine ev_step (st_iload (pc := 31) (j := 0) dX10_termOf_31 rfl) ?_
      refine ev_br (br_if_ne (tgt := 46) (pc := 33) dX10_termOf_33 (by decide)) (fun _ => ?_) (fun _ => ?_)
      · refine ev_step (st_aload_n (pc := 36) (j := 1) dX10_termOf_36 rfl rfl) ?_
        refine ev_getR (pc := 37) k_X10_107 rfl dX10_termOf_37 (fun a8 => ?_)
        refine ev_step (st_iload (pc := 40) (j := 5) dX10_termOf_40 rfl) ?_
        refine ev_ldi (pc := 42) dX10_termOf_42 (fun x9 => ?_)
        refine ev_step (st_goto (pc := 43) (tgt := 58) dX10_termOf_43 (by decide)) ?_
        refine ev_sub (ls' := [(0, .ref (gB G + v0)), (1, .int v1), (2, .int v2), (3, .int v3), (4, .int v4), (5, .int x2)]) [1, 2, 3, 4, 5, 0] rfl ?_
        exact tX10_termOf_58 G fu h0 v0 v1 v2 v3 v4 x2 a7 v3 x9 k5 hk5 h
      · refine ev_step (st_aload_n (pc := 46) (j := 1) dX10_termOf_46 rfl rfl) ?_
        refine ev_getR (pc := 47) k_X10_113 rfl dX10_termOf_47 (fun a10 => ?_)
        refine ev_step (st_aload_n (pc := 50) (j := 1) dX10_termOf_50 rfl rfl) ?_
        refine ev_getR (pc := 51) k_X10_107 rfl dX10_termOf_51 (fun a11 => ?_)
        refine ev_step (st_iload (pc := 54) (j := 5) dX10_termOf_54 rfl) ?_
        refine ev_ldi (pc := 56) dX10_termOf_56 (fun x12 => ?_)
        refine ev_ldi (pc := 57) dX10_termOf_57 (fun x13 => ?_)
        refine ev_sub (ls' := [(0, .ref (gB G + v0)), (1, .int v1), (2, .int v2), (3, .int v3), (4, .int v4), (5, .int x2)]) [1, 2, 3, 4, 5, 0] rfl ?_
        exact tX10_termOf_58 G fu h0 v0 v1 v2 v3 v4 x2 a7 v3 x13 k5 hk5 h
set_option maxRecDepth 100000 in
set_option maxHeartbeats 4000000 in
theorem tX10_termOf (G : gx) (fu : Nat) (v0 : Nat) (v1 : Int32) (v2 : Int32) (h : mh) : Ct lI G yX10_termOf cX10_termOf 8 (some .int) 1 [.ref (gB G + v0), .int v1, .int v2] h (fX10_termOf fu v0 v1 v2 h) := by
  refine ct_ls (ls := [(0, .ref (gB G + v0)), (1, .int v1), (2, .int v2)]) rfl (by decide) (Nat.le_of_ble_eq_true rfl) ?_
  unfold fX10_termOf
  refine ev_step (st_iconst (pc := 0) dX10_termOf_0 ni_0) ?_
  refine ev_step (st_istore_n (pc := 1) (ls' := [(3, .int ((0 : Int32))), (0, .ref (gB G + v0)), (1, .int v1), (2, .int v2)]) dX10_termOf_1 rfl (by decide) rfl) ?_
  refine ev_step (st_iload_n (pc := 2) (j := 2) dX10_termOf_2 rfl rfl) ?_
  refine ev_step (st_istore (pc := 3) (ls' := [(4, .int v1), (3, .int ((0 : Int32))), (0, .ref (gB G + v0)), (1, .int v1), (2, .int v2)]) dX10_termOf_3 (by decide) rfl) ?_
  refine ev_sub (ls' := [(0, .ref (gB G + v0)), (1, .int v1), (2, .int v2), (3, .int ((0 : Int32))), (4, .int v1)]) [2, 3, 4, 1, 0] rfl ?_
  exact tX10_termOf_5 G fu h v0 v1 v2 fu ((0 : Int32)) v1 h
set_option maxRecDepth 100000 in
set_option maxHeartbeats 4000000 in
theorem tX10_in (G : gx) (fu : Nat) (v0 : Int32) (v1 : Int32) (v2 : Int32) (h : mh) : Ct lI G yX10_in cX10_in 3 (some .boolean) 1 [.int v0, .int v1, .int v2] h (fX10_in fu v0 v1 v2 h) := by
  refine ct_ls (ls := [(0, .int v0), (1, .int v1), (2, .int v2)]) rfl (by decide) (Nat.le_of_ble_eq_true rfl) ?_
  unfold fX10_in
  refine ev_step (st_iload_n (pc := 0) (j := 0) dX10_in_0 rfl rfl) ?_
  refine ev_step (st_iload_n (pc := 1) (j := 1) dX10_in_1 rfl rfl) ?_
  refine ev_br (br_icmp_lt (tgt := 14) (pc := 2) dX10_in_2 (by decide)) (fun _ => ?_) (fun _ => ?_)
  · refine ev_step (st_iconst (pc := 14) dX10_in_14 ni_0) ?_
    exact ev_zret (pc := 15) dX10_in_15
  · refine ev_step (st_iload_n (pc := 5) (j := 0) dX10_in_5 rfl rfl) ?_
    refine ev_step (st_iload_n (pc := 6) (j := 2) dX10_in_6 rfl rfl) ?_
    refine ev_br (br_icmp_gt (tgt := 14) (pc := 7) dX10_in_7 (by decide)) (fun _ => ?_) (fun _ => ?_)
    · refine ev_step (st_iconst (pc := 14) dX10_in_14 ni_0) ?_
      exact ev_zret (pc := 15) dX10_in_15
    · refine ev_step (st_iconst (pc := 10) dX10_in_10 ni_1) ?_
      refine ev_step (st_goto (pc := 11) (tgt := 15) dX10_in_11 (by decide)) ?_
      exact ev_zret (pc := 15) dX10_in_15
set_option maxRecDepth 100000 in
set_option maxHeartbeats 4000000 in
theorem tX10_within (G : gx) (fu : Nat) (v0 : Int32) (v1 : Int32) (v2 : Int32) (h : mh) : Ct lI G yX10_within cX10_within 3 (some .int) 1 [.int v0, .int v1, .int v2] h (fX10_within fu v0 v1 v2 h) := by
  refine ct_ls (ls := [(0, .int v0), (1, .int v1), (2, .int v2)]) rfl (by decide) (Nat.le_of_ble_eq_true rfl) ?_
  unfold fX10_within
  refine ev_step (st_iload_n (pc := 0) (j := 0) dX10_within_0 rfl rfl) ?_
  refine ev_step (st_iload_n (pc := 1) (j := 1) dX10_within_1 rfl rfl) ?_
  refine ev_br (br_icmp_ge (tgt := 9) (pc := 2) dX10_within_2 (by decide)) (fun _ => ?_) (fun _ => ?_)
  · refine ev_step (st_iload_n (pc := 9) (j := 0) dX10_within_9 rfl rfl) ?_
    refine ev_step (st_iload_n (pc := 10) (j := 2) dX10_within_10 rfl rfl) ?_
    refine ev_br (br_icmp_le (tgt := 18) (pc := 11) dX10_within_11 (by decide)) (fun _ => ?_) (fun _ => ?_)
    · refine ev_step (st_iload_n (pc := 18) (j := 0) dX10_within_18 rfl rfl) ?_
      exact ev_iret (pc := 19) dX10_within_19
    · refine ev_step (st_iload_n (pc := 14) (j := 2) dX10_within_14 rfl rfl) ?_
      refine ev_step (st_goto (pc := 15) (tgt := 19) dX10_within_15 (by decide)) ?_
      exact ev_iret (pc := 19) dX10_within_19
  · refine ev_step (st_iload_n (pc := 5) (j := 1) dX10_within_5 rfl rfl) ?_
    refine ev_step (st_goto (pc := 6) (tgt := 19) dX10_within_6 (by decide)) ?_
    exact ev_iret (pc := 19) dX10_within_19
set_option maxRecDepth 100000 in
set_option maxHeartbeats 4000000 in
theorem tX10_bits_4 (G : gx) (fu : Nat) (h0 : mh) (v0 : Int32) (n : Nat) (v1 : Int32) (v2 : Int32) (h : mh) : Ev lI G yX10_bits cX10_bits 3 (some .int) 1 h0 4 [(0, .int v0), (1, .int v1), (2, .int v2)] [] h (itr (bX10_bits_4 fu v0) n (v1, v2, h)) := by
  refine ev_itr (P := fun (q : Int32 × Int32 × mh) (R9 : Option (Int32 × mh)) => Ev lI G yX10_bits cX10_bits 3 (some .int) 1 h0 4 [(0, .int v0), (1, .int q.1), (2, .int q.2.1)] [] q.2.2 R9) (fun _ => ev_none) (fun k4 hk9 q => ?_) n (v1, v2, h)
  obtain ⟨v1, v2, h⟩ := q
  have hk4 : ∀ (v1 : Int32) (v2 : Int32) (h : mh), Ev lI G yX10_bits cX10_bits 3 (some .int) 1 h0 4 [(0, .int v0), (1, .int v1), (2, .int v2)] [] h (k4 (v1, v2, h)) := fun v1 v2 h => hk9 (v1, v2, h)
  show Ev lI G yX10_bits cX10_bits 3 (some .int) 1 h0 4 [(0, .int v0), (1, .int v1), (2, .int v2)] [] h (bX10_bits_4 fu v0 k4 (v1, v2, h))
  unfold bX10_bits_4
  refine ev_step (st_iload_n (pc := 4) (j := 2) dX10_bits_4 rfl rfl) ?_
  refine ev_step (st_bipush (pc := 5) dX10_bits_5 nb_8) ?_
  refine ev_br (br_icmp_ge (tgt := 24) (pc := 7) dX10_bits_7 (by decide)) (fun _ => ?_) (fun _ => ?_)
  · refine ev_step (st_iload_n (pc := 24) (j := 1) dX10_bits_24 rfl rfl) ?_
    exact ev_iret (pc := 25) dX10_bits_25
  · refine ev_step (st_iload_n (pc := 10) (j := 1) dX10_bits_10 rfl rfl) ?_
    refine ev_step (st_iload_n (pc := 11) (j := 0) dX10_bits_11 rfl rfl) ?_
    refine ev_step (st_iload_n (pc := 12) (j := 2) dX10_bits_12 rfl rfl) ?_
    refine ev_step (st_ishr (pc := 13) dX10_bits_13) ?_
    refine ev_step (st_iconst (pc := 14) dX10_bits_14 ni_1) ?_
    refine ev_step (st_iand (pc := 15) dX10_bits_15) ?_
    refine ev_step (st_iadd (pc := 16) dX10_bits_16) ?_
    refine ev_top (fun x1 => ?_)
    refine ev_step (st_istore_n (pc := 17) (ls' := [(1, .int x1), (0, .int v0), (2, .int v2)]) dX10_bits_17 rfl (by decide) rfl) ?_
    refine ev_step (st_inc (pc := 18) (j := 2) (ls' := [(2, .int (v2 + (1 : Int32))), (1, .int x1), (0, .int v0)]) dX10_bits_18 rfl ni_1 (by decide) rfl) ?_
    refine ev_step (st_goto (pc := 21) (tgt := 4) dX10_bits_21 (by decide)) ?_
    refine ev_sub (ls' := [(0, .int v0), (1, .int x1), (2, .int (v2 + (1 : Int32)))]) [2, 1, 0] rfl ?_
    exact hk4 x1 (v2 + (1 : Int32)) h
set_option maxRecDepth 100000 in
set_option maxHeartbeats 4000000 in
theorem tX10_bits (G : gx) (fu : Nat) (v0 : Int32) (h : mh) : Ct lI G yX10_bits cX10_bits 3 (some .int) 1 [.int v0] h (fX10_bits fu v0 h) := by
  refine ct_ls (ls := [(0, .int v0)]) rfl (by decide) (Nat.le_of_ble_eq_true rfl) ?_
  unfold fX10_bits
  refine ev_step (st_iconst (pc := 0) dX10_bits_0 ni_0) ?_
  refine ev_step (st_istore_n (pc := 1) (ls' := [(1, .int ((0 : Int32))), (0, .int v0)]) dX10_bits_1 rfl (by decide) rfl) ?_
  refine ev_step (st_iconst (pc := 2) dX10_bits_2 ni_0) ?_
  refine ev_step (st_istore_n (pc := 3) (ls' := [(2, .int ((0 : Int32))), (1, .int ((0 : Int32))), (0, .int v0)]) dX10_bits_3 rfl (by decide) rfl) ?_
  refine ev_sub (ls' := [(0, .int v0), (1, .int ((0 : Int32))), (2, .int ((0 : Int32)))]) [2, 1, 0] rfl ?_
  exact tX10_bits_4 G fu h v0 fu ((0 : Int32)) ((0 : Int32)) h
set_option maxRecDepth 100000 in
set_option maxHeartbeats 4000000 in
theorem tX10_isRole (G : gx) (fu : Nat) (v0 : Nat) (v1 : Int32) (h : mh) : Ct lI G yX10_isRole cX10_isRole 2 (some .boolean) 2 [.ref (gB G + v0), .int v1] h (fX10_isRole fu v0 v1 h) := by
  refine ct_ls (ls := [(0, .ref (gB G + v0)), (1, .int v1)]) rfl (by decide) (Nat.le_of_ble_eq_true rfl) ?_
  unfold fX10_isRole
  refine ev_step (st_iload_n (pc := 0) (j := 1) dX10_isRole_0 rfl rfl) ?_
  refine ev_step (st_iconst (pc := 1) dX10_isRole_1 ni_0) ?_
  refine ev_step (st_aload_n (pc := 2) (j := 0) dX10_isRole_2 rfl rfl) ?_
  refine ev_getR (pc := 3) k_X10_46 rfl dX10_isRole_3 (fun a1 => ?_)
  refine ev_step (st_aload_n (pc := 6) (j := 0) dX10_isRole_6 rfl rfl) ?_
  refine ev_getI (pc := 7) k_X10_230 rfl dX10_isRole_7 (fun x2 => ?_)
  refine ev_ldi (pc := 10) dX10_isRole_10 (fun x3 => ?_)
  refine ev_step (st_iconst (pc := 11) dX10_isRole_11 ni_1) ?_
  refine ev_step (st_isub (pc := 12) dX10_isRole_12) ?_
  refine ev_callI (iv_S (As := [.int v1, .int ((0 : Int32)), .int (x3 - ((1 : Int32)))]) (st := []) (pc := 13) m_X10_in l_X10_310 z_X10_in rfl (Nat.le_of_ble_eq_true rfl) rfl dX10_isRole_13) (tX10_in G fu v1 ((0 : Int32)) (x3 - ((1 : Int32))) h) (by decide) (by decide) (fun x5 h4 => ?_)
  exact ev_zret (pc := 16) dX10_isRole_16
set_option maxRecDepth 100000 in
set_option maxHeartbeats 4000000 in
theorem tX10_isListener (G : gx) (fu : Nat) (v0 : Nat) (v1 : Int32) (h : mh) : Ct lI G yX10_isListener cX10_isListener 2 (some .boolean) 2 [.ref (gB G + v0), .int v1] h (fX10_isListener fu v0 v1 h) := by
  refine ct_ls (ls := [(0, .ref (gB G + v0)), (1, .int v1)]) rfl (by decide) (Nat.le_of_ble_eq_true rfl) ?_
  unfold fX10_isListener
  refine ev_step (st_iload_n (pc := 0) (j := 1) dX10_isListener_0 rfl rfl) ?_
  refine ev_step (st_iconst (pc := 1) dX10_isListener_1 ni_0) ?_
  refine ev_step (st_aload_n (pc := 2) (j := 0) dX10_isListener_2 rfl rfl) ?_
  refine ev_getR (pc := 3) k_X10_55 rfl dX10_isListener_3 (fun a1 => ?_)
  refine ev_step (st_aload_n (pc := 6) (j := 0) dX10_isListener_6 rfl rfl) ?_
  refine ev_getI (pc := 7) k_X10_230 rfl dX10_isListener_7 (fun x2 => ?_)
  refine ev_ldi (pc := 10) dX10_isListener_10 (fun x3 => ?_)
  refine ev_step (st_iconst (pc := 11) dX10_isListener_11 ni_1) ?_
  refine ev_step (st_isub (pc := 12) dX10_isListener_12) ?_
  refine ev_callI (iv_S (As := [.int v1, .int ((0 : Int32)), .int (x3 - ((1 : Int32)))]) (st := []) (pc := 13) m_X10_in l_X10_310 z_X10_in rfl (Nat.le_of_ble_eq_true rfl) rfl dX10_isListener_13) (tX10_in G fu v1 ((0 : Int32)) (x3 - ((1 : Int32))) h) (by decide) (by decide) (fun x5 h4 => ?_)
  exact ev_zret (pc := 16) dX10_isListener_16
set_option maxRecDepth 100000 in
set_option maxHeartbeats 4000000 in
theorem tX10_isFact (G : gx) (fu : Nat) (v0 : Int32) (h : mh) : Ct lI G yX10_isFact cX10_isFact 1 (some .boolean) 2 [.int v0] h (fX10_isFact fu v0 h) := by
  refine ct_ls (ls := [(0, .int v0)]) rfl (by decide) (Nat.le_of_ble_eq_true rfl) ?_
  unfold fX10_isFact
  refine ev_step (st_iload_n (pc := 0) (j := 0) dX10_isFact_0 rfl rfl) ?_
  refine ev_step (st_iconst (pc := 1) dX10_isFact_1 ni_0) ?_
  refine ev_step (st_bipush (pc := 2) dX10_isFact_2 nb_7) ?_
  refine ev_callI (iv_S (As := [.int v0, .int ((0 : Int32)), .int ((7 : Int32))]) (st := []) (pc := 4) m_X10_in l_X10_310 z_X10_in rfl (Nat.le_of_ble_eq_true rfl) rfl dX10_isFact_4) (tX10_in G fu v0 ((0 : Int32)) ((7 : Int32)) h) (by decide) (by decide) (fun x2 h1 => ?_)
  exact ev_zret (pc := 7) dX10_isFact_7
set_option maxRecDepth 100000 in
set_option maxHeartbeats 4000000 in
theorem tX10_begins_98 (G : gx) (fu : Nat) (h0 : mh) (v0 : Nat) (v1 : Int32) (h : mh) : Ev lV G yX10_begins cX10_begins 2 (none) 1 h0 98 [(0, .ref (gB G + v0)), (1, .int v1)] [] h (fX10_begins_98 fu v0 v1 h) := by
  unfold fX10_begins_98
  refine ev_step (st_aload_n (pc := 98) (j := 0) dX10_begins_98 rfl rfl) ?_
  refine ev_getR (pc := 99) k_X10_122 rfl dX10_begins_99 (fun a1 => ?_)
  refine ev_step (st_bipush (pc := 102) dX10_begins_102 nb_31) ?_
  refine ev_step (st_bipush (pc := 104) dX10_begins_104 nb_m2) ?_
  refine ev_sti (pc := 106) dX10_begins_106 (fun h2 => ?_)
  refine ev_step (st_aload_n (pc := 107) (j := 0) dX10_begins_107 rfl rfl) ?_
  refine ev_step (st_aload_n (pc := 108) (j := 0) dX10_begins_108 rfl rfl) ?_
  refine ev_getR (pc := 109) k_X10_79 rfl dX10_begins_109 (fun a3 => ?_)
  refine ev_step (st_aload_n (pc := 112) (j := 0) dX10_begins_112 rfl rfl) ?_
  refine ev_getI (pc := 113) k_X10_230 rfl dX10_begins_113 (fun x4 => ?_)
  refine ev_ldi (pc := 116) dX10_begins_116 (fun x5 => ?_)
  refine ev_putI (pc := 117) (p_X10_314 _ rfl) rfl dX10_begins_117 (fun h6 => ?_)
  refine ev_step (st_aload_n (pc := 120) (j := 0) dX10_begins_120 rfl rfl) ?_
  refine ev_step (st_iconst (pc := 121) dX10_begins_121 ni_0) ?_
  refine ev_putZ (pc := 122) (p_X10_317 _ rfl) rfl dX10_begins_122 (fun h7 => ?_)
  exact ev_vret (pc := 125) dX10_begins_125
set_option maxRecDepth 100000 in
set_option maxHeartbeats 4000000 in
theorem tX10_begins_23 (G : gx) (fu : Nat) (h0 : mh) (v0 : Nat) (n : Nat) (v1 : Int32) (h : mh) : Ev lV G yX10_begins cX10_begins 2 (none) 1 h0 23 [(0, .ref (gB G + v0)), (1, .int v1)] [] h (itr (bX10_begins_23 fu v0) n (v1, h)) := by
  refine ev_itr (P := fun (q : Int32 × mh) (R9 : Option (Unit × mh)) => Ev lV G yX10_begins cX10_begins 2 (none) 1 h0 23 [(0, .ref (gB G + v0)), (1, .int q.1)] [] q.2 R9) (fun _ => ev_none) (fun k23 hk9 q => ?_) n (v1, h)
  obtain ⟨v1, h⟩ := q
  have hk23 : ∀ (v1 : Int32) (h : mh), Ev lV G yX10_begins cX10_begins 2 (none) 1 h0 23 [(0, .ref (gB G + v0)), (1, .int v1)] [] h (k23 (v1, h)) := fun v1 h => hk9 (v1, h)
  show Ev lV G yX10_begins cX10_begins 2 (none) 1 h0 23 [(0, .ref (gB G + v0)), (1, .int v1)] [] h (bX10_begins_23 fu v0 k23 (v1, h))
  unfold bX10_begins_23
  refine ev_step (st_iload_n (pc := 23) (j := 1) dX10_begins_23 rfl rfl) ?_
  refine ev_step (st_aload_n (pc := 24) (j := 0) dX10_begins_24 rfl rfl) ?_
  refine ev_getR (pc := 25) k_X10_55 rfl dX10_begins_25 (fun a1 => ?_)
  refine ev_step (st_aload_n (pc := 28) (j := 0) dX10_begins_28 rfl rfl) ?_
  refine ev_getI (pc := 29) k_X10_230 rfl dX10_begins_29 (fun x2 => ?_)
  refine ev_ldi (pc := 32) dX10_begins_32 (fun x3 => ?_)
  refine ev_br (br_icmp_ge (tgt := 98) (pc := 33) dX10_begins_33 (by decide)) (fun _ => ?_) (fun _ => ?_)
  · refine ev_sub (ls' := [(0, .ref (gB G + v0)), (1, .int v1)]) [0, 1] rfl ?_
    exact tX10_begins_98 G fu h0 v0 v1 h
  · refine ev_step (st_aload_n (pc := 36) (j := 0) dX10_begins_36 rfl rfl) ?_
    refine ev_getR (pc := 37) k_X10_122 rfl dX10_begins_37 (fun a4 => ?_)
    refine ev_step (st_bipush (pc := 40) dX10_begins_40 nb_12) ?_
    refine ev_step (st_iload_n (pc := 42) (j := 1) dX10_begins_42 rfl rfl) ?_
    refine ev_step (st_iadd (pc := 43) dX10_begins_43) ?_
    refine ev_step (st_aload_n (pc := 44) (j := 0) dX10_begins_44 rfl rfl) ?_
    refine ev_getR (pc := 45) k_X10_58 rfl dX10_begins_45 (fun a5 => ?_)
    refine ev_step (st_bipush (pc := 48) dX10_begins_48 nb_6) ?_
    refine ev_step (st_aload_n (pc := 50) (j := 0) dX10_begins_50 rfl rfl) ?_
    refine ev_getI (pc := 51) k_X10_230 rfl dX10_begins_51 (fun x6 => ?_)
    refine ev_step (st_imul (pc := 54) dX10_begins_54) ?_
    refine ev_step (st_iload_n (pc := 55) (j := 1) dX10_begins_55 rfl rfl) ?_
    refine ev_step (st_iadd (pc := 56) dX10_begins_56) ?_
    refine ev_ldi (pc := 57) dX10_begins_57 (fun x7 => ?_)
    refine ev_sti (pc := 58) dX10_begins_58 (fun h8 => ?_)
    refine ev_step (st_aload_n (pc := 59) (j := 0) dX10_begins_59 rfl rfl) ?_
    refine ev_getR (pc := 60) k_X10_122 rfl dX10_begins_60 (fun a9 => ?_)
    refine ev_step (st_bipush (pc := 63) dX10_begins_63 nb_18) ?_
    refine ev_step (st_iload_n (pc := 65) (j := 1) dX10_begins_65 rfl rfl) ?_
    refine ev_step (st_iadd (pc := 66) dX10_begins_66) ?_
    refine ev_step (st_aload_n (pc := 67) (j := 0) dX10_begins_67 rfl rfl) ?_
    refine ev_getR (pc := 68) k_X10_64 rfl dX10_begins_68 (fun a10 => ?_)
    refine ev_step (st_bipush (pc := 71) dX10_begins_71 nb_6) ?_
    refine ev_step (st_aload_n (pc := 73) (j := 0) dX10_begins_73 rfl rfl) ?_
    refine ev_getI (pc := 74) k_X10_230 rfl dX10_begins_74 (fun x11 => ?_)
    refine ev_step (st_imul (pc := 77) dX10_begins_77) ?_
    refine ev_step (st_iload_n (pc := 78) (j := 1) dX10_begins_78 rfl rfl) ?_
    refine ev_step (st_iadd (pc := 79) dX10_begins_79) ?_
    refine ev_ldi (pc := 80) dX10_begins_80 (fun x12 => ?_)
    refine ev_sti (pc := 81) dX10_begins_81 (fun h13 => ?_)
    refine ev_step (st_aload_n (pc := 82) (j := 0) dX10_begins_82 rfl rfl) ?_
    refine ev_getR (pc := 83) k_X10_122 rfl dX10_begins_83 (fun a14 => ?_)
    refine ev_step (st_bipush (pc := 86) dX10_begins_86 nb_24) ?_
    refine ev_step (st_iload_n (pc := 88) (j := 1) dX10_begins_88 rfl rfl) ?_
    refine ev_step (st_iadd (pc := 89) dX10_begins_89) ?_
    refine ev_step (st_iconst (pc := 90) dX10_begins_90 ni_1) ?_
    refine ev_sti (pc := 91) dX10_begins_91 (fun h15 => ?_)
    refine ev_step (st_inc (pc := 92) (j := 1) (ls' := [(1, .int (v1 + (1 : Int32))), (0, .ref (gB G + v0))]) dX10_begins_92 rfl ni_1 (by decide) rfl) ?_
    refine ev_step (st_goto (pc := 95) (tgt := 23) dX10_begins_95 (by decide)) ?_
    refine ev_sub (ls' := [(0, .ref (gB G + v0)), (1, .int (v1 + (1 : Int32)))]) [1, 0] rfl ?_
    exact hk23 (v1 + (1 : Int32)) h15
set_option maxRecDepth 100000 in
set_option maxHeartbeats 4000000 in
theorem tX10_begins_21 (G : gx) (fu : Nat) (h0 : mh) (v0 : Nat) (v1 : Int32) (h : mh) : Ev lV G yX10_begins cX10_begins 2 (none) 1 h0 21 [(0, .ref (gB G + v0)), (1, .int v1)] [] h (fX10_begins_21 fu v0 v1 h) := by
  unfold fX10_begins_21
  refine ev_step (st_iconst (pc := 21) dX10_begins_21 ni_0) ?_
  refine ev_step (st_istore_n (pc := 22) (ls' := [(1, .int ((0 : Int32))), (0, .ref (gB G + v0))]) dX10_begins_22 rfl (by decide) rfl) ?_
  refine ev_sub (ls' := [(0, .ref (gB G + v0)), (1, .int ((0 : Int32)))]) [1, 0] rfl ?_
  exact tX10_begins_23 G fu h0 v0 fu ((0 : Int32)) h
set_option maxRecDepth 100000 in
set_option maxHeartbeats 4000000 in
theorem tX10_begins_2 (G : gx) (fu : Nat) (h0 : mh) (v0 : Nat) (n : Nat) (v1 : Int32) (h : mh) : Ev lV G yX10_begins cX10_begins 2 (none) 1 h0 2 [(0, .ref (gB G + v0)), (1, .int v1)] [] h (itr (bX10_begins_2 fu v0) n (v1, h)) := by
  refine ev_itr (P := fun (q : Int32 × mh) (R9 : Option (Unit × mh)) => Ev lV G yX10_begins cX10_begins 2 (none) 1 h0 2 [(0, .ref (gB G + v0)), (1, .int q.1)] [] q.2 R9) (fun _ => ev_none) (fun k2 hk9 q => ?_) n (v1, h)
  obtain ⟨v1, h⟩ := q
  have hk2 : ∀ (v1 : Int32) (h : mh), Ev lV G yX10_begins cX10_begins 2 (none) 1 h0 2 [(0, .ref (gB G + v0)), (1, .int v1)] [] h (k2 (v1, h)) := fun v1 h => hk9 (v1, h)
  show Ev lV G yX10_begins cX10_begins 2 (none) 1 h0 2 [(0, .ref (gB G + v0)), (1, .int v1)] [] h (bX10_begins_2 fu v0 k2 (v1, h))
  unfold bX10_begins_2
  refine ev_step (st_iload_n (pc := 2) (j := 1) dX10_begins_2 rfl rfl) ?_
  refine ev_step (st_bipush (pc := 3) dX10_begins_3 nb_33) ?_
  refine ev_br (br_icmp_ge (tgt := 21) (pc := 5) dX10_begins_5 (by decide)) (fun _ => ?_) (fun _ => ?_)
  · refine ev_sub (ls' := [(0, .ref (gB G + v0)), (1, .int v1)]) [0, 1] rfl ?_
    exact tX10_begins_21 G fu h0 v0 v1 h
  · refine ev_step (st_aload_n (pc := 8) (j := 0) dX10_begins_8 rfl rfl) ?_
    refine ev_getR (pc := 9) k_X10_122 rfl dX10_begins_9 (fun a1 => ?_)
    refine ev_step (st_iload_n (pc := 12) (j := 1) dX10_begins_12 rfl rfl) ?_
    refine ev_step (st_iconst (pc := 13) dX10_begins_13 ni_0) ?_
    refine ev_sti (pc := 14) dX10_begins_14 (fun h2 => ?_)
    refine ev_step (st_inc (pc := 15) (j := 1) (ls' := [(1, .int (v1 + (1 : Int32))), (0, .ref (gB G + v0))]) dX10_begins_15 rfl ni_1 (by decide) rfl) ?_
    refine ev_step (st_goto (pc := 18) (tgt := 2) dX10_begins_18 (by decide)) ?_
    refine ev_sub (ls' := [(0, .ref (gB G + v0)), (1, .int (v1 + (1 : Int32)))]) [1, 0] rfl ?_
    exact hk2 (v1 + (1 : Int32)) h2
set_option maxRecDepth 100000 in
set_option maxHeartbeats 4000000 in
theorem tX10_begins (G : gx) (fu : Nat) (v0 : Nat) (h : mh) : Ct lV G yX10_begins cX10_begins 2 (none) 1 [.ref (gB G + v0)] h (fX10_begins fu v0 h) := by
  refine ct_ls (ls := [(0, .ref (gB G + v0))]) rfl (by decide) (Nat.le_of_ble_eq_true rfl) ?_
  unfold fX10_begins
  refine ev_step (st_iconst (pc := 0) dX10_begins_0 ni_0) ?_
  refine ev_step (st_istore_n (pc := 1) (ls' := [(1, .int ((0 : Int32))), (0, .ref (gB G + v0))]) dX10_begins_1 rfl (by decide) rfl) ?_
  refine ev_sub (ls' := [(0, .ref (gB G + v0)), (1, .int ((0 : Int32)))]) [1, 0] rfl ?_
  exact tX10_begins_2 G fu h v0 fu ((0 : Int32)) h
set_option maxRecDepth 100000 in
set_option maxHeartbeats 4000000 in
theorem tX10_keepsRow_2 (G : gx) (fu : Nat) (h0 : mh) (v0 : Nat) (n : Nat) (v1 : Int32) (h : mh) : Ev lV G yX10_keepsRow cX10_keepsRow 2 (none) 1 h0 2 [(0, .ref (gB G + v0)), (1, .int v1)] [] h (itr (bX10_keepsRow_2 fu v0) n (v1, h)) := by
  refine ev_itr (P := fun (q : Int32 × mh) (R9 : Option (Unit × mh)) => Ev lV G yX10_keepsRow cX10_keepsRow 2 (none) 1 h0 2 [(0, .ref (gB G + v0)), (1, .int q.1)] [] q.2 R9) (fun _ => ev_none) (fun k2 hk9 q => ?_) n (v1, h)
  obtain ⟨v1, h⟩ := q
  have hk2 : ∀ (v1 : Int32) (h : mh), Ev lV G yX10_keepsRow cX10_keepsRow 2 (none) 1 h0 2 [(0, .ref (gB G + v0)), (1, .int v1)] [] h (k2 (v1, h)) := fun v1 h => hk9 (v1, h)
  show Ev lV G yX10_keepsRow cX10_keepsRow 2 (none) 1 h0 2 [(0, .ref (gB G + v0)), (1, .int v1)] [] h (bX10_keepsRow_2 fu v0 k2 (v1, h))
  unfold bX10_keepsRow_2
  refine ev_step (st_iload_n (pc := 2) (j := 1) dX10_keepsRow_2 rfl rfl) ?_
  refine ev_step (st_bipush (pc := 3) dX10_keepsRow_3 nb_33) ?_
  refine ev_br (br_icmp_ge (tgt := 26) (pc := 5) dX10_keepsRow_5 (by decide)) (fun _ => ?_) (fun _ => ?_)
  · exact ev_vret (pc := 26) dX10_keepsRow_26
  · refine ev_step (st_aload_n (pc := 8) (j := 0) dX10_keepsRow_8 rfl rfl) ?_
    refine ev_getR (pc := 9) k_X10_119 rfl dX10_keepsRow_9 (fun a1 => ?_)
    refine ev_step (st_iload_n (pc := 12) (j := 1) dX10_keepsRow_12 rfl rfl) ?_
    refine ev_step (st_aload_n (pc := 13) (j := 0) dX10_keepsRow_13 rfl rfl) ?_
    refine ev_getR (pc := 14) k_X10_122 rfl dX10_keepsRow_14 (fun a2 => ?_)
    refine ev_step (st_iload_n (pc := 17) (j := 1) dX10_keepsRow_17 rfl rfl) ?_
    refine ev_ldi (pc := 18) dX10_keepsRow_18 (fun x3 => ?_)
    refine ev_sti (pc := 19) dX10_keepsRow_19 (fun h4 => ?_)
    refine ev_step (st_inc (pc := 20) (j := 1) (ls' := [(1, .int (v1 + (1 : Int32))), (0, .ref (gB G + v0))]) dX10_keepsRow_20 rfl ni_1 (by decide) rfl) ?_
    refine ev_step (st_goto (pc := 23) (tgt := 2) dX10_keepsRow_23 (by decide)) ?_
    refine ev_sub (ls' := [(0, .ref (gB G + v0)), (1, .int (v1 + (1 : Int32)))]) [1, 0] rfl ?_
    exact hk2 (v1 + (1 : Int32)) h4
set_option maxRecDepth 100000 in
set_option maxHeartbeats 4000000 in
theorem tX10_keepsRow (G : gx) (fu : Nat) (v0 : Nat) (h : mh) : Ct lV G yX10_keepsRow cX10_keepsRow 2 (none) 1 [.ref (gB G + v0)] h (fX10_keepsRow fu v0 h) := by
  refine ct_ls (ls := [(0, .ref (gB G + v0))]) rfl (by decide) (Nat.le_of_ble_eq_true rfl) ?_
  unfold fX10_keepsRow
  refine ev_step (st_iconst (pc := 0) dX10_keepsRow_0 ni_0) ?_
  refine ev_step (st_istore_n (pc := 1) (ls' := [(1, .int ((0 : Int32))), (0, .ref (gB G + v0))]) dX10_keepsRow_1 rfl (by decide) rfl) ?_
  refine ev_sub (ls' := [(0, .ref (gB G + v0)), (1, .int ((0 : Int32)))]) [1, 0] rfl ?_
  exact tX10_keepsRow_2 G fu h v0 fu ((0 : Int32)) h
set_option maxRecDepth 100000 in
set_option maxHeartbeats 4000000 in
theorem tX10_copies_26 (G : gx) (fu : Nat) (h0 : mh) (v0 : Nat) (v1 : Int32) (h : mh) : Ev lV G yX10_copies cX10_copies 2 (none) 1 h0 26 [(0, .ref (gB G + v0)), (1, .int v1)] [] h (fX10_copies_26 fu v0 v1 h) := by
  unfold fX10_copies_26
  refine ev_step (st_aload_n (pc := 26) (j := 0) dX10_copies_26 rfl rfl) ?_
  refine ev_step (st_aload_n (pc := 27) (j := 0) dX10_copies_27 rfl rfl) ?_
  refine ev_getR (pc := 28) k_X10_79 rfl dX10_copies_28 (fun a1 => ?_)
  refine ev_step (st_aload_n (pc := 31) (j := 0) dX10_copies_31 rfl rfl) ?_
  refine ev_getI (pc := 32) k_X10_230 rfl dX10_copies_32 (fun x2 => ?_)
  refine ev_ldi (pc := 35) dX10_copies_35 (fun x3 => ?_)
  refine ev_putI (pc := 36) (p_X10_314 _ rfl) rfl dX10_copies_36 (fun h4 => ?_)
  refine ev_step (st_aload_n (pc := 39) (j := 0) dX10_copies_39 rfl rfl) ?_
  refine ev_step (st_iconst (pc := 40) dX10_copies_40 ni_0) ?_
  refine ev_putZ (pc := 41) (p_X10_317 _ rfl) rfl dX10_copies_41 (fun h5 => ?_)
  exact ev_vret (pc := 44) dX10_copies_44
set_option maxRecDepth 100000 in
set_option maxHeartbeats 4000000 in
theorem tX10_copies_2 (G : gx) (fu : Nat) (h0 : mh) (v0 : Nat) (n : Nat) (v1 : Int32) (h : mh) : Ev lV G yX10_copies cX10_copies 2 (none) 1 h0 2 [(0, .ref (gB G + v0)), (1, .int v1)] [] h (itr (bX10_copies_2 fu v0) n (v1, h)) := by
  refine ev_itr (P := fun (q : Int32 × mh) (R9 : Option (Unit × mh)) => Ev lV G yX10_copies cX10_copies 2 (none) 1 h0 2 [(0, .ref (gB G + v0)), (1, .int q.1)] [] q.2 R9) (fun _ => ev_none) (fun k2 hk9 q => ?_) n (v1, h)
  obtain ⟨v1, h⟩ := q
  have hk2 : ∀ (v1 : Int32) (h : mh), Ev lV G yX10_copies cX10_copies 2 (none) 1 h0 2 [(0, .ref (gB G + v0)), (1, .int v1)] [] h (k2 (v1, h)) := fun v1 h => hk9 (v1, h)
  show Ev lV G yX10_copies cX10_copies 2 (none) 1 h0 2 [(0, .ref (gB G + v0)), (1, .int v1)] [] h (bX10_copies_2 fu v0 k2 (v1, h))
  unfold bX10_copies_2
  refine ev_step (st_iload_n (pc := 2) (j := 1) dX10_copies_2 rfl rfl) ?_
  refine ev_step (st_bipush (pc := 3) dX10_copies_3 nb_33) ?_
  refine ev_br (br_icmp_ge (tgt := 26) (pc := 5) dX10_copies_5 (by decide)) (fun _ => ?_) (fun _ => ?_)
  · refine ev_sub (ls' := [(0, .ref (gB G + v0)), (1, .int v1)]) [0, 1] rfl ?_
    exact tX10_copies_26 G fu h0 v0 v1 h
  · refine ev_step (st_aload_n (pc := 8) (j := 0) dX10_copies_8 rfl rfl) ?_
    refine ev_getR (pc := 9) k_X10_122 rfl dX10_copies_9 (fun a1 => ?_)
    refine ev_step (st_iload_n (pc := 12) (j := 1) dX10_copies_12 rfl rfl) ?_
    refine ev_step (st_aload_n (pc := 13) (j := 0) dX10_copies_13 rfl rfl) ?_
    refine ev_getR (pc := 14) k_X10_119 rfl dX10_copies_14 (fun a2 => ?_)
    refine ev_step (st_iload_n (pc := 17) (j := 1) dX10_copies_17 rfl rfl) ?_
    refine ev_ldi (pc := 18) dX10_copies_18 (fun x3 => ?_)
    refine ev_sti (pc := 19) dX10_copies_19 (fun h4 => ?_)
    refine ev_step (st_inc (pc := 20) (j := 1) (ls' := [(1, .int (v1 + (1 : Int32))), (0, .ref (gB G + v0))]) dX10_copies_20 rfl ni_1 (by decide) rfl) ?_
    refine ev_step (st_goto (pc := 23) (tgt := 2) dX10_copies_23 (by decide)) ?_
    refine ev_sub (ls' := [(0, .ref (gB G + v0)), (1, .int (v1 + (1 : Int32)))]) [1, 0] rfl ?_
    exact hk2 (v1 + (1 : Int32)) h4
set_option maxRecDepth 100000 in
set_option maxHeartbeats 4000000 in
theorem tX10_copies (G : gx) (fu : Nat) (v0 : Nat) (h : mh) : Ct lV G yX10_copies cX10_copies 2 (none) 1 [.ref (gB G + v0)] h (fX10_copies fu v0 h) := by
  refine ct_ls (ls := [(0, .ref (gB G + v0))]) rfl (by decide) (Nat.le_of_ble_eq_true rfl) ?_
  unfold fX10_copies
  refine ev_step (st_iconst (pc := 0) dX10_copies_0 ni_0) ?_
  refine ev_step (st_istore_n (pc := 1) (ls' := [(1, .int ((0 : Int32))), (0, .ref (gB G + v0))]) dX10_copies_1 rfl (by decide) rfl) ?_
  refine ev_sub (ls' := [(0, .ref (gB G + v0)), (1, .int ((0 : Int32)))]) [1, 0] rfl ?_
  exact tX10_copies_2 G fu h v0 fu ((0 : Int32)) h
set_option maxRecDepth 100000 in
set_option maxHeartbeats 4000000 in
theorem tX10_copiesStill (G : gx) (fu : Nat) (v0 : Nat) (h : mh) : Ct lV G yX10_copiesStill cX10_copiesStill 1 (none) 2 [.ref (gB G + v0)] h (fX10_copiesStill fu v0 h) := by
  refine ct_ls (ls := [(0, .ref (gB G + v0))]) rfl (by decide) (Nat.le_of_ble_eq_true rfl) ?_
  unfold fX10_copiesStill
  refine ev_step (st_aload_n (pc := 0) (j := 0) dX10_copiesStill_0 rfl rfl) ?_
  refine ev_ck (fun ha hS => ?_)
  refine ev_callV (iv_V (As := []) (st := []) (pc := 1) rfl m_X10_copies l_X10_320 i_X10_copies e_X10_copies ha hS rfl (Nat.le_of_ble_eq_true rfl) rfl dX10_copiesStill_1) (tX10_copies G fu v0 h) (by decide) (by decide) (fun h1 => ?_)
  refine ev_step (st_aload_n (pc := 4) (j := 0) dX10_copiesStill_4 rfl rfl) ?_
  refine ev_step (st_iconst (pc := 5) dX10_copiesStill_5 ni_1) ?_
  refine ev_putZ (pc := 6) (p_X10_317 _ rfl) rfl dX10_copiesStill_6 (fun h2 => ?_)
  exact ev_vret (pc := 9) dX10_copiesStill_9
set_option maxRecDepth 100000 in
set_option maxHeartbeats 4000000 in
theorem tX10_mixed (G : gx) (fu : Nat) (v0 : Int32) (v1 : Int32) (h : mh) : Ct lI G yX10_mixed cX10_mixed 3 (some .int) 1 [.int v0, .int v1] h (fX10_mixed fu v0 v1 h) := by
  refine ct_ls (ls := [(0, .int v0), (1, .int v1)]) rfl (by decide) (Nat.le_of_ble_eq_true rfl) ?_
  unfold fX10_mixed
  refine ev_step (st_iload_n (pc := 0) (j := 0) dX10_mixed_0 rfl rfl) ?_
  refine ev_step (st_iload_n (pc := 1) (j := 1) dX10_mixed_1 rfl rfl) ?_
  refine ev_step (st_ixor (pc := 2) dX10_mixed_2) ?_
  refine ev_step (st_ldcw (pc := 3) dX10_mixed_3 cc_X10_323) ?_
  refine ev_step (st_imul (pc := 6) dX10_mixed_6) ?_
  refine ev_step (st_sipush (pc := 7) dX10_mixed_7 ns_12345) ?_
  refine ev_step (st_iadd (pc := 10) dX10_mixed_10) ?_
  refine ev_top (fun x1 => ?_)
  refine ev_step (st_istore_n (pc := 11) (ls' := [(2, .int x1), (0, .int v0), (1, .int v1)]) dX10_mixed_11 rfl (by decide) rfl) ?_
  refine ev_step (st_iload_n (pc := 12) (j := 0) dX10_mixed_12 rfl rfl) ?_
  refine ev_step (st_iload_n (pc := 13) (j := 0) dX10_mixed_13 rfl rfl) ?_
  refine ev_step (st_bipush (pc := 14) dX10_mixed_14 nb_15) ?_
  refine ev_step (st_iushr (pc := 16) dX10_mixed_16) ?_
  refine ev_step (st_ixor (pc := 17) dX10_mixed_17) ?_
  exact ev_iret (pc := 18) dX10_mixed_18
set_option maxRecDepth 100000 in
set_option maxHeartbeats 4000000 in
theorem tX10_isCrackle (G : gx) (fu : Nat) (v0 : Nat) (h : mh) : Ct lI G yX10_isCrackle cX10_isCrackle 1 (some .boolean) 2 [.ref (gB G + v0)] h (fX10_isCrackle fu v0 h) := by
  refine ct_ls (ls := [(0, .ref (gB G + v0))]) rfl (by decide) (Nat.le_of_ble_eq_true rfl) ?_
  unfold fX10_isCrackle
  refine ev_step (st_aload_n (pc := 0) (j := 0) dX10_isCrackle_0 rfl rfl) ?_
  refine ev_getI (pc := 1) k_X10_314 rfl dX10_isCrackle_1 (fun x1 => ?_)
  refine ev_step (st_sipush (pc := 4) dX10_isCrackle_4 ns_141) ?_
  refine ev_callI (iv_S (As := [.int x1, .int ((141 : Int32))]) (st := []) (pc := 7) m_X10_mixed l_X10_324 z_X10_mixed rfl (Nat.le_of_ble_eq_true rfl) rfl dX10_isCrackle_7) (tX10_mixed G fu x1 ((141 : Int32)) h) (by decide) (by decide) (fun x3 h2 => ?_)
  refine ev_step (st_iconst (pc := 10) dX10_isCrackle_10 ni_4) ?_
  refine ev_step (st_aload_n (pc := 11) (j := 0) dX10_isCrackle_11 rfl rfl) ?_
  refine ev_getR (pc := 12) k_X10_122 rfl dX10_isCrackle_12 (fun a4 => ?_)
  refine ev_step (st_bipush (pc := 15) dX10_isCrackle_15 nb_30) ?_
  refine ev_ldi (pc := 17) dX10_isCrackle_17 (fun x5 => ?_)
  refine ev_step (st_imul (pc := 18) dX10_isCrackle_18) ?_
  refine ev_callI (iv_S (As := [.int x3, .int (((4 : Int32)) * x5)]) (st := []) (pc := 19) m_X10_mixed l_X10_324 z_X10_mixed rfl (Nat.le_of_ble_eq_true rfl) rfl dX10_isCrackle_19) (tX10_mixed G fu x3 (((4 : Int32)) * x5) h2) (by decide) (by decide) (fun x7 h6 => ?_)
  refine ev_step (st_iconst (pc := 22) dX10_isCrackle_22 ni_1) ?_
  refine ev_step (st_iushr (pc := 23) dX10_isCrackle_23) ?_
  refine ev_step (st_bipush (pc := 24) dX10_isCrackle_24 nb_100) ?_
  refine ev_rem (pc := 26) dX10_isCrackle_26 (fun x8 => ?_)
  refine ev_step (st_aload_n (pc := 27) (j := 0) dX10_isCrackle_27 rfl rfl) ?_
  refine ev_getR (pc := 28) k_X10_73 rfl dX10_isCrackle_28 (fun a9 => ?_)
  refine ev_step (st_aload_n (pc := 31) (j := 0) dX10_isCrackle_31 rfl rfl) ?_
  refine ev_getI (pc := 32) k_X10_230 rfl dX10_isCrackle_32 (fun x10 => ?_)
  refine ev_ldi (pc := 35) dX10_isCrackle_35 (fun x11 => ?_)
  refine ev_br (br_icmp_ge (tgt := 43) (pc := 36) dX10_isCrackle_36 (by decide)) (fun _ => ?_) (fun _ => ?_)
  · refine ev_step (st_iconst (pc := 43) dX10_isCrackle_43 ni_0) ?_
    exact ev_zret (pc := 44) dX10_isCrackle_44
  · refine ev_step (st_iconst (pc := 39) dX10_isCrackle_39 ni_1) ?_
    refine ev_step (st_goto (pc := 40) (tgt := 44) dX10_isCrackle_40 (by decide)) ?_
    exact ev_zret (pc := 44) dX10_isCrackle_44
set_option maxRecDepth 100000 in
set_option maxHeartbeats 4000000 in
theorem tX10_looks_21 (G : gx) (fu : Nat) (h0 : mh) (v0 : Nat) (v1 : Int32) (v2 : Int32) (h : mh) : Ev lV G yX10_looks cX10_looks 3 (none) 1 h0 21 [(0, .ref (gB G + v0)), (1, .int v1), (2, .int v2)] [] h (fX10_looks_21 fu v0 v1 v2 h) := by
  unfold fX10_looks_21
  refine ev_step (st_aload_n (pc := 21) (j := 0) dX10_looks_21 rfl rfl) ?_
  refine ev_getR (pc := 22) k_X10_113 rfl dX10_looks_22 (fun a1 => ?_)
  refine ev_step (st_iconst (pc := 25) dX10_looks_25 ni_0) ?_
  refine ev_step (st_aload_n (pc := 26) (j := 0) dX10_looks_26 rfl rfl) ?_
  refine ev_getR (pc := 27) k_X10_52 rfl dX10_looks_27 (fun a2 => ?_)
  refine ev_step (st_bipush (pc := 30) dX10_looks_30 nb_6) ?_
  refine ev_step (st_aload_n (pc := 32) (j := 0) dX10_looks_32 rfl rfl) ?_
  refine ev_getI (pc := 33) k_X10_230 rfl dX10_looks_33 (fun x3 => ?_)
  refine ev_step (st_imul (pc := 36) dX10_looks_36) ?_
  refine ev_step (st_iload_n (pc := 37) (j := 1) dX10_looks_37 rfl rfl) ?_
  refine ev_step (st_iadd (pc := 38) dX10_looks_38) ?_
  refine ev_ldi (pc := 39) dX10_looks_39 (fun x4 => ?_)
  refine ev_sti (pc := 40) dX10_looks_40 (fun h5 => ?_)
  refine ev_step (st_aload_n (pc := 41) (j := 0) dX10_looks_41 rfl rfl) ?_
  refine ev_getR (pc := 42) k_X10_113 rfl dX10_looks_42 (fun a6 => ?_)
  refine ev_step (st_iconst (pc := 45) dX10_looks_45 ni_1) ?_
  refine ev_step (st_aload_n (pc := 46) (j := 0) dX10_looks_46 rfl rfl) ?_
  refine ev_getR (pc := 47) k_X10_122 rfl dX10_looks_47 (fun a7 => ?_)
  refine ev_step (st_iload_n (pc := 50) (j := 1) dX10_looks_50 rfl rfl) ?_
  refine ev_ldi (pc := 51) dX10_looks_51 (fun x8 => ?_)
  refine ev_sti (pc := 52) dX10_looks_52 (fun h9 => ?_)
  refine ev_step (st_aload_n (pc := 53) (j := 0) dX10_looks_53 rfl rfl) ?_
  refine ev_getR (pc := 54) k_X10_113 rfl dX10_looks_54 (fun a10 => ?_)
  refine ev_step (st_iconst (pc := 57) dX10_looks_57 ni_3) ?_
  refine ev_step (st_aload_n (pc := 58) (j := 0) dX10_looks_58 rfl rfl) ?_
  refine ev_getR (pc := 59) k_X10_122 rfl dX10_looks_59 (fun a11 => ?_)
  refine ev_step (st_bipush (pc := 62) dX10_looks_62 nb_30) ?_
  refine ev_ldi (pc := 64) dX10_looks_64 (fun x12 => ?_)
  refine ev_sti (pc := 65) dX10_looks_65 (fun h13 => ?_)
  exact ev_vret (pc := 66) dX10_looks_66
set_option maxRecDepth 100000 in
set_option maxHeartbeats 4000000 in
theorem tX10_looks_2 (G : gx) (fu : Nat) (h0 : mh) (v0 : Nat) (v1 : Int32) (n : Nat) (v2 : Int32) (h : mh) : Ev lV G yX10_looks cX10_looks 3 (none) 1 h0 2 [(0, .ref (gB G + v0)), (1, .int v1), (2, .int v2)] [] h (itr (bX10_looks_2 fu v0 v1) n (v2, h)) := by
  refine ev_itr (P := fun (q : Int32 × mh) (R9 : Option (Unit × mh)) => Ev lV G yX10_looks cX10_looks 3 (none) 1 h0 2 [(0, .ref (gB G + v0)), (1, .int v1), (2, .int q.1)] [] q.2 R9) (fun _ => ev_none) (fun k2 hk9 q => ?_) n (v2, h)
  obtain ⟨v2, h⟩ := q
  have hk2 : ∀ (v2 : Int32) (h : mh), Ev lV G yX10_looks cX10_looks 3 (none) 1 h0 2 [(0, .ref (gB G + v0)), (1, .int v1), (2, .int v2)] [] h (k2 (v2, h)) := fun v2 h => hk9 (v2, h)
  show Ev lV G yX10_looks cX10_looks 3 (none) 1 h0 2 [(0, .ref (gB G + v0)), (1, .int v1), (2, .int v2)] [] h (bX10_looks_2 fu v0 v1 k2 (v2, h))
  unfold bX10_looks_2
  refine ev_step (st_iload_n (pc := 2) (j := 2) dX10_looks_2 rfl rfl) ?_
  refine ev_step (st_bipush (pc := 3) dX10_looks_3 nb_9) ?_
  refine ev_br (br_icmp_ge (tgt := 21) (pc := 5) dX10_looks_5 (by decide)) (fun _ => ?_) (fun _ => ?_)
  · refine ev_sub (ls' := [(0, .ref (gB G + v0)), (1, .int v1), (2, .int v2)]) [0, 1, 2] rfl ?_
    exact tX10_looks_21 G fu h0 v0 v1 v2 h
  · refine ev_step (st_aload_n (pc := 8) (j := 0) dX10_looks_8 rfl rfl) ?_
    refine ev_getR (pc := 9) k_X10_113 rfl dX10_looks_9 (fun a1 => ?_)
    refine ev_step (st_iload_n (pc := 12) (j := 2) dX10_looks_12 rfl rfl) ?_
    refine ev_step (st_iconst (pc := 13) dX10_looks_13 ni_0) ?_
    refine ev_sti (pc := 14) dX10_looks_14 (fun h2 => ?_)
    refine ev_step (st_inc (pc := 15) (j := 2) (ls' := [(2, .int (v2 + (1 : Int32))), (0, .ref (gB G + v0)), (1, .int v1)]) dX10_looks_15 rfl ni_1 (by decide) rfl) ?_
    refine ev_step (st_goto (pc := 18) (tgt := 2) dX10_looks_18 (by decide)) ?_
    refine ev_sub (ls' := [(0, .ref (gB G + v0)), (1, .int v1), (2, .int (v2 + (1 : Int32)))]) [1, 2, 0] rfl ?_
    exact hk2 (v2 + (1 : Int32)) h2
set_option maxRecDepth 100000 in
set_option maxHeartbeats 4000000 in
theorem tX10_looks (G : gx) (fu : Nat) (v0 : Nat) (v1 : Int32) (h : mh) : Ct lV G yX10_looks cX10_looks 3 (none) 1 [.ref (gB G + v0), .int v1] h (fX10_looks fu v0 v1 h) := by
  refine ct_ls (ls := [(0, .ref (gB G + v0)), (1, .int v1)]) rfl (by decide) (Nat.le_of_ble_eq_true rfl) ?_
  unfold fX10_looks
  refine ev_step (st_iconst (pc := 0) dX10_looks_0 ni_0) ?_
  refine ev_step (st_istore_n (pc := 1) (ls' := [(2, .int ((0 : Int32))), (0, .ref (gB G + v0)), (1, .int v1)]) dX10_looks_1 rfl (by decide) rfl) ?_
  refine ev_sub (ls' := [(0, .ref (gB G + v0)), (1, .int v1), (2, .int ((0 : Int32)))]) [1, 2, 0] rfl ?_
  exact tX10_looks_2 G fu h v0 v1 fu ((0 : Int32)) h
set_option maxRecDepth 100000 in
set_option maxHeartbeats 4000000 in
theorem tX10_lawTells_119 (G : gx) (fu : Nat) (h0 : mh) (v0 : Nat) (v1 : Int32) (v2 : Int32) (v3 : Int32) (v4 : Int32) (h : mh) : Ev lI G yX10_lawTells cX10_lawTells 7 (some .int) 2 h0 119 [(0, .ref (gB G + v0)), (1, .int v1), (2, .int v2), (3, .int v3), (4, .int v4)] [] h (fX10_lawTells_119 fu v0 v1 v2 v3 v4 h) := by
  unfold fX10_lawTells_119
  refine ev_step (st_aload_n (pc := 119) (j := 0) dX10_lawTells_119 rfl rfl) ?_
  refine ev_step (st_aload_n (pc := 120) (j := 0) dX10_lawTells_120 rfl rfl) ?_
  refine ev_getR (pc := 121) k_X10_98 rfl dX10_lawTells_121 (fun a1 => ?_)
  refine ev_step (st_iload (pc := 124) (j := 4) dX10_lawTells_124 rfl) ?_
  refine ev_ldi (pc := 126) dX10_lawTells_126 (fun x2 => ?_)
  refine ev_step (st_aload_n (pc := 127) (j := 0) dX10_lawTells_127 rfl rfl) ?_
  refine ev_getR (pc := 128) k_X10_101 rfl dX10_lawTells_128 (fun a3 => ?_)
  refine ev_step (st_iload (pc := 131) (j := 4) dX10_lawTells_131 rfl) ?_
  refine ev_ldi (pc := 133) dX10_lawTells_133 (fun x4 => ?_)
  refine ev_ck (fun ha hS => ?_)
  refine ev_callI (iv_V (As := [.int x2, .int x4]) (st := []) (pc := 134) rfl m_X10_termOf l_X10_327 i_X10_termOf e_X10_termOf ha hS rfl (Nat.le_of_ble_eq_true rfl) rfl dX10_lawTells_134) (tX10_termOf G fu v0 x2 x4 h) (by decide) (by decide) (fun x6 h5 => ?_)
  refine ev_step (st_istore (pc := 137) (ls' := [(5, .int x6), (0, .ref (gB G + v0)), (1, .int v1), (2, .int v2), (3, .int v3), (4, .int v4)]) dX10_lawTells_137 (by decide) rfl) ?_
  refine ev_step (st_aload_n (pc := 139) (j := 1) dX10_lawTells_139 rfl rfl) ?_
  refine ev_getI (pc := 140) k_X10_306 rfl dX10_lawTells_140 (fun x7 => ?_)
  refine ev_br (br_if_eq (tgt := 150) (pc := 143) dX10_lawTells_143 (by decide)) (fun _ => ?_) (fun _ => ?_)
  · refine ev_step (st_iload (pc := 150) (j := 0) dX10_lawTells_150 rfl) ?_
    exact ev_iret (pc := 152) dX10_lawTells_152
  · refine ev_step (st_iconst (pc := 146) dX10_lawTells_146 ni_0) ?_
    refine ev_step (st_goto (pc := 147) (tgt := 152) dX10_lawTells_147 (by decide)) ?_
    exact ev_iret (pc := 152) dX10_lawTells_152
set_option maxRecDepth 100000 in
set_option maxHeartbeats 4000000 in
theorem tX10_lawTells_39 (G : gx) (fu : Nat) (h0 : mh) (v0 : Nat) (v1 : Int32) (v2 : Int32) (v3 : Int32) (n : Nat) (v4 : Int32) (h : mh) : Ev lI G yX10_lawTells cX10_lawTells 7 (some .int) 2 h0 39 [(0, .ref (gB G + v0)), (1, .int v1), (2, .int v2), (3, .int v3), (4, .int v4)] [] h (itr (bX10_lawTells_39 fu v0 v1 v2 v3) n (v4, h)) := by
  refine ev_itr (P := fun (q : Int32 × mh) (R9 : Option (Int32 × mh)) => Ev lI G yX10_lawTells cX10_lawTells 7 (some .int) 2 h0 39 [(0, .ref (gB G + v0)), (1, .int v1), (2, .int v2), (3, .int v3), (4, .int q.1)] [] q.2 R9) (fun _ => ev_none) (fun k39 hk9 q => ?_) n (v4, h)
  obtain ⟨v4, h⟩ := q
  have hk39 : ∀ (v4 : Int32) (h : mh), Ev lI G yX10_lawTells cX10_lawTells 7 (some .int) 2 h0 39 [(0, .ref (gB G + v0)), (1, .int v1), (2, .int v2), (3, .int v3), (4, .int v4)] [] h (k39 (v4, h)) := fun v4 h => hk9 (v4, h)
  show Ev lI G yX10_lawTells cX10_lawTells 7 (some .int) 2 h0 39 [(0, .ref (gB G + v0)), (1, .int v1), (2, .int v2), (3, .int v3), (4, .int v4)] [] h (bX10_lawTells_39 fu v0 v1 v2 v3 k39 (v4, h))
  unfold bX10_lawTells_39
  refine ev_step (st_iload (pc := 39) (j := 4) dX10_lawTells_39 rfl) ?_
  refine ev_step (st_aload_n (pc := 41) (j := 0) dX10_lawTells_41 rfl rfl) ?_
  refine ev_getR (pc := 42) k_X10_85 rfl dX10_lawTells_42 (fun a1 => ?_)
  refine ev_step (st_iload_n (pc := 45) (j := 3) dX10_lawTells_45 rfl rfl) ?_
  refine ev_ldi (pc := 46) dX10_lawTells_46 (fun x2 => ?_)
  refine ev_br (br_icmp_ge (tgt := 159) (pc := 47) dX10_lawTells_47 (by decide)) (fun _ => ?_) (fun _ => ?_)
  · refine ev_step (st_iconst (pc := 159) dX10_lawTells_159 ni_0) ?_
    exact ev_iret (pc := 160) dX10_lawTells_160
  · refine ev_step (st_aload_n (pc := 50) (j := 0) dX10_lawTells_50 rfl rfl) ?_
    refine ev_getR (pc := 51) k_X10_88 rfl dX10_lawTells_51 (fun a3 => ?_)
    refine ev_step (st_iload (pc := 54) (j := 4) dX10_lawTells_54 rfl) ?_
    refine ev_ldz (pc := 56) dX10_lawTells_56 (fun x4 => ?_)
    refine ev_br (br_if_eq (tgt := 119) (pc := 57) dX10_lawTells_57 (by decide)) (fun _ => ?_) (fun _ => ?_)
    · refine ev_sub (ls' := [(0, .ref (gB G + v0)), (1, .int v1), (2, .int v2), (3, .int v3), (4, .int v4)]) [0, 1, 2, 3, 4] rfl ?_
      exact tX10_lawTells_119 G fu h0 v0 v1 v2 v3 v4 h
    · refine ev_step (st_aload_n (pc := 60) (j := 0) dX10_lawTells_60 rfl rfl) ?_
      refine ev_step (st_aload_n (pc := 61) (j := 0) dX10_lawTells_61 rfl rfl) ?_
      refine ev_getR (pc := 62) k_X10_92 rfl dX10_lawTells_62 (fun a5 => ?_)
      refine ev_step (st_iload (pc := 65) (j := 4) dX10_lawTells_65 rfl) ?_
      refine ev_ldi (pc := 67) dX10_lawTells_67 (fun x6 => ?_)
      refine ev_step (st_aload_n (pc := 68) (j := 0) dX10_lawTells_68 rfl rfl) ?_
      refine ev_getR (pc := 69) k_X10_95 rfl dX10_lawTells_69 (fun a7 => ?_)
      refine ev_step (st_iload (pc := 72) (j := 4) dX10_lawTells_72 rfl) ?_
      refine ev_ldi (pc := 74) dX10_lawTells_74 (fun x8 => ?_)
      refine ev_ck (fun ha hS => ?_)
      refine ev_callI (iv_V (As := [.int x6, .int x8]) (st := []) (pc := 75) rfl m_X10_termOf l_X10_327 i_X10_termOf e_X10_termOf ha hS rfl (Nat.le_of_ble_eq_true rfl) rfl dX10_lawTells_75) (tX10_termOf G fu v0 x6 x8 h) (by decide) (by decide) (fun x10 h9 => ?_)
      refine ev_step (st_istore (pc := 78) (ls' := [(5, .int x10), (0, .ref (gB G + v0)), (1, .int v1), (2, .int v2), (3, .int v3), (4, .int v4)]) dX10_lawTells_78 (by decide) rfl) ?_
      refine ev_step (st_aload_n (pc := 80) (j := 1) dX10_lawTells_80 rfl rfl) ?_
      refine ev_step (st_aload_n (pc := 81) (j := 1) dX10_lawTells_81 rfl rfl) ?_
      refine ev_getR (pc := 82) k_X10_95 rfl dX10_lawTells_82 (fun a11 => ?_)
      refine ev_step (st_iload (pc := 85) (j := 5) dX10_lawTells_85 rfl) ?_
      refine ev_ldi (pc := 87) dX10_lawTells_87 (fun x12 => ?_)
      refine ev_step (st_aload_n (pc := 88) (j := 1) dX10_lawTells_88 rfl rfl) ?_
      refine ev_getR (pc := 89) k_X10_98 rfl dX10_lawTells_89 (fun a13 => ?_)
      refine ev_step (st_iload (pc := 92) (j := 5) dX10_lawTells_92 rfl) ?_
      refine ev_ldi (pc := 94) dX10_lawTells_94 (fun x14 => ?_)
      refine ev_ck (fun ha hS => ?_)
      refine ev_callI (iv_V (As := [.int x12, .int x14]) (st := []) (pc := 95) rfl m_X10_termOf l_X10_327 i_X10_termOf e_X10_termOf ha hS rfl (Nat.le_of_ble_eq_true rfl) rfl dX10_lawTells_95) (tX10_termOf G fu v0 x12 x14 h9) (by decide) (by decide) (fun x16 h15 => ?_)
      refine ev_step (st_istore (pc := 98) (ls' := [(6, .int x16), (5, .int x10), (0, .ref (gB G + v0)), (1, .int v1), (2, .int v2), (3, .int v3), (4, .int v4)]) dX10_lawTells_98 (by decide) rfl) ?_
      refine ev_step (st_aload_n (pc := 100) (j := 2) dX10_lawTells_100 rfl rfl) ?_
      refine ev_getI (pc := 101) k_X10_306 rfl dX10_lawTells_101 (fun x17 => ?_)
      refine ev_br (br_if_eq (tgt := 109) (pc := 104) dX10_lawTells_104 (by decide)) (fun _ => ?_) (fun _ => ?_)
      · refine ev_step (st_iload (pc := 109) (j := 1) dX10_lawTells_109 rfl) ?_
        refine ev_step (st_iload (pc := 111) (j := 0) dX10_lawTells_111 rfl) ?_
        refine ev_br (br_icmp_lt (tgt := 119) (pc := 113) dX10_lawTells_113 (by decide)) (fun _ => ?_) (fun _ => ?_)
        · refine ev_sub (ls' := [(0, .ref (gB G + v0)), (1, .int v1), (2, .int v2), (3, .int v3), (4, .int v4)]) [2, 3, 4, 5, 6] rfl ?_
          exact tX10_lawTells_119 G fu h0 v0 v1 v2 v3 v4 h15
        · refine ev_step (st_goto (pc := 116) (tgt := 153) dX10_lawTells_116 (by decide)) ?_
          refine ev_step (st_inc (pc := 153) (j := 6) (ls' := [(4, .int (v4 + (1 : Int32))), (6, .int x16), (5, .int x10), (0, .ref (gB G + v0)), (1, .int v1), (2, .int v2), (3, .int v3)]) dX10_lawTells_153 rfl ni_1 (by decide) rfl) ?_
          refine ev_step (st_goto (pc := 156) (tgt := 39) dX10_lawTells_156 (by decide)) ?_
          refine ev_sub (ls' := [(0, .ref (gB G + v0)), (1, .int v1), (2, .int v2), (3, .int v3), (4, .int (v4 + (1 : Int32)))]) [3, 4, 5, 6, 0] rfl ?_
          exact hk39 (v4 + (1 : Int32)) h15
      · refine ev_step (st_iconst (pc := 107) dX10_lawTells_107 ni_0) ?_
        exact ev_iret (pc := 108) dX10_lawTells_108
set_option maxRecDepth 100000 in
set_option maxHeartbeats 4000000 in
theorem tX10_lawTells (G : gx) (fu : Nat) (v0 : Nat) (v1 : Int32) (v2 : Int32) (h : mh) : Ct lI G yX10_lawTells cX10_lawTells 7 (some .int) 2 [.ref (gB G + v0), .int v1, .int v2] h (fX10_lawTells fu v0 v1 v2 h) := by
  refine ct_ls (ls := [(0, .ref (gB G + v0)), (1, .int v1), (2, .int v2)]) rfl (by decide) (Nat.le_of_ble_eq_true rfl) ?_
  unfold fX10_lawTells
  refine ev_step (st_iconst (pc := 0) dX10_lawTells_0 ni_4) ?_
  refine ev_step (st_aload_n (pc := 1) (j := 0) dX10_lawTells_1 rfl rfl) ?_
  refine ev_getI (pc := 2) k_X10_230 rfl dX10_lawTells_2 (fun x1 => ?_)
  refine ev_step (st_imul (pc := 5) dX10_lawTells_5) ?_
  refine ev_step (st_iload_n (pc := 6) (j := 1) dX10_lawTells_6 rfl rfl) ?_
  refine ev_step (st_iadd (pc := 7) dX10_lawTells_7) ?_
  refine ev_top (fun x2 => ?_)
  refine ev_step (st_istore_n (pc := 8) (ls' := [(3, .int x2), (0, .ref (gB G + v0)), (1, .int v1), (2, .int v2)]) dX10_lawTells_8 rfl (by decide) rfl) ?_
  refine ev_step (st_aload_n (pc := 9) (j := 1) dX10_lawTells_9 rfl rfl) ?_
  refine ev_getR (pc := 10) k_X10_82 rfl dX10_lawTells_10 (fun a3 => ?_)
  refine ev_step (st_iload_n (pc := 13) (j := 0) dX10_lawTells_13 rfl rfl) ?_
  refine ev_ldi (pc := 14) dX10_lawTells_14 (fun x4 => ?_)
  refine ev_step (st_aload_n (pc := 15) (j := 1) dX10_lawTells_15 rfl rfl) ?_
  refine ev_getR (pc := 16) k_X10_85 rfl dX10_lawTells_16 (fun a5 => ?_)
  refine ev_step (st_iload_n (pc := 19) (j := 0) dX10_lawTells_19 rfl rfl) ?_
  refine ev_ldi (pc := 20) dX10_lawTells_20 (fun x6 => ?_)
  refine ev_br (br_icmp_ne (tgt := 26) (pc := 21) dX10_lawTells_21 (by decide)) (fun _ => ?_) (fun _ => ?_)
  · refine ev_step (st_iload_n (pc := 24) (j := 3) dX10_lawTells_24 rfl rfl) ?_
    exact ev_iret (pc := 25) dX10_lawTells_25
  · refine ev_step (st_aload_n (pc := 26) (j := 1) dX10_lawTells_26 rfl rfl) ?_
    refine ev_step (st_iconst (pc := 27) dX10_lawTells_27 ni_0) ?_
    refine ev_putZ (pc := 28) (p_X10_306 _ rfl) rfl dX10_lawTells_28 (fun h7 => ?_)
    refine ev_step (st_aload_n (pc := 31) (j := 1) dX10_lawTells_31 rfl rfl) ?_
    refine ev_getR (pc := 32) k_X10_82 rfl dX10_lawTells_32 (fun a8 => ?_)
    refine ev_step (st_iload_n (pc := 35) (j := 0) dX10_lawTells_35 rfl rfl) ?_
    refine ev_ldi (pc := 36) dX10_lawTells_36 (fun x9 => ?_)
    refine ev_step (st_istore (pc := 37) (ls' := [(4, .int x9), (3, .int x2), (0, .ref (gB G + v0)), (1, .int v1), (2, .int v2)]) dX10_lawTells_37 (by decide) rfl) ?_
    refine ev_sub (ls' := [(0, .ref (gB G + v0)), (1, .int v1), (2, .int v2), (3, .int x2), (4, .int x9)]) [2, 3, 4, 1, 0] rfl ?_
    exact tX10_lawTells_39 G fu h v0 v1 v2 x2 fu x9 h7
set_option maxRecDepth 100000 in
set_option maxHeartbeats 4000000 in
theorem tX10_saidBy_69 (G : gx) (fu : Nat) (h0 : mh) (v0 : Nat) (v1 : Int32) (v2 : Int32) (v3 : Int32) (k4 : Int32 × Int32 × mh → Option (Int32 × mh)) (hk4 : ∀ (v2 : Int32) (v3 : Int32) (h : mh), Ev lI G yX10_saidBy cX10_saidBy 4 (some .int) 3 h0 4 [(0, .ref (gB G + v0)), (1, .int v1), (2, .int v2), (3, .int v3)] [] h (k4 (v2, v3, h))) (h : mh) : Ev lI G yX10_saidBy cX10_saidBy 4 (some .int) 3 h0 69 [(0, .ref (gB G + v0)), (1, .int v1), (2, .int v2), (3, .int v3)] [] h (fX10_saidBy_69 fu k4 v0 v1 v2 v3 h) := by
  unfold fX10_saidBy_69
  refine ev_step (st_inc (pc := 69) (j := 3) (ls' := [(3, .int (v3 + (1 : Int32))), (0, .ref (gB G + v0)), (1, .int v1), (2, .int v2)]) dX10_saidBy_69 rfl ni_1 (by decide) rfl) ?_
  refine ev_step (st_goto (pc := 72) (tgt := 4) dX10_saidBy_72 (by decide)) ?_
  refine ev_sub (ls' := [(0, .ref (gB G + v0)), (1, .int v1), (2, .int v2), (3, .int (v3 + (1 : Int32)))]) [1, 2, 3, 0] rfl ?_
  exact hk4 v2 (v3 + (1 : Int32)) h
set_option maxRecDepth 100000 in
set_option maxHeartbeats 4000000 in
theorem tX10_saidBy_4 (G : gx) (fu : Nat) (h0 : mh) (v0 : Nat) (v1 : Int32) (n : Nat) (v2 : Int32) (v3 : Int32) (h : mh) : Ev lI G yX10_saidBy cX10_saidBy 4 (some .int) 3 h0 4 [(0, .ref (gB G + v0)), (1, .int v1), (2, .int v2), (3, .int v3)] [] h (itr (bX10_saidBy_4 fu v0 v1) n (v2, v3, h)) := by
  refine ev_itr (P := fun (q : Int32 × Int32 × mh) (R9 : Option (Int32 × mh)) => Ev lI G yX10_saidBy cX10_saidBy 4 (some .int) 3 h0 4 [(0, .ref (gB G + v0)), (1, .int v1), (2, .int q.1), (3, .int q.2.1)] [] q.2.2 R9) (fun _ => ev_none) (fun k4 hk9 q => ?_) n (v2, v3, h)
  obtain ⟨v2, v3, h⟩ := q
  have hk4 : ∀ (v2 : Int32) (v3 : Int32) (h : mh), Ev lI G yX10_saidBy cX10_saidBy 4 (some .int) 3 h0 4 [(0, .ref (gB G + v0)), (1, .int v1), (2, .int v2), (3, .int v3)] [] h (k4 (v2, v3, h)) := fun v2 v3 h => hk9 (v2, v3, h)
  show Ev lI G yX10_saidBy cX10_saidBy 4 (some .int) 3 h0 4 [(0, .ref (gB G + v0)), (1, .int v1), (2, .int v2), (3, .int v3)] [] h (bX10_saidBy_4 fu v0 v1 k4 (v2, v3, h))
  unfold bX10_saidBy_4
  refine ev_step (st_iload_n (pc := 4) (j := 3) dX10_saidBy_4 rfl rfl) ?_
  refine ev_step (st_bipush (pc := 5) dX10_saidBy_5 nb_8) ?_
  refine ev_br (br_icmp_ge (tgt := 75) (pc := 7) dX10_saidBy_7 (by decide)) (fun _ => ?_) (fun _ => ?_)
  · refine ev_step (st_iload_n (pc := 75) (j := 2) dX10_saidBy_75 rfl rfl) ?_
    exact ev_iret (pc := 76) dX10_saidBy_76
  · refine ev_step (st_aload_n (pc := 10) (j := 0) dX10_saidBy_10 rfl rfl) ?_
    refine ev_getR (pc := 11) k_X10_49 rfl dX10_saidBy_11 (fun a1 => ?_)
    refine ev_step (st_bipush (pc := 14) dX10_saidBy_14 nb_6) ?_
    refine ev_step (st_aload_n (pc := 16) (j := 0) dX10_saidBy_16 rfl rfl) ?_
    refine ev_getI (pc := 17) k_X10_230 rfl dX10_saidBy_17 (fun x2 => ?_)
    refine ev_step (st_imul (pc := 20) dX10_saidBy_20) ?_
    refine ev_step (st_iload_n (pc := 21) (j := 1) dX10_saidBy_21 rfl rfl) ?_
    refine ev_step (st_iadd (pc := 22) dX10_saidBy_22) ?_
    refine ev_ldi (pc := 23) dX10_saidBy_23 (fun x3 => ?_)
    refine ev_step (st_iload_n (pc := 24) (j := 3) dX10_saidBy_24 rfl rfl) ?_
    refine ev_step (st_ishr (pc := 25) dX10_saidBy_25) ?_
    refine ev_step (st_iconst (pc := 26) dX10_saidBy_26 ni_1) ?_
    refine ev_step (st_iand (pc := 27) dX10_saidBy_27) ?_
    refine ev_br (br_if_ne (tgt := 34) (pc := 28) dX10_saidBy_28 (by decide)) (fun _ => ?_) (fun _ => ?_)
    · refine ev_step (st_goto (pc := 31) (tgt := 69) dX10_saidBy_31 (by decide)) ?_
      refine ev_sub (ls' := [(0, .ref (gB G + v0)), (1, .int v1), (2, .int v2), (3, .int v3)]) [0, 1, 2, 3] rfl ?_
      exact tX10_saidBy_69 G fu h0 v0 v1 v2 v3 k4 hk4 h
    · refine ev_step (st_aload_n (pc := 34) (j := 0) dX10_saidBy_34 rfl rfl) ?_
      refine ev_step (st_iload_n (pc := 35) (j := 1) dX10_saidBy_35 rfl rfl) ?_
      refine ev_ck (fun ha hS => ?_)
      refine ev_callV (iv_V (As := [.int v1]) (st := []) (pc := 36) rfl m_X10_looks l_X10_330 i_X10_looks e_X10_looks ha hS rfl (Nat.le_of_ble_eq_true rfl) rfl dX10_saidBy_36) (tX10_looks G fu v0 v1 h) (by decide) (by decide) (fun h4 => ?_)
      refine ev_step (st_aload_n (pc := 39) (j := 0) dX10_saidBy_39 rfl rfl) ?_
      refine ev_getR (pc := 40) k_X10_113 rfl dX10_saidBy_40 (fun a5 => ?_)
      refine ev_step (st_iconst (pc := 43) dX10_saidBy_43 ni_2) ?_
      refine ev_step (st_iload_n (pc := 44) (j := 3) dX10_saidBy_44 rfl rfl) ?_
      refine ev_sti (pc := 45) dX10_saidBy_45 (fun h6 => ?_)
      refine ev_step (st_aload_n (pc := 46) (j := 0) dX10_saidBy_46 rfl rfl) ?_
      refine ev_getR (pc := 47) k_X10_113 rfl dX10_saidBy_47 (fun a7 => ?_)
      refine ev_step (st_bipush (pc := 50) dX10_saidBy_50 nb_7) ?_
      refine ev_step (st_iload_n (pc := 52) (j := 1) dX10_saidBy_52 rfl rfl) ?_
      refine ev_sti (pc := 53) dX10_saidBy_53 (fun h8 => ?_)
      refine ev_step (st_aload_n (pc := 54) (j := 0) dX10_saidBy_54 rfl rfl) ?_
      refine ev_step (st_iconst (pc := 55) dX10_saidBy_55 ni_0) ?_
      refine ev_step (st_iconst (pc := 56) dX10_saidBy_56 ni_1) ?_
      refine ev_ck (fun ha hS => ?_)
      refine ev_callI (iv_V (As := [.int ((0 : Int32)), .int ((1 : Int32))]) (st := []) (pc := 57) rfl m_X10_lawTells l_X10_333 i_X10_lawTells e_X10_lawTells ha hS rfl (Nat.le_of_ble_eq_true rfl) rfl dX10_saidBy_57) (tX10_lawTells G fu v0 ((0 : Int32)) ((1 : Int32)) h8) (by decide) (by decide) (fun x10 h9 => ?_)
      refine ev_br (br_if_le (tgt := 69) (pc := 60) dX10_saidBy_60 (by decide)) (fun _ => ?_) (fun _ => ?_)
      · refine ev_sub (ls' := [(0, .ref (gB G + v0)), (1, .int v1), (2, .int v2), (3, .int v3)]) [0, 1, 2, 3] rfl ?_
        exact tX10_saidBy_69 G fu h0 v0 v1 v2 v3 k4 hk4 h9
      · refine ev_step (st_iload_n (pc := 63) (j := 2) dX10_saidBy_63 rfl rfl) ?_
        refine ev_step (st_iconst (pc := 64) dX10_saidBy_64 ni_1) ?_
        refine ev_step (st_iload_n (pc := 65) (j := 3) dX10_saidBy_65 rfl rfl) ?_
        refine ev_step (st_ishl (pc := 66) dX10_saidBy_66) ?_
        refine ev_step (st_ior (pc := 67) dX10_saidBy_67) ?_
        refine ev_top (fun x11 => ?_)
        refine ev_step (st_istore_n (pc := 68) (ls' := [(2, .int x11), (0, .ref (gB G + v0)), (1, .int v1), (3, .int v3)]) dX10_saidBy_68 rfl (by decide) rfl) ?_
        refine ev_sub (ls' := [(0, .ref (gB G + v0)), (1, .int v1), (2, .int x11), (3, .int v3)]) [1, 2, 0, 3] rfl ?_
        exact tX10_saidBy_69 G fu h0 v0 v1 x11 v3 k4 hk4 h9
set_option maxRecDepth 100000 in
set_option maxHeartbeats 4000000 in
theorem tX10_saidBy (G : gx) (fu : Nat) (v0 : Nat) (v1 : Int32) (h : mh) : Ct lI G yX10_saidBy cX10_saidBy 4 (some .int) 3 [.ref (gB G + v0), .int v1] h (fX10_saidBy fu v0 v1 h) := by
  refine ct_ls (ls := [(0, .ref (gB G + v0)), (1, .int v1)]) rfl (by decide) (Nat.le_of_ble_eq_true rfl) ?_
  unfold fX10_saidBy
  refine ev_step (st_iconst (pc := 0) dX10_saidBy_0 ni_0) ?_
  refine ev_step (st_istore_n (pc := 1) (ls' := [(2, .int ((0 : Int32))), (0, .ref (gB G + v0)), (1, .int v1)]) dX10_saidBy_1 rfl (by decide) rfl) ?_
  refine ev_step (st_iconst (pc := 2) dX10_saidBy_2 ni_0) ?_
  refine ev_step (st_istore_n (pc := 3) (ls' := [(3, .int ((0 : Int32))), (2, .int ((0 : Int32))), (0, .ref (gB G + v0)), (1, .int v1)]) dX10_saidBy_3 rfl (by decide) rfl) ?_
  refine ev_sub (ls' := [(0, .ref (gB G + v0)), (1, .int v1), (2, .int ((0 : Int32))), (3, .int ((0 : Int32)))]) [2, 3, 1, 0] rfl ?_
  exact tX10_saidBy_4 G fu h v0 v1 fu ((0 : Int32)) ((0 : Int32)) h
set_option maxRecDepth 100000 in
set_option maxHeartbeats 4000000 in
theorem tX10_isReally (G : gx) (fu : Nat) (v0 : Nat) (v1 : Int32) (v2 : Int32) (h : mh) : Ct lI G yX10_isReally cX10_isReally 3 (some .boolean) 1 [.ref (gB G + v0), .int v1, .int v2] h (fX10_isReally fu v0 v1 v2 h) := by
  refine ct_ls (ls := [(0, .ref (gB G + v0)), (1, .int v1), (2, .int v2)]) rfl (by decide) (Nat.le_of_ble_eq_true rfl) ?_
  unfold fX10_isReally
  refine ev_step (st_aload_n (pc := 0) (j := 0) dX10_isReally_0 rfl rfl) ?_
  refine ev_getR (pc := 1) k_X10_67 rfl dX10_isReally_1 (fun a1 => ?_)
  refine ev_step (st_bipush (pc := 4) dX10_isReally_4 nb_6) ?_
  refine ev_step (st_aload_n (pc := 6) (j := 0) dX10_isReally_6 rfl rfl) ?_
  refine ev_getI (pc := 7) k_X10_230 rfl dX10_isReally_7 (fun x2 => ?_)
  refine ev_step (st_imul (pc := 10) dX10_isReally_10) ?_
  refine ev_step (st_iload_n (pc := 11) (j := 1) dX10_isReally_11 rfl rfl) ?_
  refine ev_step (st_iadd (pc := 12) dX10_isReally_12) ?_
  refine ev_ldi (pc := 13) dX10_isReally_13 (fun x3 => ?_)
  refine ev_step (st_iload_n (pc := 14) (j := 2) dX10_isReally_14 rfl rfl) ?_
  refine ev_step (st_ishr (pc := 15) dX10_isReally_15) ?_
  refine ev_step (st_iconst (pc := 16) dX10_isReally_16 ni_1) ?_
  refine ev_step (st_iand (pc := 17) dX10_isReally_17) ?_
  refine ev_step (st_iconst (pc := 18) dX10_isReally_18 ni_1) ?_
  refine ev_br (br_icmp_ne (tgt := 26) (pc := 19) dX10_isReally_19 (by decide)) (fun _ => ?_) (fun _ => ?_)
  · refine ev_step (st_iconst (pc := 22) dX10_isReally_22 ni_1) ?_
    refine ev_step (st_goto (pc := 23) (tgt := 27) dX10_isReally_23 (by decide)) ?_
    exact ev_zret (pc := 27) dX10_isReally_27
  · refine ev_step (st_iconst (pc := 26) dX10_isReally_26 ni_0) ?_
    exact ev_zret (pc := 27) dX10_isReally_27
set_option maxRecDepth 100000 in
set_option maxHeartbeats 4000000 in
theorem tX10_looksFor_77 (G : gx) (fu : Nat) (h0 : mh) (v0 : Nat) (v1 : Int32) (v2 : Int32) (v3 : Int32) (s0 : Nat) (s1 : Int32) (s2 : Int32) (h : mh) : Ev lV G yX10_looksFor cX10_looksFor 4 (none) 2 h0 77 [(0, .ref (gB G + v0)), (1, .int v1), (2, .int v2), (3, .int v3)] [.int s2, .int s1, .ref (gB G + s0)] h (fX10_looksFor_77 fu v0 v1 v2 v3 s0 s1 s2 h) := by
  unfold fX10_looksFor_77
  refine ev_sti (pc := 77) dX10_looksFor_77 (fun h1 => ?_)
  exact ev_vret (pc := 78) dX10_looksFor_78
set_option maxRecDepth 100000 in
set_option maxHeartbeats 4000000 in
theorem tX10_looksFor (G : gx) (fu : Nat) (v0 : Nat) (v1 : Int32) (v2 : Int32) (v3 : Int32) (h : mh) : Ct lV G yX10_looksFor cX10_looksFor 4 (none) 2 [.ref (gB G + v0), .int v1, .int v2, .int v3] h (fX10_looksFor fu v0 v1 v2 v3 h) := by
  refine ct_ls (ls := [(0, .ref (gB G + v0)), (1, .int v1), (2, .int v2), (3, .int v3)]) rfl (by decide) (Nat.le_of_ble_eq_true rfl) ?_
  unfold fX10_looksFor
  refine ev_step (st_aload_n (pc := 0) (j := 0) dX10_looksFor_0 rfl rfl) ?_
  refine ev_step (st_iload_n (pc := 1) (j := 2) dX10_looksFor_1 rfl rfl) ?_
  refine ev_ck (fun ha hS => ?_)
  refine ev_callV (iv_V (As := [.int v2]) (st := []) (pc := 2) rfl m_X10_looks l_X10_330 i_X10_looks e_X10_looks ha hS rfl (Nat.le_of_ble_eq_true rfl) rfl dX10_looksFor_2) (tX10_looks G fu v0 v2 h) (by decide) (by decide) (fun h1 => ?_)
  refine ev_step (st_aload_n (pc := 5) (j := 0) dX10_looksFor_5 rfl rfl) ?_
  refine ev_getR (pc := 6) k_X10_113 rfl dX10_looksFor_6 (fun a2 => ?_)
  refine ev_step (st_iconst (pc := 9) dX10_looksFor_9 ni_4) ?_
  refine ev_step (st_aload_n (pc := 10) (j := 0) dX10_looksFor_10 rfl rfl) ?_
  refine ev_getR (pc := 11) k_X10_122 rfl dX10_looksFor_11 (fun a3 => ?_)
  refine ev_step (st_bipush (pc := 14) dX10_looksFor_14 nb_18) ?_
  refine ev_step (st_iload_n (pc := 16) (j := 1) dX10_looksFor_16 rfl rfl) ?_
  refine ev_step (st_iadd (pc := 17) dX10_looksFor_17) ?_
  refine ev_ldi (pc := 18) dX10_looksFor_18 (fun x4 => ?_)
  refine ev_sti (pc := 19) dX10_looksFor_19 (fun h5 => ?_)
  refine ev_step (st_aload_n (pc := 20) (j := 0) dX10_looksFor_20 rfl rfl) ?_
  refine ev_getR (pc := 21) k_X10_113 rfl dX10_looksFor_21 (fun a6 => ?_)
  refine ev_step (st_iconst (pc := 24) dX10_looksFor_24 ni_5) ?_
  refine ev_step (st_aload_n (pc := 25) (j := 0) dX10_looksFor_25 rfl rfl) ?_
  refine ev_getR (pc := 26) k_X10_122 rfl dX10_looksFor_26 (fun a7 => ?_)
  refine ev_step (st_bipush (pc := 29) dX10_looksFor_29 nb_12) ?_
  refine ev_step (st_iload_n (pc := 31) (j := 1) dX10_looksFor_31 rfl rfl) ?_
  refine ev_step (st_iadd (pc := 32) dX10_looksFor_32) ?_
  refine ev_ldi (pc := 33) dX10_looksFor_33 (fun x8 => ?_)
  refine ev_callI (iv_S (As := [.int x8]) (st := [.int ((5 : Int32)), .ref (gB G + a6)]) (pc := 34) m_X10_bits l_X10_336 z_X10_bits rfl (Nat.le_of_ble_eq_true rfl) rfl dX10_looksFor_34) (tX10_bits G fu x8 h5) (by decide) (by decide) (fun x10 h9 => ?_)
  refine ev_sti (pc := 37) dX10_looksFor_37 (fun h11 => ?_)
  refine ev_step (st_aload_n (pc := 38) (j := 0) dX10_looksFor_38 rfl rfl) ?_
  refine ev_getR (pc := 39) k_X10_113 rfl dX10_looksFor_39 (fun a12 => ?_)
  refine ev_step (st_bipush (pc := 42) dX10_looksFor_42 nb_6) ?_
  refine ev_step (st_iload_n (pc := 44) (j := 3) dX10_looksFor_44 rfl rfl) ?_
  refine ev_callI (iv_S (As := [.int v3]) (st := [.int ((6 : Int32)), .ref (gB G + a12)]) (pc := 45) m_X10_bits l_X10_336 z_X10_bits rfl (Nat.le_of_ble_eq_true rfl) rfl dX10_looksFor_45) (tX10_bits G fu v3 h11) (by decide) (by decide) (fun x14 h13 => ?_)
  refine ev_sti (pc := 48) dX10_looksFor_48 (fun h15 => ?_)
  refine ev_step (st_aload_n (pc := 49) (j := 0) dX10_looksFor_49 rfl rfl) ?_
  refine ev_getR (pc := 50) k_X10_113 rfl dX10_looksFor_50 (fun a16 => ?_)
  refine ev_step (st_bipush (pc := 53) dX10_looksFor_53 nb_7) ?_
  refine ev_step (st_iload_n (pc := 55) (j := 1) dX10_looksFor_55 rfl rfl) ?_
  refine ev_sti (pc := 56) dX10_looksFor_56 (fun h17 => ?_)
  refine ev_step (st_aload_n (pc := 57) (j := 0) dX10_looksFor_57 rfl rfl) ?_
  refine ev_getR (pc := 58) k_X10_113 rfl dX10_looksFor_58 (fun a18 => ?_)
  refine ev_step (st_bipush (pc := 61) dX10_looksFor_61 nb_8) ?_
  refine ev_step (st_aload_n (pc := 63) (j := 0) dX10_looksFor_63 rfl rfl) ?_
  refine ev_step (st_iload_n (pc := 64) (j := 1) dX10_looksFor_64 rfl rfl) ?_
  refine ev_step (st_iload_n (pc := 65) (j := 2) dX10_looksFor_65 rfl rfl) ?_
  refine ev_ck (fun ha hS => ?_)
  refine ev_callI (iv_V (As := [.int v1, .int v2]) (st := [.int ((8 : Int32)), .ref (gB G + a18)]) (pc := 66) rfl m_X10_isReally l_X10_339 i_X10_isReally e_X10_isReally ha hS rfl (Nat.le_of_ble_eq_true rfl) rfl dX10_looksFor_66) (tX10_isReally G fu v0 v1 v2 h17) (by decide) (by decide) (fun x20 h19 => ?_)
  refine ev_br (br_if_eq (tgt := 76) (pc := 69) dX10_looksFor_69 (by decide)) (fun _ => ?_) (fun _ => ?_)
  · refine ev_step (st_iconst (pc := 76) dX10_looksFor_76 ni_0) ?_
    refine ev_sub (ls' := [(0, .ref (gB G + v0)), (1, .int v1), (2, .int v2), (3, .int v3)]) [0, 1, 2, 3] rfl ?_
    exact tX10_looksFor_77 G fu h v0 v1 v2 v3 a18 ((8 : Int32)) ((0 : Int32)) h19
  · refine ev_step (st_iconst (pc := 72) dX10_looksFor_72 ni_1) ?_
    refine ev_step (st_goto (pc := 73) (tgt := 77) dX10_looksFor_73 (by decide)) ?_
    refine ev_sub (ls' := [(0, .ref (gB G + v0)), (1, .int v1), (2, .int v2), (3, .int v3)]) [0, 1, 2, 3] rfl ?_
    exact tX10_looksFor_77 G fu h v0 v1 v2 v3 a18 ((8 : Int32)) ((1 : Int32)) h19
set_option maxRecDepth 100000 in
set_option maxHeartbeats 4000000 in
theorem tX10_doesTrust (G : gx) (fu : Nat) (v0 : Nat) (v1 : Int32) (v2 : Int32) (v3 : Int32) (h : mh) : Ct lI G yX10_doesTrust cX10_doesTrust 4 (some .boolean) 3 [.ref (gB G + v0), .int v1, .int v2, .int v3] h (fX10_doesTrust fu v0 v1 v2 v3 h) := by
  refine ct_ls (ls := [(0, .ref (gB G + v0)), (1, .int v1), (2, .int v2), (3, .int v3)]) rfl (by decide) (Nat.le_of_ble_eq_true rfl) ?_
  unfold fX10_doesTrust
  refine ev_step (st_aload_n (pc := 0) (j := 0) dX10_doesTrust_0 rfl rfl) ?_
  refine ev_step (st_iload_n (pc := 1) (j := 1) dX10_doesTrust_1 rfl rfl) ?_
  refine ev_step (st_iload_n (pc := 2) (j := 2) dX10_doesTrust_2 rfl rfl) ?_
  refine ev_step (st_iload_n (pc := 3) (j := 3) dX10_doesTrust_3 rfl rfl) ?_
  refine ev_ck (fun ha hS => ?_)
  refine ev_callV (iv_V (As := [.int v1, .int v2, .int v3]) (st := []) (pc := 4) rfl m_X10_looksFor l_X10_343 i_X10_looksFor e_X10_looksFor ha hS rfl (Nat.le_of_ble_eq_true rfl) rfl dX10_doesTrust_4) (tX10_looksFor G fu v0 v1 v2 v3 h) (by decide) (by decide) (fun h1 => ?_)
  refine ev_step (st_aload_n (pc := 7) (j := 0) dX10_doesTrust_7 rfl rfl) ?_
  refine ev_step (st_iconst (pc := 8) dX10_doesTrust_8 ni_1) ?_
  refine ev_step (st_iconst (pc := 9) dX10_doesTrust_9 ni_1) ?_
  refine ev_ck (fun ha hS => ?_)
  refine ev_callI (iv_V (As := [.int ((1 : Int32)), .int ((1 : Int32))]) (st := []) (pc := 10) rfl m_X10_lawTells l_X10_333 i_X10_lawTells e_X10_lawTells ha hS rfl (Nat.le_of_ble_eq_true rfl) rfl dX10_doesTrust_10) (tX10_lawTells G fu v0 ((1 : Int32)) ((1 : Int32)) h1) (by decide) (by decide) (fun x3 h2 => ?_)
  refine ev_br (br_if_le (tgt := 20) (pc := 13) dX10_doesTrust_13 (by decide)) (fun _ => ?_) (fun _ => ?_)
  · refine ev_step (st_iconst (pc := 20) dX10_doesTrust_20 ni_0) ?_
    exact ev_zret (pc := 21) dX10_doesTrust_21
  · refine ev_step (st_iconst (pc := 16) dX10_doesTrust_16 ni_1) ?_
    refine ev_step (st_goto (pc := 17) (tgt := 21) dX10_doesTrust_17 (by decide)) ?_
    exact ev_zret (pc := 21) dX10_doesTrust_21
set_option maxRecDepth 100000 in
set_option maxHeartbeats 4000000 in
theorem tX10_movesBy (G : gx) (fu : Nat) (v0 : Nat) (v1 : Int32) (v2 : Int32) (v3 : Int32) (h : mh) : Ct lI G yX10_movesBy cX10_movesBy 4 (some .int) 3 [.ref (gB G + v0), .int v1, .int v2, .int v3] h (fX10_movesBy fu v0 v1 v2 v3 h) := by
  refine ct_ls (ls := [(0, .ref (gB G + v0)), (1, .int v1), (2, .int v2), (3, .int v3)]) rfl (by decide) (Nat.le_of_ble_eq_true rfl) ?_
  unfold fX10_movesBy
  refine ev_step (st_aload_n (pc := 0) (j := 0) dX10_movesBy_0 rfl rfl) ?_
  refine ev_step (st_iload_n (pc := 1) (j := 1) dX10_movesBy_1 rfl rfl) ?_
  refine ev_step (st_iload_n (pc := 2) (j := 2) dX10_movesBy_2 rfl rfl) ?_
  refine ev_step (st_iload_n (pc := 3) (j := 3) dX10_movesBy_3 rfl rfl) ?_
  refine ev_ck (fun ha hS => ?_)
  refine ev_callV (iv_V (As := [.int v1, .int v2, .int v3]) (st := []) (pc := 4) rfl m_X10_looksFor l_X10_343 i_X10_looksFor e_X10_looksFor ha hS rfl (Nat.le_of_ble_eq_true rfl) rfl dX10_movesBy_4) (tX10_looksFor G fu v0 v1 v2 v3 h) (by decide) (by decide) (fun h1 => ?_)
  refine ev_step (st_aload_n (pc := 7) (j := 0) dX10_movesBy_7 rfl rfl) ?_
  refine ev_step (st_iconst (pc := 8) dX10_movesBy_8 ni_2) ?_
  refine ev_step (st_iconst (pc := 9) dX10_movesBy_9 ni_0) ?_
  refine ev_ck (fun ha hS => ?_)
  refine ev_callI (iv_V (As := [.int ((2 : Int32)), .int ((0 : Int32))]) (st := []) (pc := 10) rfl m_X10_lawTells l_X10_333 i_X10_lawTells e_X10_lawTells ha hS rfl (Nat.le_of_ble_eq_true rfl) rfl dX10_movesBy_10) (tX10_lawTells G fu v0 ((2 : Int32)) ((0 : Int32)) h1) (by decide) (by decide) (fun x3 h2 => ?_)
  refine ev_step (st_bipush (pc := 13) dX10_movesBy_13 nb_m99) ?_
  refine ev_step (st_bipush (pc := 15) dX10_movesBy_15 nb_99) ?_
  refine ev_callI (iv_S (As := [.int x3, .int ((-99 : Int32)), .int ((99 : Int32))]) (st := []) (pc := 17) m_X10_within l_X10_347 z_X10_within rfl (Nat.le_of_ble_eq_true rfl) rfl dX10_movesBy_17) (tX10_within G fu x3 ((-99 : Int32)) ((99 : Int32)) h2) (by decide) (by decide) (fun x5 h4 => ?_)
  exact ev_iret (pc := 20) dX10_movesBy_20
set_option maxRecDepth 100000 in
set_option maxHeartbeats 4000000 in
theorem tX10_doesRing (G : gx) (fu : Nat) (v0 : Nat) (v1 : Int32) (v2 : Int32) (v3 : Int32) (h : mh) : Ct lI G yX10_doesRing cX10_doesRing 4 (some .boolean) 3 [.ref (gB G + v0), .int v1, .int v2, .int v3] h (fX10_doesRing fu v0 v1 v2 v3 h) := by
  refine ct_ls (ls := [(0, .ref (gB G + v0)), (1, .int v1), (2, .int v2), (3, .int v3)]) rfl (by decide) (Nat.le_of_ble_eq_true rfl) ?_
  unfold fX10_doesRing
  refine ev_step (st_aload_n (pc := 0) (j := 0) dX10_doesRing_0 rfl rfl) ?_
  refine ev_step (st_iload_n (pc := 1) (j := 1) dX10_doesRing_1 rfl rfl) ?_
  refine ev_step (st_iload_n (pc := 2) (j := 2) dX10_doesRing_2 rfl rfl) ?_
  refine ev_step (st_iload_n (pc := 3) (j := 3) dX10_doesRing_3 rfl rfl) ?_
  refine ev_ck (fun ha hS => ?_)
  refine ev_callV (iv_V (As := [.int v1, .int v2, .int v3]) (st := []) (pc := 4) rfl m_X10_looksFor l_X10_343 i_X10_looksFor e_X10_looksFor ha hS rfl (Nat.le_of_ble_eq_true rfl) rfl dX10_doesRing_4) (tX10_looksFor G fu v0 v1 v2 v3 h) (by decide) (by decide) (fun h1 => ?_)
  refine ev_step (st_aload_n (pc := 7) (j := 0) dX10_doesRing_7 rfl rfl) ?_
  refine ev_step (st_iconst (pc := 8) dX10_doesRing_8 ni_3) ?_
  refine ev_step (st_iconst (pc := 9) dX10_doesRing_9 ni_0) ?_
  refine ev_ck (fun ha hS => ?_)
  refine ev_callI (iv_V (As := [.int ((3 : Int32)), .int ((0 : Int32))]) (st := []) (pc := 10) rfl m_X10_lawTells l_X10_333 i_X10_lawTells e_X10_lawTells ha hS rfl (Nat.le_of_ble_eq_true rfl) rfl dX10_doesRing_10) (tX10_lawTells G fu v0 ((3 : Int32)) ((0 : Int32)) h1) (by decide) (by decide) (fun x3 h2 => ?_)
  refine ev_br (br_if_le (tgt := 20) (pc := 13) dX10_doesRing_13 (by decide)) (fun _ => ?_) (fun _ => ?_)
  · refine ev_step (st_iconst (pc := 20) dX10_doesRing_20 ni_0) ?_
    exact ev_zret (pc := 21) dX10_doesRing_21
  · refine ev_step (st_iconst (pc := 16) dX10_doesRing_16 ni_1) ?_
    refine ev_step (st_goto (pc := 17) (tgt := 21) dX10_doesRing_17 (by decide)) ?_
    exact ev_zret (pc := 21) dX10_doesRing_21
set_option maxRecDepth 100000 in
set_option maxHeartbeats 4000000 in
theorem tX10_isOn (G : gx) (fu : Nat) (v0 : Nat) (v1 : Int32) (h : mh) : Ct lI G yX10_isOn cX10_isOn 2 (some .boolean) 1 [.ref (gB G + v0), .int v1] h (fX10_isOn fu v0 v1 h) := by
  refine ct_ls (ls := [(0, .ref (gB G + v0)), (1, .int v1)]) rfl (by decide) (Nat.le_of_ble_eq_true rfl) ?_
  unfold fX10_isOn
  refine ev_step (st_aload_n (pc := 0) (j := 0) dX10_isOn_0 rfl rfl) ?_
  refine ev_getR (pc := 1) k_X10_122 rfl dX10_isOn_1 (fun a1 => ?_)
  refine ev_step (st_bipush (pc := 4) dX10_isOn_4 nb_24) ?_
  refine ev_step (st_iload_n (pc := 6) (j := 1) dX10_isOn_6 rfl rfl) ?_
  refine ev_step (st_iadd (pc := 7) dX10_isOn_7) ?_
  refine ev_ldi (pc := 8) dX10_isOn_8 (fun x2 => ?_)
  refine ev_step (st_iconst (pc := 9) dX10_isOn_9 ni_1) ?_
  refine ev_br (br_icmp_ne (tgt := 17) (pc := 10) dX10_isOn_10 (by decide)) (fun _ => ?_) (fun _ => ?_)
  · refine ev_step (st_iconst (pc := 13) dX10_isOn_13 ni_1) ?_
    refine ev_step (st_goto (pc := 14) (tgt := 18) dX10_isOn_14 (by decide)) ?_
    exact ev_zret (pc := 18) dX10_isOn_18
  · refine ev_step (st_iconst (pc := 17) dX10_isOn_17 ni_0) ?_
    exact ev_zret (pc := 18) dX10_isOn_18
set_option maxRecDepth 100000 in
set_option maxHeartbeats 4000000 in
theorem tX10_hasDone (G : gx) (fu : Nat) (v0 : Nat) (v1 : Int32) (h : mh) : Ct lI G yX10_hasDone cX10_hasDone 2 (some .boolean) 1 [.ref (gB G + v0), .int v1] h (fX10_hasDone fu v0 v1 h) := by
  refine ct_ls (ls := [(0, .ref (gB G + v0)), (1, .int v1)]) rfl (by decide) (Nat.le_of_ble_eq_true rfl) ?_
  unfold fX10_hasDone
  refine ev_step (st_aload_n (pc := 0) (j := 0) dX10_hasDone_0 rfl rfl) ?_
  refine ev_getR (pc := 1) k_X10_61 rfl dX10_hasDone_1 (fun a1 => ?_)
  refine ev_step (st_bipush (pc := 4) dX10_hasDone_4 nb_6) ?_
  refine ev_step (st_aload_n (pc := 6) (j := 0) dX10_hasDone_6 rfl rfl) ?_
  refine ev_getI (pc := 7) k_X10_230 rfl dX10_hasDone_7 (fun x2 => ?_)
  refine ev_step (st_imul (pc := 10) dX10_hasDone_10) ?_
  refine ev_step (st_iload_n (pc := 11) (j := 1) dX10_hasDone_11 rfl rfl) ?_
  refine ev_step (st_iadd (pc := 12) dX10_hasDone_12) ?_
  refine ev_ldi (pc := 13) dX10_hasDone_13 (fun x3 => ?_)
  refine ev_step (st_aload_n (pc := 14) (j := 0) dX10_hasDone_14 rfl rfl) ?_
  refine ev_getR (pc := 15) k_X10_122 rfl dX10_hasDone_15 (fun a4 => ?_)
  refine ev_step (st_bipush (pc := 18) dX10_hasDone_18 nb_12) ?_
  refine ev_step (st_iload_n (pc := 20) (j := 1) dX10_hasDone_20 rfl rfl) ?_
  refine ev_step (st_iadd (pc := 21) dX10_hasDone_21) ?_
  refine ev_ldi (pc := 22) dX10_hasDone_22 (fun x5 => ?_)
  refine ev_step (st_iconst (pc := 23) dX10_hasDone_23 ni_m1) ?_
  refine ev_step (st_ixor (pc := 24) dX10_hasDone_24) ?_
  refine ev_step (st_iand (pc := 25) dX10_hasDone_25) ?_
  refine ev_br (br_if_ne (tgt := 33) (pc := 26) dX10_hasDone_26 (by decide)) (fun _ => ?_) (fun _ => ?_)
  · refine ev_step (st_iconst (pc := 29) dX10_hasDone_29 ni_1) ?_
    refine ev_step (st_goto (pc := 30) (tgt := 34) dX10_hasDone_30 (by decide)) ?_
    exact ev_zret (pc := 34) dX10_hasDone_34
  · refine ev_step (st_iconst (pc := 33) dX10_hasDone_33 ni_0) ?_
    exact ev_zret (pc := 34) dX10_hasDone_34
set_option maxRecDepth 100000 in
set_option maxHeartbeats 4000000 in
theorem tX10_doneBits_31 (G : gx) (fu : Nat) (h0 : mh) (v0 : Nat) (v1 : Int32) (v2 : Int32) (k4 : Int32 × Int32 × mh → Option (Int32 × mh)) (hk4 : ∀ (v1 : Int32) (v2 : Int32) (h : mh), Ev lI G yX10_doneBits cX10_doneBits 3 (some .int) 2 h0 4 [(0, .ref (gB G + v0)), (1, .int v1), (2, .int v2)] [] h (k4 (v1, v2, h))) (h : mh) : Ev lI G yX10_doneBits cX10_doneBits 3 (some .int) 2 h0 31 [(0, .ref (gB G + v0)), (1, .int v1), (2, .int v2)] [] h (fX10_doneBits_31 fu k4 v0 v1 v2 h) := by
  unfold fX10_doneBits_31
  refine ev_step (st_inc (pc := 31) (j := 2) (ls' := [(2, .int (v2 + (1 : Int32))), (0, .ref (gB G + v0)), (1, .int v1)]) dX10_doneBits_31 rfl ni_1 (by decide) rfl) ?_
  refine ev_step (st_goto (pc := 34) (tgt := 4) dX10_doneBits_34 (by decide)) ?_
  refine ev_sub (ls' := [(0, .ref (gB G + v0)), (1, .int v1), (2, .int (v2 + (1 : Int32)))]) [1, 2, 0] rfl ?_
  exact hk4 v1 (v2 + (1 : Int32)) h
set_option maxRecDepth 100000 in
set_option maxHeartbeats 4000000 in
theorem tX10_doneBits_4 (G : gx) (fu : Nat) (h0 : mh) (v0 : Nat) (n : Nat) (v1 : Int32) (v2 : Int32) (h : mh) : Ev lI G yX10_doneBits cX10_doneBits 3 (some .int) 2 h0 4 [(0, .ref (gB G + v0)), (1, .int v1), (2, .int v2)] [] h (itr (bX10_doneBits_4 fu v0) n (v1, v2, h)) := by
  refine ev_itr (P := fun (q : Int32 × Int32 × mh) (R9 : Option (Int32 × mh)) => Ev lI G yX10_doneBits cX10_doneBits 3 (some .int) 2 h0 4 [(0, .ref (gB G + v0)), (1, .int q.1), (2, .int q.2.1)] [] q.2.2 R9) (fun _ => ev_none) (fun k4 hk9 q => ?_) n (v1, v2, h)
  obtain ⟨v1, v2, h⟩ := q
  have hk4 : ∀ (v1 : Int32) (v2 : Int32) (h : mh), Ev lI G yX10_doneBits cX10_doneBits 3 (some .int) 2 h0 4 [(0, .ref (gB G + v0)), (1, .int v1), (2, .int v2)] [] h (k4 (v1, v2, h)) := fun v1 v2 h => hk9 (v1, v2, h)
  show Ev lI G yX10_doneBits cX10_doneBits 3 (some .int) 2 h0 4 [(0, .ref (gB G + v0)), (1, .int v1), (2, .int v2)] [] h (bX10_doneBits_4 fu v0 k4 (v1, v2, h))
  unfold bX10_doneBits_4
  refine ev_step (st_iload_n (pc := 4) (j := 2) dX10_doneBits_4 rfl rfl) ?_
  refine ev_step (st_aload_n (pc := 5) (j := 0) dX10_doneBits_5 rfl rfl) ?_
  refine ev_getR (pc := 6) k_X10_55 rfl dX10_doneBits_6 (fun a1 => ?_)
  refine ev_step (st_aload_n (pc := 9) (j := 0) dX10_doneBits_9 rfl rfl) ?_
  refine ev_getI (pc := 10) k_X10_230 rfl dX10_doneBits_10 (fun x2 => ?_)
  refine ev_ldi (pc := 13) dX10_doneBits_13 (fun x3 => ?_)
  refine ev_br (br_icmp_ge (tgt := 37) (pc := 14) dX10_doneBits_14 (by decide)) (fun _ => ?_) (fun _ => ?_)
  · refine ev_step (st_iload_n (pc := 37) (j := 1) dX10_doneBits_37 rfl rfl) ?_
    exact ev_iret (pc := 38) dX10_doneBits_38
  · refine ev_step (st_aload_n (pc := 17) (j := 0) dX10_doneBits_17 rfl rfl) ?_
    refine ev_step (st_iload_n (pc := 18) (j := 2) dX10_doneBits_18 rfl rfl) ?_
    refine ev_ck (fun ha hS => ?_)
    refine ev_callI (iv_V (As := [.int v2]) (st := []) (pc := 19) rfl m_X10_hasDone l_X10_350 i_X10_hasDone e_X10_hasDone ha hS rfl (Nat.le_of_ble_eq_true rfl) rfl dX10_doneBits_19) (tX10_hasDone G fu v0 v2 h) (by decide) (by decide) (fun x5 h4 => ?_)
    refine ev_br (br_if_eq (tgt := 31) (pc := 22) dX10_doneBits_22 (by decide)) (fun _ => ?_) (fun _ => ?_)
    · refine ev_sub (ls' := [(0, .ref (gB G + v0)), (1, .int v1), (2, .int v2)]) [0, 1, 2] rfl ?_
      exact tX10_doneBits_31 G fu h0 v0 v1 v2 k4 hk4 h4
    · refine ev_step (st_iload_n (pc := 25) (j := 1) dX10_doneBits_25 rfl rfl) ?_
      refine ev_step (st_iconst (pc := 26) dX10_doneBits_26 ni_1) ?_
      refine ev_step (st_iload_n (pc := 27) (j := 2) dX10_doneBits_27 rfl rfl) ?_
      refine ev_step (st_ishl (pc := 28) dX10_doneBits_28) ?_
      refine ev_step (st_ior (pc := 29) dX10_doneBits_29) ?_
      refine ev_top (fun x6 => ?_)
      refine ev_step (st_istore_n (pc := 30) (ls' := [(1, .int x6), (0, .ref (gB G + v0)), (2, .int v2)]) dX10_doneBits_30 rfl (by decide) rfl) ?_
      refine ev_sub (ls' := [(0, .ref (gB G + v0)), (1, .int x6), (2, .int v2)]) [1, 0, 2] rfl ?_
      exact tX10_doneBits_31 G fu h0 v0 x6 v2 k4 hk4 h4
set_option maxRecDepth 100000 in
set_option maxHeartbeats 4000000 in
theorem tX10_doneBits (G : gx) (fu : Nat) (v0 : Nat) (h : mh) : Ct lI G yX10_doneBits cX10_doneBits 3 (some .int) 2 [.ref (gB G + v0)] h (fX10_doneBits fu v0 h) := by
  refine ct_ls (ls := [(0, .ref (gB G + v0))]) rfl (by decide) (Nat.le_of_ble_eq_true rfl) ?_
  unfold fX10_doneBits
  refine ev_step (st_iconst (pc := 0) dX10_doneBits_0 ni_0) ?_
  refine ev_step (st_istore_n (pc := 1) (ls' := [(1, .int ((0 : Int32))), (0, .ref (gB G + v0))]) dX10_doneBits_1 rfl (by decide) rfl) ?_
  refine ev_step (st_iconst (pc := 2) dX10_doneBits_2 ni_0) ?_
  refine ev_step (st_istore_n (pc := 3) (ls' := [(2, .int ((0 : Int32))), (1, .int ((0 : Int32))), (0, .ref (gB G + v0))]) dX10_doneBits_3 rfl (by decide) rfl) ?_
  refine ev_sub (ls' := [(0, .ref (gB G + v0)), (1, .int ((0 : Int32))), (2, .int ((0 : Int32)))]) [2, 1, 0] rfl ?_
  exact tX10_doneBits_4 G fu h v0 fu ((0 : Int32)) ((0 : Int32)) h
set_option maxRecDepth 100000 in
set_option maxHeartbeats 4000000 in
theorem tX10_sumOf_4 (G : gx) (fu : Nat) (h0 : mh) (v0 : Nat) (v1 : Int32) (n : Nat) (v2 : Int32) (v3 : Int32) (h : mh) : Ev lI G yX10_sumOf cX10_sumOf 4 (some .int) 1 h0 4 [(0, .ref (gB G + v0)), (1, .int v1), (2, .int v2), (3, .int v3)] [] h (itr (bX10_sumOf_4 fu v0 v1) n (v2, v3, h)) := by
  refine ev_itr (P := fun (q : Int32 × Int32 × mh) (R9 : Option (Int32 × mh)) => Ev lI G yX10_sumOf cX10_sumOf 4 (some .int) 1 h0 4 [(0, .ref (gB G + v0)), (1, .int v1), (2, .int q.1), (3, .int q.2.1)] [] q.2.2 R9) (fun _ => ev_none) (fun k4 hk9 q => ?_) n (v2, v3, h)
  obtain ⟨v2, v3, h⟩ := q
  have hk4 : ∀ (v2 : Int32) (v3 : Int32) (h : mh), Ev lI G yX10_sumOf cX10_sumOf 4 (some .int) 1 h0 4 [(0, .ref (gB G + v0)), (1, .int v1), (2, .int v2), (3, .int v3)] [] h (k4 (v2, v3, h)) := fun v2 v3 h => hk9 (v2, v3, h)
  show Ev lI G yX10_sumOf cX10_sumOf 4 (some .int) 1 h0 4 [(0, .ref (gB G + v0)), (1, .int v1), (2, .int v2), (3, .int v3)] [] h (bX10_sumOf_4 fu v0 v1 k4 (v2, v3, h))
  unfold bX10_sumOf_4
  refine ev_step (st_iload_n (pc := 4) (j := 3) dX10_sumOf_4 rfl rfl) ?_
  refine ev_step (st_iload_n (pc := 5) (j := 1) dX10_sumOf_5 rfl rfl) ?_
  refine ev_step (st_bipush (pc := 6) dX10_sumOf_6 nb_6) ?_
  refine ev_step (st_iadd (pc := 8) dX10_sumOf_8) ?_
  refine ev_br (br_icmp_ge (tgt := 27) (pc := 9) dX10_sumOf_9 (by decide)) (fun _ => ?_) (fun _ => ?_)
  · refine ev_step (st_iload_n (pc := 27) (j := 2) dX10_sumOf_27 rfl rfl) ?_
    exact ev_iret (pc := 28) dX10_sumOf_28
  · refine ev_step (st_iload_n (pc := 12) (j := 2) dX10_sumOf_12 rfl rfl) ?_
    refine ev_step (st_aload_n (pc := 13) (j := 0) dX10_sumOf_13 rfl rfl) ?_
    refine ev_getR (pc := 14) k_X10_122 rfl dX10_sumOf_14 (fun a1 => ?_)
    refine ev_step (st_iload_n (pc := 17) (j := 3) dX10_sumOf_17 rfl rfl) ?_
    refine ev_ldi (pc := 18) dX10_sumOf_18 (fun x2 => ?_)
    refine ev_step (st_iadd (pc := 19) dX10_sumOf_19) ?_
    refine ev_top (fun x3 => ?_)
    refine ev_step (st_istore_n (pc := 20) (ls' := [(2, .int x3), (0, .ref (gB G + v0)), (1, .int v1), (3, .int v3)]) dX10_sumOf_20 rfl (by decide) rfl) ?_
    refine ev_step (st_inc (pc := 21) (j := 3) (ls' := [(3, .int (v3 + (1 : Int32))), (2, .int x3), (0, .ref (gB G + v0)), (1, .int v1)]) dX10_sumOf_21 rfl ni_1 (by decide) rfl) ?_
    refine ev_step (st_goto (pc := 24) (tgt := 4) dX10_sumOf_24 (by decide)) ?_
    refine ev_sub (ls' := [(0, .ref (gB G + v0)), (1, .int v1), (2, .int x3), (3, .int (v3 + (1 : Int32)))]) [2, 3, 1, 0] rfl ?_
    exact hk4 x3 (v3 + (1 : Int32)) h
set_option maxRecDepth 100000 in
set_option maxHeartbeats 4000000 in
theorem tX10_sumOf (G : gx) (fu : Nat) (v0 : Nat) (v1 : Int32) (h : mh) : Ct lI G yX10_sumOf cX10_sumOf 4 (some .int) 1 [.ref (gB G + v0), .int v1] h (fX10_sumOf fu v0 v1 h) := by
  refine ct_ls (ls := [(0, .ref (gB G + v0)), (1, .int v1)]) rfl (by decide) (Nat.le_of_ble_eq_true rfl) ?_
  unfold fX10_sumOf
  refine ev_step (st_iconst (pc := 0) dX10_sumOf_0 ni_0) ?_
  refine ev_step (st_istore_n (pc := 1) (ls' := [(2, .int ((0 : Int32))), (0, .ref (gB G + v0)), (1, .int v1)]) dX10_sumOf_1 rfl (by decide) rfl) ?_
  refine ev_step (st_iload_n (pc := 2) (j := 2) dX10_sumOf_2 rfl rfl) ?_
  refine ev_step (st_istore_n (pc := 3) (ls' := [(3, .int v1), (2, .int ((0 : Int32))), (0, .ref (gB G + v0)), (1, .int v1)]) dX10_sumOf_3 rfl (by decide) rfl) ?_
  refine ev_sub (ls' := [(0, .ref (gB G + v0)), (1, .int v1), (2, .int ((0 : Int32))), (3, .int v1)]) [2, 3, 1, 0] rfl ?_
  exact tX10_sumOf_4 G fu h v0 v1 fu ((0 : Int32)) v1 h
set_option maxRecDepth 100000 in
set_option maxHeartbeats 4000000 in
theorem tX10_knownMany_4 (G : gx) (fu : Nat) (h0 : mh) (v0 : Nat) (n : Nat) (v1 : Int32) (v2 : Int32) (h : mh) : Ev lI G yX10_knownMany cX10_knownMany 3 (some .int) 2 h0 4 [(0, .ref (gB G + v0)), (1, .int v1), (2, .int v2)] [] h (itr (bX10_knownMany_4 fu v0) n (v1, v2, h)) := by
  refine ev_itr (P := fun (q : Int32 × Int32 × mh) (R9 : Option (Int32 × mh)) => Ev lI G yX10_knownMany cX10_knownMany 3 (some .int) 2 h0 4 [(0, .ref (gB G + v0)), (1, .int q.1), (2, .int q.2.1)] [] q.2.2 R9) (fun _ => ev_none) (fun k4 hk9 q => ?_) n (v1, v2, h)
  obtain ⟨v1, v2, h⟩ := q
  have hk4 : ∀ (v1 : Int32) (v2 : Int32) (h : mh), Ev lI G yX10_knownMany cX10_knownMany 3 (some .int) 2 h0 4 [(0, .ref (gB G + v0)), (1, .int v1), (2, .int v2)] [] h (k4 (v1, v2, h)) := fun v1 v2 h => hk9 (v1, v2, h)
  show Ev lI G yX10_knownMany cX10_knownMany 3 (some .int) 2 h0 4 [(0, .ref (gB G + v0)), (1, .int v1), (2, .int v2)] [] h (bX10_knownMany_4 fu v0 k4 (v1, v2, h))
  unfold bX10_knownMany_4
  refine ev_step (st_iload_n (pc := 4) (j := 2) dX10_knownMany_4 rfl rfl) ?_
  refine ev_step (st_aload_n (pc := 5) (j := 0) dX10_knownMany_5 rfl rfl) ?_
  refine ev_getR (pc := 6) k_X10_55 rfl dX10_knownMany_6 (fun a1 => ?_)
  refine ev_step (st_aload_n (pc := 9) (j := 0) dX10_knownMany_9 rfl rfl) ?_
  refine ev_getI (pc := 10) k_X10_230 rfl dX10_knownMany_10 (fun x2 => ?_)
  refine ev_ldi (pc := 13) dX10_knownMany_13 (fun x3 => ?_)
  refine ev_br (br_icmp_ge (tgt := 38) (pc := 14) dX10_knownMany_14 (by decide)) (fun _ => ?_) (fun _ => ?_)
  · refine ev_step (st_iload_n (pc := 38) (j := 1) dX10_knownMany_38 rfl rfl) ?_
    exact ev_iret (pc := 39) dX10_knownMany_39
  · refine ev_step (st_iload_n (pc := 17) (j := 1) dX10_knownMany_17 rfl rfl) ?_
    refine ev_step (st_aload_n (pc := 18) (j := 0) dX10_knownMany_18 rfl rfl) ?_
    refine ev_getR (pc := 19) k_X10_122 rfl dX10_knownMany_19 (fun a4 => ?_)
    refine ev_step (st_bipush (pc := 22) dX10_knownMany_22 nb_12) ?_
    refine ev_step (st_iload_n (pc := 24) (j := 2) dX10_knownMany_24 rfl rfl) ?_
    refine ev_step (st_iadd (pc := 25) dX10_knownMany_25) ?_
    refine ev_ldi (pc := 26) dX10_knownMany_26 (fun x5 => ?_)
    refine ev_callI (iv_S (As := [.int x5]) (st := [.int v1]) (pc := 27) m_X10_bits l_X10_336 z_X10_bits rfl (Nat.le_of_ble_eq_true rfl) rfl dX10_knownMany_27) (tX10_bits G fu x5 h) (by decide) (by decide) (fun x7 h6 => ?_)
    refine ev_step (st_iadd (pc := 30) dX10_knownMany_30) ?_
    refine ev_top (fun x8 => ?_)
    refine ev_step (st_istore_n (pc := 31) (ls' := [(1, .int x8), (0, .ref (gB G + v0)), (2, .int v2)]) dX10_knownMany_31 rfl (by decide) rfl) ?_
    refine ev_step (st_inc (pc := 32) (j := 2) (ls' := [(2, .int (v2 + (1 : Int32))), (1, .int x8), (0, .ref (gB G + v0))]) dX10_knownMany_32 rfl ni_1 (by decide) rfl) ?_
    refine ev_step (st_goto (pc := 35) (tgt := 4) dX10_knownMany_35 (by decide)) ?_
    refine ev_sub (ls' := [(0, .ref (gB G + v0)), (1, .int x8), (2, .int (v2 + (1 : Int32)))]) [2, 1, 0] rfl ?_
    exact hk4 x8 (v2 + (1 : Int32)) h6
set_option maxRecDepth 100000 in
set_option maxHeartbeats 4000000 in
theorem tX10_knownMany (G : gx) (fu : Nat) (v0 : Nat) (h : mh) : Ct lI G yX10_knownMany cX10_knownMany 3 (some .int) 2 [.ref (gB G + v0)] h (fX10_knownMany fu v0 h) := by
  refine ct_ls (ls := [(0, .ref (gB G + v0))]) rfl (by decide) (Nat.le_of_ble_eq_true rfl) ?_
  unfold fX10_knownMany
  refine ev_step (st_iconst (pc := 0) dX10_knownMany_0 ni_0) ?_
  refine ev_step (st_istore_n (pc := 1) (ls' := [(1, .int ((0 : Int32))), (0, .ref (gB G + v0))]) dX10_knownMany_1 rfl (by decide) rfl) ?_
  refine ev_step (st_iconst (pc := 2) dX10_knownMany_2 ni_0) ?_
  refine ev_step (st_istore_n (pc := 3) (ls' := [(2, .int ((0 : Int32))), (1, .int ((0 : Int32))), (0, .ref (gB G + v0))]) dX10_knownMany_3 rfl (by decide) rfl) ?_
  refine ev_sub (ls' := [(0, .ref (gB G + v0)), (1, .int ((0 : Int32))), (2, .int ((0 : Int32)))]) [2, 1, 0] rfl ?_
  exact tX10_knownMany_4 G fu h v0 fu ((0 : Int32)) ((0 : Int32)) h
set_option maxRecDepth 100000 in
set_option maxHeartbeats 4000000 in
theorem tX10_isHeard_84 (G : gx) (fu : Nat) (h0 : mh) (v0 : Nat) (v1 : Int32) (v2 : Int32) (v3 : Int32) (k13 : Int32 × mh → Option (Unit × mh)) (hk13 : ∀ (v3 : Int32) (h : mh), Ev lV G yX10_isHeard cX10_isHeard 4 (none) 4 h0 13 [(0, .ref (gB G + v0)), (1, .int v1), (2, .int v2), (3, .int v3)] [] h (k13 (v3, h))) (h : mh) : Ev lV G yX10_isHeard cX10_isHeard 4 (none) 4 h0 84 [(0, .ref (gB G + v0)), (1, .int v1), (2, .int v2), (3, .int v3)] [] h (fX10_isHeard_84 fu k13 v0 v1 v2 v3 h) := by
  unfold fX10_isHeard_84
  refine ev_step (st_inc (pc := 84) (j := 3) (ls' := [(3, .int (v3 + (1 : Int32))), (0, .ref (gB G + v0)), (1, .int v1), (2, .int v2)]) dX10_isHeard_84 rfl ni_1 (by decide) rfl) ?_
  refine ev_step (st_goto (pc := 87) (tgt := 13) dX10_isHeard_87 (by decide)) ?_
  refine ev_sub (ls' := [(0, .ref (gB G + v0)), (1, .int v1), (2, .int v2), (3, .int (v3 + (1 : Int32)))]) [1, 2, 3, 0] rfl ?_
  exact hk13 (v3 + (1 : Int32)) h
set_option maxRecDepth 100000 in
set_option maxHeartbeats 4000000 in
theorem tX10_isHeard_169 (G : gx) (fu : Nat) (h0 : mh) (v0 : Nat) (v1 : Int32) (v2 : Int32) (v3 : Int32) (k92 : Int32 × mh → Option (Unit × mh)) (hk92 : ∀ (v3 : Int32) (h : mh), Ev lV G yX10_isHeard cX10_isHeard 4 (none) 4 h0 92 [(0, .ref (gB G + v0)), (1, .int v1), (2, .int v2), (3, .int v3)] [] h (k92 (v3, h))) (h : mh) : Ev lV G yX10_isHeard cX10_isHeard 4 (none) 4 h0 169 [(0, .ref (gB G + v0)), (1, .int v1), (2, .int v2), (3, .int v3)] [] h (fX10_isHeard_169 fu k92 v0 v1 v2 v3 h) := by
  unfold fX10_isHeard_169
  refine ev_step (st_inc (pc := 169) (j := 3) (ls' := [(3, .int (v3 + (1 : Int32))), (0, .ref (gB G + v0)), (1, .int v1), (2, .int v2)]) dX10_isHeard_169 rfl ni_1 (by decide) rfl) ?_
  refine ev_step (st_goto (pc := 172) (tgt := 92) dX10_isHeard_172 (by decide)) ?_
  refine ev_sub (ls' := [(0, .ref (gB G + v0)), (1, .int v1), (2, .int v2), (3, .int (v3 + (1 : Int32)))]) [1, 2, 3, 0] rfl ?_
  exact hk92 (v3 + (1 : Int32)) h
set_option maxRecDepth 100000 in
set_option maxHeartbeats 4000000 in
theorem tX10_isHeard_138 (G : gx) (fu : Nat) (h0 : mh) (v0 : Nat) (v1 : Int32) (v2 : Int32) (v3 : Int32) (k92 : Int32 × mh → Option (Unit × mh)) (hk92 : ∀ (v3 : Int32) (h : mh), Ev lV G yX10_isHeard cX10_isHeard 4 (none) 4 h0 92 [(0, .ref (gB G + v0)), (1, .int v1), (2, .int v2), (3, .int v3)] [] h (k92 (v3, h))) (h : mh) : Ev lV G yX10_isHeard cX10_isHeard 4 (none) 4 h0 138 [(0, .ref (gB G + v0)), (1, .int v1), (2, .int v2), (3, .int v3)] [] h (fX10_isHeard_138 fu k92 v0 v1 v2 v3 h) := by
  unfold fX10_isHeard_138
  refine ev_step (st_aload_n (pc := 138) (j := 0) dX10_isHeard_138 rfl rfl) ?_
  refine ev_getR (pc := 139) k_X10_122 rfl dX10_isHeard_139 (fun a1 => ?_)
  refine ev_step (st_bipush (pc := 142) dX10_isHeard_142 nb_18) ?_
  refine ev_step (st_iload_n (pc := 144) (j := 3) dX10_isHeard_144 rfl rfl) ?_
  refine ev_step (st_iadd (pc := 145) dX10_isHeard_145) ?_
  refine ev_step (st_aload_n (pc := 146) (j := 0) dX10_isHeard_146 rfl rfl) ?_
  refine ev_getR (pc := 147) k_X10_122 rfl dX10_isHeard_147 (fun a2 => ?_)
  refine ev_step (st_bipush (pc := 150) dX10_isHeard_150 nb_18) ?_
  refine ev_step (st_iload_n (pc := 152) (j := 3) dX10_isHeard_152 rfl rfl) ?_
  refine ev_step (st_iadd (pc := 153) dX10_isHeard_153) ?_
  refine ev_ldi (pc := 154) dX10_isHeard_154 (fun x3 => ?_)
  refine ev_step (st_aload_n (pc := 155) (j := 0) dX10_isHeard_155 rfl rfl) ?_
  refine ev_getR (pc := 156) k_X10_128 rfl dX10_isHeard_156 (fun a4 => ?_)
  refine ev_step (st_iload_n (pc := 159) (j := 3) dX10_isHeard_159 rfl rfl) ?_
  refine ev_ldi (pc := 160) dX10_isHeard_160 (fun x5 => ?_)
  refine ev_step (st_iadd (pc := 161) dX10_isHeard_161) ?_
  refine ev_step (st_iconst (pc := 162) dX10_isHeard_162 ni_0) ?_
  refine ev_step (st_bipush (pc := 163) dX10_isHeard_163 nb_99) ?_
  refine ev_callI (iv_S (As := [.int (x3 + x5), .int ((0 : Int32)), .int ((99 : Int32))]) (st := [.int (((18 : Int32)) + v3), .ref (gB G + a1)]) (pc := 165) m_X10_within l_X10_347 z_X10_within rfl (Nat.le_of_ble_eq_true rfl) rfl dX10_isHeard_165) (tX10_within G fu (x3 + x5) ((0 : Int32)) ((99 : Int32)) h) (by decide) (by decide) (fun x7 h6 => ?_)
  refine ev_sti (pc := 168) dX10_isHeard_168 (fun h8 => ?_)
  refine ev_sub (ls' := [(0, .ref (gB G + v0)), (1, .int v1), (2, .int v2), (3, .int v3)]) [0, 1, 2, 3] rfl ?_
  exact tX10_isHeard_169 G fu h0 v0 v1 v2 v3 k92 hk92 h8
set_option maxRecDepth 100000 in
set_option maxHeartbeats 4000000 in
theorem tX10_isHeard_175 (G : gx) (fu : Nat) (h0 : mh) (v0 : Nat) (v1 : Int32) (v2 : Int32) (v3 : Int32) (h : mh) : Ev lV G yX10_isHeard cX10_isHeard 4 (none) 4 h0 175 [(0, .ref (gB G + v0)), (1, .int v1), (2, .int v2), (3, .int v3)] [] h (fX10_isHeard_175 fu v0 v1 v2 v3 h) := by
  unfold fX10_isHeard_175
  refine ev_step (st_aload_n (pc := 175) (j := 0) dX10_isHeard_175 rfl rfl) ?_
  refine ev_getR (pc := 176) k_X10_122 rfl dX10_isHeard_176 (fun a1 => ?_)
  refine ev_step (st_iload_n (pc := 179) (j := 1) dX10_isHeard_179 rfl rfl) ?_
  refine ev_step (st_dup2 (pc := 180) dX10_isHeard_180 rfl rfl) ?_
  refine ev_ldi (pc := 181) dX10_isHeard_181 (fun x2 => ?_)
  refine ev_step (st_iconst (pc := 182) dX10_isHeard_182 ni_1) ?_
  refine ev_step (st_iadd (pc := 183) dX10_isHeard_183) ?_
  refine ev_sti (pc := 184) dX10_isHeard_184 (fun h3 => ?_)
  exact ev_vret (pc := 185) dX10_isHeard_185
set_option maxRecDepth 100000 in
set_option maxHeartbeats 4000000 in
theorem tX10_isHeard_92 (G : gx) (fu : Nat) (h0 : mh) (v0 : Nat) (v1 : Int32) (v2 : Int32) (n : Nat) (v3 : Int32) (h : mh) : Ev lV G yX10_isHeard cX10_isHeard 4 (none) 4 h0 92 [(0, .ref (gB G + v0)), (1, .int v1), (2, .int v2), (3, .int v3)] [] h (itr (bX10_isHeard_92 fu v0 v1 v2) n (v3, h)) := by
  refine ev_itr (P := fun (q : Int32 × mh) (R9 : Option (Unit × mh)) => Ev lV G yX10_isHeard cX10_isHeard 4 (none) 4 h0 92 [(0, .ref (gB G + v0)), (1, .int v1), (2, .int v2), (3, .int q.1)] [] q.2 R9) (fun _ => ev_none) (fun k92 hk9 q => ?_) n (v3, h)
  obtain ⟨v3, h⟩ := q
  have hk92 : ∀ (v3 : Int32) (h : mh), Ev lV G yX10_isHeard cX10_isHeard 4 (none) 4 h0 92 [(0, .ref (gB G + v0)), (1, .int v1), (2, .int v2), (3, .int v3)] [] h (k92 (v3, h)) := fun v3 h => hk9 (v3, h)
  show Ev lV G yX10_isHeard cX10_isHeard 4 (none) 4 h0 92 [(0, .ref (gB G + v0)), (1, .int v1), (2, .int v2), (3, .int v3)] [] h (bX10_isHeard_92 fu v0 v1 v2 k92 (v3, h))
  unfold bX10_isHeard_92
  refine ev_step (st_iload_n (pc := 92) (j := 3) dX10_isHeard_92 rfl rfl) ?_
  refine ev_step (st_aload_n (pc := 93) (j := 0) dX10_isHeard_93 rfl rfl) ?_
  refine ev_getR (pc := 94) k_X10_55 rfl dX10_isHeard_94 (fun a1 => ?_)
  refine ev_step (st_aload_n (pc := 97) (j := 0) dX10_isHeard_97 rfl rfl) ?_
  refine ev_getI (pc := 98) k_X10_230 rfl dX10_isHeard_98 (fun x2 => ?_)
  refine ev_ldi (pc := 101) dX10_isHeard_101 (fun x3 => ?_)
  refine ev_br (br_icmp_ge (tgt := 175) (pc := 102) dX10_isHeard_102 (by decide)) (fun _ => ?_) (fun _ => ?_)
  · refine ev_sub (ls' := [(0, .ref (gB G + v0)), (1, .int v1), (2, .int v2), (3, .int v3)]) [0, 1, 2, 3] rfl ?_
    exact tX10_isHeard_175 G fu h0 v0 v1 v2 v3 h
  · refine ev_step (st_aload_n (pc := 105) (j := 0) dX10_isHeard_105 rfl rfl) ?_
    refine ev_step (st_iload_n (pc := 106) (j := 3) dX10_isHeard_106 rfl rfl) ?_
    refine ev_ck (fun ha hS => ?_)
    refine ev_callI (iv_V (As := [.int v3]) (st := []) (pc := 107) rfl m_X10_isOn l_X10_365 i_X10_isOn e_X10_isOn ha hS rfl (Nat.le_of_ble_eq_true rfl) rfl dX10_isHeard_107) (tX10_isOn G fu v0 v3 h) (by decide) (by decide) (fun x5 h4 => ?_)
    refine ev_br (br_if_ne (tgt := 116) (pc := 110) dX10_isHeard_110 (by decide)) (fun _ => ?_) (fun _ => ?_)
    · refine ev_step (st_goto (pc := 113) (tgt := 169) dX10_isHeard_113 (by decide)) ?_
      refine ev_sub (ls' := [(0, .ref (gB G + v0)), (1, .int v1), (2, .int v2), (3, .int v3)]) [0, 1, 2, 3] rfl ?_
      exact tX10_isHeard_169 G fu h0 v0 v1 v2 v3 k92 hk92 h4
    · refine ev_step (st_aload_n (pc := 116) (j := 0) dX10_isHeard_116 rfl rfl) ?_
      refine ev_getR (pc := 117) k_X10_125 rfl dX10_isHeard_117 (fun a6 => ?_)
      refine ev_step (st_iload_n (pc := 120) (j := 3) dX10_isHeard_120 rfl rfl) ?_
      refine ev_ldz (pc := 121) dX10_isHeard_121 (fun x7 => ?_)
      refine ev_br (br_if_eq (tgt := 138) (pc := 122) dX10_isHeard_122 (by decide)) (fun _ => ?_) (fun _ => ?_)
      · refine ev_sub (ls' := [(0, .ref (gB G + v0)), (1, .int v1), (2, .int v2), (3, .int v3)]) [0, 1, 2, 3] rfl ?_
        exact tX10_isHeard_138 G fu h0 v0 v1 v2 v3 k92 hk92 h4
      · refine ev_step (st_aload_n (pc := 125) (j := 0) dX10_isHeard_125 rfl rfl) ?_
        refine ev_getR (pc := 126) k_X10_122 rfl dX10_isHeard_126 (fun a8 => ?_)
        refine ev_step (st_bipush (pc := 129) dX10_isHeard_129 nb_12) ?_
        refine ev_step (st_iload_n (pc := 131) (j := 3) dX10_isHeard_131 rfl rfl) ?_
        refine ev_step (st_iadd (pc := 132) dX10_isHeard_132) ?_
        refine ev_step (st_dup2 (pc := 133) dX10_isHeard_133 rfl rfl) ?_
        refine ev_ldi (pc := 134) dX10_isHeard_134 (fun x9 => ?_)
        refine ev_step (st_iload_n (pc := 135) (j := 2) dX10_isHeard_135 rfl rfl) ?_
        refine ev_step (st_ior (pc := 136) dX10_isHeard_136) ?_
        refine ev_sti (pc := 137) dX10_isHeard_137 (fun h10 => ?_)
        refine ev_sub (ls' := [(0, .ref (gB G + v0)), (1, .int v1), (2, .int v2), (3, .int v3)]) [0, 1, 2, 3] rfl ?_
        exact tX10_isHeard_138 G fu h0 v0 v1 v2 v3 k92 hk92 h10
set_option maxRecDepth 100000 in
set_option maxHeartbeats 4000000 in
theorem tX10_isHeard_90 (G : gx) (fu : Nat) (h0 : mh) (v0 : Nat) (v1 : Int32) (v2 : Int32) (v3 : Int32) (h : mh) : Ev lV G yX10_isHeard cX10_isHeard 4 (none) 4 h0 90 [(0, .ref (gB G + v0)), (1, .int v1), (2, .int v2), (3, .int v3)] [] h (fX10_isHeard_90 fu v0 v1 v2 v3 h) := by
  unfold fX10_isHeard_90
  refine ev_step (st_iconst (pc := 90) dX10_isHeard_90 ni_0) ?_
  refine ev_step (st_istore_n (pc := 91) (ls' := [(3, .int ((0 : Int32))), (0, .ref (gB G + v0)), (1, .int v1), (2, .int v2)]) dX10_isHeard_91 rfl (by decide) rfl) ?_
  refine ev_sub (ls' := [(0, .ref (gB G + v0)), (1, .int v1), (2, .int v2), (3, .int ((0 : Int32)))]) [1, 2, 3, 0] rfl ?_
  exact tX10_isHeard_92 G fu h0 v0 v1 v2 fu ((0 : Int32)) h
set_option maxRecDepth 100000 in
set_option maxHeartbeats 4000000 in
theorem tX10_isHeard_13 (G : gx) (fu : Nat) (h0 : mh) (v0 : Nat) (v1 : Int32) (v2 : Int32) (n : Nat) (v3 : Int32) (h : mh) : Ev lV G yX10_isHeard cX10_isHeard 4 (none) 4 h0 13 [(0, .ref (gB G + v0)), (1, .int v1), (2, .int v2), (3, .int v3)] [] h (itr (bX10_isHeard_13 fu v0 v1 v2) n (v3, h)) := by
  refine ev_itr (P := fun (q : Int32 × mh) (R9 : Option (Unit × mh)) => Ev lV G yX10_isHeard cX10_isHeard 4 (none) 4 h0 13 [(0, .ref (gB G + v0)), (1, .int v1), (2, .int v2), (3, .int q.1)] [] q.2 R9) (fun _ => ev_none) (fun k13 hk9 q => ?_) n (v3, h)
  obtain ⟨v3, h⟩ := q
  have hk13 : ∀ (v3 : Int32) (h : mh), Ev lV G yX10_isHeard cX10_isHeard 4 (none) 4 h0 13 [(0, .ref (gB G + v0)), (1, .int v1), (2, .int v2), (3, .int v3)] [] h (k13 (v3, h)) := fun v3 h => hk9 (v3, h)
  show Ev lV G yX10_isHeard cX10_isHeard 4 (none) 4 h0 13 [(0, .ref (gB G + v0)), (1, .int v1), (2, .int v2), (3, .int v3)] [] h (bX10_isHeard_13 fu v0 v1 v2 k13 (v3, h))
  unfold bX10_isHeard_13
  refine ev_step (st_iload_n (pc := 13) (j := 3) dX10_isHeard_13 rfl rfl) ?_
  refine ev_step (st_aload_n (pc := 14) (j := 0) dX10_isHeard_14 rfl rfl) ?_
  refine ev_getR (pc := 15) k_X10_55 rfl dX10_isHeard_15 (fun a1 => ?_)
  refine ev_step (st_aload_n (pc := 18) (j := 0) dX10_isHeard_18 rfl rfl) ?_
  refine ev_getI (pc := 19) k_X10_230 rfl dX10_isHeard_19 (fun x2 => ?_)
  refine ev_ldi (pc := 22) dX10_isHeard_22 (fun x3 => ?_)
  refine ev_br (br_icmp_ge (tgt := 90) (pc := 23) dX10_isHeard_23 (by decide)) (fun _ => ?_) (fun _ => ?_)
  · refine ev_sub (ls' := [(0, .ref (gB G + v0)), (1, .int v1), (2, .int v2), (3, .int v3)]) [0, 1, 2, 3] rfl ?_
    exact tX10_isHeard_90 G fu h0 v0 v1 v2 v3 h
  · refine ev_step (st_aload_n (pc := 26) (j := 0) dX10_isHeard_26 rfl rfl) ?_
    refine ev_getR (pc := 27) k_X10_125 rfl dX10_isHeard_27 (fun a4 => ?_)
    refine ev_step (st_iload_n (pc := 30) (j := 3) dX10_isHeard_30 rfl rfl) ?_
    refine ev_step (st_aload_n (pc := 31) (j := 0) dX10_isHeard_31 rfl rfl) ?_
    refine ev_step (st_iload_n (pc := 32) (j := 3) dX10_isHeard_32 rfl rfl) ?_
    refine ev_step (st_iload_n (pc := 33) (j := 1) dX10_isHeard_33 rfl rfl) ?_
    refine ev_step (st_iload_n (pc := 34) (j := 2) dX10_isHeard_34 rfl rfl) ?_
    refine ev_ck (fun ha hS => ?_)
    refine ev_callI (iv_V (As := [.int v3, .int v1, .int v2]) (st := [.int v3, .ref (gB G + a4)]) (pc := 35) rfl m_X10_doesTrust l_X10_359 i_X10_doesTrust e_X10_doesTrust ha hS rfl (Nat.le_of_ble_eq_true rfl) rfl dX10_isHeard_35) (tX10_doesTrust G fu v0 v3 v1 v2 h) (by decide) (by decide) (fun x6 h5 => ?_)
    refine ev_stz (pc := 38) dX10_isHeard_38 (fun h7 => ?_)
    refine ev_step (st_aload_n (pc := 39) (j := 0) dX10_isHeard_39 rfl rfl) ?_
    refine ev_getR (pc := 40) k_X10_128 rfl dX10_isHeard_40 (fun a8 => ?_)
    refine ev_step (st_iload_n (pc := 43) (j := 3) dX10_isHeard_43 rfl rfl) ?_
    refine ev_step (st_aload_n (pc := 44) (j := 0) dX10_isHeard_44 rfl rfl) ?_
    refine ev_step (st_iload_n (pc := 45) (j := 3) dX10_isHeard_45 rfl rfl) ?_
    refine ev_step (st_iload_n (pc := 46) (j := 1) dX10_isHeard_46 rfl rfl) ?_
    refine ev_step (st_iload_n (pc := 47) (j := 2) dX10_isHeard_47 rfl rfl) ?_
    refine ev_ck (fun ha hS => ?_)
    refine ev_callI (iv_V (As := [.int v3, .int v1, .int v2]) (st := [.int v3, .ref (gB G + a8)]) (pc := 48) rfl m_X10_movesBy l_X10_362 i_X10_movesBy e_X10_movesBy ha hS rfl (Nat.le_of_ble_eq_true rfl) rfl dX10_isHeard_48) (tX10_movesBy G fu v0 v3 v1 v2 h7) (by decide) (by decide) (fun x10 h9 => ?_)
    refine ev_sti (pc := 51) dX10_isHeard_51 (fun h11 => ?_)
    refine ev_step (st_aload_n (pc := 52) (j := 0) dX10_isHeard_52 rfl rfl) ?_
    refine ev_step (st_iload_n (pc := 53) (j := 3) dX10_isHeard_53 rfl rfl) ?_
    refine ev_step (st_iload_n (pc := 54) (j := 1) dX10_isHeard_54 rfl rfl) ?_
    refine ev_ck (fun ha hS => ?_)
    refine ev_callI (iv_V (As := [.int v3, .int v1]) (st := []) (pc := 55) rfl m_X10_isReally l_X10_339 i_X10_isReally e_X10_isReally ha hS rfl (Nat.le_of_ble_eq_true rfl) rfl dX10_isHeard_55) (tX10_isReally G fu v0 v3 v1 h11) (by decide) (by decide) (fun x13 h12 => ?_)
    refine ev_br (br_if_eq (tgt := 84) (pc := 58) dX10_isHeard_58 (by decide)) (fun _ => ?_) (fun _ => ?_)
    · refine ev_sub (ls' := [(0, .ref (gB G + v0)), (1, .int v1), (2, .int v2), (3, .int v3)]) [0, 1, 2, 3] rfl ?_
      exact tX10_isHeard_84 G fu h0 v0 v1 v2 v3 k13 hk13 h12
    · refine ev_step (st_aload_n (pc := 61) (j := 0) dX10_isHeard_61 rfl rfl) ?_
      refine ev_step (st_iload_n (pc := 62) (j := 3) dX10_isHeard_62 rfl rfl) ?_
      refine ev_ck (fun ha hS => ?_)
      refine ev_callI (iv_V (As := [.int v3]) (st := []) (pc := 63) rfl m_X10_isOn l_X10_365 i_X10_isOn e_X10_isOn ha hS rfl (Nat.le_of_ble_eq_true rfl) rfl dX10_isHeard_63) (tX10_isOn G fu v0 v3 h12) (by decide) (by decide) (fun x15 h14 => ?_)
      refine ev_br (br_if_eq (tgt := 84) (pc := 66) dX10_isHeard_66 (by decide)) (fun _ => ?_) (fun _ => ?_)
      · refine ev_sub (ls' := [(0, .ref (gB G + v0)), (1, .int v1), (2, .int v2), (3, .int v3)]) [0, 1, 2, 3] rfl ?_
        exact tX10_isHeard_84 G fu h0 v0 v1 v2 v3 k13 hk13 h14
      · refine ev_step (st_aload_n (pc := 69) (j := 0) dX10_isHeard_69 rfl rfl) ?_
        refine ev_step (st_iload_n (pc := 70) (j := 3) dX10_isHeard_70 rfl rfl) ?_
        refine ev_step (st_iload_n (pc := 71) (j := 1) dX10_isHeard_71 rfl rfl) ?_
        refine ev_step (st_iload_n (pc := 72) (j := 2) dX10_isHeard_72 rfl rfl) ?_
        refine ev_ck (fun ha hS => ?_)
        refine ev_callI (iv_V (As := [.int v3, .int v1, .int v2]) (st := []) (pc := 73) rfl m_X10_doesRing l_X10_368 i_X10_doesRing e_X10_doesRing ha hS rfl (Nat.le_of_ble_eq_true rfl) rfl dX10_isHeard_73) (tX10_doesRing G fu v0 v3 v1 v2 h14) (by decide) (by decide) (fun x17 h16 => ?_)
        refine ev_br (br_if_eq (tgt := 84) (pc := 76) dX10_isHeard_76 (by decide)) (fun _ => ?_) (fun _ => ?_)
        · refine ev_sub (ls' := [(0, .ref (gB G + v0)), (1, .int v1), (2, .int v2), (3, .int v3)]) [0, 1, 2, 3] rfl ?_
          exact tX10_isHeard_84 G fu h0 v0 v1 v2 v3 k13 hk13 h16
        · refine ev_step (st_aload_n (pc := 79) (j := 0) dX10_isHeard_79 rfl rfl) ?_
          refine ev_step (st_iconst (pc := 80) dX10_isHeard_80 ni_1) ?_
          refine ev_putZ (pc := 81) (p_X10_356 _ rfl) rfl dX10_isHeard_81 (fun h18 => ?_)
          refine ev_sub (ls' := [(0, .ref (gB G + v0)), (1, .int v1), (2, .int v2), (3, .int v3)]) [0, 1, 2, 3] rfl ?_
          exact tX10_isHeard_84 G fu h0 v0 v1 v2 v3 k13 hk13 h18
set_option maxRecDepth 100000 in
set_option maxHeartbeats 4000000 in
theorem tX10_isHeard (G : gx) (fu : Nat) (v0 : Nat) (v1 : Int32) (h : mh) : Ct lV G yX10_isHeard cX10_isHeard 4 (none) 4 [.ref (gB G + v0), .int v1] h (fX10_isHeard fu v0 v1 h) := by
  refine ct_ls (ls := [(0, .ref (gB G + v0)), (1, .int v1)]) rfl (by decide) (Nat.le_of_ble_eq_true rfl) ?_
  unfold fX10_isHeard
  refine ev_step (st_aload_n (pc := 0) (j := 0) dX10_isHeard_0 rfl rfl) ?_
  refine ev_step (st_iload_n (pc := 1) (j := 1) dX10_isHeard_1 rfl rfl) ?_
  refine ev_ck (fun ha hS => ?_)
  refine ev_callI (iv_V (As := [.int v1]) (st := []) (pc := 2) rfl m_X10_saidBy l_X10_353 i_X10_saidBy e_X10_saidBy ha hS rfl (Nat.le_of_ble_eq_true rfl) rfl dX10_isHeard_2) (tX10_saidBy G fu v0 v1 h) (by decide) (by decide) (fun x2 h1 => ?_)
  refine ev_step (st_istore_n (pc := 5) (ls' := [(2, .int x2), (0, .ref (gB G + v0)), (1, .int v1)]) dX10_isHeard_5 rfl (by decide) rfl) ?_
  refine ev_step (st_aload_n (pc := 6) (j := 1) dX10_isHeard_6 rfl rfl) ?_
  refine ev_step (st_iconst (pc := 7) dX10_isHeard_7 ni_0) ?_
  refine ev_putZ (pc := 8) (p_X10_356 _ rfl) rfl dX10_isHeard_8 (fun h3 => ?_)
  refine ev_step (st_iconst (pc := 11) dX10_isHeard_11 ni_0) ?_
  refine ev_step (st_istore_n (pc := 12) (ls' := [(3, .int ((0 : Int32))), (2, .int x2), (0, .ref (gB G + v0)), (1, .int v1)]) dX10_isHeard_12 rfl (by decide) rfl) ?_
  refine ev_sub (ls' := [(0, .ref (gB G + v0)), (1, .int v1), (2, .int x2), (3, .int ((0 : Int32)))]) [2, 3, 1, 0] rfl ?_
  exact tX10_isHeard_13 G fu h v0 v1 x2 fu ((0 : Int32)) h3
set_option maxRecDepth 100000 in
set_option maxHeartbeats 4000000 in
theorem tX10_eveningGoes_74 (G : gx) (fu : Nat) (h0 : mh) (v0 : Nat) (v1 : Int32) (v2 : Int32) (v3 : Int32) (k49 : Int32 × mh → Option (Unit × mh)) (hk49 : ∀ (v3 : Int32) (h : mh), Ev lV G yX10_eveningGoes cX10_eveningGoes 4 (none) 5 h0 49 [(0, .ref (gB G + v0)), (1, .int v1), (2, .int v2), (3, .int v3)] [] h (k49 (v3, h))) (h : mh) : Ev lV G yX10_eveningGoes cX10_eveningGoes 4 (none) 5 h0 74 [(0, .ref (gB G + v0)), (1, .int v1), (2, .int v2), (3, .int v3)] [] h (fX10_eveningGoes_74 fu k49 v0 v1 v2 v3 h) := by
  unfold fX10_eveningGoes_74
  refine ev_step (st_inc (pc := 74) (j := 3) (ls' := [(3, .int (v3 + (1 : Int32))), (0, .ref (gB G + v0)), (1, .int v1), (2, .int v2)]) dX10_eveningGoes_74 rfl ni_1 (by decide) rfl) ?_
  refine ev_step (st_goto (pc := 77) (tgt := 49) dX10_eveningGoes_77 (by decide)) ?_
  refine ev_sub (ls' := [(0, .ref (gB G + v0)), (1, .int v1), (2, .int v2), (3, .int (v3 + (1 : Int32)))]) [1, 2, 3, 0] rfl ?_
  exact hk49 (v3 + (1 : Int32)) h
set_option maxRecDepth 100000 in
set_option maxHeartbeats 4000000 in
theorem tX10_eveningGoes_116 (G : gx) (fu : Nat) (h0 : mh) (v0 : Nat) (v1 : Int32) (v2 : Int32) (v3 : Int32) (h : mh) : Ev lV G yX10_eveningGoes cX10_eveningGoes 4 (none) 5 h0 116 [(0, .ref (gB G + v0)), (1, .int v1), (2, .int v2), (3, .int v3)] [] h (fX10_eveningGoes_116 fu v0 v1 v2 v3 h) := by
  unfold fX10_eveningGoes_116
  refine ev_step (st_aload_n (pc := 116) (j := 0) dX10_eveningGoes_116 rfl rfl) ?_
  refine ev_getR (pc := 117) k_X10_122 rfl dX10_eveningGoes_117 (fun a1 => ?_)
  refine ev_step (st_bipush (pc := 120) dX10_eveningGoes_120 nb_30) ?_
  refine ev_step (st_dup2 (pc := 122) dX10_eveningGoes_122 rfl rfl) ?_
  refine ev_ldi (pc := 123) dX10_eveningGoes_123 (fun x2 => ?_)
  refine ev_step (st_iconst (pc := 124) dX10_eveningGoes_124 ni_1) ?_
  refine ev_step (st_iadd (pc := 125) dX10_eveningGoes_125) ?_
  refine ev_sti (pc := 126) dX10_eveningGoes_126 (fun h3 => ?_)
  refine ev_step (st_aload_n (pc := 127) (j := 0) dX10_eveningGoes_127 rfl rfl) ?_
  refine ev_getR (pc := 128) k_X10_122 rfl dX10_eveningGoes_128 (fun a4 => ?_)
  refine ev_step (st_bipush (pc := 131) dX10_eveningGoes_131 nb_31) ?_
  refine ev_step (st_bipush (pc := 133) dX10_eveningGoes_133 nb_m2) ?_
  refine ev_sti (pc := 135) dX10_eveningGoes_135 (fun h5 => ?_)
  exact ev_vret (pc := 136) dX10_eveningGoes_136
set_option maxRecDepth 100000 in
set_option maxHeartbeats 4000000 in
theorem tX10_eveningGoes_80 (G : gx) (fu : Nat) (h0 : mh) (v0 : Nat) (v1 : Int32) (v2 : Int32) (v3 : Int32) (h : mh) : Ev lV G yX10_eveningGoes cX10_eveningGoes 4 (none) 5 h0 80 [(0, .ref (gB G + v0)), (1, .int v1), (2, .int v2), (3, .int v3)] [] h (fX10_eveningGoes_80 fu v0 v1 v2 v3 h) := by
  unfold fX10_eveningGoes_80
  refine ev_step (st_aload_n (pc := 80) (j := 0) dX10_eveningGoes_80 rfl rfl) ?_
  refine ev_getI (pc := 81) k_X10_356 rfl dX10_eveningGoes_81 (fun x1 => ?_)
  refine ev_br (br_if_eq (tgt := 116) (pc := 84) dX10_eveningGoes_84 (by decide)) (fun _ => ?_) (fun _ => ?_)
  · refine ev_sub (ls' := [(0, .ref (gB G + v0)), (1, .int v1), (2, .int v2), (3, .int v3)]) [0, 1, 2, 3] rfl ?_
    exact tX10_eveningGoes_116 G fu h0 v0 v1 v2 v3 h
  · refine ev_step (st_aload_n (pc := 87) (j := 0) dX10_eveningGoes_87 rfl rfl) ?_
    refine ev_getR (pc := 88) k_X10_122 rfl dX10_eveningGoes_88 (fun a2 => ?_)
    refine ev_step (st_bipush (pc := 91) dX10_eveningGoes_91 nb_6) ?_
    refine ev_step (st_iload_n (pc := 93) (j := 1) dX10_eveningGoes_93 rfl rfl) ?_
    refine ev_step (st_iadd (pc := 94) dX10_eveningGoes_94) ?_
    refine ev_step (st_aload_n (pc := 95) (j := 0) dX10_eveningGoes_95 rfl rfl) ?_
    refine ev_getR (pc := 96) k_X10_76 rfl dX10_eveningGoes_96 (fun a3 => ?_)
    refine ev_step (st_aload_n (pc := 99) (j := 0) dX10_eveningGoes_99 rfl rfl) ?_
    refine ev_getI (pc := 100) k_X10_230 rfl dX10_eveningGoes_100 (fun x4 => ?_)
    refine ev_ldi (pc := 103) dX10_eveningGoes_103 (fun x5 => ?_)
    refine ev_sti (pc := 104) dX10_eveningGoes_104 (fun h6 => ?_)
    refine ev_step (st_aload_n (pc := 105) (j := 0) dX10_eveningGoes_105 rfl rfl) ?_
    refine ev_getR (pc := 106) k_X10_122 rfl dX10_eveningGoes_106 (fun a7 => ?_)
    refine ev_step (st_bipush (pc := 109) dX10_eveningGoes_109 nb_32) ?_
    refine ev_step (st_dup2 (pc := 111) dX10_eveningGoes_111 rfl rfl) ?_
    refine ev_ldi (pc := 112) dX10_eveningGoes_112 (fun x8 => ?_)
    refine ev_step (st_iconst (pc := 113) dX10_eveningGoes_113 ni_1) ?_
    refine ev_step (st_iadd (pc := 114) dX10_eveningGoes_114) ?_
    refine ev_sti (pc := 115) dX10_eveningGoes_115 (fun h9 => ?_)
    refine ev_sub (ls' := [(0, .ref (gB G + v0)), (1, .int v1), (2, .int v2), (3, .int v3)]) [0, 1, 2, 3] rfl ?_
    exact tX10_eveningGoes_116 G fu h0 v0 v1 v2 v3 h9
set_option maxRecDepth 100000 in
set_option maxHeartbeats 4000000 in
theorem tX10_eveningGoes_49 (G : gx) (fu : Nat) (h0 : mh) (v0 : Nat) (v1 : Int32) (v2 : Int32) (n : Nat) (v3 : Int32) (h : mh) : Ev lV G yX10_eveningGoes cX10_eveningGoes 4 (none) 5 h0 49 [(0, .ref (gB G + v0)), (1, .int v1), (2, .int v2), (3, .int v3)] [] h (itr (bX10_eveningGoes_49 fu v0 v1 v2) n (v3, h)) := by
  refine ev_itr (P := fun (q : Int32 × mh) (R9 : Option (Unit × mh)) => Ev lV G yX10_eveningGoes cX10_eveningGoes 4 (none) 5 h0 49 [(0, .ref (gB G + v0)), (1, .int v1), (2, .int v2), (3, .int q.1)] [] q.2 R9) (fun _ => ev_none) (fun k49 hk9 q => ?_) n (v3, h)
  obtain ⟨v3, h⟩ := q
  have hk49 : ∀ (v3 : Int32) (h : mh), Ev lV G yX10_eveningGoes cX10_eveningGoes 4 (none) 5 h0 49 [(0, .ref (gB G + v0)), (1, .int v1), (2, .int v2), (3, .int v3)] [] h (k49 (v3, h)) := fun v3 h => hk9 (v3, h)
  show Ev lV G yX10_eveningGoes cX10_eveningGoes 4 (none) 5 h0 49 [(0, .ref (gB G + v0)), (1, .int v1), (2, .int v2), (3, .int v3)] [] h (bX10_eveningGoes_49 fu v0 v1 v2 k49 (v3, h))
  unfold bX10_eveningGoes_49
  refine ev_step (st_iload_n (pc := 49) (j := 3) dX10_eveningGoes_49 rfl rfl) ?_
  refine ev_step (st_bipush (pc := 50) dX10_eveningGoes_50 nb_12) ?_
  refine ev_br (br_icmp_ge (tgt := 80) (pc := 52) dX10_eveningGoes_52 (by decide)) (fun _ => ?_) (fun _ => ?_)
  · refine ev_sub (ls' := [(0, .ref (gB G + v0)), (1, .int v1), (2, .int v2), (3, .int v3)]) [0, 1, 2, 3] rfl ?_
    exact tX10_eveningGoes_80 G fu h0 v0 v1 v2 v3 h
  · refine ev_step (st_aload_n (pc := 55) (j := 0) dX10_eveningGoes_55 rfl rfl) ?_
    refine ev_getR (pc := 56) k_X10_122 rfl dX10_eveningGoes_56 (fun a1 => ?_)
    refine ev_step (st_iload_n (pc := 59) (j := 3) dX10_eveningGoes_59 rfl rfl) ?_
    refine ev_ldi (pc := 60) dX10_eveningGoes_60 (fun x2 => ?_)
    refine ev_br (br_if_le (tgt := 74) (pc := 61) dX10_eveningGoes_61 (by decide)) (fun _ => ?_) (fun _ => ?_)
    · refine ev_sub (ls' := [(0, .ref (gB G + v0)), (1, .int v1), (2, .int v2), (3, .int v3)]) [0, 1, 2, 3] rfl ?_
      exact tX10_eveningGoes_74 G fu h0 v0 v1 v2 v3 k49 hk49 h
    · refine ev_step (st_aload_n (pc := 64) (j := 0) dX10_eveningGoes_64 rfl rfl) ?_
      refine ev_getR (pc := 65) k_X10_122 rfl dX10_eveningGoes_65 (fun a3 => ?_)
      refine ev_step (st_iload_n (pc := 68) (j := 3) dX10_eveningGoes_68 rfl rfl) ?_
      refine ev_step (st_dup2 (pc := 69) dX10_eveningGoes_69 rfl rfl) ?_
      refine ev_ldi (pc := 70) dX10_eveningGoes_70 (fun x4 => ?_)
      refine ev_step (st_iconst (pc := 71) dX10_eveningGoes_71 ni_1) ?_
      refine ev_step (st_isub (pc := 72) dX10_eveningGoes_72) ?_
      refine ev_sti (pc := 73) dX10_eveningGoes_73 (fun h5 => ?_)
      refine ev_sub (ls' := [(0, .ref (gB G + v0)), (1, .int v1), (2, .int v2), (3, .int v3)]) [0, 1, 2, 3] rfl ?_
      exact tX10_eveningGoes_74 G fu h0 v0 v1 v2 v3 k49 hk49 h5
set_option maxRecDepth 100000 in
set_option maxHeartbeats 4000000 in
theorem tX10_eveningGoes_46 (G : gx) (fu : Nat) (h0 : mh) (v0 : Nat) (v1 : Int32) (v2 : Int32) (h : mh) : Ev lV G yX10_eveningGoes cX10_eveningGoes 4 (none) 5 h0 46 [(0, .ref (gB G + v0)), (1, .int v1), (2, .int v2)] [] h (fX10_eveningGoes_46 fu v0 v1 v2 h) := by
  unfold fX10_eveningGoes_46
  refine ev_step (st_bipush (pc := 46) dX10_eveningGoes_46 nb_6) ?_
  refine ev_step (st_istore_n (pc := 48) (ls' := [(3, .int ((6 : Int32))), (0, .ref (gB G + v0)), (1, .int v1), (2, .int v2)]) dX10_eveningGoes_48 rfl (by decide) rfl) ?_
  refine ev_sub (ls' := [(0, .ref (gB G + v0)), (1, .int v1), (2, .int v2), (3, .int ((6 : Int32)))]) [1, 2, 3, 0] rfl ?_
  exact tX10_eveningGoes_49 G fu h0 v0 v1 v2 fu ((6 : Int32)) h
set_option maxRecDepth 100000 in
set_option maxHeartbeats 4000000 in
theorem tX10_eveningGoes_31 (G : gx) (fu : Nat) (h0 : mh) (v0 : Nat) (v1 : Int32) (s0 : Int32) (h : mh) : Ev lV G yX10_eveningGoes cX10_eveningGoes 4 (none) 5 h0 31 [(0, .ref (gB G + v0)), (1, .int v1)] [.int s0] h (fX10_eveningGoes_31 fu v0 v1 s0 h) := by
  unfold fX10_eveningGoes_31
  refine ev_step (st_istore_n (pc := 31) (ls' := [(2, .int s0), (0, .ref (gB G + v0)), (1, .int v1)]) dX10_eveningGoes_31 rfl (by decide) rfl) ?_
  refine ev_step (st_aload_n (pc := 32) (j := 1) dX10_eveningGoes_32 rfl rfl) ?_
  refine ev_step (st_iconst (pc := 33) dX10_eveningGoes_33 ni_0) ?_
  refine ev_putZ (pc := 34) (p_X10_356 _ rfl) rfl dX10_eveningGoes_34 (fun h1 => ?_)
  refine ev_step (st_iload_n (pc := 37) (j := 0) dX10_eveningGoes_37 rfl rfl) ?_
  refine ev_br (br_if_eq (tgt := 46) (pc := 38) dX10_eveningGoes_38 (by decide)) (fun _ => ?_) (fun _ => ?_)
  · refine ev_sub (ls' := [(0, .ref (gB G + v0)), (1, .int v1), (2, .int s0)]) [1, 2, 0] rfl ?_
    exact tX10_eveningGoes_46 G fu h0 v0 v1 s0 h1
  · refine ev_step (st_aload_n (pc := 41) (j := 1) dX10_eveningGoes_41 rfl rfl) ?_
    refine ev_step (st_iload_n (pc := 42) (j := 2) dX10_eveningGoes_42 rfl rfl) ?_
    refine ev_ck (fun ha hS => ?_)
    refine ev_callV (iv_V (As := [.int v1]) (st := []) (pc := 43) rfl m_X10_isHeard l_X10_375 i_X10_isHeard e_X10_isHeard ha hS rfl (Nat.le_of_ble_eq_true rfl) rfl dX10_eveningGoes_43) (tX10_isHeard G fu v0 v1 h1) (by decide) (by decide) (fun h2 => ?_)
    refine ev_sub (ls' := [(0, .ref (gB G + v0)), (1, .int v1), (2, .int s0)]) [1, 2, 0] rfl ?_
    exact tX10_eveningGoes_46 G fu h0 v0 v1 s0 h2
set_option maxRecDepth 100000 in
set_option maxHeartbeats 4000000 in
theorem tX10_eveningGoes_26 (G : gx) (fu : Nat) (h0 : mh) (v0 : Nat) (v1 : Int32) (h : mh) : Ev lV G yX10_eveningGoes cX10_eveningGoes 4 (none) 5 h0 26 [(0, .ref (gB G + v0)), (1, .int v1)] [] h (fX10_eveningGoes_26 fu v0 v1 h) := by
  unfold fX10_eveningGoes_26
  refine ev_step (st_iconst (pc := 26) dX10_eveningGoes_26 ni_1) ?_
  refine ev_step (st_goto (pc := 27) (tgt := 31) dX10_eveningGoes_27 (by decide)) ?_
  refine ev_sub (ls' := [(0, .ref (gB G + v0)), (1, .int v1)]) [0, 1] rfl ?_
  exact tX10_eveningGoes_31 G fu h0 v0 v1 ((1 : Int32)) h
set_option maxRecDepth 100000 in
set_option maxHeartbeats 4000000 in
theorem tX10_eveningGoes_30 (G : gx) (fu : Nat) (h0 : mh) (v0 : Nat) (v1 : Int32) (h : mh) : Ev lV G yX10_eveningGoes cX10_eveningGoes 4 (none) 5 h0 30 [(0, .ref (gB G + v0)), (1, .int v1)] [] h (fX10_eveningGoes_30 fu v0 v1 h) := by
  unfold fX10_eveningGoes_30
  refine ev_step (st_iconst (pc := 30) dX10_eveningGoes_30 ni_0) ?_
  refine ev_sub (ls' := [(0, .ref (gB G + v0)), (1, .int v1)]) [0, 1] rfl ?_
  exact tX10_eveningGoes_31 G fu h0 v0 v1 ((0 : Int32)) h
set_option maxRecDepth 100000 in
set_option maxHeartbeats 4000000 in
theorem tX10_eveningGoes (G : gx) (fu : Nat) (v0 : Nat) (h : mh) : Ct lV G yX10_eveningGoes cX10_eveningGoes 4 (none) 5 [.ref (gB G + v0)] h (fX10_eveningGoes fu v0 h) := by
  refine ct_ls (ls := [(0, .ref (gB G + v0))]) rfl (by decide) (Nat.le_of_ble_eq_true rfl) ?_
  unfold fX10_eveningGoes
  refine ev_step (st_aload_n (pc := 0) (j := 0) dX10_eveningGoes_0 rfl rfl) ?_
  refine ev_getR (pc := 1) k_X10_122 rfl dX10_eveningGoes_1 (fun a1 => ?_)
  refine ev_step (st_bipush (pc := 4) dX10_eveningGoes_4 nb_31) ?_
  refine ev_ldi (pc := 6) dX10_eveningGoes_6 (fun x2 => ?_)
  refine ev_step (st_istore_n (pc := 7) (ls' := [(1, .int x2), (0, .ref (gB G + v0))]) dX10_eveningGoes_7 rfl (by decide) rfl) ?_
  refine ev_step (st_iload_n (pc := 8) (j := 0) dX10_eveningGoes_8 rfl rfl) ?_
  refine ev_br (br_if_lt (tgt := 30) (pc := 9) dX10_eveningGoes_9 (by decide)) (fun _ => ?_) (fun _ => ?_)
  · refine ev_sub (ls' := [(0, .ref (gB G + v0)), (1, .int x2)]) [1, 0] rfl ?_
    exact tX10_eveningGoes_30 G fu h v0 x2 h
  · refine ev_step (st_aload_n (pc := 12) (j := 1) dX10_eveningGoes_12 rfl rfl) ?_
    refine ev_getI (pc := 13) k_X10_317 rfl dX10_eveningGoes_13 (fun x3 => ?_)
    refine ev_br (br_if_ne (tgt := 26) (pc := 16) dX10_eveningGoes_16 (by decide)) (fun _ => ?_) (fun _ => ?_)
    · refine ev_step (st_aload_n (pc := 19) (j := 1) dX10_eveningGoes_19 rfl rfl) ?_
      refine ev_ck (fun ha hS => ?_)
      refine ev_callI (iv_V (As := []) (st := []) (pc := 20) rfl m_X10_isCrackle l_X10_371 i_X10_isCrackle e_X10_isCrackle ha hS rfl (Nat.le_of_ble_eq_true rfl) rfl dX10_eveningGoes_20) (tX10_isCrackle G fu v0 h) (by decide) (by decide) (fun x5 h4 => ?_)
      refine ev_br (br_if_ne (tgt := 30) (pc := 23) dX10_eveningGoes_23 (by decide)) (fun _ => ?_) (fun _ => ?_)
      · refine ev_sub (ls' := [(0, .ref (gB G + v0)), (1, .int x2)]) [1, 0] rfl ?_
        exact tX10_eveningGoes_26 G fu h v0 x2 h4
      · refine ev_sub (ls' := [(0, .ref (gB G + v0)), (1, .int x2)]) [1, 0] rfl ?_
        exact tX10_eveningGoes_30 G fu h v0 x2 h4
    · refine ev_sub (ls' := [(0, .ref (gB G + v0)), (1, .int x2)]) [1, 0] rfl ?_
      exact tX10_eveningGoes_26 G fu h v0 x2 h
