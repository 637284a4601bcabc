theorem dX10_goes_0 : decode cX10_goes 0 = .ok (.iconst 0, 1) := by decide +kernel
theorem dX10_goes_1 : decode cX10_goes 1 = .ok (.istore_n 2, 1) := by decide +kernel
theorem dX10_goes_2 : decode cX10_goes 2 = .ok (.iload_n 2, 1) := by decide +kernel
theorem dX10_goes_3 : decode cX10_goes 3 = .ok (.iload_n 1, 1) := by decide +kernel
theorem dX10_goes_4 : decode cX10_goes 4 = .ok (.if_icmp .ge 13, 3) := by decide +kernel
theorem dX10_goes_7 : decode cX10_goes 7 = .ok (.aload_n 0, 1) := by decide +kernel
theorem dX10_goes_8 : decode cX10_goes 8 = .ok (.invokevirtual 378, 3) := by decide +kernel
theorem dX10_goes_11 : decode cX10_goes 11 = .ok (.iinc 2 1, 3) := by decide +kernel
theorem dX10_goes_14 : decode cX10_goes 14 = .ok (.goto (-12), 3) := by decide +kernel
theorem dX10_goes_17 : decode cX10_goes 17 = .ok (.return_, 1) := by decide +kernel
theorem dX10_goesWith_0 : decode cX10_goesWith 0 = .ok (.aload_n 0, 1) := by decide +kernel
theorem dX10_goesWith_1 : decode cX10_goesWith 1 = .ok (.getfield 122, 3) := by decide +kernel
theorem dX10_goesWith_4 : decode cX10_goesWith 4 = .ok (.bipush 31, 2) := by decide +kernel
theorem dX10_goesWith_6 : decode cX10_goesWith 6 = .ok (.aload_n 0, 1) := by decide +kernel
theorem dX10_goesWith_7 : decode cX10_goesWith 7 = .ok (.getfield 122, 3) := by decide +kernel
theorem dX10_goesWith_10 : decode cX10_goesWith 10 = .ok (.bipush 6, 2) := by decide +kernel
theorem dX10_goesWith_12 : decode cX10_goesWith 12 = .ok (.iload_n 1, 1) := by decide +kernel
theorem dX10_goesWith_13 : decode cX10_goesWith 13 = .ok (.iadd, 1) := by decide +kernel
theorem dX10_goesWith_14 : decode cX10_goesWith 14 = .ok (.iaload, 1) := by decide +kernel
theorem dX10_goesWith_15 : decode cX10_goesWith 15 = .ok (.ifCond .ne 7, 3) := by decide +kernel
theorem dX10_goesWith_18 : decode cX10_goesWith 18 = .ok (.iload_n 1, 1) := by decide +kernel
theorem dX10_goesWith_19 : decode cX10_goesWith 19 = .ok (.goto 5, 3) := by decide +kernel
theorem dX10_goesWith_22 : decode cX10_goesWith 22 = .ok (.bipush (-2), 2) := by decide +kernel
theorem dX10_goesWith_24 : decode cX10_goesWith 24 = .ok (.iastore, 1) := by decide +kernel
theorem dX10_goesWith_25 : decode cX10_goesWith 25 = .ok (.aload_n 0, 1) := by decide +kernel
theorem dX10_goesWith_26 : decode cX10_goesWith 26 = .ok (.invokevirtual 378, 3) := by decide +kernel
theorem dX10_goesWith_29 : decode cX10_goesWith 29 = .ok (.return_, 1) := by decide +kernel
theorem dX10_role_0 : decode cX10_role 0 = .ok (.aload_n 0, 1) := by decide +kernel
theorem dX10_role_1 : decode cX10_role 1 = .ok (.iload_n 1, 1) := by decide +kernel
theorem dX10_role_2 : decode cX10_role 2 = .ok (.invokevirtual 381, 3) := by decide +kernel
theorem dX10_role_5 : decode cX10_role 5 = .ok (.ifCond .ne 5, 3) := by decide +kernel
theorem dX10_role_8 : decode cX10_role 8 = .ok (.iconst (-1), 1) := by decide +kernel
theorem dX10_role_9 : decode cX10_role 9 = .ok (.ireturn, 1) := by decide +kernel
theorem dX10_role_10 : decode cX10_role 10 = .ok (.aload_n 0, 1) := by decide +kernel
theorem dX10_role_11 : decode cX10_role 11 = .ok (.invokevirtual 320, 3) := by decide +kernel
theorem dX10_role_14 : decode cX10_role 14 = .ok (.iconst 0, 1) := by decide +kernel
theorem dX10_role_15 : decode cX10_role 15 = .ok (.istore_n 3, 1) := by decide +kernel
theorem dX10_role_16 : decode cX10_role 16 = .ok (.iload_n 2, 1) := by decide +kernel
theorem dX10_role_17 : decode cX10_role 17 = .ok (.tableswitch 134 0 5 #[39, 54, 69, 76, 86, 128], 39) := by decide +kernel
theorem dX10_role_56 : decode cX10_role 56 = .ok (.aload_n 0, 1) := by decide +kernel
theorem dX10_role_57 : decode cX10_role 57 = .ok (.getfield 49, 3) := by decide +kernel
theorem dX10_role_60 : decode cX10_role 60 = .ok (.bipush 6, 2) := by decide +kernel
theorem dX10_role_62 : decode cX10_role 62 = .ok (.aload_n 0, 1) := by decide +kernel
theorem dX10_role_63 : decode cX10_role 63 = .ok (.getfield 230, 3) := by decide +kernel
theorem dX10_role_66 : decode cX10_role 66 = .ok (.imul, 1) := by decide +kernel
theorem dX10_role_67 : decode cX10_role 67 = .ok (.iload_n 1, 1) := by decide +kernel
theorem dX10_role_68 : decode cX10_role 68 = .ok (.iadd, 1) := by decide +kernel
theorem dX10_role_69 : decode cX10_role 69 = .ok (.iaload, 1) := by decide +kernel
theorem dX10_role_70 : decode cX10_role 70 = .ok (.ireturn, 1) := by decide +kernel
theorem dX10_role_71 : decode cX10_role 71 = .ok (.aload_n 0, 1) := by decide +kernel
theorem dX10_role_72 : decode cX10_role 72 = .ok (.getfield 52, 3) := by decide +kernel
theorem dX10_role_75 : decode cX10_role 75 = .ok (.bipush 6, 2) := by decide +kernel
theorem dX10_role_77 : decode cX10_role 77 = .ok (.aload_n 0, 1) := by decide +kernel
theorem dX10_role_78 : decode cX10_role 78 = .ok (.getfield 230, 3) := by decide +kernel
theorem dX10_role_81 : decode cX10_role 81 = .ok (.imul, 1) := by decide +kernel
theorem dX10_role_82 : decode cX10_role 82 = .ok (.iload_n 1, 1) := by decide +kernel
theorem dX10_role_83 : decode cX10_role 83 = .ok (.iadd, 1) := by decide +kernel
theorem dX10_role_84 : decode cX10_role 84 = .ok (.iaload, 1) := by decide +kernel
theorem dX10_role_85 : decode cX10_role 85 = .ok (.ireturn, 1) := by decide +kernel
theorem dX10_role_86 : decode cX10_role 86 = .ok (.aload_n 0, 1) := by decide +kernel
theorem dX10_role_87 : decode cX10_role 87 = .ok (.getfield 122, 3) := by decide +kernel
theorem dX10_role_90 : decode cX10_role 90 = .ok (.iload_n 1, 1) := by decide +kernel
theorem dX10_role_91 : decode cX10_role 91 = .ok (.iaload, 1) := by decide +kernel
theorem dX10_role_92 : decode cX10_role 92 = .ok (.ireturn, 1) := by decide +kernel
theorem dX10_role_93 : decode cX10_role 93 = .ok (.aload_n 0, 1) := by decide +kernel
theorem dX10_role_94 : decode cX10_role 94 = .ok (.getfield 122, 3) := by decide +kernel
theorem dX10_role_97 : decode cX10_role 97 = .ok (.bipush 6, 2) := by decide +kernel
theorem dX10_role_99 : decode cX10_role 99 = .ok (.iload_n 1, 1) := by decide +kernel
theorem dX10_role_100 : decode cX10_role 100 = .ok (.iadd, 1) := by decide +kernel
theorem dX10_role_101 : decode cX10_role 101 = .ok (.iaload, 1) := by decide +kernel
theorem dX10_role_102 : decode cX10_role 102 = .ok (.ireturn, 1) := by decide +kernel
theorem dX10_role_103 : decode cX10_role 103 = .ok (.iconst 0, 1) := by decide +kernel
theorem dX10_role_104 : decode cX10_role 104 = .ok (.istore 4, 2) := by decide +kernel
theorem dX10_role_106 : decode cX10_role 106 = .ok (.iload 4, 2) := by decide +kernel
theorem dX10_role_108 : decode cX10_role 108 = .ok (.aload_n 0, 1) := by decide +kernel
theorem dX10_role_109 : decode cX10_role 109 = .ok (.getfield 55, 3) := by decide +kernel
theorem dX10_role_112 : decode cX10_role 112 = .ok (.aload_n 0, 1) := by decide +kernel
theorem dX10_role_113 : decode cX10_role 113 = .ok (.getfield 230, 3) := by decide +kernel
theorem dX10_role_116 : decode cX10_role 116 = .ok (.iaload, 1) := by decide +kernel
theorem dX10_role_117 : decode cX10_role 117 = .ok (.if_icmp .ge 26, 3) := by decide +kernel
theorem dX10_role_120 : decode cX10_role 120 = .ok (.aload_n 0, 1) := by decide +kernel
theorem dX10_role_121 : decode cX10_role 121 = .ok (.iload 4, 2) := by decide +kernel
theorem dX10_role_123 : decode cX10_role 123 = .ok (.iload_n 1, 1) := by decide +kernel
theorem dX10_role_124 : decode cX10_role 124 = .ok (.invokevirtual 339, 3) := by decide +kernel
theorem dX10_role_127 : decode cX10_role 127 = .ok (.ifCond .eq 10, 3) := by decide +kernel
theorem dX10_role_130 : decode cX10_role 130 = .ok (.iload_n 3, 1) := by decide +kernel
theorem dX10_role_131 : decode cX10_role 131 = .ok (.iconst 1, 1) := by decide +kernel
theorem dX10_role_132 : decode cX10_role 132 = .ok (.iload 4, 2) := by decide +kernel
theorem dX10_role_134 : decode cX10_role 134 = .ok (.ishl, 1) := by decide +kernel
theorem dX10_role_135 : decode cX10_role 135 = .ok (.ior, 1) := by decide +kernel
theorem dX10_role_136 : decode cX10_role 136 = .ok (.istore_n 3, 1) := by decide +kernel
theorem dX10_role_137 : decode cX10_role 137 = .ok (.iinc 4 1, 3) := by decide +kernel
theorem dX10_role_140 : decode cX10_role 140 = .ok (.goto (-34), 3) := by decide +kernel
theorem dX10_role_143 : decode cX10_role 143 = .ok (.iload_n 3, 1) := by decide +kernel
theorem dX10_role_144 : decode cX10_role 144 = .ok (.ireturn, 1) := by decide +kernel
theorem dX10_role_145 : decode cX10_role 145 = .ok (.aload_n 0, 1) := by decide +kernel
theorem dX10_role_146 : decode cX10_role 146 = .ok (.iload_n 1, 1) := by decide +kernel
theorem dX10_role_147 : decode cX10_role 147 = .ok (.invokevirtual 353, 3) := by decide +kernel
theorem dX10_role_150 : decode cX10_role 150 = .ok (.ireturn, 1) := by decide +kernel
theorem dX10_role_151 : decode cX10_role 151 = .ok (.iconst (-1), 1) := by decide +kernel
theorem dX10_role_152 : decode cX10_role 152 = .ok (.ireturn, 1) := by decide +kernel
theorem dX10_listener_0 : decode cX10_listener 0 = .ok (.aload_n 0, 1) := by decide +kernel
theorem dX10_listener_1 : decode cX10_listener 1 = .ok (.iload_n 1, 1) := by decide +kernel
theorem dX10_listener_2 : decode cX10_listener 2 = .ok (.invokevirtual 384, 3) := by decide +kernel
theorem dX10_listener_5 : decode cX10_listener 5 = .ok (.ifCond .ne 5, 3) := by decide +kernel
theorem dX10_listener_8 : decode cX10_listener 8 = .ok (.iconst (-1), 1) := by decide +kernel
theorem dX10_listener_9 : decode cX10_listener 9 = .ok (.ireturn, 1) := by decide +kernel
theorem dX10_listener_10 : decode cX10_listener 10 = .ok (.aload_n 0, 1) := by decide +kernel
theorem dX10_listener_11 : decode cX10_listener 11 = .ok (.invokevirtual 320, 3) := by decide +kernel
theorem dX10_listener_14 : decode cX10_listener 14 = .ok (.iload_n 2, 1) := by decide +kernel
theorem dX10_listener_15 : decode cX10_listener 15 = .ok (.tableswitch 111 0 5 #[37, 47, 62, 72, 82, 96], 37) := by decide +kernel
theorem dX10_listener_52 : decode cX10_listener 52 = .ok (.aload_n 0, 1) := by decide +kernel
theorem dX10_listener_53 : decode cX10_listener 53 = .ok (.getfield 122, 3) := by decide +kernel
theorem dX10_listener_56 : decode cX10_listener 56 = .ok (.bipush 12, 2) := by decide +kernel
theorem dX10_listener_58 : decode cX10_listener 58 = .ok (.iload_n 1, 1) := by decide +kernel
theorem dX10_listener_59 : decode cX10_listener 59 = .ok (.iadd, 1) := by decide +kernel
theorem dX10_listener_60 : decode cX10_listener 60 = .ok (.iaload, 1) := by decide +kernel
theorem dX10_listener_61 : decode cX10_listener 61 = .ok (.ireturn, 1) := by decide +kernel
theorem dX10_listener_62 : decode cX10_listener 62 = .ok (.aload_n 0, 1) := by decide +kernel
theorem dX10_listener_63 : decode cX10_listener 63 = .ok (.getfield 61, 3) := by decide +kernel
theorem dX10_listener_66 : decode cX10_listener 66 = .ok (.bipush 6, 2) := by decide +kernel
theorem dX10_listener_68 : decode cX10_listener 68 = .ok (.aload_n 0, 1) := by decide +kernel
theorem dX10_listener_69 : decode cX10_listener 69 = .ok (.getfield 230, 3) := by decide +kernel
theorem dX10_listener_72 : decode cX10_listener 72 = .ok (.imul, 1) := by decide +kernel
theorem dX10_listener_73 : decode cX10_listener 73 = .ok (.iload_n 1, 1) := by decide +kernel
theorem dX10_listener_74 : decode cX10_listener 74 = .ok (.iadd, 1) := by decide +kernel
theorem dX10_listener_75 : decode cX10_listener 75 = .ok (.iaload, 1) := by decide +kernel
theorem dX10_listener_76 : decode cX10_listener 76 = .ok (.ireturn, 1) := by decide +kernel
theorem dX10_listener_77 : decode cX10_listener 77 = .ok (.aload_n 0, 1) := by decide +kernel
theorem dX10_listener_78 : decode cX10_listener 78 = .ok (.getfield 122, 3) := by decide +kernel
theorem dX10_listener_81 : decode cX10_listener 81 = .ok (.bipush 18, 2) := by decide +kernel
theorem dX10_listener_83 : decode cX10_listener 83 = .ok (.iload_n 1, 1) := by decide +kernel
theorem dX10_listener_84 : decode cX10_listener 84 = .ok (.iadd, 1) := by decide +kernel
theorem dX10_listener_85 : decode cX10_listener 85 = .ok (.iaload, 1) := by decide +kernel
theorem dX10_listener_86 : decode cX10_listener 86 = .ok (.ireturn, 1) := by decide +kernel
theorem dX10_listener_87 : decode cX10_listener 87 = .ok (.aload_n 0, 1) := by decide +kernel
theorem dX10_listener_88 : decode cX10_listener 88 = .ok (.getfield 122, 3) := by decide +kernel
theorem dX10_listener_91 : decode cX10_listener 91 = .ok (.bipush 24, 2) := by decide +kernel
theorem dX10_listener_93 : decode cX10_listener 93 = .ok (.iload_n 1, 1) := by decide +kernel
theorem dX10_listener_94 : decode cX10_listener 94 = .ok (.iadd, 1) := by decide +kernel
theorem dX10_listener_95 : decode cX10_listener 95 = .ok (.iaload, 1) := by decide +kernel
theorem dX10_listener_96 : decode cX10_listener 96 = .ok (.ireturn, 1) := by decide +kernel
theorem dX10_listener_97 : decode cX10_listener 97 = .ok (.aload_n 0, 1) := by decide +kernel
theorem dX10_listener_98 : decode cX10_listener 98 = .ok (.iload_n 1, 1) := by decide +kernel
theorem dX10_listener_99 : decode cX10_listener 99 = .ok (.invokevirtual 350, 3) := by decide +kernel
theorem dX10_listener_102 : decode cX10_listener 102 = .ok (.ifCond .eq 7, 3) := by decide +kernel
theorem dX10_listener_105 : decode cX10_listener 105 = .ok (.iconst 1, 1) := by decide +kernel
theorem dX10_listener_106 : decode cX10_listener 106 = .ok (.goto 4, 3) := by decide +kernel
theorem dX10_listener_109 : decode cX10_listener 109 = .ok (.iconst 0, 1) := by decide +kernel
theorem dX10_listener_110 : decode cX10_listener 110 = .ok (.ireturn, 1) := by decide +kernel
theorem dX10_listener_111 : decode cX10_listener 111 = .ok (.aload_n 0, 1) := by decide +kernel
theorem dX10_listener_112 : decode cX10_listener 112 = .ok (.getfield 67, 3) := by decide +kernel
theorem dX10_listener_115 : decode cX10_listener 115 = .ok (.bipush 6, 2) := by decide +kernel
theorem dX10_listener_117 : decode cX10_listener 117 = .ok (.aload_n 0, 1) := by decide +kernel
theorem dX10_listener_118 : decode cX10_listener 118 = .ok (.getfield 230, 3) := by decide +kernel
theorem dX10_listener_121 : decode cX10_listener 121 = .ok (.imul, 1) := by decide +kernel
theorem dX10_listener_122 : decode cX10_listener 122 = .ok (.iload_n 1, 1) := by decide +kernel
theorem dX10_listener_123 : decode cX10_listener 123 = .ok (.iadd, 1) := by decide +kernel
theorem dX10_listener_124 : decode cX10_listener 124 = .ok (.iaload, 1) := by decide +kernel
theorem dX10_listener_125 : decode cX10_listener 125 = .ok (.ireturn, 1) := by decide +kernel
theorem dX10_listener_126 : decode cX10_listener 126 = .ok (.iconst (-1), 1) := by decide +kernel
theorem dX10_listener_127 : decode cX10_listener 127 = .ok (.ireturn, 1) := by decide +kernel
theorem dX10_tells_0 : decode cX10_tells 0 = .ok (.aload_n 0, 1) := by decide +kernel
theorem dX10_tells_1 : decode cX10_tells 1 = .ok (.iload_n 1, 1) := by decide +kernel
theorem dX10_tells_2 : decode cX10_tells 2 = .ok (.invokevirtual 384, 3) := by decide +kernel
theorem dX10_tells_5 : decode cX10_tells 5 = .ok (.ifCond .eq 20, 3) := by decide +kernel
theorem dX10_tells_8 : decode cX10_tells 8 = .ok (.aload_n 0, 1) := by decide +kernel
theorem dX10_tells_9 : decode cX10_tells 9 = .ok (.iload_n 2, 1) := by decide +kernel
theorem dX10_tells_10 : decode cX10_tells 10 = .ok (.invokevirtual 381, 3) := by decide +kernel
theorem dX10_tells_13 : decode cX10_tells 13 = .ok (.ifCond .eq 12, 3) := by decide +kernel
theorem dX10_tells_16 : decode cX10_tells 16 = .ok (.iload_n 3, 1) := by decide +kernel
theorem dX10_tells_17 : decode cX10_tells 17 = .ok (.iconst 0, 1) := by decide +kernel
theorem dX10_tells_18 : decode cX10_tells 18 = .ok (.iconst 2, 1) := by decide +kernel
theorem dX10_tells_19 : decode cX10_tells 19 = .ok (.invokestatic 310, 3) := by decide +kernel
theorem dX10_tells_22 : decode cX10_tells 22 = .ok (.ifCond .ne 6, 3) := by decide +kernel
theorem dX10_tells_25 : decode cX10_tells 25 = .ok (.bipush (-100), 2) := by decide +kernel
theorem dX10_tells_27 : decode cX10_tells 27 = .ok (.ireturn, 1) := by decide +kernel
theorem dX10_tells_28 : decode cX10_tells 28 = .ok (.aload_n 0, 1) := by decide +kernel
theorem dX10_tells_29 : decode cX10_tells 29 = .ok (.invokevirtual 320, 3) := by decide +kernel
theorem dX10_tells_32 : decode cX10_tells 32 = .ok (.aload_n 0, 1) := by decide +kernel
theorem dX10_tells_33 : decode cX10_tells 33 = .ok (.iload_n 2, 1) := by decide +kernel
theorem dX10_tells_34 : decode cX10_tells 34 = .ok (.invokevirtual 353, 3) := by decide +kernel
theorem dX10_tells_37 : decode cX10_tells 37 = .ok (.istore 4, 2) := by decide +kernel
theorem dX10_tells_39 : decode cX10_tells 39 = .ok (.iload_n 3, 1) := by decide +kernel
theorem dX10_tells_40 : decode cX10_tells 40 = .ok (.iconst 1, 1) := by decide +kernel
theorem dX10_tells_41 : decode cX10_tells 41 = .ok (.if_icmp .ne 12, 3) := by decide +kernel
theorem dX10_tells_44 : decode cX10_tells 44 = .ok (.aload_n 0, 1) := by decide +kernel
theorem dX10_tells_45 : decode cX10_tells 45 = .ok (.iload_n 1, 1) := by decide +kernel
theorem dX10_tells_46 : decode cX10_tells 46 = .ok (.iload_n 2, 1) := by decide +kernel
theorem dX10_tells_47 : decode cX10_tells 47 = .ok (.iload 4, 2) := by decide +kernel
theorem dX10_tells_49 : decode cX10_tells 49 = .ok (.invokevirtual 362, 3) := by decide +kernel
theorem dX10_tells_52 : decode cX10_tells 52 = .ok (.ireturn, 1) := by decide +kernel
theorem dX10_tells_53 : decode cX10_tells 53 = .ok (.iload_n 3, 1) := by decide +kernel
theorem dX10_tells_54 : decode cX10_tells 54 = .ok (.ifCond .ne 17, 3) := by decide +kernel
theorem dX10_tells_57 : decode cX10_tells 57 = .ok (.aload_n 0, 1) := by decide +kernel
theorem dX10_tells_58 : decode cX10_tells 58 = .ok (.iload_n 1, 1) := by decide +kernel
theorem dX10_tells_59 : decode cX10_tells 59 = .ok (.iload_n 2, 1) := by decide +kernel
theorem dX10_tells_60 : decode cX10_tells 60 = .ok (.iload 4, 2) := by decide +kernel
theorem dX10_tells_62 : decode cX10_tells 62 = .ok (.invokevirtual 359, 3) := by decide +kernel
theorem dX10_tells_65 : decode cX10_tells 65 = .ok (.ifCond .eq 21, 3) := by decide +kernel
theorem dX10_tells_68 : decode cX10_tells 68 = .ok (.goto 14, 3) := by decide +kernel
theorem dX10_tells_71 : decode cX10_tells 71 = .ok (.aload_n 0, 1) := by decide +kernel
theorem dX10_tells_72 : decode cX10_tells 72 = .ok (.iload_n 1, 1) := by decide +kernel
theorem dX10_tells_73 : decode cX10_tells 73 = .ok (.iload_n 2, 1) := by decide +kernel
theorem dX10_tells_74 : decode cX10_tells 74 = .ok (.iload 4, 2) := by decide +kernel
theorem dX10_tells_76 : decode cX10_tells 76 = .ok (.invokevirtual 368, 3) := by decide +kernel
theorem dX10_tells_79 : decode cX10_tells 79 = .ok (.ifCond .eq 7, 3) := by decide +kernel
theorem dX10_tells_82 : decode cX10_tells 82 = .ok (.iconst 1, 1) := by decide +kernel
theorem dX10_tells_83 : decode cX10_tells 83 = .ok (.goto 4, 3) := by decide +kernel
theorem dX10_tells_86 : decode cX10_tells 86 = .ok (.iconst 0, 1) := by decide +kernel
theorem dX10_tells_87 : decode cX10_tells 87 = .ok (.ireturn, 1) := by decide +kernel
theorem dX10_records_0 : decode cX10_records 0 = .ok (.aload_n 0, 1) := by decide +kernel
theorem dX10_records_1 : decode cX10_records 1 = .ok (.getfield 248, 3) := by decide +kernel
theorem dX10_records_4 : decode cX10_records 4 = .ok (.bipush 40, 2) := by decide +kernel
theorem dX10_records_6 : decode cX10_records 6 = .ok (.if_icmp .ne 43, 3) := by decide +kernel
theorem dX10_records_9 : decode cX10_records 9 = .ok (.iconst 0, 1) := by decide +kernel
theorem dX10_records_10 : decode cX10_records 10 = .ok (.istore_n 1, 1) := by decide +kernel
theorem dX10_records_11 : decode cX10_records 11 = .ok (.iload_n 1, 1) := by decide +kernel
theorem dX10_records_12 : decode cX10_records 12 = .ok (.sipush 1287, 3) := by decide +kernel
theorem dX10_records_15 : decode cX10_records 15 = .ok (.if_icmp .ge 24, 3) := by decide +kernel
theorem dX10_records_18 : decode cX10_records 18 = .ok (.aload_n 0, 1) := by decide +kernel
theorem dX10_records_19 : decode cX10_records 19 = .ok (.getfield 131, 3) := by decide +kernel
theorem dX10_records_22 : decode cX10_records 22 = .ok (.iload_n 1, 1) := by decide +kernel
theorem dX10_records_23 : decode cX10_records 23 = .ok (.aload_n 0, 1) := by decide +kernel
theorem dX10_records_24 : decode cX10_records 24 = .ok (.getfield 131, 3) := by decide +kernel
theorem dX10_records_27 : decode cX10_records 27 = .ok (.iload_n 1, 1) := by decide +kernel
theorem dX10_records_28 : decode cX10_records 28 = .ok (.bipush 33, 2) := by decide +kernel
theorem dX10_records_30 : decode cX10_records 30 = .ok (.iadd, 1) := by decide +kernel
theorem dX10_records_31 : decode cX10_records 31 = .ok (.iaload, 1) := by decide +kernel
theorem dX10_records_32 : decode cX10_records 32 = .ok (.iastore, 1) := by decide +kernel
theorem dX10_records_33 : decode cX10_records 33 = .ok (.iinc 1 1, 3) := by decide +kernel
theorem dX10_records_36 : decode cX10_records 36 = .ok (.goto (-25), 3) := by decide +kernel
theorem dX10_records_39 : decode cX10_records 39 = .ok (.aload_n 0, 1) := by decide +kernel
theorem dX10_records_40 : decode cX10_records 40 = .ok (.dup, 1) := by decide +kernel
theorem dX10_records_41 : decode cX10_records 41 = .ok (.getfield 248, 3) := by decide +kernel
theorem dX10_records_44 : decode cX10_records 44 = .ok (.iconst 1, 1) := by decide +kernel
theorem dX10_records_45 : decode cX10_records 45 = .ok (.isub, 1) := by decide +kernel
theorem dX10_records_46 : decode cX10_records 46 = .ok (.putfield 248, 3) := by decide +kernel
theorem dX10_records_49 : decode cX10_records 49 = .ok (.iconst 0, 1) := by decide +kernel
theorem dX10_records_50 : decode cX10_records 50 = .ok (.istore_n 1, 1) := by decide +kernel
theorem dX10_records_51 : decode cX10_records 51 = .ok (.iload_n 1, 1) := by decide +kernel
theorem dX10_records_52 : decode cX10_records 52 = .ok (.bipush 33, 2) := by decide +kernel
theorem dX10_records_54 : decode cX10_records 54 = .ok (.if_icmp .ge 29, 3) := by decide +kernel
theorem dX10_records_57 : decode cX10_records 57 = .ok (.aload_n 0, 1) := by decide +kernel
theorem dX10_records_58 : decode cX10_records 58 = .ok (.getfield 131, 3) := by decide +kernel
theorem dX10_records_61 : decode cX10_records 61 = .ok (.bipush 33, 2) := by decide +kernel
theorem dX10_records_63 : decode cX10_records 63 = .ok (.aload_n 0, 1) := by decide +kernel
theorem dX10_records_64 : decode cX10_records 64 = .ok (.getfield 248, 3) := by decide +kernel
theorem dX10_records_67 : decode cX10_records 67 = .ok (.imul, 1) := by decide +kernel
theorem dX10_records_68 : decode cX10_records 68 = .ok (.iload_n 1, 1) := by decide +kernel
theorem dX10_records_69 : decode cX10_records 69 = .ok (.iadd, 1) := by decide +kernel
theorem dX10_records_70 : decode cX10_records 70 = .ok (.aload_n 0, 1) := by decide +kernel
theorem dX10_records_71 : decode cX10_records 71 = .ok (.getfield 119, 3) := by decide +kernel
theorem dX10_records_74 : decode cX10_records 74 = .ok (.iload_n 1, 1) := by decide +kernel
theorem dX10_records_75 : decode cX10_records 75 = .ok (.iaload, 1) := by decide +kernel
theorem dX10_records_76 : decode cX10_records 76 = .ok (.iastore, 1) := by decide +kernel
theorem dX10_records_77 : decode cX10_records 77 = .ok (.iinc 1 1, 3) := by decide +kernel
theorem dX10_records_80 : decode cX10_records 80 = .ok (.goto (-29), 3) := by decide +kernel
theorem dX10_records_83 : decode cX10_records 83 = .ok (.aload_n 0, 1) := by decide +kernel
theorem dX10_records_84 : decode cX10_records 84 = .ok (.dup, 1) := by decide +kernel
theorem dX10_records_85 : decode cX10_records 85 = .ok (.getfield 248, 3) := by decide +kernel
theorem dX10_records_88 : decode cX10_records 88 = .ok (.iconst 1, 1) := by decide +kernel
theorem dX10_records_89 : decode cX10_records 89 = .ok (.iadd, 1) := by decide +kernel
theorem dX10_records_90 : decode cX10_records 90 = .ok (.putfield 248, 3) := by decide +kernel
theorem dX10_records_93 : decode cX10_records 93 = .ok (.aload_n 0, 1) := by decide +kernel
theorem dX10_records_94 : decode cX10_records 94 = .ok (.invokevirtual 164, 3) := by decide +kernel
theorem dX10_records_97 : decode cX10_records 97 = .ok (.return_, 1) := by decide +kernel
theorem dX10_announce_0 : decode cX10_announce 0 = .ok (.aload_n 0, 1) := by decide +kernel
theorem dX10_announce_1 : decode cX10_announce 1 = .ok (.iload_n 1, 1) := by decide +kernel
theorem dX10_announce_2 : decode cX10_announce 2 = .ok (.invokevirtual 381, 3) := by decide +kernel
theorem dX10_announce_5 : decode cX10_announce 5 = .ok (.ifCond .eq 26, 3) := by decide +kernel
theorem dX10_announce_8 : decode cX10_announce 8 = .ok (.aload_n 0, 1) := by decide +kernel
theorem dX10_announce_9 : decode cX10_announce 9 = .ok (.getfield 119, 3) := by decide +kernel
theorem dX10_announce_12 : decode cX10_announce 12 = .ok (.bipush 31, 2) := by decide +kernel
theorem dX10_announce_14 : decode cX10_announce 14 = .ok (.iaload, 1) := by decide +kernel
theorem dX10_announce_15 : decode cX10_announce 15 = .ok (.iload_n 1, 1) := by decide +kernel
theorem dX10_announce_16 : decode cX10_announce 16 = .ok (.if_icmp .eq 15, 3) := by decide +kernel
theorem dX10_announce_19 : decode cX10_announce 19 = .ok (.aload_n 0, 1) := by decide +kernel
theorem dX10_announce_20 : decode cX10_announce 20 = .ok (.getfield 119, 3) := by decide +kernel
theorem dX10_announce_23 : decode cX10_announce 23 = .ok (.bipush 6, 2) := by decide +kernel
theorem dX10_announce_25 : decode cX10_announce 25 = .ok (.iload_n 1, 1) := by decide +kernel
theorem dX10_announce_26 : decode cX10_announce 26 = .ok (.iadd, 1) := by decide +kernel
theorem dX10_announce_27 : decode cX10_announce 27 = .ok (.iaload, 1) := by decide +kernel
theorem dX10_announce_28 : decode cX10_announce 28 = .ok (.ifCond .le 5, 3) := by decide +kernel
theorem dX10_announce_31 : decode cX10_announce 31 = .ok (.iconst 0, 1) := by decide +kernel
theorem dX10_announce_32 : decode cX10_announce 32 = .ok (.ireturn, 1) := by decide +kernel
theorem dX10_announce_33 : decode cX10_announce 33 = .ok (.aload_n 0, 1) := by decide +kernel
theorem dX10_announce_34 : decode cX10_announce 34 = .ok (.invokevirtual 320, 3) := by decide +kernel
theorem dX10_announce_37 : decode cX10_announce 37 = .ok (.aload_n 0, 1) := by decide +kernel
theorem dX10_announce_38 : decode cX10_announce 38 = .ok (.getfield 122, 3) := by decide +kernel
theorem dX10_announce_41 : decode cX10_announce 41 = .ok (.bipush 31, 2) := by decide +kernel
theorem dX10_announce_43 : decode cX10_announce 43 = .ok (.iload_n 1, 1) := by decide +kernel
theorem dX10_announce_44 : decode cX10_announce 44 = .ok (.iastore, 1) := by decide +kernel
theorem dX10_announce_45 : decode cX10_announce 45 = .ok (.aload_n 0, 1) := by decide +kernel
theorem dX10_announce_46 : decode cX10_announce 46 = .ok (.invokevirtual 387, 3) := by decide +kernel
theorem dX10_announce_49 : decode cX10_announce 49 = .ok (.iconst 1, 1) := by decide +kernel
theorem dX10_announce_50 : decode cX10_announce 50 = .ok (.ireturn, 1) := by decide +kernel
theorem dX10_turn_0 : decode cX10_turn 0 = .ok (.aload_n 0, 1) := by decide +kernel
theorem dX10_turn_1 : decode cX10_turn 1 = .ok (.iload_n 1, 1) := by decide +kernel
theorem dX10_turn_2 : decode cX10_turn 2 = .ok (.invokevirtual 384, 3) := by decide +kernel
theorem dX10_turn_5 : decode cX10_turn 5 = .ok (.ifCond .eq 25, 3) := by decide +kernel
theorem dX10_turn_8 : decode cX10_turn 8 = .ok (.aload_n 0, 1) := by decide +kernel
theorem dX10_turn_9 : decode cX10_turn 9 = .ok (.getfield 119, 3) := by decide +kernel
theorem dX10_turn_12 : decode cX10_turn 12 = .ok (.bipush 24, 2) := by decide +kernel
theorem dX10_turn_14 : decode cX10_turn 14 = .ok (.iload_n 1, 1) := by decide +kernel
theorem dX10_turn_15 : decode cX10_turn 15 = .ok (.iadd, 1) := by decide +kernel
theorem dX10_turn_16 : decode cX10_turn 16 = .ok (.iaload, 1) := by decide +kernel
theorem dX10_turn_17 : decode cX10_turn 17 = .ok (.iconst 1, 1) := by decide +kernel
theorem dX10_turn_18 : decode cX10_turn 18 = .ok (.if_icmp .ne 7, 3) := by decide +kernel
theorem dX10_turn_21 : decode cX10_turn 21 = .ok (.iconst 1, 1) := by decide +kernel
theorem dX10_turn_22 : decode cX10_turn 22 = .ok (.goto 4, 3) := by decide +kernel
theorem dX10_turn_25 : decode cX10_turn 25 = .ok (.iconst 0, 1) := by decide +kernel
theorem dX10_turn_26 : decode cX10_turn 26 = .ok (.iload_n 2, 1) := by decide +kernel
theorem dX10_turn_27 : decode cX10_turn 27 = .ok (.if_icmp .ne 5, 3) := by decide +kernel
theorem dX10_turn_30 : decode cX10_turn 30 = .ok (.iconst 0, 1) := by decide +kernel
theorem dX10_turn_31 : decode cX10_turn 31 = .ok (.ireturn, 1) := by decide +kernel
theorem dX10_turn_32 : decode cX10_turn 32 = .ok (.aload_n 0, 1) := by decide +kernel
theorem dX10_turn_33 : decode cX10_turn 33 = .ok (.invokevirtual 320, 3) := by decide +kernel
theorem dX10_turn_36 : decode cX10_turn 36 = .ok (.aload_n 0, 1) := by decide +kernel
theorem dX10_turn_37 : decode cX10_turn 37 = .ok (.getfield 122, 3) := by decide +kernel
theorem dX10_turn_40 : decode cX10_turn 40 = .ok (.bipush 24, 2) := by decide +kernel
theorem dX10_turn_42 : decode cX10_turn 42 = .ok (.iload_n 1, 1) := by decide +kernel
theorem dX10_turn_43 : decode cX10_turn 43 = .ok (.iadd, 1) := by decide +kernel
theorem dX10_turn_44 : decode cX10_turn 44 = .ok (.iload_n 2, 1) := by decide +kernel
theorem dX10_turn_45 : decode cX10_turn 45 = .ok (.ifCond .eq 7, 3) := by decide +kernel
theorem dX10_turn_48 : decode cX10_turn 48 = .ok (.iconst 1, 1) := by decide +kernel
theorem dX10_turn_49 : decode cX10_turn 49 = .ok (.goto 4, 3) := by decide +kernel
theorem dX10_turn_52 : decode cX10_turn 52 = .ok (.iconst 0, 1) := by decide +kernel
theorem dX10_turn_53 : decode cX10_turn 53 = .ok (.iastore, 1) := by decide +kernel
theorem dX10_turn_54 : decode cX10_turn 54 = .ok (.aload_n 0, 1) := by decide +kernel
theorem dX10_turn_55 : decode cX10_turn 55 = .ok (.invokevirtual 387, 3) := by decide +kernel
theorem dX10_turn_58 : decode cX10_turn 58 = .ok (.iconst 1, 1) := by decide +kernel
theorem dX10_turn_59 : decode cX10_turn 59 = .ok (.ireturn, 1) := by decide +kernel
theorem dX10_inform_0 : decode cX10_inform 0 = .ok (.aload_n 0, 1) := by decide +kernel
theorem dX10_inform_1 : decode cX10_inform 1 = .ok (.iload_n 1, 1) := by decide +kernel
theorem dX10_inform_2 : decode cX10_inform 2 = .ok (.invokevirtual 384, 3) := by decide +kernel
theorem dX10_inform_5 : decode cX10_inform 5 = .ok (.ifCond .eq 27, 3) := by decide +kernel
theorem dX10_inform_8 : decode cX10_inform 8 = .ok (.iload_n 2, 1) := by decide +kernel
theorem dX10_inform_9 : decode cX10_inform 9 = .ok (.invokestatic 390, 3) := by decide +kernel
theorem dX10_inform_12 : decode cX10_inform 12 = .ok (.ifCond .eq 20, 3) := by decide +kernel
theorem dX10_inform_15 : decode cX10_inform 15 = .ok (.aload_n 0, 1) := by decide +kernel
theorem dX10_inform_16 : decode cX10_inform 16 = .ok (.getfield 119, 3) := by decide +kernel
theorem dX10_inform_19 : decode cX10_inform 19 = .ok (.bipush 12, 2) := by decide +kernel
theorem dX10_inform_21 : decode cX10_inform 21 = .ok (.iload_n 1, 1) := by decide +kernel
theorem dX10_inform_22 : decode cX10_inform 22 = .ok (.iadd, 1) := by decide +kernel
theorem dX10_inform_23 : decode cX10_inform 23 = .ok (.iaload, 1) := by decide +kernel
theorem dX10_inform_24 : decode cX10_inform 24 = .ok (.iload_n 2, 1) := by decide +kernel
theorem dX10_inform_25 : decode cX10_inform 25 = .ok (.ishr, 1) := by decide +kernel
theorem dX10_inform_26 : decode cX10_inform 26 = .ok (.iconst 1, 1) := by decide +kernel
theorem dX10_inform_27 : decode cX10_inform 27 = .ok (.iand, 1) := by decide +kernel
theorem dX10_inform_28 : decode cX10_inform 28 = .ok (.iconst 1, 1) := by decide +kernel
theorem dX10_inform_29 : decode cX10_inform 29 = .ok (.if_icmp .ne 5, 3) := by decide +kernel
theorem dX10_inform_32 : decode cX10_inform 32 = .ok (.iconst 0, 1) := by decide +kernel
theorem dX10_inform_33 : decode cX10_inform 33 = .ok (.ireturn, 1) := by decide +kernel
theorem dX10_inform_34 : decode cX10_inform 34 = .ok (.aload_n 0, 1) := by decide +kernel
theorem dX10_inform_35 : decode cX10_inform 35 = .ok (.invokevirtual 320, 3) := by decide +kernel
theorem dX10_inform_38 : decode cX10_inform 38 = .ok (.aload_n 0, 1) := by decide +kernel
theorem dX10_inform_39 : decode cX10_inform 39 = .ok (.getfield 122, 3) := by decide +kernel
theorem dX10_inform_42 : decode cX10_inform 42 = .ok (.bipush 12, 2) := by decide +kernel
theorem dX10_inform_44 : decode cX10_inform 44 = .ok (.iload_n 1, 1) := by decide +kernel
theorem dX10_inform_45 : decode cX10_inform 45 = .ok (.iadd, 1) := by decide +kernel
theorem dX10_inform_46 : decode cX10_inform 46 = .ok (.dup2, 1) := by decide +kernel
theorem dX10_inform_47 : decode cX10_inform 47 = .ok (.iaload, 1) := by decide +kernel
theorem dX10_inform_48 : decode cX10_inform 48 = .ok (.iconst 1, 1) := by decide +kernel
theorem dX10_inform_49 : decode cX10_inform 49 = .ok (.iload_n 2, 1) := by decide +kernel
theorem dX10_inform_50 : decode cX10_inform 50 = .ok (.ishl, 1) := by decide +kernel
theorem dX10_inform_51 : decode cX10_inform 51 = .ok (.ior, 1) := by decide +kernel
theorem dX10_inform_52 : decode cX10_inform 52 = .ok (.iastore, 1) := by decide +kernel
theorem dX10_inform_53 : decode cX10_inform 53 = .ok (.aload_n 0, 1) := by decide +kernel
theorem dX10_inform_54 : decode cX10_inform 54 = .ok (.invokevirtual 387, 3) := by decide +kernel
theorem dX10_inform_57 : decode cX10_inform 57 = .ok (.iconst 1, 1) := by decide +kernel
theorem dX10_inform_58 : decode cX10_inform 58 = .ok (.ireturn, 1) := by decide +kernel
theorem dX10_moreBy_0 : decode cX10_moreBy 0 = .ok (.aload_n 0, 1) := by decide +kernel
theorem dX10_moreBy_1 : decode cX10_moreBy 1 = .ok (.getfield 119, 3) := by decide +kernel
theorem dX10_moreBy_4 : decode cX10_moreBy 4 = .ok (.bipush 12, 2) := by decide +kernel
theorem dX10_moreBy_6 : decode cX10_moreBy 6 = .ok (.iload_n 1, 1) := by decide +kernel
theorem dX10_moreBy_7 : decode cX10_moreBy 7 = .ok (.iadd, 1) := by decide +kernel
theorem dX10_moreBy_8 : decode cX10_moreBy 8 = .ok (.iaload, 1) := by decide +kernel
theorem dX10_moreBy_9 : decode cX10_moreBy 9 = .ok (.aload_n 0, 1) := by decide +kernel
theorem dX10_moreBy_10 : decode cX10_moreBy 10 = .ok (.getfield 119, 3) := by decide +kernel
theorem dX10_moreBy_13 : decode cX10_moreBy 13 = .ok (.bipush 12, 2) := by decide +kernel
theorem dX10_moreBy_15 : decode cX10_moreBy 15 = .ok (.iload_n 2, 1) := by decide +kernel
theorem dX10_moreBy_16 : decode cX10_moreBy 16 = .ok (.iadd, 1) := by decide +kernel
theorem dX10_moreBy_17 : decode cX10_moreBy 17 = .ok (.iaload, 1) := by decide +kernel
theorem dX10_moreBy_18 : decode cX10_moreBy 18 = .ok (.ior, 1) := by decide +kernel
theorem dX10_moreBy_19 : decode cX10_moreBy 19 = .ok (.istore_n 3, 1) := by decide +kernel
theorem dX10_moreBy_20 : decode cX10_moreBy 20 = .ok (.iconst 2, 1) := by decide +kernel
theorem dX10_moreBy_21 : decode cX10_moreBy 21 = .ok (.iload_n 3, 1) := by decide +kernel
theorem dX10_moreBy_22 : decode cX10_moreBy 22 = .ok (.invokestatic 336, 3) := by decide +kernel
theorem dX10_moreBy_25 : decode cX10_moreBy 25 = .ok (.imul, 1) := by decide +kernel
theorem dX10_moreBy_26 : decode cX10_moreBy 26 = .ok (.aload_n 0, 1) := by decide +kernel
theorem dX10_moreBy_27 : decode cX10_moreBy 27 = .ok (.getfield 119, 3) := by decide +kernel
theorem dX10_moreBy_30 : decode cX10_moreBy 30 = .ok (.bipush 12, 2) := by decide +kernel
theorem dX10_moreBy_32 : decode cX10_moreBy 32 = .ok (.iload_n 1, 1) := by decide +kernel
theorem dX10_moreBy_33 : decode cX10_moreBy 33 = .ok (.iadd, 1) := by decide +kernel
theorem dX10_moreBy_34 : decode cX10_moreBy 34 = .ok (.iaload, 1) := by decide +kernel
theorem dX10_moreBy_35 : decode cX10_moreBy 35 = .ok (.invokestatic 336, 3) := by decide +kernel
theorem dX10_moreBy_38 : decode cX10_moreBy 38 = .ok (.isub, 1) := by decide +kernel
theorem dX10_moreBy_39 : decode cX10_moreBy 39 = .ok (.aload_n 0, 1) := by decide +kernel
theorem dX10_moreBy_40 : decode cX10_moreBy 40 = .ok (.getfield 119, 3) := by decide +kernel
theorem dX10_moreBy_43 : decode cX10_moreBy 43 = .ok (.bipush 12, 2) := by decide +kernel
theorem dX10_moreBy_45 : decode cX10_moreBy 45 = .ok (.iload_n 2, 1) := by decide +kernel
theorem dX10_moreBy_46 : decode cX10_moreBy 46 = .ok (.iadd, 1) := by decide +kernel
theorem dX10_moreBy_47 : decode cX10_moreBy 47 = .ok (.iaload, 1) := by decide +kernel
theorem dX10_moreBy_48 : decode cX10_moreBy 48 = .ok (.invokestatic 336, 3) := by decide +kernel
theorem dX10_moreBy_51 : decode cX10_moreBy 51 = .ok (.isub, 1) := by decide +kernel
theorem dX10_moreBy_52 : decode cX10_moreBy 52 = .ok (.ireturn, 1) := by decide +kernel
theorem dX10_talk_0 : decode cX10_talk 0 = .ok (.aload_n 0, 1) := by decide +kernel
theorem dX10_talk_1 : decode cX10_talk 1 = .ok (.iload_n 1, 1) := by decide +kernel
theorem dX10_talk_2 : decode cX10_talk 2 = .ok (.invokevirtual 384, 3) := by decide +kernel
theorem dX10_talk_5 : decode cX10_talk 5 = .ok (.ifCond .eq 16, 3) := by decide +kernel
theorem dX10_talk_8 : decode cX10_talk 8 = .ok (.aload_n 0, 1) := by decide +kernel
theorem dX10_talk_9 : decode cX10_talk 9 = .ok (.iload_n 2, 1) := by decide +kernel
theorem dX10_talk_10 : decode cX10_talk 10 = .ok (.invokevirtual 384, 3) := by decide +kernel
theorem dX10_talk_13 : decode cX10_talk 13 = .ok (.ifCond .eq 8, 3) := by decide +kernel
theorem dX10_talk_16 : decode cX10_talk 16 = .ok (.iload_n 1, 1) := by decide +kernel
theorem dX10_talk_17 : decode cX10_talk 17 = .ok (.iload_n 2, 1) := by decide +kernel
theorem dX10_talk_18 : decode cX10_talk 18 = .ok (.if_icmp .ne 5, 3) := by decide +kernel
theorem dX10_talk_21 : decode cX10_talk 21 = .ok (.iconst (-1), 1) := by decide +kernel
theorem dX10_talk_22 : decode cX10_talk 22 = .ok (.ireturn, 1) := by decide +kernel
theorem dX10_talk_23 : decode cX10_talk 23 = .ok (.aload_n 0, 1) := by decide +kernel
theorem dX10_talk_24 : decode cX10_talk 24 = .ok (.iload_n 1, 1) := by decide +kernel
theorem dX10_talk_25 : decode cX10_talk 25 = .ok (.iload_n 2, 1) := by decide +kernel
theorem dX10_talk_26 : decode cX10_talk 26 = .ok (.invokevirtual 393, 3) := by decide +kernel
theorem dX10_talk_29 : decode cX10_talk 29 = .ok (.istore_n 3, 1) := by decide +kernel
theorem dX10_talk_30 : decode cX10_talk 30 = .ok (.aload_n 0, 1) := by decide +kernel
theorem dX10_talk_31 : decode cX10_talk 31 = .ok (.invokevirtual 320, 3) := by decide +kernel
theorem dX10_talk_34 : decode cX10_talk 34 = .ok (.aload_n 0, 1) := by decide +kernel
theorem dX10_talk_35 : decode cX10_talk 35 = .ok (.getfield 122, 3) := by decide +kernel
theorem dX10_talk_38 : decode cX10_talk 38 = .ok (.bipush 12, 2) := by decide +kernel
theorem dX10_talk_40 : decode cX10_talk 40 = .ok (.iload_n 1, 1) := by decide +kernel
theorem dX10_talk_41 : decode cX10_talk 41 = .ok (.iadd, 1) := by decide +kernel
theorem dX10_talk_42 : decode cX10_talk 42 = .ok (.dup2, 1) := by decide +kernel
theorem dX10_talk_43 : decode cX10_talk 43 = .ok (.iaload, 1) := by decide +kernel
theorem dX10_talk_44 : decode cX10_talk 44 = .ok (.aload_n 0, 1) := by decide +kernel
theorem dX10_talk_45 : decode cX10_talk 45 = .ok (.getfield 122, 3) := by decide +kernel
theorem dX10_talk_48 : decode cX10_talk 48 = .ok (.bipush 12, 2) := by decide +kernel
theorem dX10_talk_50 : decode cX10_talk 50 = .ok (.iload_n 2, 1) := by decide +kernel
theorem dX10_talk_51 : decode cX10_talk 51 = .ok (.iadd, 1) := by decide +kernel
theorem dX10_talk_52 : decode cX10_talk 52 = .ok (.iaload, 1) := by decide +kernel
theorem dX10_talk_53 : decode cX10_talk 53 = .ok (.ior, 1) := by decide +kernel
theorem dX10_talk_54 : decode cX10_talk 54 = .ok (.iastore, 1) := by decide +kernel
theorem dX10_talk_55 : decode cX10_talk 55 = .ok (.aload_n 0, 1) := by decide +kernel
theorem dX10_talk_56 : decode cX10_talk 56 = .ok (.getfield 122, 3) := by decide +kernel
theorem dX10_talk_59 : decode cX10_talk 59 = .ok (.bipush 12, 2) := by decide +kernel
theorem dX10_talk_61 : decode cX10_talk 61 = .ok (.iload_n 2, 1) := by decide +kernel
theorem dX10_talk_62 : decode cX10_talk 62 = .ok (.iadd, 1) := by decide +kernel
theorem dX10_talk_63 : decode cX10_talk 63 = .ok (.aload_n 0, 1) := by decide +kernel
theorem dX10_talk_64 : decode cX10_talk 64 = .ok (.getfield 122, 3) := by decide +kernel
theorem dX10_talk_67 : decode cX10_talk 67 = .ok (.bipush 12, 2) := by decide +kernel
theorem dX10_talk_69 : decode cX10_talk 69 = .ok (.iload_n 1, 1) := by decide +kernel
theorem dX10_talk_70 : decode cX10_talk 70 = .ok (.iadd, 1) := by decide +kernel
theorem dX10_talk_71 : decode cX10_talk 71 = .ok (.iaload, 1) := by decide +kernel
theorem dX10_talk_72 : decode cX10_talk 72 = .ok (.iastore, 1) := by decide +kernel
theorem dX10_talk_73 : decode cX10_talk 73 = .ok (.aload_n 0, 1) := by decide +kernel
theorem dX10_talk_74 : decode cX10_talk 74 = .ok (.invokevirtual 387, 3) := by decide +kernel
theorem dX10_talk_77 : decode cX10_talk 77 = .ok (.iload_n 3, 1) := by decide +kernel
theorem dX10_talk_78 : decode cX10_talk 78 = .ok (.ireturn, 1) := by decide +kernel
theorem dX10_isLong_0 : decode cX10_isLong 0 = .ok (.iload_n 0, 1) := by decide +kernel
theorem dX10_isLong_1 : decode cX10_isLong 1 = .ok (.iconst 0, 1) := by decide +kernel
theorem dX10_isLong_2 : decode cX10_isLong 2 = .ok (.bipush 30, 2) := by decide +kernel
theorem dX10_isLong_4 : decode cX10_isLong 4 = .ok (.invokestatic 310, 3) := by decide +kernel
theorem dX10_isLong_7 : decode cX10_isLong 7 = .ok (.ireturn, 1) := by decide +kernel
theorem dX10_evenings_0 : decode cX10_evenings 0 = .ok (.iload_n 1, 1) := by decide +kernel
theorem dX10_evenings_1 : decode cX10_evenings 1 = .ok (.invokestatic 396, 3) := by decide +kernel
theorem dX10_evenings_4 : decode cX10_evenings 4 = .ok (.ifCond .ne 5, 3) := by decide +kernel
theorem dX10_evenings_7 : decode cX10_evenings 7 = .ok (.iconst (-1), 1) := by decide +kernel
theorem dX10_evenings_8 : decode cX10_evenings 8 = .ok (.ireturn, 1) := by decide +kernel
theorem dX10_evenings_9 : decode cX10_evenings 9 = .ok (.iload_n 1, 1) := by decide +kernel
theorem dX10_evenings_10 : decode cX10_evenings 10 = .ok (.ifCond .ne 11, 3) := by decide +kernel
theorem dX10_evenings_13 : decode cX10_evenings 13 = .ok (.aload_n 0, 1) := by decide +kernel
theorem dX10_evenings_14 : decode cX10_evenings 14 = .ok (.getfield 119, 3) := by decide +kernel
theorem dX10_evenings_17 : decode cX10_evenings 17 = .ok (.bipush 30, 2) := by decide +kernel
theorem dX10_evenings_19 : decode cX10_evenings 19 = .ok (.iaload, 1) := by decide +kernel
theorem dX10_evenings_20 : decode cX10_evenings 20 = .ok (.ireturn, 1) := by decide +kernel
theorem dX10_evenings_21 : decode cX10_evenings 21 = .ok (.aload_n 0, 1) := by decide +kernel
theorem dX10_evenings_22 : decode cX10_evenings 22 = .ok (.invokevirtual 320, 3) := by decide +kernel
theorem dX10_evenings_25 : decode cX10_evenings 25 = .ok (.aload_n 0, 1) := by decide +kernel
theorem dX10_evenings_26 : decode cX10_evenings 26 = .ok (.iload_n 1, 1) := by decide +kernel
theorem dX10_evenings_27 : decode cX10_evenings 27 = .ok (.invokevirtual 399, 3) := by decide +kernel
theorem dX10_evenings_30 : decode cX10_evenings 30 = .ok (.aload_n 0, 1) := by decide +kernel
theorem dX10_evenings_31 : decode cX10_evenings 31 = .ok (.invokevirtual 387, 3) := by decide +kernel
theorem dX10_evenings_34 : decode cX10_evenings 34 = .ok (.aload_n 0, 1) := by decide +kernel
theorem dX10_evenings_35 : decode cX10_evenings 35 = .ok (.getfield 119, 3) := by decide +kernel
theorem dX10_evenings_38 : decode cX10_evenings 38 = .ok (.bipush 30, 2) := by decide +kernel
theorem dX10_evenings_40 : decode cX10_evenings 40 = .ok (.iaload, 1) := by decide +kernel
theorem dX10_evenings_41 : decode cX10_evenings 41 = .ok (.ireturn, 1) := by decide +kernel
theorem dX10_undo_0 : decode cX10_undo 0 = .ok (.aload_n 0, 1) := by decide +kernel
theorem dX10_undo_1 : decode cX10_undo 1 = .ok (.getfield 248, 3) := by decide +kernel
theorem dX10_undo_4 : decode cX10_undo 4 = .ok (.ifCond .ne 5, 3) := by decide +kernel
theorem dX10_undo_7 : decode cX10_undo 7 = .ok (.iconst 0, 1) := by decide +kernel
theorem dX10_undo_8 : decode cX10_undo 8 = .ok (.ireturn, 1) := by decide +kernel
theorem dX10_undo_9 : decode cX10_undo 9 = .ok (.aload_n 0, 1) := by decide +kernel
theorem dX10_undo_10 : decode cX10_undo 10 = .ok (.dup, 1) := by decide +kernel
theorem dX10_undo_11 : decode cX10_undo 11 = .ok (.getfield 248, 3) := by decide +kernel
theorem dX10_undo_14 : decode cX10_undo 14 = .ok (.iconst 1, 1) := by decide +kernel
theorem dX10_undo_15 : decode cX10_undo 15 = .ok (.isub, 1) := by decide +kernel
theorem dX10_undo_16 : decode cX10_undo 16 = .ok (.putfield 248, 3) := by decide +kernel
theorem dX10_undo_19 : decode cX10_undo 19 = .ok (.iconst 0, 1) := by decide +kernel
theorem dX10_undo_20 : decode cX10_undo 20 = .ok (.istore_n 1, 1) := by decide +kernel
theorem dX10_undo_21 : decode cX10_undo 21 = .ok (.iload_n 1, 1) := by decide +kernel
theorem dX10_undo_22 : decode cX10_undo 22 = .ok (.bipush 33, 2) := by decide +kernel
theorem dX10_undo_24 : decode cX10_undo 24 = .ok (.if_icmp .ge 29, 3) := by decide +kernel
theorem dX10_undo_27 : decode cX10_undo 27 = .ok (.aload_n 0, 1) := by decide +kernel
theorem dX10_undo_28 : decode cX10_undo 28 = .ok (.getfield 119, 3) := by decide +kernel
theorem dX10_undo_31 : decode cX10_undo 31 = .ok (.iload_n 1, 1) := by decide +kernel
theorem dX10_undo_32 : decode cX10_undo 32 = .ok (.aload_n 0, 1) := by decide +kernel
theorem dX10_undo_33 : decode cX10_undo 33 = .ok (.getfield 131, 3) := by decide +kernel
theorem dX10_undo_36 : decode cX10_undo 36 = .ok (.bipush 33, 2) := by decide +kernel
theorem dX10_undo_38 : decode cX10_undo 38 = .ok (.aload_n 0, 1) := by decide +kernel
theorem dX10_undo_39 : decode cX10_undo 39 = .ok (.getfield 248, 3) := by decide +kernel
theorem dX10_undo_42 : decode cX10_undo 42 = .ok (.imul, 1) := by decide +kernel
theorem dX10_undo_43 : decode cX10_undo 43 = .ok (.iload_n 1, 1) := by decide +kernel
theorem dX10_undo_44 : decode cX10_undo 44 = .ok (.iadd, 1) := by decide +kernel
theorem dX10_undo_45 : decode cX10_undo 45 = .ok (.iaload, 1) := by decide +kernel
theorem dX10_undo_46 : decode cX10_undo 46 = .ok (.iastore, 1) := by decide +kernel
theorem dX10_undo_47 : decode cX10_undo 47 = .ok (.iinc 1 1, 3) := by decide +kernel
theorem dX10_undo_50 : decode cX10_undo 50 = .ok (.goto (-29), 3) := by decide +kernel
theorem dX10_undo_53 : decode cX10_undo 53 = .ok (.iconst 1, 1) := by decide +kernel
theorem dX10_undo_54 : decode cX10_undo 54 = .ok (.ireturn, 1) := by decide +kernel
theorem dX10_trustBits_0 : decode cX10_trustBits 0 = .ok (.iconst 0, 1) := by decide +kernel
theorem dX10_trustBits_1 : decode cX10_trustBits 1 = .ok (.istore_n 3, 1) := by decide +kernel
theorem dX10_trustBits_2 : decode cX10_trustBits 2 = .ok (.iconst 0, 1) := by decide +kernel
theorem dX10_trustBits_3 : decode cX10_trustBits 3 = .ok (.istore 4, 2) := by decide +kernel
theorem dX10_trustBits_5 : decode cX10_trustBits 5 = .ok (.iload 4, 2) := by decide +kernel
theorem dX10_trustBits_7 : decode cX10_trustBits 7 = .ok (.aload_n 0, 1) := by decide +kernel
theorem dX10_trustBits_8 : decode cX10_trustBits 8 = .ok (.getfield 55, 3) := by decide +kernel
theorem dX10_trustBits_11 : decode cX10_trustBits 11 = .ok (.aload_n 0, 1) := by decide +kernel
theorem dX10_trustBits_12 : decode cX10_trustBits 12 = .ok (.getfield 230, 3) := by decide +kernel
theorem dX10_trustBits_15 : decode cX10_trustBits 15 = .ok (.iaload, 1) := by decide +kernel
theorem dX10_trustBits_16 : decode cX10_trustBits 16 = .ok (.if_icmp .ge 36, 3) := by decide +kernel
theorem dX10_trustBits_19 : decode cX10_trustBits 19 = .ok (.aload_n 0, 1) := by decide +kernel
theorem dX10_trustBits_20 : decode cX10_trustBits 20 = .ok (.iload 4, 2) := by decide +kernel
theorem dX10_trustBits_22 : decode cX10_trustBits 22 = .ok (.invokevirtual 365, 3) := by decide +kernel
theorem dX10_trustBits_25 : decode cX10_trustBits 25 = .ok (.ifCond .eq 21, 3) := by decide +kernel
theorem dX10_trustBits_28 : decode cX10_trustBits 28 = .ok (.aload_n 0, 1) := by decide +kernel
theorem dX10_trustBits_29 : decode cX10_trustBits 29 = .ok (.iload 4, 2) := by decide +kernel
theorem dX10_trustBits_31 : decode cX10_trustBits 31 = .ok (.iload_n 1, 1) := by decide +kernel
theorem dX10_trustBits_32 : decode cX10_trustBits 32 = .ok (.iload_n 2, 1) := by decide +kernel
theorem dX10_trustBits_33 : decode cX10_trustBits 33 = .ok (.invokevirtual 359, 3) := by decide +kernel
theorem dX10_trustBits_36 : decode cX10_trustBits 36 = .ok (.ifCond .eq 10, 3) := by decide +kernel
theorem dX10_trustBits_39 : decode cX10_trustBits 39 = .ok (.iload_n 3, 1) := by decide +kernel
theorem dX10_trustBits_40 : decode cX10_trustBits 40 = .ok (.iconst 1, 1) := by decide +kernel
theorem dX10_trustBits_41 : decode cX10_trustBits 41 = .ok (.iload 4, 2) := by decide +kernel
theorem dX10_trustBits_43 : decode cX10_trustBits 43 = .ok (.ishl, 1) := by decide +kernel
theorem dX10_trustBits_44 : decode cX10_trustBits 44 = .ok (.ior, 1) := by decide +kernel
theorem dX10_trustBits_45 : decode cX10_trustBits 45 = .ok (.istore_n 3, 1) := by decide +kernel
theorem dX10_trustBits_46 : decode cX10_trustBits 46 = .ok (.iinc 4 1, 3) := by decide +kernel
theorem dX10_trustBits_49 : decode cX10_trustBits 49 = .ok (.goto (-44), 3) := by decide +kernel
theorem dX10_trustBits_52 : decode cX10_trustBits 52 = .ok (.iload_n 3, 1) := by decide +kernel
theorem dX10_trustBits_53 : decode cX10_trustBits 53 = .ok (.ireturn, 1) := by decide +kernel
theorem dX10_isTonight_0 : decode cX10_isTonight 0 = .ok (.aload_n 0, 1) := by decide +kernel
theorem dX10_isTonight_1 : decode cX10_isTonight 1 = .ok (.invokevirtual 402, 3) := by decide +kernel
theorem dX10_isTonight_4 : decode cX10_isTonight 4 = .ok (.aload_n 0, 1) := by decide +kernel
theorem dX10_isTonight_5 : decode cX10_isTonight 5 = .ok (.invokevirtual 405, 3) := by decide +kernel
theorem dX10_isTonight_8 : decode cX10_isTonight 8 = .ok (.istore_n 2, 1) := by decide +kernel
theorem dX10_isTonight_9 : decode cX10_isTonight 9 = .ok (.aload_n 0, 1) := by decide +kernel
theorem dX10_isTonight_10 : decode cX10_isTonight 10 = .ok (.getfield 122, 3) := by decide +kernel
theorem dX10_isTonight_13 : decode cX10_isTonight 13 = .ok (.bipush 31, 2) := by decide +kernel
theorem dX10_isTonight_15 : decode cX10_isTonight 15 = .ok (.iload_n 1, 1) := by decide +kernel
theorem dX10_isTonight_16 : decode cX10_isTonight 16 = .ok (.iastore, 1) := by decide +kernel
theorem dX10_isTonight_17 : decode cX10_isTonight 17 = .ok (.aload_n 0, 1) := by decide +kernel
theorem dX10_isTonight_18 : decode cX10_isTonight 18 = .ok (.invokevirtual 378, 3) := by decide +kernel
theorem dX10_isTonight_21 : decode cX10_isTonight 21 = .ok (.aload_n 0, 1) := by decide +kernel
theorem dX10_isTonight_22 : decode cX10_isTonight 22 = .ok (.invokevirtual 405, 3) := by decide +kernel
theorem dX10_isTonight_25 : decode cX10_isTonight 25 = .ok (.iload_n 2, 1) := by decide +kernel
theorem dX10_isTonight_26 : decode cX10_isTonight 26 = .ok (.isub, 1) := by decide +kernel
theorem dX10_isTonight_27 : decode cX10_isTonight 27 = .ok (.ireturn, 1) := by decide +kernel
theorem dX10_tonight_0 : decode cX10_tonight 0 = .ok (.aload_n 0, 1) := by decide +kernel
theorem dX10_tonight_1 : decode cX10_tonight 1 = .ok (.iload_n 1, 1) := by decide +kernel
theorem dX10_tonight_2 : decode cX10_tonight 2 = .ok (.invokevirtual 381, 3) := by decide +kernel
theorem dX10_tonight_5 : decode cX10_tonight 5 = .ok (.ifCond .eq 12, 3) := by decide +kernel
theorem dX10_tonight_8 : decode cX10_tonight 8 = .ok (.iload_n 2, 1) := by decide +kernel
theorem dX10_tonight_9 : decode cX10_tonight 9 = .ok (.iconst 0, 1) := by decide +kernel
theorem dX10_tonight_10 : decode cX10_tonight 10 = .ok (.iconst 3, 1) := by decide +kernel
theorem dX10_tonight_11 : decode cX10_tonight 11 = .ok (.invokestatic 310, 3) := by decide +kernel
theorem dX10_tonight_14 : decode cX10_tonight 14 = .ok (.ifCond .ne 5, 3) := by decide +kernel
theorem dX10_tonight_17 : decode cX10_tonight 17 = .ok (.iconst (-1), 1) := by decide +kernel
theorem dX10_tonight_18 : decode cX10_tonight 18 = .ok (.ireturn, 1) := by decide +kernel
theorem dX10_tonight_19 : decode cX10_tonight 19 = .ok (.aload_n 0, 1) := by decide +kernel
theorem dX10_tonight_20 : decode cX10_tonight 20 = .ok (.invokevirtual 402, 3) := by decide +kernel
theorem dX10_tonight_23 : decode cX10_tonight 23 = .ok (.aload_n 0, 1) := by decide +kernel
theorem dX10_tonight_24 : decode cX10_tonight 24 = .ok (.iload_n 1, 1) := by decide +kernel
theorem dX10_tonight_25 : decode cX10_tonight 25 = .ok (.invokevirtual 353, 3) := by decide +kernel
theorem dX10_tonight_28 : decode cX10_tonight 28 = .ok (.istore_n 3, 1) := by decide +kernel
theorem dX10_tonight_29 : decode cX10_tonight 29 = .ok (.aload_n 0, 1) := by decide +kernel
theorem dX10_tonight_30 : decode cX10_tonight 30 = .ok (.iload_n 1, 1) := by decide +kernel
theorem dX10_tonight_31 : decode cX10_tonight 31 = .ok (.iload_n 3, 1) := by decide +kernel
theorem dX10_tonight_32 : decode cX10_tonight 32 = .ok (.invokevirtual 408, 3) := by decide +kernel
theorem dX10_tonight_35 : decode cX10_tonight 35 = .ok (.istore 4, 2) := by decide +kernel
theorem dX10_tonight_37 : decode cX10_tonight 37 = .ok (.aload_n 0, 1) := by decide +kernel
theorem dX10_tonight_38 : decode cX10_tonight 38 = .ok (.iload_n 1, 1) := by decide +kernel
theorem dX10_tonight_39 : decode cX10_tonight 39 = .ok (.invokevirtual 411, 3) := by decide +kernel
theorem dX10_tonight_42 : decode cX10_tonight 42 = .ok (.istore 5, 2) := by decide +kernel
theorem dX10_tonight_44 : decode cX10_tonight 44 = .ok (.iload_n 2, 1) := by decide +kernel
theorem dX10_tonight_45 : decode cX10_tonight 45 = .ok (.ifCond .ne 7, 3) := by decide +kernel
theorem dX10_tonight_48 : decode cX10_tonight 48 = .ok (.iload_n 3, 1) := by decide +kernel
theorem dX10_tonight_49 : decode cX10_tonight 49 = .ok (.goto 27, 3) := by decide +kernel
theorem dX10_tonight_52 : decode cX10_tonight 52 = .ok (.iload_n 2, 1) := by decide +kernel
theorem dX10_tonight_53 : decode cX10_tonight 53 = .ok (.iconst 1, 1) := by decide +kernel
theorem dX10_tonight_54 : decode cX10_tonight 54 = .ok (.if_icmp .ne 8, 3) := by decide +kernel
theorem dX10_tonight_57 : decode cX10_tonight 57 = .ok (.iload 4, 2) := by decide +kernel
theorem dX10_tonight_59 : decode cX10_tonight 59 = .ok (.goto 17, 3) := by decide +kernel
theorem dX10_tonight_62 : decode cX10_tonight 62 = .ok (.iload_n 2, 1) := by decide +kernel
theorem dX10_tonight_63 : decode cX10_tonight 63 = .ok (.iconst 2, 1) := by decide +kernel
theorem dX10_tonight_64 : decode cX10_tonight 64 = .ok (.if_icmp .ne 10, 3) := by decide +kernel
theorem dX10_tonight_67 : decode cX10_tonight 67 = .ok (.aload_n 0, 1) := by decide +kernel
theorem dX10_tonight_68 : decode cX10_tonight 68 = .ok (.invokevirtual 414, 3) := by decide +kernel
theorem dX10_tonight_71 : decode cX10_tonight 71 = .ok (.goto 5, 3) := by decide +kernel
theorem dX10_tonight_74 : decode cX10_tonight 74 = .ok (.iload 5, 2) := by decide +kernel
theorem dX10_tonight_76 : decode cX10_tonight 76 = .ok (.ireturn, 1) := by decide +kernel
theorem dX10_best_0 : decode cX10_best 0 = .ok (.iload_n 1, 1) := by decide +kernel
theorem dX10_best_1 : decode cX10_best 1 = .ok (.iconst 0, 1) := by decide +kernel
theorem dX10_best_2 : decode cX10_best 2 = .ok (.iconst 1, 1) := by decide +kernel
theorem dX10_best_3 : decode cX10_best 3 = .ok (.invokestatic 310, 3) := by decide +kernel
theorem dX10_best_6 : decode cX10_best 6 = .ok (.ifCond .ne 5, 3) := by decide +kernel
theorem dX10_best_9 : decode cX10_best 9 = .ok (.iconst (-1), 1) := by decide +kernel
theorem dX10_best_10 : decode cX10_best 10 = .ok (.ireturn, 1) := by decide +kernel
theorem dX10_best_11 : decode cX10_best 11 = .ok (.bipush (-2), 2) := by decide +kernel
theorem dX10_best_13 : decode cX10_best 13 = .ok (.istore_n 2, 1) := by decide +kernel
theorem dX10_best_14 : decode cX10_best 14 = .ok (.bipush (-2), 2) := by decide +kernel
theorem dX10_best_16 : decode cX10_best 16 = .ok (.istore_n 3, 1) := by decide +kernel
theorem dX10_best_17 : decode cX10_best 17 = .ok (.iconst 0, 1) := by decide +kernel
theorem dX10_best_18 : decode cX10_best 18 = .ok (.istore 4, 2) := by decide +kernel
theorem dX10_best_20 : decode cX10_best 20 = .ok (.iload 4, 2) := by decide +kernel
theorem dX10_best_22 : decode cX10_best 22 = .ok (.aload_n 0, 1) := by decide +kernel
theorem dX10_best_23 : decode cX10_best 23 = .ok (.getfield 46, 3) := by decide +kernel
theorem dX10_best_26 : decode cX10_best 26 = .ok (.aload_n 0, 1) := by decide +kernel
theorem dX10_best_27 : decode cX10_best 27 = .ok (.getfield 230, 3) := by decide +kernel
theorem dX10_best_30 : decode cX10_best 30 = .ok (.iaload, 1) := by decide +kernel
theorem dX10_best_31 : decode cX10_best 31 = .ok (.if_icmp .ge 45, 3) := by decide +kernel
theorem dX10_best_34 : decode cX10_best 34 = .ok (.aload_n 0, 1) := by decide +kernel
theorem dX10_best_35 : decode cX10_best 35 = .ok (.getfield 119, 3) := by decide +kernel
theorem dX10_best_38 : decode cX10_best 38 = .ok (.bipush 6, 2) := by decide +kernel
theorem dX10_best_40 : decode cX10_best 40 = .ok (.iload 4, 2) := by decide +kernel
theorem dX10_best_42 : decode cX10_best 42 = .ok (.iadd, 1) := by decide +kernel
theorem dX10_best_43 : decode cX10_best 43 = .ok (.iaload, 1) := by decide +kernel
theorem dX10_best_44 : decode cX10_best 44 = .ok (.ifCond .gt 26, 3) := by decide +kernel
theorem dX10_best_47 : decode cX10_best 47 = .ok (.aload_n 0, 1) := by decide +kernel
theorem dX10_best_48 : decode cX10_best 48 = .ok (.iload 4, 2) := by decide +kernel
theorem dX10_best_50 : decode cX10_best 50 = .ok (.invokevirtual 411, 3) := by decide +kernel
theorem dX10_best_53 : decode cX10_best 53 = .ok (.iload_n 3, 1) := by decide +kernel
theorem dX10_best_54 : decode cX10_best 54 = .ok (.if_icmp .gt 6, 3) := by decide +kernel
theorem dX10_best_57 : decode cX10_best 57 = .ok (.goto 13, 3) := by decide +kernel
theorem dX10_best_60 : decode cX10_best 60 = .ok (.iload 4, 2) := by decide +kernel
theorem dX10_best_62 : decode cX10_best 62 = .ok (.istore_n 2, 1) := by decide +kernel
theorem dX10_best_63 : decode cX10_best 63 = .ok (.aload_n 0, 1) := by decide +kernel
theorem dX10_best_64 : decode cX10_best 64 = .ok (.iload 4, 2) := by decide +kernel
theorem dX10_best_66 : decode cX10_best 66 = .ok (.invokevirtual 411, 3) := by decide +kernel
theorem dX10_best_69 : decode cX10_best 69 = .ok (.istore_n 3, 1) := by decide +kernel
theorem dX10_best_70 : decode cX10_best 70 = .ok (.iinc 4 1, 3) := by decide +kernel
theorem dX10_best_73 : decode cX10_best 73 = .ok (.goto (-53), 3) := by decide +kernel
theorem dX10_best_76 : decode cX10_best 76 = .ok (.iload_n 1, 1) := by decide +kernel
theorem dX10_best_77 : decode cX10_best 77 = .ok (.ifCond .ne 7, 3) := by decide +kernel
theorem dX10_best_80 : decode cX10_best 80 = .ok (.iload_n 2, 1) := by decide +kernel
theorem dX10_best_81 : decode cX10_best 81 = .ok (.goto 4, 3) := by decide +kernel
theorem dX10_best_84 : decode cX10_best 84 = .ok (.iload_n 3, 1) := by decide +kernel
theorem dX10_best_85 : decode cX10_best 85 = .ok (.ireturn, 1) := by decide +kernel
theorem dX10_isEnough_0 : decode cX10_isEnough 0 = .ok (.iload_n 1, 1) := by decide +kernel
theorem dX10_isEnough_1 : decode cX10_isEnough 1 = .ok (.iconst (-1), 1) := by decide +kernel
theorem dX10_isEnough_2 : decode cX10_isEnough 2 = .ok (.if_icmp .ne 31, 3) := by decide +kernel
theorem dX10_isEnough_5 : decode cX10_isEnough 5 = .ok (.aload_n 0, 1) := by decide +kernel
theorem dX10_isEnough_6 : decode cX10_isEnough 6 = .ok (.invokevirtual 414, 3) := by decide +kernel
theorem dX10_isEnough_9 : decode cX10_isEnough 9 = .ok (.iconst 1, 1) := by decide +kernel
theorem dX10_isEnough_10 : decode cX10_isEnough 10 = .ok (.aload_n 0, 1) := by decide +kernel
theorem dX10_isEnough_11 : decode cX10_isEnough 11 = .ok (.getfield 55, 3) := by decide +kernel
theorem dX10_isEnough_14 : decode cX10_isEnough 14 = .ok (.aload_n 0, 1) := by decide +kernel
theorem dX10_isEnough_15 : decode cX10_isEnough 15 = .ok (.getfield 230, 3) := by decide +kernel
theorem dX10_isEnough_18 : decode cX10_isEnough 18 = .ok (.iaload, 1) := by decide +kernel
theorem dX10_isEnough_19 : decode cX10_isEnough 19 = .ok (.ishl, 1) := by decide +kernel
theorem dX10_isEnough_20 : decode cX10_isEnough 20 = .ok (.iconst 1, 1) := by decide +kernel
theorem dX10_isEnough_21 : decode cX10_isEnough 21 = .ok (.isub, 1) := by decide +kernel
theorem dX10_isEnough_22 : decode cX10_isEnough 22 = .ok (.if_icmp .ne 7, 3) := by decide +kernel
theorem dX10_isEnough_25 : decode cX10_isEnough 25 = .ok (.iconst 1, 1) := by decide +kernel
theorem dX10_isEnough_26 : decode cX10_isEnough 26 = .ok (.goto 12, 3) := by decide +kernel
theorem dX10_isEnough_29 : decode cX10_isEnough 29 = .ok (.iconst 0, 1) := by decide +kernel
theorem dX10_isEnough_30 : decode cX10_isEnough 30 = .ok (.goto 8, 3) := by decide +kernel
theorem dX10_isEnough_33 : decode cX10_isEnough 33 = .ok (.aload_n 0, 1) := by decide +kernel
theorem dX10_isEnough_34 : decode cX10_isEnough 34 = .ok (.iload_n 1, 1) := by decide +kernel
theorem dX10_isEnough_35 : decode cX10_isEnough 35 = .ok (.invokevirtual 350, 3) := by decide +kernel
theorem dX10_isEnough_38 : decode cX10_isEnough 38 = .ok (.ireturn, 1) := by decide +kernel
theorem dX10_power_0 : decode cX10_power 0 = .ok (.iconst 1, 1) := by decide +kernel
theorem dX10_power_1 : decode cX10_power 1 = .ok (.istore_n 2, 1) := by decide +kernel
theorem dX10_power_2 : decode cX10_power 2 = .ok (.iconst 0, 1) := by decide +kernel
theorem dX10_power_3 : decode cX10_power 3 = .ok (.istore_n 3, 1) := by decide +kernel
theorem dX10_power_4 : decode cX10_power 4 = .ok (.iload_n 3, 1) := by decide +kernel
theorem dX10_power_5 : decode cX10_power 5 = .ok (.iload_n 1, 1) := by decide +kernel
theorem dX10_power_6 : decode cX10_power 6 = .ok (.if_icmp .ge 13, 3) := by decide +kernel
theorem dX10_power_9 : decode cX10_power 9 = .ok (.iload_n 2, 1) := by decide +kernel
theorem dX10_power_10 : decode cX10_power 10 = .ok (.iload_n 0, 1) := by decide +kernel
theorem dX10_power_11 : decode cX10_power 11 = .ok (.imul, 1) := by decide +kernel
theorem dX10_power_12 : decode cX10_power 12 = .ok (.istore_n 2, 1) := by decide +kernel
theorem dX10_power_13 : decode cX10_power 13 = .ok (.iinc 3 1, 3) := by decide +kernel
theorem dX10_power_16 : decode cX10_power 16 = .ok (.goto (-12), 3) := by decide +kernel
theorem dX10_power_19 : decode cX10_power 19 = .ok (.iload_n 2, 1) := by decide +kernel
theorem dX10_power_20 : decode cX10_power 20 = .ok (.ireturn, 1) := by decide +kernel
theorem dX10_doesWay_0 : decode cX10_doesWay 0 = .ok (.aload_n 0, 1) := by decide +kernel
theorem dX10_doesWay_1 : decode cX10_doesWay 1 = .ok (.invokevirtual 402, 3) := by decide +kernel
theorem dX10_doesWay_4 : decode cX10_doesWay 4 = .ok (.iload_n 3, 1) := by decide +kernel
theorem dX10_doesWay_5 : decode cX10_doesWay 5 = .ok (.iconst 1, 1) := by decide +kernel
theorem dX10_doesWay_6 : decode cX10_doesWay 6 = .ok (.isub, 1) := by decide +kernel
theorem dX10_doesWay_7 : decode cX10_doesWay 7 = .ok (.istore 4, 2) := by decide +kernel
theorem dX10_doesWay_9 : decode cX10_doesWay 9 = .ok (.iload 4, 2) := by decide +kernel
theorem dX10_doesWay_11 : decode cX10_doesWay 11 = .ok (.ifCond .lt 65, 3) := by decide +kernel
theorem dX10_doesWay_14 : decode cX10_doesWay 14 = .ok (.iload_n 2, 1) := by decide +kernel
theorem dX10_doesWay_15 : decode cX10_doesWay 15 = .ok (.aload_n 0, 1) := by decide +kernel
theorem dX10_doesWay_16 : decode cX10_doesWay 16 = .ok (.getfield 46, 3) := by decide +kernel
theorem dX10_doesWay_19 : decode cX10_doesWay 19 = .ok (.aload_n 0, 1) := by decide +kernel
theorem dX10_doesWay_20 : decode cX10_doesWay 20 = .ok (.getfield 230, 3) := by decide +kernel
theorem dX10_doesWay_23 : decode cX10_doesWay 23 = .ok (.iaload, 1) := by decide +kernel
theorem dX10_doesWay_24 : decode cX10_doesWay 24 = .ok (.iload 4, 2) := by decide +kernel
theorem dX10_doesWay_26 : decode cX10_doesWay 26 = .ok (.invokestatic 417, 3) := by decide +kernel
theorem dX10_doesWay_29 : decode cX10_doesWay 29 = .ok (.idiv, 1) := by decide +kernel
theorem dX10_doesWay_30 : decode cX10_doesWay 30 = .ok (.aload_n 0, 1) := by decide +kernel
theorem dX10_doesWay_31 : decode cX10_doesWay 31 = .ok (.getfield 46, 3) := by decide +kernel
theorem dX10_doesWay_34 : decode cX10_doesWay 34 = .ok (.aload_n 0, 1) := by decide +kernel
theorem dX10_doesWay_35 : decode cX10_doesWay 35 = .ok (.getfield 230, 3) := by decide +kernel
theorem dX10_doesWay_38 : decode cX10_doesWay 38 = .ok (.iaload, 1) := by decide +kernel
theorem dX10_doesWay_39 : decode cX10_doesWay 39 = .ok (.irem, 1) := by decide +kernel
theorem dX10_doesWay_40 : decode cX10_doesWay 40 = .ok (.istore 5, 2) := by decide +kernel
theorem dX10_doesWay_42 : decode cX10_doesWay 42 = .ok (.aload_n 0, 1) := by decide +kernel
theorem dX10_doesWay_43 : decode cX10_doesWay 43 = .ok (.getfield 122, 3) := by decide +kernel
theorem dX10_doesWay_46 : decode cX10_doesWay 46 = .ok (.bipush 6, 2) := by decide +kernel
theorem dX10_doesWay_48 : decode cX10_doesWay 48 = .ok (.iload 5, 2) := by decide +kernel
theorem dX10_doesWay_50 : decode cX10_doesWay 50 = .ok (.iadd, 1) := by decide +kernel
theorem dX10_doesWay_51 : decode cX10_doesWay 51 = .ok (.iaload, 1) := by decide +kernel
theorem dX10_doesWay_52 : decode cX10_doesWay 52 = .ok (.ifCond .le 5, 3) := by decide +kernel
theorem dX10_doesWay_55 : decode cX10_doesWay 55 = .ok (.iconst 0, 1) := by decide +kernel
theorem dX10_doesWay_56 : decode cX10_doesWay 56 = .ok (.ireturn, 1) := by decide +kernel
theorem dX10_doesWay_57 : decode cX10_doesWay 57 = .ok (.aload_n 0, 1) := by decide +kernel
theorem dX10_doesWay_58 : decode cX10_doesWay 58 = .ok (.getfield 122, 3) := by decide +kernel
theorem dX10_doesWay_61 : decode cX10_doesWay 61 = .ok (.bipush 31, 2) := by decide +kernel
theorem dX10_doesWay_63 : decode cX10_doesWay 63 = .ok (.iload 5, 2) := by decide +kernel
theorem dX10_doesWay_65 : decode cX10_doesWay 65 = .ok (.iastore, 1) := by decide +kernel
theorem dX10_doesWay_66 : decode cX10_doesWay 66 = .ok (.aload_n 0, 1) := by decide +kernel
theorem dX10_doesWay_67 : decode cX10_doesWay 67 = .ok (.invokevirtual 378, 3) := by decide +kernel
theorem dX10_doesWay_70 : decode cX10_doesWay 70 = .ok (.iinc 4 (-1), 3) := by decide +kernel
theorem dX10_doesWay_73 : decode cX10_doesWay 73 = .ok (.goto (-64), 3) := by decide +kernel
theorem dX10_doesWay_76 : decode cX10_doesWay 76 = .ok (.aload_n 0, 1) := by decide +kernel
theorem dX10_doesWay_77 : decode cX10_doesWay 77 = .ok (.iload_n 1, 1) := by decide +kernel
theorem dX10_doesWay_78 : decode cX10_doesWay 78 = .ok (.invokevirtual 420, 3) := by decide +kernel
theorem dX10_doesWay_81 : decode cX10_doesWay 81 = .ok (.ireturn, 1) := by decide +kernel
theorem dX10_findsPlan_0 : decode cX10_findsPlan 0 = .ok (.aload_n 0, 1) := by decide +kernel
theorem dX10_findsPlan_1 : decode cX10_findsPlan 1 = .ok (.invokevirtual 402, 3) := by decide +kernel
theorem dX10_findsPlan_4 : decode cX10_findsPlan 4 = .ok (.aload_n 0, 1) := by decide +kernel
theorem dX10_findsPlan_5 : decode cX10_findsPlan 5 = .ok (.iconst 0, 1) := by decide +kernel
theorem dX10_findsPlan_6 : decode cX10_findsPlan 6 = .ok (.putfield 423, 3) := by decide +kernel
theorem dX10_findsPlan_9 : decode cX10_findsPlan 9 = .ok (.aload_n 0, 1) := by decide +kernel
theorem dX10_findsPlan_10 : decode cX10_findsPlan 10 = .ok (.iload_n 1, 1) := by decide +kernel
theorem dX10_findsPlan_11 : decode cX10_findsPlan 11 = .ok (.invokevirtual 420, 3) := by decide +kernel
theorem dX10_findsPlan_14 : decode cX10_findsPlan 14 = .ok (.ifCond .eq 4, 3) := by decide +kernel
theorem dX10_findsPlan_17 : decode cX10_findsPlan 17 = .ok (.return_, 1) := by decide +kernel
theorem dX10_findsPlan_18 : decode cX10_findsPlan 18 = .ok (.aload_n 0, 1) := by decide +kernel
theorem dX10_findsPlan_19 : decode cX10_findsPlan 19 = .ok (.iconst 1, 1) := by decide +kernel
theorem dX10_findsPlan_20 : decode cX10_findsPlan 20 = .ok (.putfield 423, 3) := by decide +kernel
theorem dX10_findsPlan_23 : decode cX10_findsPlan 23 = .ok (.aload_n 0, 1) := by decide +kernel
theorem dX10_findsPlan_24 : decode cX10_findsPlan 24 = .ok (.getfield 423, 3) := by decide +kernel
theorem dX10_findsPlan_27 : decode cX10_findsPlan 27 = .ok (.iconst 4, 1) := by decide +kernel
theorem dX10_findsPlan_28 : decode cX10_findsPlan 28 = .ok (.if_icmp .gt 74, 3) := by decide +kernel
theorem dX10_findsPlan_31 : decode cX10_findsPlan 31 = .ok (.aload_n 0, 1) := by decide +kernel
theorem dX10_findsPlan_32 : decode cX10_findsPlan 32 = .ok (.iconst 0, 1) := by decide +kernel
theorem dX10_findsPlan_33 : decode cX10_findsPlan 33 = .ok (.putfield 426, 3) := by decide +kernel
theorem dX10_findsPlan_36 : decode cX10_findsPlan 36 = .ok (.aload_n 0, 1) := by decide +kernel
theorem dX10_findsPlan_37 : decode cX10_findsPlan 37 = .ok (.getfield 426, 3) := by decide +kernel
theorem dX10_findsPlan_40 : decode cX10_findsPlan 40 = .ok (.aload_n 0, 1) := by decide +kernel
theorem dX10_findsPlan_41 : decode cX10_findsPlan 41 = .ok (.getfield 46, 3) := by decide +kernel
theorem dX10_findsPlan_44 : decode cX10_findsPlan 44 = .ok (.aload_n 0, 1) := by decide +kernel
theorem dX10_findsPlan_45 : decode cX10_findsPlan 45 = .ok (.getfield 230, 3) := by decide +kernel
theorem dX10_findsPlan_48 : decode cX10_findsPlan 48 = .ok (.iaload, 1) := by decide +kernel
theorem dX10_findsPlan_49 : decode cX10_findsPlan 49 = .ok (.aload_n 0, 1) := by decide +kernel
theorem dX10_findsPlan_50 : decode cX10_findsPlan 50 = .ok (.getfield 423, 3) := by decide +kernel
theorem dX10_findsPlan_53 : decode cX10_findsPlan 53 = .ok (.invokestatic 417, 3) := by decide +kernel
theorem dX10_findsPlan_56 : decode cX10_findsPlan 56 = .ok (.if_icmp .ge 33, 3) := by decide +kernel
theorem dX10_findsPlan_59 : decode cX10_findsPlan 59 = .ok (.aload_n 0, 1) := by decide +kernel
theorem dX10_findsPlan_60 : decode cX10_findsPlan 60 = .ok (.iload_n 1, 1) := by decide +kernel
theorem dX10_findsPlan_61 : decode cX10_findsPlan 61 = .ok (.aload_n 0, 1) := by decide +kernel
theorem dX10_findsPlan_62 : decode cX10_findsPlan 62 = .ok (.getfield 426, 3) := by decide +kernel
theorem dX10_findsPlan_65 : decode cX10_findsPlan 65 = .ok (.aload_n 0, 1) := by decide +kernel
theorem dX10_findsPlan_66 : decode cX10_findsPlan 66 = .ok (.getfield 423, 3) := by decide +kernel
theorem dX10_findsPlan_69 : decode cX10_findsPlan 69 = .ok (.invokevirtual 429, 3) := by decide +kernel
theorem dX10_findsPlan_72 : decode cX10_findsPlan 72 = .ok (.ifCond .eq 4, 3) := by decide +kernel
theorem dX10_findsPlan_75 : decode cX10_findsPlan 75 = .ok (.return_, 1) := by decide +kernel
theorem dX10_findsPlan_76 : decode cX10_findsPlan 76 = .ok (.aload_n 0, 1) := by decide +kernel
theorem dX10_findsPlan_77 : decode cX10_findsPlan 77 = .ok (.dup, 1) := by decide +kernel
theorem dX10_findsPlan_78 : decode cX10_findsPlan 78 = .ok (.getfield 426, 3) := by decide +kernel
theorem dX10_findsPlan_81 : decode cX10_findsPlan 81 = .ok (.iconst 1, 1) := by decide +kernel
theorem dX10_findsPlan_82 : decode cX10_findsPlan 82 = .ok (.iadd, 1) := by decide +kernel
theorem dX10_findsPlan_83 : decode cX10_findsPlan 83 = .ok (.putfield 426, 3) := by decide +kernel
theorem dX10_findsPlan_86 : decode cX10_findsPlan 86 = .ok (.goto (-50), 3) := by decide +kernel
theorem dX10_findsPlan_89 : decode cX10_findsPlan 89 = .ok (.aload_n 0, 1) := by decide +kernel
theorem dX10_findsPlan_90 : decode cX10_findsPlan 90 = .ok (.dup, 1) := by decide +kernel
theorem dX10_findsPlan_91 : decode cX10_findsPlan 91 = .ok (.getfield 423, 3) := by decide +kernel
theorem dX10_findsPlan_94 : decode cX10_findsPlan 94 = .ok (.iconst 1, 1) := by decide +kernel
theorem dX10_findsPlan_95 : decode cX10_findsPlan 95 = .ok (.iadd, 1) := by decide +kernel
theorem dX10_findsPlan_96 : decode cX10_findsPlan 96 = .ok (.putfield 423, 3) := by decide +kernel
theorem dX10_findsPlan_99 : decode cX10_findsPlan 99 = .ok (.goto (-76), 3) := by decide +kernel
theorem dX10_findsPlan_102 : decode cX10_findsPlan 102 = .ok (.return_, 1) := by decide +kernel
theorem dX10_plan_0 : decode cX10_plan 0 = .ok (.iload_n 1, 1) := by decide +kernel
theorem dX10_plan_1 : decode cX10_plan 1 = .ok (.iconst (-1), 1) := by decide +kernel
theorem dX10_plan_2 : decode cX10_plan 2 = .ok (.if_icmp .eq 11, 3) := by decide +kernel
theorem dX10_plan_5 : decode cX10_plan 5 = .ok (.aload_n 0, 1) := by decide +kernel
theorem dX10_plan_6 : decode cX10_plan 6 = .ok (.iload_n 1, 1) := by decide +kernel
theorem dX10_plan_7 : decode cX10_plan 7 = .ok (.invokevirtual 384, 3) := by decide +kernel
theorem dX10_plan_10 : decode cX10_plan 10 = .ok (.ifCond .eq 12, 3) := by decide +kernel
theorem dX10_plan_13 : decode cX10_plan 13 = .ok (.iload_n 2, 1) := by decide +kernel
theorem dX10_plan_14 : decode cX10_plan 14 = .ok (.iconst (-1), 1) := by decide +kernel
theorem dX10_plan_15 : decode cX10_plan 15 = .ok (.iconst 3, 1) := by decide +kernel
theorem dX10_plan_16 : decode cX10_plan 16 = .ok (.invokestatic 310, 3) := by decide +kernel
theorem dX10_plan_19 : decode cX10_plan 19 = .ok (.ifCond .ne 5, 3) := by decide +kernel
theorem dX10_plan_22 : decode cX10_plan 22 = .ok (.iconst (-1), 1) := by decide +kernel
theorem dX10_plan_23 : decode cX10_plan 23 = .ok (.ireturn, 1) := by decide +kernel
theorem dX10_plan_24 : decode cX10_plan 24 = .ok (.aload_n 0, 1) := by decide +kernel
theorem dX10_plan_25 : decode cX10_plan 25 = .ok (.iload_n 1, 1) := by decide +kernel
theorem dX10_plan_26 : decode cX10_plan 26 = .ok (.invokevirtual 432, 3) := by decide +kernel
theorem dX10_plan_29 : decode cX10_plan 29 = .ok (.aload_n 0, 1) := by decide +kernel
theorem dX10_plan_30 : decode cX10_plan 30 = .ok (.getfield 423, 3) := by decide +kernel
theorem dX10_plan_33 : decode cX10_plan 33 = .ok (.iconst 5, 1) := by decide +kernel
theorem dX10_plan_34 : decode cX10_plan 34 = .ok (.if_icmp .ne 6, 3) := by decide +kernel
theorem dX10_plan_37 : decode cX10_plan 37 = .ok (.bipush (-2), 2) := by decide +kernel
theorem dX10_plan_39 : decode cX10_plan 39 = .ok (.ireturn, 1) := by decide +kernel
theorem dX10_plan_40 : decode cX10_plan 40 = .ok (.iload_n 2, 1) := by decide +kernel
theorem dX10_plan_41 : decode cX10_plan 41 = .ok (.iconst (-1), 1) := by decide +kernel
theorem dX10_plan_42 : decode cX10_plan 42 = .ok (.if_icmp .ne 8, 3) := by decide +kernel
theorem dX10_plan_45 : decode cX10_plan 45 = .ok (.aload_n 0, 1) := by decide +kernel
theorem dX10_plan_46 : decode cX10_plan 46 = .ok (.getfield 423, 3) := by decide +kernel
theorem dX10_plan_49 : decode cX10_plan 49 = .ok (.ireturn, 1) := by decide +kernel
theorem dX10_plan_50 : decode cX10_plan 50 = .ok (.iload_n 2, 1) := by decide +kernel
theorem dX10_plan_51 : decode cX10_plan 51 = .ok (.aload_n 0, 1) := by decide +kernel
theorem dX10_plan_52 : decode cX10_plan 52 = .ok (.getfield 423, 3) := by decide +kernel
theorem dX10_plan_55 : decode cX10_plan 55 = .ok (.if_icmp .ge 41, 3) := by decide +kernel
theorem dX10_plan_58 : decode cX10_plan 58 = .ok (.aload_n 0, 1) := by decide +kernel
theorem dX10_plan_59 : decode cX10_plan 59 = .ok (.getfield 426, 3) := by decide +kernel
theorem dX10_plan_62 : decode cX10_plan 62 = .ok (.aload_n 0, 1) := by decide +kernel
theorem dX10_plan_63 : decode cX10_plan 63 = .ok (.getfield 46, 3) := by decide +kernel
theorem dX10_plan_66 : decode cX10_plan 66 = .ok (.aload_n 0, 1) := by decide +kernel
theorem dX10_plan_67 : decode cX10_plan 67 = .ok (.getfield 230, 3) := by decide +kernel
theorem dX10_plan_70 : decode cX10_plan 70 = .ok (.iaload, 1) := by decide +kernel
theorem dX10_plan_71 : decode cX10_plan 71 = .ok (.aload_n 0, 1) := by decide +kernel
theorem dX10_plan_72 : decode cX10_plan 72 = .ok (.getfield 423, 3) := by decide +kernel
theorem dX10_plan_75 : decode cX10_plan 75 = .ok (.iconst 1, 1) := by decide +kernel
theorem dX10_plan_76 : decode cX10_plan 76 = .ok (.isub, 1) := by decide +kernel
theorem dX10_plan_77 : decode cX10_plan 77 = .ok (.iload_n 2, 1) := by decide +kernel
theorem dX10_plan_78 : decode cX10_plan 78 = .ok (.isub, 1) := by decide +kernel
theorem dX10_plan_79 : decode cX10_plan 79 = .ok (.invokestatic 417, 3) := by decide +kernel
theorem dX10_plan_82 : decode cX10_plan 82 = .ok (.idiv, 1) := by decide +kernel
theorem dX10_plan_83 : decode cX10_plan 83 = .ok (.aload_n 0, 1) := by decide +kernel
theorem dX10_plan_84 : decode cX10_plan 84 = .ok (.getfield 46, 3) := by decide +kernel
theorem dX10_plan_87 : decode cX10_plan 87 = .ok (.aload_n 0, 1) := by decide +kernel
theorem dX10_plan_88 : decode cX10_plan 88 = .ok (.getfield 230, 3) := by decide +kernel
theorem dX10_plan_91 : decode cX10_plan 91 = .ok (.iaload, 1) := by decide +kernel
theorem dX10_plan_92 : decode cX10_plan 92 = .ok (.irem, 1) := by decide +kernel
theorem dX10_plan_93 : decode cX10_plan 93 = .ok (.goto 4, 3) := by decide +kernel
theorem dX10_plan_96 : decode cX10_plan 96 = .ok (.iconst (-1), 1) := by decide +kernel
theorem dX10_plan_97 : decode cX10_plan 97 = .ok (.ireturn, 1) := by decide +kernel
theorem dX10_star_0 : decode cX10_star 0 = .ok (.iload_n 1, 1) := by decide +kernel
theorem dX10_star_1 : decode cX10_star 1 = .ok (.iconst 0, 1) := by decide +kernel
theorem dX10_star_2 : decode cX10_star 2 = .ok (.iconst 1, 1) := by decide +kernel
theorem dX10_star_3 : decode cX10_star 3 = .ok (.invokestatic 310, 3) := by decide +kernel
theorem dX10_star_6 : decode cX10_star 6 = .ok (.ifCond .ne 5, 3) := by decide +kernel
theorem dX10_star_9 : decode cX10_star 9 = .ok (.iconst (-1), 1) := by decide +kernel
theorem dX10_star_10 : decode cX10_star 10 = .ok (.ireturn, 1) := by decide +kernel
theorem dX10_star_11 : decode cX10_star 11 = .ok (.aload_n 0, 1) := by decide +kernel
theorem dX10_star_12 : decode cX10_star 12 = .ok (.invokevirtual 320, 3) := by decide +kernel
theorem dX10_star_15 : decode cX10_star 15 = .ok (.bipush (-2), 2) := by decide +kernel
theorem dX10_star_17 : decode cX10_star 17 = .ok (.istore_n 2, 1) := by decide +kernel
theorem dX10_star_18 : decode cX10_star 18 = .ok (.bipush (-2), 2) := by decide +kernel
theorem dX10_star_20 : decode cX10_star 20 = .ok (.istore_n 3, 1) := by decide +kernel
theorem dX10_star_21 : decode cX10_star 21 = .ok (.iconst 0, 1) := by decide +kernel
theorem dX10_star_22 : decode cX10_star 22 = .ok (.istore 4, 2) := by decide +kernel
theorem dX10_star_24 : decode cX10_star 24 = .ok (.iload 4, 2) := by decide +kernel
theorem dX10_star_26 : decode cX10_star 26 = .ok (.aload_n 0, 1) := by decide +kernel
theorem dX10_star_27 : decode cX10_star 27 = .ok (.getfield 46, 3) := by decide +kernel
theorem dX10_star_30 : decode cX10_star 30 = .ok (.aload_n 0, 1) := by decide +kernel
theorem dX10_star_31 : decode cX10_star 31 = .ok (.getfield 230, 3) := by decide +kernel
theorem dX10_star_34 : decode cX10_star 34 = .ok (.iaload, 1) := by decide +kernel
theorem dX10_star_35 : decode cX10_star 35 = .ok (.if_icmp .ge 41, 3) := by decide +kernel
theorem dX10_star_38 : decode cX10_star 38 = .ok (.aload_n 0, 1) := by decide +kernel
theorem dX10_star_39 : decode cX10_star 39 = .ok (.iload 4, 2) := by decide +kernel
theorem dX10_star_41 : decode cX10_star 41 = .ok (.aload_n 0, 1) := by decide +kernel
theorem dX10_star_42 : decode cX10_star 42 = .ok (.iload 4, 2) := by decide +kernel
theorem dX10_star_44 : decode cX10_star 44 = .ok (.invokevirtual 353, 3) := by decide +kernel
theorem dX10_star_47 : decode cX10_star 47 = .ok (.invokevirtual 408, 3) := by decide +kernel
theorem dX10_star_50 : decode cX10_star 50 = .ok (.invokestatic 336, 3) := by decide +kernel
theorem dX10_star_53 : decode cX10_star 53 = .ok (.istore 5, 2) := by decide +kernel
theorem dX10_star_55 : decode cX10_star 55 = .ok (.iload 5, 2) := by decide +kernel
theorem dX10_star_57 : decode cX10_star 57 = .ok (.iload_n 3, 1) := by decide +kernel
theorem dX10_star_58 : decode cX10_star 58 = .ok (.if_icmp .gt 6, 3) := by decide +kernel
theorem dX10_star_61 : decode cX10_star 61 = .ok (.goto 9, 3) := by decide +kernel
theorem dX10_star_64 : decode cX10_star 64 = .ok (.iload 4, 2) := by decide +kernel
theorem dX10_star_66 : decode cX10_star 66 = .ok (.istore_n 2, 1) := by decide +kernel
theorem dX10_star_67 : decode cX10_star 67 = .ok (.iload 5, 2) := by decide +kernel
theorem dX10_star_69 : decode cX10_star 69 = .ok (.istore_n 3, 1) := by decide +kernel
theorem dX10_star_70 : decode cX10_star 70 = .ok (.iinc 4 1, 3) := by decide +kernel
theorem dX10_star_73 : decode cX10_star 73 = .ok (.goto (-49), 3) := by decide +kernel
theorem dX10_star_76 : decode cX10_star 76 = .ok (.iload_n 1, 1) := by decide +kernel
theorem dX10_star_77 : decode cX10_star 77 = .ok (.ifCond .ne 7, 3) := by decide +kernel
theorem dX10_star_80 : decode cX10_star 80 = .ok (.iload_n 2, 1) := by decide +kernel
theorem dX10_star_81 : decode cX10_star 81 = .ok (.goto 4, 3) := by decide +kernel
theorem dX10_star_84 : decode cX10_star 84 = .ok (.iload_n 3, 1) := by decide +kernel
theorem dX10_star_85 : decode cX10_star 85 = .ok (.ireturn, 1) := by decide +kernel
theorem dX10_credit_0 : decode cX10_credit 0 = .ok (.aload_n 0, 1) := by decide +kernel
theorem dX10_credit_1 : decode cX10_credit 1 = .ok (.iload_n 1, 1) := by decide +kernel
theorem dX10_credit_2 : decode cX10_credit 2 = .ok (.invokevirtual 384, 3) := by decide +kernel
theorem dX10_credit_5 : decode cX10_credit 5 = .ok (.ifCond .ne 5, 3) := by decide +kernel
theorem dX10_credit_8 : decode cX10_credit 8 = .ok (.iconst (-1), 1) := by decide +kernel
theorem dX10_credit_9 : decode cX10_credit 9 = .ok (.ireturn, 1) := by decide +kernel
theorem dX10_credit_10 : decode cX10_credit 10 = .ok (.aload_n 0, 1) := by decide +kernel
theorem dX10_credit_11 : decode cX10_credit 11 = .ok (.invokevirtual 320, 3) := by decide +kernel
theorem dX10_credit_14 : decode cX10_credit 14 = .ok (.iconst 0, 1) := by decide +kernel
theorem dX10_credit_15 : decode cX10_credit 15 = .ok (.istore_n 2, 1) := by decide +kernel
theorem dX10_credit_16 : decode cX10_credit 16 = .ok (.iconst 0, 1) := by decide +kernel
theorem dX10_credit_17 : decode cX10_credit 17 = .ok (.istore_n 3, 1) := by decide +kernel
theorem dX10_credit_18 : decode cX10_credit 18 = .ok (.iload_n 3, 1) := by decide +kernel
theorem dX10_credit_19 : decode cX10_credit 19 = .ok (.aload_n 0, 1) := by decide +kernel
theorem dX10_credit_20 : decode cX10_credit 20 = .ok (.getfield 46, 3) := by decide +kernel
theorem dX10_credit_23 : decode cX10_credit 23 = .ok (.aload_n 0, 1) := by decide +kernel
theorem dX10_credit_24 : decode cX10_credit 24 = .ok (.getfield 230, 3) := by decide +kernel
theorem dX10_credit_27 : decode cX10_credit 27 = .ok (.iaload, 1) := by decide +kernel
theorem dX10_credit_28 : decode cX10_credit 28 = .ok (.if_icmp .ge 29, 3) := by decide +kernel
theorem dX10_credit_31 : decode cX10_credit 31 = .ok (.aload_n 0, 1) := by decide +kernel
theorem dX10_credit_32 : decode cX10_credit 32 = .ok (.iload_n 1, 1) := by decide +kernel
theorem dX10_credit_33 : decode cX10_credit 33 = .ok (.iload_n 3, 1) := by decide +kernel
theorem dX10_credit_34 : decode cX10_credit 34 = .ok (.aload_n 0, 1) := by decide +kernel
theorem dX10_credit_35 : decode cX10_credit 35 = .ok (.iload_n 3, 1) := by decide +kernel
theorem dX10_credit_36 : decode cX10_credit 36 = .ok (.invokevirtual 353, 3) := by decide +kernel
theorem dX10_credit_39 : decode cX10_credit 39 = .ok (.invokevirtual 359, 3) := by decide +kernel
theorem dX10_credit_42 : decode cX10_credit 42 = .ok (.ifCond .eq 9, 3) := by decide +kernel
theorem dX10_credit_45 : decode cX10_credit 45 = .ok (.iload_n 2, 1) := by decide +kernel
theorem dX10_credit_46 : decode cX10_credit 46 = .ok (.iconst 1, 1) := by decide +kernel
theorem dX10_credit_47 : decode cX10_credit 47 = .ok (.iload_n 3, 1) := by decide +kernel
theorem dX10_credit_48 : decode cX10_credit 48 = .ok (.ishl, 1) := by decide +kernel
theorem dX10_credit_49 : decode cX10_credit 49 = .ok (.ior, 1) := by decide +kernel
theorem dX10_credit_50 : decode cX10_credit 50 = .ok (.istore_n 2, 1) := by decide +kernel
theorem dX10_credit_51 : decode cX10_credit 51 = .ok (.iinc 3 1, 3) := by decide +kernel
theorem dX10_credit_54 : decode cX10_credit 54 = .ok (.goto (-36), 3) := by decide +kernel
theorem dX10_credit_57 : decode cX10_credit 57 = .ok (.iload_n 2, 1) := by decide +kernel
theorem dX10_credit_58 : decode cX10_credit 58 = .ok (.ireturn, 1) := by decide +kernel
set_option maxRecDepth 100000 in
set_option maxHeartbeats 4000000 in
theorem tX10_goes_2 (G : gx) (fu : Nat) (h0 : mh) (v0 : Nat) (v1 : Int32) (n : Nat) (v2 : Int32) (h : mh) : Ev lV G yX10_goes cX10_goes 3 (none) 6 h0 2 [(0, .ref (gB G + v0)), (1, .int v1), (2, .int v2)] [] h (itr (bX10_goes_2 fu v0 v1) n (v2, h)) := by
  refine ev_itr (P := fun (q : Int32 × mh) (R9 : Option (Unit × mh)) => Ev lV G yX10_goes cX10_goes 3 (none) 6 h0 2 [(0, .ref (gB G + v0)), (1, .int v1), (2, .int q.1)] [] q.2 R9) (fun _ => ev_none) (fun k2 hk9 q => ?_) n (v2, h)
  obtain ⟨v2, h⟩ := q
  have hk2 : ∀ (v2 : Int32) (h : mh), Ev lV G yX10_goes cX10_goes 3 (none) 6 h0 2 [(0, .ref (gB G + v0)), (1, .int v1), (2, .int v2)] [] h (k2 (v2, h)) := fun v2 h => hk9 (v2, h)
  show Ev lV G yX10_goes cX10_goes 3 (none) 6 h0 2 [(0, .ref (gB G + v0)), (1, .int v1), (2, .int v2)] [] h (bX10_goes_2 fu v0 v1 k2 (v2, h))
  unfold bX10_goes_2
  refine ev_step (st_iload_n (pc := 2) (j := 2) dX10_goes_2 rfl rfl) ?_
  refine ev_step (st_iload_n (pc := 3) (j := 1) dX10_goes_3 rfl rfl) ?_
  refine ev_br (br_icmp_ge (tgt := 17) (pc := 4) dX10_goes_4 (by decide)) (fun _ => ?_) (fun _ => ?_)
  · exact ev_vret (pc := 17) dX10_goes_17
  · refine ev_step (st_aload_n (pc := 7) (j := 0) dX10_goes_7 rfl rfl) ?_
    refine ev_ck (fun ha hS => ?_)
    refine ev_callV (iv_V (As := []) (st := []) (pc := 8) rfl m_X10_eveningGoes l_X10_378 i_X10_eveningGoes e_X10_eveningGoes ha hS rfl (Nat.le_of_ble_eq_true rfl) rfl dX10_goes_8) (tX10_eveningGoes G fu v0 h) (by decide) (by decide) (fun h1 => ?_)
    refine ev_step (st_inc (pc := 11) (j := 2) (ls' := [(2, .int (v2 + (1 : Int32))), (0, .ref (gB G + v0)), (1, .int v1)]) dX10_goes_11 rfl ni_1 (by decide) rfl) ?_
    refine ev_step (st_goto (pc := 14) (tgt := 2) dX10_goes_14 (by decide)) ?_
    refine ev_sub (ls' := [(0, .ref (gB G + v0)), (1, .int v1), (2, .int (v2 + (1 : Int32)))]) [1, 2, 0] rfl ?_
    exact hk2 (v2 + (1 : Int32)) h1
set_option maxRecDepth 100000 in
set_option maxHeartbeats 4000000 in
theorem tX10_goes (G : gx) (fu : Nat) (v0 : Nat) (v1 : Int32) (h : mh) : Ct lV G yX10_goes cX10_goes 3 (none) 6 [.ref (gB G + v0), .int v1] h (fX10_goes fu v0 v1 h) := by
  refine ct_ls (ls := [(0, .ref (gB G + v0)), (1, .int v1)]) rfl (by decide) (Nat.le_of_ble_eq_true rfl) ?_
  unfold fX10_goes
  refine ev_step (st_iconst (pc := 0) dX10_goes_0 ni_0) ?_
  refine ev_step (st_istore_n (pc := 1) (ls' := [(2, .int ((0 : Int32))), (0, .ref (gB G + v0)), (1, .int v1)]) dX10_goes_1 rfl (by decide) rfl) ?_
  refine ev_sub (ls' := [(0, .ref (gB G + v0)), (1, .int v1), (2, .int ((0 : Int32)))]) [1, 2, 0] rfl ?_
  exact tX10_goes_2 G fu h v0 v1 fu ((0 : Int32)) h
set_option maxRecDepth 100000 in
set_option maxHeartbeats 4000000 in
theorem tX10_goesWith_24 (G : gx) (fu : Nat) (h0 : mh) (v0 : Nat) (v1 : Int32) (s0 : Nat) (s1 : Int32) (s2 : Int32) (h : mh) : Ev lV G yX10_goesWith cX10_goesWith 2 (none) 6 h0 24 [(0, .ref (gB G + v0)), (1, .int v1)] [.int s2, .int s1, .ref (gB G + s0)] h (fX10_goesWith_24 fu v0 v1 s0 s1 s2 h) := by
  unfold fX10_goesWith_24
  refine ev_sti (pc := 24) dX10_goesWith_24 (fun h1 => ?_)
  refine ev_step (st_aload_n (pc := 25) (j := 0) dX10_goesWith_25 rfl rfl) ?_
  refine ev_ck (fun ha hS => ?_)
  refine ev_callV (iv_V (As := []) (st := []) (pc := 26) rfl m_X10_eveningGoes l_X10_378 i_X10_eveningGoes e_X10_eveningGoes ha hS rfl (Nat.le_of_ble_eq_true rfl) rfl dX10_goesWith_26) (tX10_eveningGoes G fu v0 h1) (by decide) (by decide) (fun h2 => ?_)
  exact ev_vret (pc := 29) dX10_goesWith_29
set_option maxRecDepth 100000 in
set_option maxHeartbeats 4000000 in
theorem tX10_goesWith (G : gx) (fu : Nat) (v0 : Nat) (v1 : Int32) (h : mh) : Ct lV G yX10_goesWith cX10_goesWith 2 (none) 6 [.ref (gB G + v0), .int v1] h (fX10_goesWith fu v0 v1 h) := by
  refine ct_ls (ls := [(0, .ref (gB G + v0)), (1, .int v1)]) rfl (by decide) (Nat.le_of_ble_eq_true rfl) ?_
  unfold fX10_goesWith
  refine ev_step (st_aload_n (pc := 0) (j := 0) dX10_goesWith_0 rfl rfl) ?_
  refine ev_getR (pc := 1) k_X10_122 rfl dX10_goesWith_1 (fun a1 => ?_)
  refine ev_step (st_bipush (pc := 4) dX10_goesWith_4 nb_31) ?_
  refine ev_step (st_aload_n (pc := 6) (j := 0) dX10_goesWith_6 rfl rfl) ?_
  refine ev_getR (pc := 7) k_X10_122 rfl dX10_goesWith_7 (fun a2 => ?_)
  refine ev_step (st_bipush (pc := 10) dX10_goesWith_10 nb_6) ?_
  refine ev_step (st_iload_n (pc := 12) (j := 1) dX10_goesWith_12 rfl rfl) ?_
  refine ev_step (st_iadd (pc := 13) dX10_goesWith_13) ?_
  refine ev_ldi (pc := 14) dX10_goesWith_14 (fun x3 => ?_)
  refine ev_br (br_if_ne (tgt := 22) (pc := 15) dX10_goesWith_15 (by decide)) (fun _ => ?_) (fun _ => ?_)
  · refine ev_step (st_iload_n (pc := 18) (j := 1) dX10_goesWith_18 rfl rfl) ?_
    refine ev_step (st_goto (pc := 19) (tgt := 24) dX10_goesWith_19 (by decide)) ?_
    refine ev_sub (ls' := [(0, .ref (gB G + v0)), (1, .int v1)]) [0, 1] rfl ?_
    exact tX10_goesWith_24 G fu h v0 v1 a1 ((31 : Int32)) v1 h
  · refine ev_step (st_bipush (pc := 22) dX10_goesWith_22 nb_m2) ?_
    refine ev_sub (ls' := [(0, .ref (gB G + v0)), (1, .int v1)]) [0, 1] rfl ?_
    exact tX10_goesWith_24 G fu h v0 v1 a1 ((31 : Int32)) ((-2 : Int32)) h
set_option maxRecDepth 100000 in
set_option maxHeartbeats 4000000 in
theorem tX10_role_137 (G : gx) (fu : Nat) (h0 : mh) (v0 : Nat) (v1 : Int32) (v2 : Int32) (v3 : Int32) (v4 : Int32) (k106 : Int32 × Int32 × mh → Option (Int32 × mh)) (hk106 : ∀ (v3 : Int32) (v4 : Int32) (h : mh), Ev lI G yX10_role cX10_role 5 (some .int) 4 h0 106 [(0, .ref (gB G + v0)), (1, .int v1), (2, .int v2), (3, .int v3), (4, .int v4)] [] h (k106 (v3, v4, h))) (h : mh) : Ev lI G yX10_role cX10_role 5 (some .int) 4 h0 137 [(0, .ref (gB G + v0)), (1, .int v1), (2, .int v2), (3, .int v3), (4, .int v4)] [] h (fX10_role_137 fu k106 v0 v1 v2 v3 v4 h) := by
  unfold fX10_role_137
  refine ev_step (st_inc (pc := 137) (j := 4) (ls' := [(4, .int (v4 + (1 : Int32))), (0, .ref (gB G + v0)), (1, .int v1), (2, .int v2), (3, .int v3)]) dX10_role_137 rfl ni_1 (by decide) rfl) ?_
  refine ev_step (st_goto (pc := 140) (tgt := 106) dX10_role_140 (by decide)) ?_
  refine ev_sub (ls' := [(0, .ref (gB G + v0)), (1, .int v1), (2, .int v2), (3, .int v3), (4, .int (v4 + (1 : Int32)))]) [1, 2, 3, 4, 0] rfl ?_
  exact hk106 v3 (v4 + (1 : Int32)) h
set_option maxRecDepth 100000 in
set_option maxHeartbeats 4000000 in
theorem tX10_role_106 (G : gx) (fu : Nat) (h0 : mh) (v0 : Nat) (v1 : Int32) (v2 : Int32) (n : Nat) (v3 : Int32) (v4 : Int32) (h : mh) : Ev lI G yX10_role cX10_role 5 (some .int) 4 h0 106 [(0, .ref (gB G + v0)), (1, .int v1), (2, .int v2), (3, .int v3), (4, .int v4)] [] h (itr (bX10_role_106 fu v0 v1 v2) n (v3, v4, h)) := by
  refine ev_itr (P := fun (q : Int32 × Int32 × mh) (R9 : Option (Int32 × mh)) => Ev lI G yX10_role cX10_role 5 (some .int) 4 h0 106 [(0, .ref (gB G + v0)), (1, .int v1), (2, .int v2), (3, .int q.1), (4, .int q.2.1)] [] q.2.2 R9) (fun _ => ev_none) (fun k106 hk9 q => ?_) n (v3, v4, h)
  obtain ⟨v3, v4, h⟩ := q
  have hk106 : ∀ (v3 : Int32) (v4 : Int32) (h : mh), Ev lI G yX10_role cX10_role 5 (some .int) 4 h0 106 [(0, .ref (gB G + v0)), (1, .int v1), (2, .int v2), (3, .int v3), (4, .int v4)] [] h (k106 (v3, v4, h)) := fun v3 v4 h => hk9 (v3, v4, h)
  show Ev lI G yX10_role cX10_role 5 (some .int) 4 h0 106 [(0, .ref (gB G + v0)), (1, .int v1), (2, .int v2), (3, .int v3), (4, .int v4)] [] h (bX10_role_106 fu v0 v1 v2 k106 (v3, v4, h))
  unfold bX10_role_106
  refine ev_step (st_iload (pc := 106) (j := 4) dX10_role_106 rfl) ?_
  refine ev_step (st_aload_n (pc := 108) (j := 0) dX10_role_108 rfl rfl) ?_
  refine ev_getR (pc := 109) k_X10_55 rfl dX10_role_109 (fun a1 => ?_)
  refine ev_step (st_aload_n (pc := 112) (j := 0) dX10_role_112 rfl rfl) ?_
  refine ev_getI (pc := 113) k_X10_230 rfl dX10_role_113 (fun x2 => ?_)
  refine ev_ldi (pc := 116) dX10_role_116 (fun x3 => ?_)
  refine ev_br (br_icmp_ge (tgt := 143) (pc := 117) dX10_role_117 (by decide)) (fun _ => ?_) (fun _ => ?_)
  · refine ev_step (st_iload_n (pc := 143) (j := 3) dX10_role_143 rfl rfl) ?_
    exact ev_iret (pc := 144) dX10_role_144
  · refine ev_step (st_aload_n (pc := 120) (j := 0) dX10_role_120 rfl rfl) ?_
    refine ev_step (st_iload (pc := 121) (j := 4) dX10_role_121 rfl) ?_
    refine ev_step (st_iload_n (pc := 123) (j := 1) dX10_role_123 rfl rfl) ?_
    refine ev_ck (fun ha hS => ?_)
    refine ev_callI (iv_V (As := [.int v4, .int v1]) (st := []) (pc := 124) rfl m_X10_isReally l_X10_339 i_X10_isReally e_X10_isReally ha hS rfl (Nat.le_of_ble_eq_true rfl) rfl dX10_role_124) (tX10_isReally G fu v0 v4 v1 h) (by decide) (by decide) (fun x5 h4 => ?_)
    refine ev_br (br_if_eq (tgt := 137) (pc := 127) dX10_role_127 (by decide)) (fun _ => ?_) (fun _ => ?_)
    · refine ev_sub (ls' := [(0, .ref (gB G + v0)), (1, .int v1), (2, .int v2), (3, .int v3), (4, .int v4)]) [0, 1, 2, 3, 4] rfl ?_
      exact tX10_role_137 G fu h0 v0 v1 v2 v3 v4 k106 hk106 h4
    · refine ev_step (st_iload_n (pc := 130) (j := 3) dX10_role_130 rfl rfl) ?_
      refine ev_step (st_iconst (pc := 131) dX10_role_131 ni_1) ?_
      refine ev_step (st_iload (pc := 132) (j := 4) dX10_role_132 rfl) ?_
      refine ev_step (st_ishl (pc := 134) dX10_role_134) ?_
      refine ev_step (st_ior (pc := 135) dX10_role_135) ?_
      refine ev_top (fun x6 => ?_)
      refine ev_step (st_istore_n (pc := 136) (ls' := [(3, .int x6), (0, .ref (gB G + v0)), (1, .int v1), (2, .int v2), (4, .int v4)]) dX10_role_136 rfl (by decide) rfl) ?_
      refine ev_sub (ls' := [(0, .ref (gB G + v0)), (1, .int v1), (2, .int v2), (3, .int x6), (4, .int v4)]) [1, 2, 3, 0, 4] rfl ?_
      exact tX10_role_137 G fu h0 v0 v1 v2 x6 v4 k106 hk106 h4
set_option maxRecDepth 100000 in
set_option maxHeartbeats 4000000 in
theorem tX10_role (G : gx) (fu : Nat) (v0 : Nat) (v1 : Int32) (v2 : Int32) (h : mh) : Ct lI G yX10_role cX10_role 5 (some .int) 4 [.ref (gB G + v0), .int v1, .int v2] h (fX10_role fu v0 v1 v2 h) := by
  refine ct_ls (ls := [(0, .ref (gB G + v0)), (1, .int v1), (2, .int v2)]) rfl (by decide) (Nat.le_of_ble_eq_true rfl) ?_
  unfold fX10_role
  refine ev_step (st_aload_n (pc := 0) (j := 0) dX10_role_0 rfl rfl) ?_
  refine ev_step (st_iload_n (pc := 1) (j := 1) dX10_role_1 rfl rfl) ?_
  refine ev_ck (fun ha hS => ?_)
  refine ev_callI (iv_V (As := [.int v1]) (st := []) (pc := 2) rfl m_X10_isRole l_X10_381 i_X10_isRole e_X10_isRole ha hS rfl (Nat.le_of_ble_eq_true rfl) rfl dX10_role_2) (tX10_isRole G fu v0 v1 h) (by decide) (by decide) (fun x2 h1 => ?_)
  refine ev_br (br_if_ne (tgt := 10) (pc := 5) dX10_role_5 (by decide)) (fun _ => ?_) (fun _ => ?_)
  · refine ev_step (st_iconst (pc := 8) dX10_role_8 ni_m1) ?_
    exact ev_iret (pc := 9) dX10_role_9
  · refine ev_step (st_aload_n (pc := 10) (j := 0) dX10_role_10 rfl rfl) ?_
    refine ev_ck (fun ha hS => ?_)
    refine ev_callV (iv_V (As := []) (st := []) (pc := 11) rfl m_X10_copies l_X10_320 i_X10_copies e_X10_copies ha hS rfl (Nat.le_of_ble_eq_true rfl) rfl dX10_role_11) (tX10_copies G fu v0 h1) (by decide) (by decide) (fun h3 => ?_)
    refine ev_step (st_iconst (pc := 14) dX10_role_14 ni_0) ?_
    refine ev_step (st_istore_n (pc := 15) (ls' := [(3, .int ((0 : Int32))), (0, .ref (gB G + v0)), (1, .int v1), (2, .int v2)]) dX10_role_15 rfl (by decide) rfl) ?_
    refine ev_step (st_iload_n (pc := 16) (j := 3) dX10_role_16 rfl rfl) ?_
    refine ev_case (n := 0) (c := (0 : Int32)) (off := 39) (tgt := 56) (pc := 17) (swn_0 _ _) dX10_role_17 (by decide) (by decide) (by decide) (by decide) (by decide) (fun _ => ?_) (fun q4 => ?_)
    · refine ev_step (st_aload_n (pc := 56) (j := 1) dX10_role_56 rfl rfl) ?_
      refine ev_getR (pc := 57) k_X10_49 rfl dX10_role_57 (fun a5 => ?_)
      refine ev_step (st_bipush (pc := 60) dX10_role_60 nb_6) ?_
      refine ev_step (st_aload_n (pc := 62) (j := 1) dX10_role_62 rfl rfl) ?_
      refine ev_getI (pc := 63) k_X10_230 rfl dX10_role_63 (fun x6 => ?_)
      refine ev_step (st_imul (pc := 66) dX10_role_66) ?_
      refine ev_step (st_iload_n (pc := 67) (j := 2) dX10_role_67 rfl rfl) ?_
      refine ev_step (st_iadd (pc := 68) dX10_role_68) ?_
      refine ev_ldi (pc := 69) dX10_role_69 (fun x7 => ?_)
      exact ev_iret (pc := 70) dX10_role_70
    refine ev_case (n := 1) (c := (1 : Int32)) (off := 54) (tgt := 71) (pc := 17) q4 dX10_role_17 (by decide) (by decide) (by decide) (by decide) (by decide) (fun _ => ?_) (fun q8 => ?_)
    · refine ev_step (st_aload_n (pc := 71) (j := 1) dX10_role_71 rfl rfl) ?_
      refine ev_getR (pc := 72) k_X10_52 rfl dX10_role_72 (fun a9 => ?_)
      refine ev_step (st_bipush (pc := 75) dX10_role_75 nb_6) ?_
      refine ev_step (st_aload_n (pc := 77) (j := 1) dX10_role_77 rfl rfl) ?_
      refine ev_getI (pc := 78) k_X10_230 rfl dX10_role_78 (fun x10 => ?_)
      refine ev_step (st_imul (pc := 81) dX10_role_81) ?_
      refine ev_step (st_iload_n (pc := 82) (j := 2) dX10_role_82 rfl rfl) ?_
      refine ev_step (st_iadd (pc := 83) dX10_role_83) ?_
      refine ev_ldi (pc := 84) dX10_role_84 (fun x11 => ?_)
      exact ev_iret (pc := 85) dX10_role_85
    refine ev_case (n := 2) (c := (2 : Int32)) (off := 69) (tgt := 86) (pc := 17) q8 dX10_role_17 (by decide) (by decide) (by decide) (by decide) (by decide) (fun _ => ?_) (fun q12 => ?_)
    · refine ev_step (st_aload_n (pc := 86) (j := 1) dX10_role_86 rfl rfl) ?_
      refine ev_getR (pc := 87) k_X10_122 rfl dX10_role_87 (fun a13 => ?_)
      refine ev_step (st_iload_n (pc := 90) (j := 2) dX10_role_90 rfl rfl) ?_
      refine ev_ldi (pc := 91) dX10_role_91 (fun x14 => ?_)
      exact ev_iret (pc := 92) dX10_role_92
    refine ev_case (n := 3) (c := (3 : Int32)) (off := 76) (tgt := 93) (pc := 17) q12 dX10_role_17 (by decide) (by decide) (by decide) (by decide) (by decide) (fun _ => ?_) (fun q15 => ?_)
    · refine ev_step (st_aload_n (pc := 93) (j := 1) dX10_role_93 rfl rfl) ?_
      refine ev_getR (pc := 94) k_X10_122 rfl dX10_role_94 (fun a16 => ?_)
      refine ev_step (st_bipush (pc := 97) dX10_role_97 nb_6) ?_
      refine ev_step (st_iload_n (pc := 99) (j := 2) dX10_role_99 rfl rfl) ?_
      refine ev_step (st_iadd (pc := 100) dX10_role_100) ?_
      refine ev_ldi (pc := 101) dX10_role_101 (fun x17 => ?_)
      exact ev_iret (pc := 102) dX10_role_102
    refine ev_case (n := 4) (c := (4 : Int32)) (off := 86) (tgt := 103) (pc := 17) q15 dX10_role_17 (by decide) (by decide) (by decide) (by decide) (by decide) (fun _ => ?_) (fun q18 => ?_)
    · refine ev_step (st_iconst (pc := 103) dX10_role_103 ni_0) ?_
      refine ev_step (st_istore (pc := 104) (ls' := [(4, .int ((0 : Int32))), (3, .int ((0 : Int32))), (0, .ref (gB G + v0)), (1, .int v1), (2, .int v2)]) dX10_role_104 (by decide) rfl) ?_
      refine ev_sub (ls' := [(0, .ref (gB G + v0)), (1, .int v1), (2, .int v2), (3, .int ((0 : Int32))), (4, .int ((0 : Int32)))]) [2, 3, 4, 1, 0] rfl ?_
      exact tX10_role_106 G fu h v0 v1 v2 fu ((0 : Int32)) ((0 : Int32)) h3
    refine ev_case (n := 5) (c := (5 : Int32)) (off := 128) (tgt := 145) (pc := 17) q18 dX10_role_17 (by decide) (by decide) (by decide) (by decide) (by decide) (fun _ => ?_) (fun q19 => ?_)
    · refine ev_step (st_aload_n (pc := 145) (j := 1) dX10_role_145 rfl rfl) ?_
      refine ev_step (st_iload_n (pc := 146) (j := 2) dX10_role_146 rfl rfl) ?_
      refine ev_ck (fun ha hS => ?_)
      refine ev_callI (iv_V (As := [.int v1]) (st := []) (pc := 147) rfl m_X10_saidBy l_X10_353 i_X10_saidBy e_X10_saidBy ha hS rfl (Nat.le_of_ble_eq_true rfl) rfl dX10_role_147) (tX10_saidBy G fu v0 v1 h3) (by decide) (by decide) (fun x21 h20 => ?_)
      exact ev_iret (pc := 150) dX10_role_150
    refine ev_dflt (n := 6) (tgt := 151) (pc := 17) q19 dX10_role_17 (by decide) (by decide) ?_
    refine ev_step (st_iconst (pc := 151) dX10_role_151 ni_m1) ?_
    exact ev_iret (pc := 152) dX10_role_152
set_option maxRecDepth 100000 in
set_option maxHeartbeats 4000000 in
theorem tX10_listener (G : gx) (fu : Nat) (v0 : Nat) (v1 : Int32) (v2 : Int32) (h : mh) : Ct lI G yX10_listener cX10_listener 3 (some .int) 3 [.ref (gB G + v0), .int v1, .int v2] h (fX10_listener fu v0 v1 v2 h) := by
  refine ct_ls (ls := [(0, .ref (gB G + v0)), (1, .int v1), (2, .int v2)]) rfl (by decide) (Nat.le_of_ble_eq_true rfl) ?_
  unfold fX10_listener
  refine ev_step (st_aload_n (pc := 0) (j := 0) dX10_listener_0 rfl rfl) ?_
  refine ev_step (st_iload_n (pc := 1) (j := 1) dX10_listener_1 rfl rfl) ?_
  refine ev_ck (fun ha hS => ?_)
  refine ev_callI (iv_V (As := [.int v1]) (st := []) (pc := 2) rfl m_X10_isListener l_X10_384 i_X10_isListener e_X10_isListener ha hS rfl (Nat.le_of_ble_eq_true rfl) rfl dX10_listener_2) (tX10_isListener G fu v0 v1 h) (by decide) (by decide) (fun x2 h1 => ?_)
  refine ev_br (br_if_ne (tgt := 10) (pc := 5) dX10_listener_5 (by decide)) (fun _ => ?_) (fun _ => ?_)
  · refine ev_step (st_iconst (pc := 8) dX10_listener_8 ni_m1) ?_
    exact ev_iret (pc := 9) dX10_listener_9
  · refine ev_step (st_aload_n (pc := 10) (j := 0) dX10_listener_10 rfl rfl) ?_
    refine ev_ck (fun ha hS => ?_)
    refine ev_callV (iv_V (As := []) (st := []) (pc := 11) rfl m_X10_copies l_X10_320 i_X10_copies e_X10_copies ha hS rfl (Nat.le_of_ble_eq_true rfl) rfl dX10_listener_11) (tX10_copies G fu v0 h1) (by decide) (by decide) (fun h3 => ?_)
    refine ev_step (st_iload_n (pc := 14) (j := 2) dX10_listener_14 rfl rfl) ?_
    refine ev_case (n := 0) (c := (0 : Int32)) (off := 37) (tgt := 52) (pc := 15) (swn_0 _ _) dX10_listener_15 (by decide) (by decide) (by decide) (by decide) (by decide) (fun _ => ?_) (fun q4 => ?_)
    · refine ev_step (st_aload_n (pc := 52) (j := 0) dX10_listener_52 rfl rfl) ?_
      refine ev_getR (pc := 53) k_X10_122 rfl dX10_listener_53 (fun a5 => ?_)
      refine ev_step (st_bipush (pc := 56) dX10_listener_56 nb_12) ?_
      refine ev_step (st_iload_n (pc := 58) (j := 1) dX10_listener_58 rfl rfl) ?_
      refine ev_step (st_iadd (pc := 59) dX10_listener_59) ?_
      refine ev_ldi (pc := 60) dX10_listener_60 (fun x6 => ?_)
      exact ev_iret (pc := 61) dX10_listener_61
    refine ev_case (n := 1) (c := (1 : Int32)) (off := 47) (tgt := 62) (pc := 15) q4 dX10_listener_15 (by decide) (by decide) (by decide) (by decide) (by decide) (fun _ => ?_) (fun q7 => ?_)
    · refine ev_step (st_aload_n (pc := 62) (j := 0) dX10_listener_62 rfl rfl) ?_
      refine ev_getR (pc := 63) k_X10_61 rfl dX10_listener_63 (fun a8 => ?_)
      refine ev_step (st_bipush (pc := 66) dX10_listener_66 nb_6) ?_
      refine ev_step (st_aload_n (pc := 68) (j := 0) dX10_listener_68 rfl rfl) ?_
      refine ev_getI (pc := 69) k_X10_230 rfl dX10_listener_69 (fun x9 => ?_)
      refine ev_step (st_imul (pc := 72) dX10_listener_72) ?_
      refine ev_step (st_iload_n (pc := 73) (j := 1) dX10_listener_73 rfl rfl) ?_
      refine ev_step (st_iadd (pc := 74) dX10_listener_74) ?_
      refine ev_ldi (pc := 75) dX10_listener_75 (fun x10 => ?_)
      exact ev_iret (pc := 76) dX10_listener_76
    refine ev_case (n := 2) (c := (2 : Int32)) (off := 62) (tgt := 77) (pc := 15) q7 dX10_listener_15 (by decide) (by decide) (by decide) (by decide) (by decide) (fun _ => ?_) (fun q11 => ?_)
    · refine ev_step (st_aload_n (pc := 77) (j := 0) dX10_listener_77 rfl rfl) ?_
      refine ev_getR (pc := 78) k_X10_122 rfl dX10_listener_78 (fun a12 => ?_)
      refine ev_step (st_bipush (pc := 81) dX10_listener_81 nb_18) ?_
      refine ev_step (st_iload_n (pc := 83) (j := 1) dX10_listener_83 rfl rfl) ?_
      refine ev_step (st_iadd (pc := 84) dX10_listener_84) ?_
      refine ev_ldi (pc := 85) dX10_listener_85 (fun x13 => ?_)
      exact ev_iret (pc := 86) dX10_listener_86
    refine ev_case (n := 3) (c := (3 : Int32)) (off := 72) (tgt := 87) (pc := 15) q11 dX10_listener_15 (by decide) (by decide) (by decide) (by decide) (by decide) (fun _ => ?_) (fun q14 => ?_)
    · refine ev_step (st_aload_n (pc := 87) (j := 0) dX10_listener_87 rfl rfl) ?_
      refine ev_getR (pc := 88) k_X10_122 rfl dX10_listener_88 (fun a15 => ?_)
      refine ev_step (st_bipush (pc := 91) dX10_listener_91 nb_24) ?_
      refine ev_step (st_iload_n (pc := 93) (j := 1) dX10_listener_93 rfl rfl) ?_
      refine ev_step (st_iadd (pc := 94) dX10_listener_94) ?_
      refine ev_ldi (pc := 95) dX10_listener_95 (fun x16 => ?_)
      exact ev_iret (pc := 96) dX10_listener_96
    refine ev_case (n := 4) (c := (4 : Int32)) (off := 82) (tgt := 97) (pc := 15) q14 dX10_listener_15 (by decide) (by decide) (by decide) (by decide) (by decide) (fun _ => ?_) (fun q17 => ?_)
    · refine ev_step (st_aload_n (pc := 97) (j := 0) dX10_listener_97 rfl rfl) ?_
      refine ev_step (st_iload_n (pc := 98) (j := 1) dX10_listener_98 rfl rfl) ?_
      refine ev_ck (fun ha hS => ?_)
      refine ev_callI (iv_V (As := [.int v1]) (st := []) (pc := 99) rfl m_X10_hasDone l_X10_350 i_X10_hasDone e_X10_hasDone ha hS rfl (Nat.le_of_ble_eq_true rfl) rfl dX10_listener_99) (tX10_hasDone G fu v0 v1 h3) (by decide) (by decide) (fun x19 h18 => ?_)
      refine ev_br (br_if_eq (tgt := 109) (pc := 102) dX10_listener_102 (by decide)) (fun _ => ?_) (fun _ => ?_)
      · refine ev_step (st_iconst (pc := 109) dX10_listener_109 ni_0) ?_
        exact ev_iret (pc := 110) dX10_listener_110
      · refine ev_step (st_iconst (pc := 105) dX10_listener_105 ni_1) ?_
        refine ev_step (st_goto (pc := 106) (tgt := 110) dX10_listener_106 (by decide)) ?_
        exact ev_iret (pc := 110) dX10_listener_110
    refine ev_case (n := 5) (c := (5 : Int32)) (off := 96) (tgt := 111) (pc := 15) q17 dX10_listener_15 (by decide) (by decide) (by decide) (by decide) (by decide) (fun _ => ?_) (fun q20 => ?_)
    · refine ev_step (st_aload_n (pc := 111) (j := 0) dX10_listener_111 rfl rfl) ?_
      refine ev_getR (pc := 112) k_X10_67 rfl dX10_listener_112 (fun a21 => ?_)
      refine ev_step (st_bipush (pc := 115) dX10_listener_115 nb_6) ?_
      refine ev_step (st_aload_n (pc := 117) (j := 0) dX10_listener_117 rfl rfl) ?_
      refine ev_getI (pc := 118) k_X10_230 rfl dX10_listener_118 (fun x22 => ?_)
      refine ev_step (st_imul (pc := 121) dX10_listener_121) ?_
      refine ev_step (st_iload_n (pc := 122) (j := 1) dX10_listener_122 rfl rfl) ?_
      refine ev_step (st_iadd (pc := 123) dX10_listener_123) ?_
      refine ev_ldi (pc := 124) dX10_listener_124 (fun x23 => ?_)
      exact ev_iret (pc := 125) dX10_listener_125
    refine ev_dflt (n := 6) (tgt := 126) (pc := 15) q20 dX10_listener_15 (by decide) (by decide) ?_
    refine ev_step (st_iconst (pc := 126) dX10_listener_126 ni_m1) ?_
    exact ev_iret (pc := 127) dX10_listener_127
set_option maxRecDepth 100000 in
set_option maxHeartbeats 4000000 in
theorem tX10_tells (G : gx) (fu : Nat) (v0 : Nat) (v1 : Int32) (v2 : Int32) (v3 : Int32) (h : mh) : Ct lI G yX10_tells cX10_tells 5 (some .int) 4 [.ref (gB G + v0), .int v1, .int v2, .int v3] h (fX10_tells fu v0 v1 v2 v3 h) := by
  refine ct_ls (ls := [(0, .ref (gB G + v0)), (1, .int v1), (2, .int v2), (3, .int v3)]) rfl (by decide) (Nat.le_of_ble_eq_true rfl) ?_
  unfold fX10_tells
  refine ev_step (st_aload_n (pc := 0) (j := 0) dX10_tells_0 rfl rfl) ?_
  refine ev_step (st_iload_n (pc := 1) (j := 1) dX10_tells_1 rfl rfl) ?_
  refine ev_ck (fun ha hS => ?_)
  refine ev_callI (iv_V (As := [.int v1]) (st := []) (pc := 2) rfl m_X10_isListener l_X10_384 i_X10_isListener e_X10_isListener ha hS rfl (Nat.le_of_ble_eq_true rfl) rfl dX10_tells_2) (tX10_isListener G fu v0 v1 h) (by decide) (by decide) (fun x2 h1 => ?_)
  refine ev_br (br_if_eq (tgt := 25) (pc := 5) dX10_tells_5 (by decide)) (fun _ => ?_) (fun _ => ?_)
  · refine ev_step (st_bipush (pc := 25) dX10_tells_25 nb_m100) ?_
    exact ev_iret (pc := 27) dX10_tells_27
  · refine ev_step (st_aload_n (pc := 8) (j := 0) dX10_tells_8 rfl rfl) ?_
    refine ev_step (st_iload_n (pc := 9) (j := 2) dX10_tells_9 rfl rfl) ?_
    refine ev_ck (fun ha hS => ?_)
    refine ev_callI (iv_V (As := [.int v2]) (st := []) (pc := 10) rfl m_X10_isRole l_X10_381 i_X10_isRole e_X10_isRole ha hS rfl (Nat.le_of_ble_eq_true rfl) rfl dX10_tells_10) (tX10_isRole G fu v0 v2 h1) (by decide) (by decide) (fun x4 h3 => ?_)
    refine ev_br (br_if_eq (tgt := 25) (pc := 13) dX10_tells_13 (by decide)) (fun _ => ?_) (fun _ => ?_)
    · refine ev_step (st_bipush (pc := 25) dX10_tells_25 nb_m100) ?_
      exact ev_iret (pc := 27) dX10_tells_27
    · refine ev_step (st_iload_n (pc := 16) (j := 3) dX10_tells_16 rfl rfl) ?_
      refine ev_step (st_iconst (pc := 17) dX10_tells_17 ni_0) ?_
      refine ev_step (st_iconst (pc := 18) dX10_tells_18 ni_2) ?_
      refine ev_callI (iv_S (As := [.int v3, .int ((0 : Int32)), .int ((2 : Int32))]) (st := []) (pc := 19) m_X10_in l_X10_310 z_X10_in rfl (Nat.le_of_ble_eq_true rfl) rfl dX10_tells_19) (tX10_in G fu v3 ((0 : Int32)) ((2 : Int32)) h3) (by decide) (by decide) (fun x6 h5 => ?_)
      refine ev_br (br_if_ne (tgt := 28) (pc := 22) dX10_tells_22 (by decide)) (fun _ => ?_) (fun _ => ?_)
      · refine ev_step (st_bipush (pc := 25) dX10_tells_25 nb_m100) ?_
        exact ev_iret (pc := 27) dX10_tells_27
      · refine ev_step (st_aload_n (pc := 28) (j := 0) dX10_tells_28 rfl rfl) ?_
        refine ev_ck (fun ha hS => ?_)
        refine ev_callV (iv_V (As := []) (st := []) (pc := 29) rfl m_X10_copies l_X10_320 i_X10_copies e_X10_copies ha hS rfl (Nat.le_of_ble_eq_true rfl) rfl dX10_tells_29) (tX10_copies G fu v0 h5) (by decide) (by decide) (fun h7 => ?_)
        refine ev_step (st_aload_n (pc := 32) (j := 0) dX10_tells_32 rfl rfl) ?_
        refine ev_step (st_iload_n (pc := 33) (j := 2) dX10_tells_33 rfl rfl) ?_
        refine ev_ck (fun ha hS => ?_)
        refine ev_callI (iv_V (As := [.int v2]) (st := []) (pc := 34) rfl m_X10_saidBy l_X10_353 i_X10_saidBy e_X10_saidBy ha hS rfl (Nat.le_of_ble_eq_true rfl) rfl dX10_tells_34) (tX10_saidBy G fu v0 v2 h7) (by decide) (by decide) (fun x9 h8 => ?_)
        refine ev_step (st_istore (pc := 37) (ls' := [(4, .int x9), (0, .ref (gB G + v0)), (1, .int v1), (2, .int v2), (3, .int v3)]) dX10_tells_37 (by decide) rfl) ?_
        refine ev_step (st_iload_n (pc := 39) (j := 4) dX10_tells_39 rfl rfl) ?_
        refine ev_step (st_iconst (pc := 40) dX10_tells_40 ni_1) ?_
        refine ev_br (br_icmp_ne (tgt := 53) (pc := 41) dX10_tells_41 (by decide)) (fun _ => ?_) (fun _ => ?_)
        · refine ev_step (st_aload_n (pc := 44) (j := 1) dX10_tells_44 rfl rfl) ?_
          refine ev_step (st_iload_n (pc := 45) (j := 2) dX10_tells_45 rfl rfl) ?_
          refine ev_step (st_iload_n (pc := 46) (j := 3) dX10_tells_46 rfl rfl) ?_
          refine ev_step (st_iload (pc := 47) (j := 0) dX10_tells_47 rfl) ?_
          refine ev_ck (fun ha hS => ?_)
          refine ev_callI (iv_V (As := [.int v1, .int v2, .int x9]) (st := []) (pc := 49) rfl m_X10_movesBy l_X10_362 i_X10_movesBy e_X10_movesBy ha hS rfl (Nat.le_of_ble_eq_true rfl) rfl dX10_tells_49) (tX10_movesBy G fu v0 v1 v2 x9 h8) (by decide) (by decide) (fun x11 h10 => ?_)
          exact ev_iret (pc := 52) dX10_tells_52
        · refine ev_step (st_iload_n (pc := 53) (j := 4) dX10_tells_53 rfl rfl) ?_
          refine ev_br (br_if_ne (tgt := 71) (pc := 54) dX10_tells_54 (by decide)) (fun _ => ?_) (fun _ => ?_)
          · refine ev_step (st_aload_n (pc := 57) (j := 1) dX10_tells_57 rfl rfl) ?_
            refine ev_step (st_iload_n (pc := 58) (j := 2) dX10_tells_58 rfl rfl) ?_
            refine ev_step (st_iload_n (pc := 59) (j := 3) dX10_tells_59 rfl rfl) ?_
            refine ev_step (st_iload (pc := 60) (j := 0) dX10_tells_60 rfl) ?_
            refine ev_ck (fun ha hS => ?_)
            refine ev_callI (iv_V (As := [.int v1, .int v2, .int x9]) (st := []) (pc := 62) rfl m_X10_doesTrust l_X10_359 i_X10_doesTrust e_X10_doesTrust ha hS rfl (Nat.le_of_ble_eq_true rfl) rfl dX10_tells_62) (tX10_doesTrust G fu v0 v1 v2 x9 h8) (by decide) (by decide) (fun x13 h12 => ?_)
            refine ev_br (br_if_eq (tgt := 86) (pc := 65) dX10_tells_65 (by decide)) (fun _ => ?_) (fun _ => ?_)
            · refine ev_step (st_iconst (pc := 86) dX10_tells_86 ni_0) ?_
              exact ev_iret (pc := 87) dX10_tells_87
            · refine ev_step (st_goto (pc := 68) (tgt := 82) dX10_tells_68 (by decide)) ?_
              refine ev_step (st_iconst (pc := 82) dX10_tells_82 ni_1) ?_
              refine ev_step (st_goto (pc := 83) (tgt := 87) dX10_tells_83 (by decide)) ?_
              exact ev_iret (pc := 87) dX10_tells_87
          · refine ev_step (st_aload_n (pc := 71) (j := 1) dX10_tells_71 rfl rfl) ?_
            refine ev_step (st_iload_n (pc := 72) (j := 2) dX10_tells_72 rfl rfl) ?_
            refine ev_step (st_iload_n (pc := 73) (j := 3) dX10_tells_73 rfl rfl) ?_
            refine ev_step (st_iload (pc := 74) (j := 0) dX10_tells_74 rfl) ?_
            refine ev_ck (fun ha hS => ?_)
            refine ev_callI (iv_V (As := [.int v1, .int v2, .int x9]) (st := []) (pc := 76) rfl m_X10_doesRing l_X10_368 i_X10_doesRing e_X10_doesRing ha hS rfl (Nat.le_of_ble_eq_true rfl) rfl dX10_tells_76) (tX10_doesRing G fu v0 v1 v2 x9 h8) (by decide) (by decide) (fun x15 h14 => ?_)
            refine ev_br (br_if_eq (tgt := 86) (pc := 79) dX10_tells_79 (by decide)) (fun _ => ?_) (fun _ => ?_)
            · refine ev_step (st_iconst (pc := 86) dX10_tells_86 ni_0) ?_
              exact ev_iret (pc := 87) dX10_tells_87
            · refine ev_step (st_iconst (pc := 82) dX10_tells_82 ni_1) ?_
              refine ev_step (st_goto (pc := 83) (tgt := 87) dX10_tells_83 (by decide)) ?_
              exact ev_iret (pc := 87) dX10_tells_87
set_option maxRecDepth 100000 in
set_option maxHeartbeats 4000000 in
theorem tX10_records_83 (G : gx) (fu : Nat) (h0 : mh) (v0 : Nat) (v1 : Int32) (h : mh) : Ev lV G yX10_records cX10_records 2 (none) 2 h0 83 [(0, .ref (gB G + v0)), (1, .int v1)] [] h (fX10_records_83 fu v0 v1 h) := by
  unfold fX10_records_83
  refine ev_step (st_aload_n (pc := 83) (j := 0) dX10_records_83 rfl rfl) ?_
  refine ev_step (st_dup (pc := 84) dX10_records_84 rfl) ?_
  refine ev_getI (pc := 85) k_X10_248 rfl dX10_records_85 (fun x1 => ?_)
  refine ev_step (st_iconst (pc := 88) dX10_records_88 ni_1) ?_
  refine ev_step (st_iadd (pc := 89) dX10_records_89) ?_
  refine ev_putI (pc := 90) (p_X10_248 _ rfl) rfl dX10_records_90 (fun h2 => ?_)
  refine ev_step (st_aload_n (pc := 93) (j := 0) dX10_records_93 rfl rfl) ?_
  refine ev_ck (fun ha hS => ?_)
  refine ev_callV (iv_V (As := []) (st := []) (pc := 94) rfl m_X10_keepsRow l_X10_164 i_X10_keepsRow e_X10_keepsRow ha hS rfl (Nat.le_of_ble_eq_true rfl) rfl dX10_records_94) (tX10_keepsRow G fu v0 h2) (by decide) (by decide) (fun h3 => ?_)
  exact ev_vret (pc := 97) dX10_records_97
set_option maxRecDepth 100000 in
set_option maxHeartbeats 4000000 in
theorem tX10_records_51 (G : gx) (fu : Nat) (h0 : mh) (v0 : Nat) (n : Nat) (v1 : Int32) (h : mh) : Ev lV G yX10_records cX10_records 2 (none) 2 h0 51 [(0, .ref (gB G + v0)), (1, .int v1)] [] h (itr (bX10_records_51 fu v0) n (v1, h)) := by
  refine ev_itr (P := fun (q : Int32 × mh) (R9 : Option (Unit × mh)) => Ev lV G yX10_records cX10_records 2 (none) 2 h0 51 [(0, .ref (gB G + v0)), (1, .int q.1)] [] q.2 R9) (fun _ => ev_none) (fun k51 hk9 q => ?_) n (v1, h)
  obtain ⟨v1, h⟩ := q
  have hk51 : ∀ (v1 : Int32) (h : mh), Ev lV G yX10_records cX10_records 2 (none) 2 h0 51 [(0, .ref (gB G + v0)), (1, .int v1)] [] h (k51 (v1, h)) := fun v1 h => hk9 (v1, h)
  show Ev lV G yX10_records cX10_records 2 (none) 2 h0 51 [(0, .ref (gB G + v0)), (1, .int v1)] [] h (bX10_records_51 fu v0 k51 (v1, h))
  unfold bX10_records_51
  refine ev_step (st_iload_n (pc := 51) (j := 1) dX10_records_51 rfl rfl) ?_
  refine ev_step (st_bipush (pc := 52) dX10_records_52 nb_33) ?_
  refine ev_br (br_icmp_ge (tgt := 83) (pc := 54) dX10_records_54 (by decide)) (fun _ => ?_) (fun _ => ?_)
  · refine ev_sub (ls' := [(0, .ref (gB G + v0)), (1, .int v1)]) [0, 1] rfl ?_
    exact tX10_records_83 G fu h0 v0 v1 h
  · refine ev_step (st_aload_n (pc := 57) (j := 0) dX10_records_57 rfl rfl) ?_
    refine ev_getR (pc := 58) k_X10_131 rfl dX10_records_58 (fun a1 => ?_)
    refine ev_step (st_bipush (pc := 61) dX10_records_61 nb_33) ?_
    refine ev_step (st_aload_n (pc := 63) (j := 0) dX10_records_63 rfl rfl) ?_
    refine ev_getI (pc := 64) k_X10_248 rfl dX10_records_64 (fun x2 => ?_)
    refine ev_step (st_imul (pc := 67) dX10_records_67) ?_
    refine ev_step (st_iload_n (pc := 68) (j := 1) dX10_records_68 rfl rfl) ?_
    refine ev_step (st_iadd (pc := 69) dX10_records_69) ?_
    refine ev_step (st_aload_n (pc := 70) (j := 0) dX10_records_70 rfl rfl) ?_
    refine ev_getR (pc := 71) k_X10_119 rfl dX10_records_71 (fun a3 => ?_)
    refine ev_step (st_iload_n (pc := 74) (j := 1) dX10_records_74 rfl rfl) ?_
    refine ev_ldi (pc := 75) dX10_records_75 (fun x4 => ?_)
    refine ev_sti (pc := 76) dX10_records_76 (fun h5 => ?_)
    refine ev_step (st_inc (pc := 77) (j := 1) (ls' := [(1, .int (v1 + (1 : Int32))), (0, .ref (gB G + v0))]) dX10_records_77 rfl ni_1 (by decide) rfl) ?_
    refine ev_step (st_goto (pc := 80) (tgt := 51) dX10_records_80 (by decide)) ?_
    refine ev_sub (ls' := [(0, .ref (gB G + v0)), (1, .int (v1 + (1 : Int32)))]) [1, 0] rfl ?_
    exact hk51 (v1 + (1 : Int32)) h5
set_option maxRecDepth 100000 in
set_option maxHeartbeats 4000000 in
theorem tX10_records_49 (G : gx) (fu : Nat) (h0 : mh) (v0 : Nat) (h : mh) : Ev lV G yX10_records cX10_records 2 (none) 2 h0 49 [(0, .ref (gB G + v0))] [] h (fX10_records_49 fu v0 h) := by
  unfold fX10_records_49
  refine ev_step (st_iconst (pc := 49) dX10_records_49 ni_0) ?_
  refine ev_step (st_istore_n (pc := 50) (ls' := [(1, .int ((0 : Int32))), (0, .ref (gB G + v0))]) dX10_records_50 rfl (by decide) rfl) ?_
  refine ev_sub (ls' := [(0, .ref (gB G + v0)), (1, .int ((0 : Int32)))]) [1, 0] rfl ?_
  exact tX10_records_51 G fu h0 v0 fu ((0 : Int32)) h
set_option maxRecDepth 100000 in
set_option maxHeartbeats 4000000 in
theorem tX10_records_39 (G : gx) (fu : Nat) (h0 : mh) (v0 : Nat) (v1 : Int32) (h : mh) : Ev lV G yX10_records cX10_records 2 (none) 2 h0 39 [(0, .ref (gB G + v0)), (1, .int v1)] [] h (fX10_records_39 fu v0 v1 h) := by
  unfold fX10_records_39
  refine ev_step (st_aload_n (pc := 39) (j := 0) dX10_records_39 rfl rfl) ?_
  refine ev_step (st_dup (pc := 40) dX10_records_40 rfl) ?_
  refine ev_getI (pc := 41) k_X10_248 rfl dX10_records_41 (fun x1 => ?_)
  refine ev_step (st_iconst (pc := 44) dX10_records_44 ni_1) ?_
  refine ev_step (st_isub (pc := 45) dX10_records_45) ?_
  refine ev_putI (pc := 46) (p_X10_248 _ rfl) rfl dX10_records_46 (fun h2 => ?_)
  refine ev_sub (ls' := [(0, .ref (gB G + v0))]) [0] rfl ?_
  exact tX10_records_49 G fu h0 v0 h2
set_option maxRecDepth 100000 in
set_option maxHeartbeats 4000000 in
theorem tX10_records_11 (G : gx) (fu : Nat) (h0 : mh) (v0 : Nat) (n : Nat) (v1 : Int32) (h : mh) : Ev lV G yX10_records cX10_records 2 (none) 2 h0 11 [(0, .ref (gB G + v0)), (1, .int v1)] [] h (itr (bX10_records_11 fu v0) n (v1, h)) := by
  refine ev_itr (P := fun (q : Int32 × mh) (R9 : Option (Unit × mh)) => Ev lV G yX10_records cX10_records 2 (none) 2 h0 11 [(0, .ref (gB G + v0)), (1, .int q.1)] [] q.2 R9) (fun _ => ev_none) (fun k11 hk9 q => ?_) n (v1, h)
  obtain ⟨v1, h⟩ := q
  have hk11 : ∀ (v1 : Int32) (h : mh), Ev lV G yX10_records cX10_records 2 (none) 2 h0 11 [(0, .ref (gB G + v0)), (1, .int v1)] [] h (k11 (v1, h)) := fun v1 h => hk9 (v1, h)
  show Ev lV G yX10_records cX10_records 2 (none) 2 h0 11 [(0, .ref (gB G + v0)), (1, .int v1)] [] h (bX10_records_11 fu v0 k11 (v1, h))
  unfold bX10_records_11
  refine ev_step (st_iload_n (pc := 11) (j := 1) dX10_records_11 rfl rfl) ?_
  refine ev_step (st_sipush (pc := 12) dX10_records_12 ns_1287) ?_
  refine ev_br (br_icmp_ge (tgt := 39) (pc := 15) dX10_records_15 (by decide)) (fun _ => ?_) (fun _ => ?_)
  · refine ev_sub (ls' := [(0, .ref (gB G + v0)), (1, .int v1)]) [0, 1] rfl ?_
    exact tX10_records_39 G fu h0 v0 v1 h
  · refine ev_step (st_aload_n (pc := 18) (j := 0) dX10_records_18 rfl rfl) ?_
    refine ev_getR (pc := 19) k_X10_131 rfl dX10_records_19 (fun a1 => ?_)
    refine ev_step (st_iload_n (pc := 22) (j := 1) dX10_records_22 rfl rfl) ?_
    refine ev_step (st_aload_n (pc := 23) (j := 0) dX10_records_23 rfl rfl) ?_
    refine ev_getR (pc := 24) k_X10_131 rfl dX10_records_24 (fun a2 => ?_)
    refine ev_step (st_iload_n (pc := 27) (j := 1) dX10_records_27 rfl rfl) ?_
    refine ev_step (st_bipush (pc := 28) dX10_records_28 nb_33) ?_
    refine ev_step (st_iadd (pc := 30) dX10_records_30) ?_
    refine ev_ldi (pc := 31) dX10_records_31 (fun x3 => ?_)
    refine ev_sti (pc := 32) dX10_records_32 (fun h4 => ?_)
    refine ev_step (st_inc (pc := 33) (j := 1) (ls' := [(1, .int (v1 + (1 : Int32))), (0, .ref (gB G + v0))]) dX10_records_33 rfl ni_1 (by decide) rfl) ?_
    refine ev_step (st_goto (pc := 36) (tgt := 11) dX10_records_36 (by decide)) ?_
    refine ev_sub (ls' := [(0, .ref (gB G + v0)), (1, .int (v1 + (1 : Int32)))]) [1, 0] rfl ?_
    exact hk11 (v1 + (1 : Int32)) h4
set_option maxRecDepth 100000 in
set_option maxHeartbeats 4000000 in
theorem tX10_records (G : gx) (fu : Nat) (v0 : Nat) (h : mh) : Ct lV G yX10_records cX10_records 2 (none) 2 [.ref (gB G + v0)] h (fX10_records fu v0 h) := by
  refine ct_ls (ls := [(0, .ref (gB G + v0))]) rfl (by decide) (Nat.le_of_ble_eq_true rfl) ?_
  unfold fX10_records
  refine ev_step (st_aload_n (pc := 0) (j := 0) dX10_records_0 rfl rfl) ?_
  refine ev_getI (pc := 1) k_X10_248 rfl dX10_records_1 (fun x1 => ?_)
  refine ev_step (st_bipush (pc := 4) dX10_records_4 nb_40) ?_
  refine ev_br (br_icmp_ne (tgt := 49) (pc := 6) dX10_records_6 (by decide)) (fun _ => ?_) (fun _ => ?_)
  · refine ev_step (st_iconst (pc := 9) dX10_records_9 ni_0) ?_
    refine ev_step (st_istore_n (pc := 10) (ls' := [(1, .int ((0 : Int32))), (0, .ref (gB G + v0))]) dX10_records_10 rfl (by decide) rfl) ?_
    refine ev_sub (ls' := [(0, .ref (gB G + v0)), (1, .int ((0 : Int32)))]) [1, 0] rfl ?_
    exact tX10_records_11 G fu h v0 fu ((0 : Int32)) h
  · refine ev_sub (ls' := [(0, .ref (gB G + v0))]) [0] rfl ?_
    exact tX10_records_49 G fu h v0 h
set_option maxRecDepth 100000 in
set_option maxHeartbeats 4000000 in
theorem tX10_announce (G : gx) (fu : Nat) (v0 : Nat) (v1 : Int32) (h : mh) : Ct lI G yX10_announce cX10_announce 2 (some .boolean) 3 [.ref (gB G + v0), .int v1] h (fX10_announce fu v0 v1 h) := by
  refine ct_ls (ls := [(0, .ref (gB G + v0)), (1, .int v1)]) rfl (by decide) (Nat.le_of_ble_eq_true rfl) ?_
  unfold fX10_announce
  refine ev_step (st_aload_n (pc := 0) (j := 0) dX10_announce_0 rfl rfl) ?_
  refine ev_step (st_iload_n (pc := 1) (j := 1) dX10_announce_1 rfl rfl) ?_
  refine ev_ck (fun ha hS => ?_)
  refine ev_callI (iv_V (As := [.int v1]) (st := []) (pc := 2) rfl m_X10_isRole l_X10_381 i_X10_isRole e_X10_isRole ha hS rfl (Nat.le_of_ble_eq_true rfl) rfl dX10_announce_2) (tX10_isRole G fu v0 v1 h) (by decide) (by decide) (fun x2 h1 => ?_)
  refine ev_br (br_if_eq (tgt := 31) (pc := 5) dX10_announce_5 (by decide)) (fun _ => ?_) (fun _ => ?_)
  · refine ev_step (st_iconst (pc := 31) dX10_announce_31 ni_0) ?_
    exact ev_zret (pc := 32) dX10_announce_32
  · refine ev_step (st_aload_n (pc := 8) (j := 0) dX10_announce_8 rfl rfl) ?_
    refine ev_getR (pc := 9) k_X10_119 rfl dX10_announce_9 (fun a3 => ?_)
    refine ev_step (st_bipush (pc := 12) dX10_announce_12 nb_31) ?_
    refine ev_ldi (pc := 14) dX10_announce_14 (fun x4 => ?_)
    refine ev_step (st_iload_n (pc := 15) (j := 1) dX10_announce_15 rfl rfl) ?_
    refine ev_br (br_icmp_eq (tgt := 31) (pc := 16) dX10_announce_16 (by decide)) (fun _ => ?_) (fun _ => ?_)
    · refine ev_step (st_iconst (pc := 31) dX10_announce_31 ni_0) ?_
      exact ev_zret (pc := 32) dX10_announce_32
    · refine ev_step (st_aload_n (pc := 19) (j := 0) dX10_announce_19 rfl rfl) ?_
      refine ev_getR (pc := 20) k_X10_119 rfl dX10_announce_20 (fun a5 => ?_)
      refine ev_step (st_bipush (pc := 23) dX10_announce_23 nb_6) ?_
      refine ev_step (st_iload_n (pc := 25) (j := 1) dX10_announce_25 rfl rfl) ?_
      refine ev_step (st_iadd (pc := 26) dX10_announce_26) ?_
      refine ev_ldi (pc := 27) dX10_announce_27 (fun x6 => ?_)
      refine ev_br (br_if_le (tgt := 33) (pc := 28) dX10_announce_28 (by decide)) (fun _ => ?_) (fun _ => ?_)
      · refine ev_step (st_aload_n (pc := 33) (j := 0) dX10_announce_33 rfl rfl) ?_
        refine ev_ck (fun ha hS => ?_)
        refine ev_callV (iv_V (As := []) (st := []) (pc := 34) rfl m_X10_copies l_X10_320 i_X10_copies e_X10_copies ha hS rfl (Nat.le_of_ble_eq_true rfl) rfl dX10_announce_34) (tX10_copies G fu v0 h1) (by decide) (by decide) (fun h7 => ?_)
        refine ev_step (st_aload_n (pc := 37) (j := 0) dX10_announce_37 rfl rfl) ?_
        refine ev_getR (pc := 38) k_X10_122 rfl dX10_announce_38 (fun a8 => ?_)
        refine ev_step (st_bipush (pc := 41) dX10_announce_41 nb_31) ?_
        refine ev_step (st_iload_n (pc := 43) (j := 1) dX10_announce_43 rfl rfl) ?_
        refine ev_sti (pc := 44) dX10_announce_44 (fun h9 => ?_)
        refine ev_step (st_aload_n (pc := 45) (j := 0) dX10_announce_45 rfl rfl) ?_
        refine ev_ck (fun ha hS => ?_)
        refine ev_callV (iv_V (As := []) (st := []) (pc := 46) rfl m_X10_records l_X10_387 i_X10_records e_X10_records ha hS rfl (Nat.le_of_ble_eq_true rfl) rfl dX10_announce_46) (tX10_records G fu v0 h9) (by decide) (by decide) (fun h10 => ?_)
        refine ev_step (st_iconst (pc := 49) dX10_announce_49 ni_1) ?_
        exact ev_zret (pc := 50) dX10_announce_50
      · refine ev_step (st_iconst (pc := 31) dX10_announce_31 ni_0) ?_
        exact ev_zret (pc := 32) dX10_announce_32
set_option maxRecDepth 100000 in
set_option maxHeartbeats 4000000 in
theorem tX10_turn_53 (G : gx) (fu : Nat) (h0 : mh) (v0 : Nat) (v1 : Int32) (v2 : Int32) (s0 : Nat) (s1 : Int32) (s2 : Int32) (h : mh) : Ev lI G yX10_turn cX10_turn 3 (some .boolean) 3 h0 53 [(0, .ref (gB G + v0)), (1, .int v1), (2, .int v2)] [.int s2, .int s1, .ref (gB G + s0)] h (fX10_turn_53 fu v0 v1 v2 s0 s1 s2 h) := by
  unfold fX10_turn_53
  refine ev_sti (pc := 53) dX10_turn_53 (fun h1 => ?_)
  refine ev_step (st_aload_n (pc := 54) (j := 0) dX10_turn_54 rfl rfl) ?_
  refine ev_ck (fun ha hS => ?_)
  refine ev_callV (iv_V (As := []) (st := []) (pc := 55) rfl m_X10_records l_X10_387 i_X10_records e_X10_records ha hS rfl (Nat.le_of_ble_eq_true rfl) rfl dX10_turn_55) (tX10_records G fu v0 h1) (by decide) (by decide) (fun h2 => ?_)
  refine ev_step (st_iconst (pc := 58) dX10_turn_58 ni_1) ?_
  exact ev_zret (pc := 59) dX10_turn_59
set_option maxRecDepth 100000 in
set_option maxHeartbeats 4000000 in
theorem tX10_turn_26 (G : gx) (fu : Nat) (h0 : mh) (v0 : Nat) (v1 : Int32) (v2 : Int32) (s0 : Int32) (h : mh) : Ev lI G yX10_turn cX10_turn 3 (some .boolean) 3 h0 26 [(0, .ref (gB G + v0)), (1, .int v1), (2, .int v2)] [.int s0] h (fX10_turn_26 fu v0 v1 v2 s0 h) := by
  unfold fX10_turn_26
  refine ev_step (st_iload_n (pc := 26) (j := 2) dX10_turn_26 rfl rfl) ?_
  refine ev_br (br_icmp_ne (tgt := 32) (pc := 27) dX10_turn_27 (by decide)) (fun _ => ?_) (fun _ => ?_)
  · refine ev_step (st_iconst (pc := 30) dX10_turn_30 ni_0) ?_
    exact ev_zret (pc := 31) dX10_turn_31
  · refine ev_step (st_aload_n (pc := 32) (j := 0) dX10_turn_32 rfl rfl) ?_
    refine ev_ck (fun ha hS => ?_)
    refine ev_callV (iv_V (As := []) (st := []) (pc := 33) rfl m_X10_copies l_X10_320 i_X10_copies e_X10_copies ha hS rfl (Nat.le_of_ble_eq_true rfl) rfl dX10_turn_33) (tX10_copies G fu v0 h) (by decide) (by decide) (fun h1 => ?_)
    refine ev_step (st_aload_n (pc := 36) (j := 0) dX10_turn_36 rfl rfl) ?_
    refine ev_getR (pc := 37) k_X10_122 rfl dX10_turn_37 (fun a2 => ?_)
    refine ev_step (st_bipush (pc := 40) dX10_turn_40 nb_24) ?_
    refine ev_step (st_iload_n (pc := 42) (j := 1) dX10_turn_42 rfl rfl) ?_
    refine ev_step (st_iadd (pc := 43) dX10_turn_43) ?_
    refine ev_step (st_iload_n (pc := 44) (j := 2) dX10_turn_44 rfl rfl) ?_
    refine ev_br (br_if_eq (tgt := 52) (pc := 45) dX10_turn_45 (by decide)) (fun _ => ?_) (fun _ => ?_)
    · refine ev_step (st_iconst (pc := 52) dX10_turn_52 ni_0) ?_
      refine ev_sub (ls' := [(0, .ref (gB G + v0)), (1, .int v1), (2, .int v2)]) [0, 1, 2] rfl ?_
      exact tX10_turn_53 G fu h0 v0 v1 v2 a2 (((24 : Int32)) + v1) ((0 : Int32)) h1
    · refine ev_step (st_iconst (pc := 48) dX10_turn_48 ni_1) ?_
      refine ev_step (st_goto (pc := 49) (tgt := 53) dX10_turn_49 (by decide)) ?_
      refine ev_sub (ls' := [(0, .ref (gB G + v0)), (1, .int v1), (2, .int v2)]) [0, 1, 2] rfl ?_
      exact tX10_turn_53 G fu h0 v0 v1 v2 a2 (((24 : Int32)) + v1) ((1 : Int32)) h1
set_option maxRecDepth 100000 in
set_option maxHeartbeats 4000000 in
theorem tX10_turn (G : gx) (fu : Nat) (v0 : Nat) (v1 : Int32) (v2 : Int32) (h : mh) : Ct lI G yX10_turn cX10_turn 3 (some .boolean) 3 [.ref (gB G + v0), .int v1, .int v2] h (fX10_turn fu v0 v1 v2 h) := by
  refine ct_ls (ls := [(0, .ref (gB G + v0)), (1, .int v1), (2, .int v2)]) rfl (by decide) (Nat.le_of_ble_eq_true rfl) ?_
  unfold fX10_turn
  refine ev_step (st_aload_n (pc := 0) (j := 0) dX10_turn_0 rfl rfl) ?_
  refine ev_step (st_iload_n (pc := 1) (j := 1) dX10_turn_1 rfl rfl) ?_
  refine ev_ck (fun ha hS => ?_)
  refine ev_callI (iv_V (As := [.int v1]) (st := []) (pc := 2) rfl m_X10_isListener l_X10_384 i_X10_isListener e_X10_isListener ha hS rfl (Nat.le_of_ble_eq_true rfl) rfl dX10_turn_2) (tX10_isListener G fu v0 v1 h) (by decide) (by decide) (fun x2 h1 => ?_)
  refine ev_br (br_if_eq (tgt := 30) (pc := 5) dX10_turn_5 (by decide)) (fun _ => ?_) (fun _ => ?_)
  · refine ev_step (st_iconst (pc := 30) dX10_turn_30 ni_0) ?_
    exact ev_zret (pc := 31) dX10_turn_31
  · refine ev_step (st_aload_n (pc := 8) (j := 0) dX10_turn_8 rfl rfl) ?_
    refine ev_getR (pc := 9) k_X10_119 rfl dX10_turn_9 (fun a3 => ?_)
    refine ev_step (st_bipush (pc := 12) dX10_turn_12 nb_24) ?_
    refine ev_step (st_iload_n (pc := 14) (j := 1) dX10_turn_14 rfl rfl) ?_
    refine ev_step (st_iadd (pc := 15) dX10_turn_15) ?_
    refine ev_ldi (pc := 16) dX10_turn_16 (fun x4 => ?_)
    refine ev_step (st_iconst (pc := 17) dX10_turn_17 ni_1) ?_
    refine ev_br (br_icmp_ne (tgt := 25) (pc := 18) dX10_turn_18 (by decide)) (fun _ => ?_) (fun _ => ?_)
    · refine ev_step (st_iconst (pc := 21) dX10_turn_21 ni_1) ?_
      refine ev_step (st_goto (pc := 22) (tgt := 26) dX10_turn_22 (by decide)) ?_
      refine ev_sub (ls' := [(0, .ref (gB G + v0)), (1, .int v1), (2, .int v2)]) [0, 1, 2] rfl ?_
      exact tX10_turn_26 G fu h v0 v1 v2 ((1 : Int32)) h1
    · refine ev_step (st_iconst (pc := 25) dX10_turn_25 ni_0) ?_
      refine ev_sub (ls' := [(0, .ref (gB G + v0)), (1, .int v1), (2, .int v2)]) [0, 1, 2] rfl ?_
      exact tX10_turn_26 G fu h v0 v1 v2 ((0 : Int32)) h1
set_option maxRecDepth 100000 in
set_option maxHeartbeats 4000000 in
theorem tX10_inform (G : gx) (fu : Nat) (v0 : Nat) (v1 : Int32) (v2 : Int32) (h : mh) : Ct lI G yX10_inform cX10_inform 3 (some .boolean) 3 [.ref (gB G + v0), .int v1, .int v2] h (fX10_inform fu v0 v1 v2 h) := by
  refine ct_ls (ls := [(0, .ref (gB G + v0)), (1, .int v1), (2, .int v2)]) rfl (by decide) (Nat.le_of_ble_eq_true rfl) ?_
  unfold fX10_inform
  refine ev_step (st_aload_n (pc := 0) (j := 0) dX10_inform_0 rfl rfl) ?_
  refine ev_step (st_iload_n (pc := 1) (j := 1) dX10_inform_1 rfl rfl) ?_
  refine ev_ck (fun ha hS => ?_)
  refine ev_callI (iv_V (As := [.int v1]) (st := []) (pc := 2) rfl m_X10_isListener l_X10_384 i_X10_isListener e_X10_isListener ha hS rfl (Nat.le_of_ble_eq_true rfl) rfl dX10_inform_2) (tX10_isListener G fu v0 v1 h) (by decide) (by decide) (fun x2 h1 => ?_)
  refine ev_br (br_if_eq (tgt := 32) (pc := 5) dX10_inform_5 (by decide)) (fun _ => ?_) (fun _ => ?_)
  · refine ev_step (st_iconst (pc := 32) dX10_inform_32 ni_0) ?_
    exact ev_zret (pc := 33) dX10_inform_33
  · refine ev_step (st_iload_n (pc := 8) (j := 2) dX10_inform_8 rfl rfl) ?_
    refine ev_callI (iv_S (As := [.int v2]) (st := []) (pc := 9) m_X10_isFact l_X10_390 z_X10_isFact rfl (Nat.le_of_ble_eq_true rfl) rfl dX10_inform_9) (tX10_isFact G fu v2 h1) (by decide) (by decide) (fun x4 h3 => ?_)
    refine ev_br (br_if_eq (tgt := 32) (pc := 12) dX10_inform_12 (by decide)) (fun _ => ?_) (fun _ => ?_)
    · refine ev_step (st_iconst (pc := 32) dX10_inform_32 ni_0) ?_
      exact ev_zret (pc := 33) dX10_inform_33
    · refine ev_step (st_aload_n (pc := 15) (j := 0) dX10_inform_15 rfl rfl) ?_
      refine ev_getR (pc := 16) k_X10_119 rfl dX10_inform_16 (fun a5 => ?_)
      refine ev_step (st_bipush (pc := 19) dX10_inform_19 nb_12) ?_
      refine ev_step (st_iload_n (pc := 21) (j := 1) dX10_inform_21 rfl rfl) ?_
      refine ev_step (st_iadd (pc := 22) dX10_inform_22) ?_
      refine ev_ldi (pc := 23) dX10_inform_23 (fun x6 => ?_)
      refine ev_step (st_iload_n (pc := 24) (j := 2) dX10_inform_24 rfl rfl) ?_
      refine ev_step (st_ishr (pc := 25) dX10_inform_25) ?_
      refine ev_step (st_iconst (pc := 26) dX10_inform_26 ni_1) ?_
      refine ev_step (st_iand (pc := 27) dX10_inform_27) ?_
      refine ev_step (st_iconst (pc := 28) dX10_inform_28 ni_1) ?_
      refine ev_br (br_icmp_ne (tgt := 34) (pc := 29) dX10_inform_29 (by decide)) (fun _ => ?_) (fun _ => ?_)
      · refine ev_step (st_iconst (pc := 32) dX10_inform_32 ni_0) ?_
        exact ev_zret (pc := 33) dX10_inform_33
      · refine ev_step (st_aload_n (pc := 34) (j := 0) dX10_inform_34 rfl rfl) ?_
        refine ev_ck (fun ha hS => ?_)
        refine ev_callV (iv_V (As := []) (st := []) (pc := 35) rfl m_X10_copies l_X10_320 i_X10_copies e_X10_copies ha hS rfl (Nat.le_of_ble_eq_true rfl) rfl dX10_inform_35) (tX10_copies G fu v0 h3) (by decide) (by decide) (fun h7 => ?_)
        refine ev_step (st_aload_n (pc := 38) (j := 0) dX10_inform_38 rfl rfl) ?_
        refine ev_getR (pc := 39) k_X10_122 rfl dX10_inform_39 (fun a8 => ?_)
        refine ev_step (st_bipush (pc := 42) dX10_inform_42 nb_12) ?_
        refine ev_step (st_iload_n (pc := 44) (j := 1) dX10_inform_44 rfl rfl) ?_
        refine ev_step (st_iadd (pc := 45) dX10_inform_45) ?_
        refine ev_step (st_dup2 (pc := 46) dX10_inform_46 rfl rfl) ?_
        refine ev_ldi (pc := 47) dX10_inform_47 (fun x9 => ?_)
        refine ev_step (st_iconst (pc := 48) dX10_inform_48 ni_1) ?_
        refine ev_step (st_iload_n (pc := 49) (j := 2) dX10_inform_49 rfl rfl) ?_
        refine ev_step (st_ishl (pc := 50) dX10_inform_50) ?_
        refine ev_step (st_ior (pc := 51) dX10_inform_51) ?_
        refine ev_sti (pc := 52) dX10_inform_52 (fun h10 => ?_)
        refine ev_step (st_aload_n (pc := 53) (j := 0) dX10_inform_53 rfl rfl) ?_
        refine ev_ck (fun ha hS => ?_)
        refine ev_callV (iv_V (As := []) (st := []) (pc := 54) rfl m_X10_records l_X10_387 i_X10_records e_X10_records ha hS rfl (Nat.le_of_ble_eq_true rfl) rfl dX10_inform_54) (tX10_records G fu v0 h10) (by decide) (by decide) (fun h11 => ?_)
        refine ev_step (st_iconst (pc := 57) dX10_inform_57 ni_1) ?_
        exact ev_zret (pc := 58) dX10_inform_58
set_option maxRecDepth 100000 in
set_option maxHeartbeats 4000000 in
theorem tX10_moreBy (G : gx) (fu : Nat) (v0 : Nat) (v1 : Int32) (v2 : Int32) (h : mh) : Ct lI G yX10_moreBy cX10_moreBy 4 (some .int) 2 [.ref (gB G + v0), .int v1, .int v2] h (fX10_moreBy fu v0 v1 v2 h) := by
  refine ct_ls (ls := [(0, .ref (gB G + v0)), (1, .int v1), (2, .int v2)]) rfl (by decide) (Nat.le_of_ble_eq_true rfl) ?_
  unfold fX10_moreBy
  refine ev_step (st_aload_n (pc := 0) (j := 0) dX10_moreBy_0 rfl rfl) ?_
  refine ev_getR (pc := 1) k_X10_119 rfl dX10_moreBy_1 (fun a1 => ?_)
  refine ev_step (st_bipush (pc := 4) dX10_moreBy_4 nb_12) ?_
  refine ev_step (st_iload_n (pc := 6) (j := 1) dX10_moreBy_6 rfl rfl) ?_
  refine ev_step (st_iadd (pc := 7) dX10_moreBy_7) ?_
  refine ev_ldi (pc := 8) dX10_moreBy_8 (fun x2 => ?_)
  refine ev_step (st_aload_n (pc := 9) (j := 0) dX10_moreBy_9 rfl rfl) ?_
  refine ev_getR (pc := 10) k_X10_119 rfl dX10_moreBy_10 (fun a3 => ?_)
  refine ev_step (st_bipush (pc := 13) dX10_moreBy_13 nb_12) ?_
  refine ev_step (st_iload_n (pc := 15) (j := 2) dX10_moreBy_15 rfl rfl) ?_
  refine ev_step (st_iadd (pc := 16) dX10_moreBy_16) ?_
  refine ev_ldi (pc := 17) dX10_moreBy_17 (fun x4 => ?_)
  refine ev_step (st_ior (pc := 18) dX10_moreBy_18) ?_
  refine ev_top (fun x5 => ?_)
  refine ev_step (st_istore_n (pc := 19) (ls' := [(3, .int x5), (0, .ref (gB G + v0)), (1, .int v1), (2, .int v2)]) dX10_moreBy_19 rfl (by decide) rfl) ?_
  refine ev_step (st_iconst (pc := 20) dX10_moreBy_20 ni_2) ?_
  refine ev_step (st_iload_n (pc := 21) (j := 0) dX10_moreBy_21 rfl rfl) ?_
  refine ev_callI (iv_S (As := [.int x5]) (st := [.int ((2 : Int32))]) (pc := 22) m_X10_bits l_X10_336 z_X10_bits rfl (Nat.le_of_ble_eq_true rfl) rfl dX10_moreBy_22) (tX10_bits G fu x5 h) (by decide) (by decide) (fun x7 h6 => ?_)
  refine ev_step (st_imul (pc := 25) dX10_moreBy_25) ?_
  refine ev_step (st_aload_n (pc := 26) (j := 1) dX10_moreBy_26 rfl rfl) ?_
  refine ev_getR (pc := 27) k_X10_119 rfl dX10_moreBy_27 (fun a8 => ?_)
  refine ev_step (st_bipush (pc := 30) dX10_moreBy_30 nb_12) ?_
  refine ev_step (st_iload_n (pc := 32) (j := 2) dX10_moreBy_32 rfl rfl) ?_
  refine ev_step (st_iadd (pc := 33) dX10_moreBy_33) ?_
  refine ev_ldi (pc := 34) dX10_moreBy_34 (fun x9 => ?_)
  refine ev_callI (iv_S (As := [.int x9]) (st := [.int (((2 : Int32)) * x7)]) (pc := 35) m_X10_bits l_X10_336 z_X10_bits rfl (Nat.le_of_ble_eq_true rfl) rfl dX10_moreBy_35) (tX10_bits G fu x9 h6) (by decide) (by decide) (fun x11 h10 => ?_)
  refine ev_step (st_isub (pc := 38) dX10_moreBy_38) ?_
  refine ev_step (st_aload_n (pc := 39) (j := 1) dX10_moreBy_39 rfl rfl) ?_
  refine ev_getR (pc := 40) k_X10_119 rfl dX10_moreBy_40 (fun a12 => ?_)
  refine ev_step (st_bipush (pc := 43) dX10_moreBy_43 nb_12) ?_
  refine ev_step (st_iload_n (pc := 45) (j := 3) dX10_moreBy_45 rfl rfl) ?_
  refine ev_step (st_iadd (pc := 46) dX10_moreBy_46) ?_
  refine ev_ldi (pc := 47) dX10_moreBy_47 (fun x13 => ?_)
  refine ev_callI (iv_S (As := [.int x13]) (st := [.int ((((2 : Int32)) * x7) - x11)]) (pc := 48) m_X10_bits l_X10_336 z_X10_bits rfl (Nat.le_of_ble_eq_true rfl) rfl dX10_moreBy_48) (tX10_bits G fu x13 h10) (by decide) (by decide) (fun x15 h14 => ?_)
  refine ev_step (st_isub (pc := 51) dX10_moreBy_51) ?_
  exact ev_iret (pc := 52) dX10_moreBy_52
set_option maxRecDepth 100000 in
set_option maxHeartbeats 4000000 in
theorem tX10_talk (G : gx) (fu : Nat) (v0 : Nat) (v1 : Int32) (v2 : Int32) (h : mh) : Ct lI G yX10_talk cX10_talk 4 (some .int) 3 [.ref (gB G + v0), .int v1, .int v2] h (fX10_talk fu v0 v1 v2 h) := by
  refine ct_ls (ls := [(0, .ref (gB G + v0)), (1, .int v1), (2, .int v2)]) rfl (by decide) (Nat.le_of_ble_eq_true rfl) ?_
  unfold fX10_talk
  refine ev_step (st_aload_n (pc := 0) (j := 0) dX10_talk_0 rfl rfl) ?_
  refine ev_step (st_iload_n (pc := 1) (j := 1) dX10_talk_1 rfl rfl) ?_
  refine ev_ck (fun ha hS => ?_)
  refine ev_callI (iv_V (As := [.int v1]) (st := []) (pc := 2) rfl m_X10_isListener l_X10_384 i_X10_isListener e_X10_isListener ha hS rfl (Nat.le_of_ble_eq_true rfl) rfl dX10_talk_2) (tX10_isListener G fu v0 v1 h) (by decide) (by decide) (fun x2 h1 => ?_)
  refine ev_br (br_if_eq (tgt := 21) (pc := 5) dX10_talk_5 (by decide)) (fun _ => ?_) (fun _ => ?_)
  · refine ev_step (st_iconst (pc := 21) dX10_talk_21 ni_m1) ?_
    exact ev_iret (pc := 22) dX10_talk_22
  · refine ev_step (st_aload_n (pc := 8) (j := 0) dX10_talk_8 rfl rfl) ?_
    refine ev_step (st_iload_n (pc := 9) (j := 2) dX10_talk_9 rfl rfl) ?_
    refine ev_ck (fun ha hS => ?_)
    refine ev_callI (iv_V (As := [.int v2]) (st := []) (pc := 10) rfl m_X10_isListener l_X10_384 i_X10_isListener e_X10_isListener ha hS rfl (Nat.le_of_ble_eq_true rfl) rfl dX10_talk_10) (tX10_isListener G fu v0 v2 h1) (by decide) (by decide) (fun x4 h3 => ?_)
    refine ev_br (br_if_eq (tgt := 21) (pc := 13) dX10_talk_13 (by decide)) (fun _ => ?_) (fun _ => ?_)
    · refine ev_step (st_iconst (pc := 21) dX10_talk_21 ni_m1) ?_
      exact ev_iret (pc := 22) dX10_talk_22
    · refine ev_step (st_iload_n (pc := 16) (j := 1) dX10_talk_16 rfl rfl) ?_
      refine ev_step (st_iload_n (pc := 17) (j := 2) dX10_talk_17 rfl rfl) ?_
      refine ev_br (br_icmp_ne (tgt := 23) (pc := 18) dX10_talk_18 (by decide)) (fun _ => ?_) (fun _ => ?_)
      · refine ev_step (st_iconst (pc := 21) dX10_talk_21 ni_m1) ?_
        exact ev_iret (pc := 22) dX10_talk_22
      · refine ev_step (st_aload_n (pc := 23) (j := 0) dX10_talk_23 rfl rfl) ?_
        refine ev_step (st_iload_n (pc := 24) (j := 1) dX10_talk_24 rfl rfl) ?_
        refine ev_step (st_iload_n (pc := 25) (j := 2) dX10_talk_25 rfl rfl) ?_
        refine ev_ck (fun ha hS => ?_)
        refine ev_callI (iv_V (As := [.int v1, .int v2]) (st := []) (pc := 26) rfl m_X10_moreBy l_X10_393 i_X10_moreBy e_X10_moreBy ha hS rfl (Nat.le_of_ble_eq_true rfl) rfl dX10_talk_26) (tX10_moreBy G fu v0 v1 v2 h3) (by decide) (by decide) (fun x6 h5 => ?_)
        refine ev_step (st_istore_n (pc := 29) (ls' := [(3, .int x6), (0, .ref (gB G + v0)), (1, .int v1), (2, .int v2)]) dX10_talk_29 rfl (by decide) rfl) ?_
        refine ev_step (st_aload_n (pc := 30) (j := 1) dX10_talk_30 rfl rfl) ?_
        refine ev_ck (fun ha hS => ?_)
        refine ev_callV (iv_V (As := []) (st := []) (pc := 31) rfl m_X10_copies l_X10_320 i_X10_copies e_X10_copies ha hS rfl (Nat.le_of_ble_eq_true rfl) rfl dX10_talk_31) (tX10_copies G fu v0 h5) (by decide) (by decide) (fun h7 => ?_)
        refine ev_step (st_aload_n (pc := 34) (j := 1) dX10_talk_34 rfl rfl) ?_
        refine ev_getR (pc := 35) k_X10_122 rfl dX10_talk_35 (fun a8 => ?_)
        refine ev_step (st_bipush (pc := 38) dX10_talk_38 nb_12) ?_
        refine ev_step (st_iload_n (pc := 40) (j := 2) dX10_talk_40 rfl rfl) ?_
        refine ev_step (st_iadd (pc := 41) dX10_talk_41) ?_
        refine ev_step (st_dup2 (pc := 42) dX10_talk_42 rfl rfl) ?_
        refine ev_ldi (pc := 43) dX10_talk_43 (fun x9 => ?_)
        refine ev_step (st_aload_n (pc := 44) (j := 1) dX10_talk_44 rfl rfl) ?_
        refine ev_getR (pc := 45) k_X10_122 rfl dX10_talk_45 (fun a10 => ?_)
        refine ev_step (st_bipush (pc := 48) dX10_talk_48 nb_12) ?_
        refine ev_step (st_iload_n (pc := 50) (j := 3) dX10_talk_50 rfl rfl) ?_
        refine ev_step (st_iadd (pc := 51) dX10_talk_51) ?_
        refine ev_ldi (pc := 52) dX10_talk_52 (fun x11 => ?_)
        refine ev_step (st_ior (pc := 53) dX10_talk_53) ?_
        refine ev_sti (pc := 54) dX10_talk_54 (fun h12 => ?_)
        refine ev_step (st_aload_n (pc := 55) (j := 1) dX10_talk_55 rfl rfl) ?_
        refine ev_getR (pc := 56) k_X10_122 rfl dX10_talk_56 (fun a13 => ?_)
        refine ev_step (st_bipush (pc := 59) dX10_talk_59 nb_12) ?_
        refine ev_step (st_iload_n (pc := 61) (j := 3) dX10_talk_61 rfl rfl) ?_
        refine ev_step (st_iadd (pc := 62) dX10_talk_62) ?_
        refine ev_step (st_aload_n (pc := 63) (j := 1) dX10_talk_63 rfl rfl) ?_
        refine ev_getR (pc := 64) k_X10_122 rfl dX10_talk_64 (fun a14 => ?_)
        refine ev_step (st_bipush (pc := 67) dX10_talk_67 nb_12) ?_
        refine ev_step (st_iload_n (pc := 69) (j := 2) dX10_talk_69 rfl rfl) ?_
        refine ev_step (st_iadd (pc := 70) dX10_talk_70) ?_
        refine ev_ldi (pc := 71) dX10_talk_71 (fun x15 => ?_)
        refine ev_sti (pc := 72) dX10_talk_72 (fun h16 => ?_)
        refine ev_step (st_aload_n (pc := 73) (j := 1) dX10_talk_73 rfl rfl) ?_
        refine ev_ck (fun ha hS => ?_)
        refine ev_callV (iv_V (As := []) (st := []) (pc := 74) rfl m_X10_records l_X10_387 i_X10_records e_X10_records ha hS rfl (Nat.le_of_ble_eq_true rfl) rfl dX10_talk_74) (tX10_records G fu v0 h16) (by decide) (by decide) (fun h17 => ?_)
        refine ev_step (st_iload_n (pc := 77) (j := 0) dX10_talk_77 rfl rfl) ?_
        exact ev_iret (pc := 78) dX10_talk_78
set_option maxRecDepth 100000 in
set_option maxHeartbeats 4000000 in
theorem tX10_isLong (G : gx) (fu : Nat) (v0 : Int32) (h : mh) : Ct lI G yX10_isLong cX10_isLong 1 (some .boolean) 2 [.int v0] h (fX10_isLong fu v0 h) := by
  refine ct_ls (ls := [(0, .int v0)]) rfl (by decide) (Nat.le_of_ble_eq_true rfl) ?_
  unfold fX10_isLong
  refine ev_step (st_iload_n (pc := 0) (j := 0) dX10_isLong_0 rfl rfl) ?_
  refine ev_step (st_iconst (pc := 1) dX10_isLong_1 ni_0) ?_
  refine ev_step (st_bipush (pc := 2) dX10_isLong_2 nb_30) ?_
  refine ev_callI (iv_S (As := [.int v0, .int ((0 : Int32)), .int ((30 : Int32))]) (st := []) (pc := 4) m_X10_in l_X10_310 z_X10_in rfl (Nat.le_of_ble_eq_true rfl) rfl dX10_isLong_4) (tX10_in G fu v0 ((0 : Int32)) ((30 : Int32)) h) (by decide) (by decide) (fun x2 h1 => ?_)
  exact ev_zret (pc := 7) dX10_isLong_7
set_option maxRecDepth 100000 in
set_option maxHeartbeats 4000000 in
theorem tX10_evenings (G : gx) (fu : Nat) (v0 : Nat) (v1 : Int32) (h : mh) : Ct lI G yX10_evenings cX10_evenings 2 (some .int) 7 [.ref (gB G + v0), .int v1] h (fX10_evenings fu v0 v1 h) := by
  refine ct_ls (ls := [(0, .ref (gB G + v0)), (1, .int v1)]) rfl (by decide) (Nat.le_of_ble_eq_true rfl) ?_
  unfold fX10_evenings
  refine ev_step (st_iload_n (pc := 0) (j := 1) dX10_evenings_0 rfl rfl) ?_
  refine ev_callI (iv_S (As := [.int v1]) (st := []) (pc := 1) m_X10_isLong l_X10_396 z_X10_isLong rfl (Nat.le_of_ble_eq_true rfl) rfl dX10_evenings_1) (tX10_isLong G fu v1 h) (by decide) (by decide) (fun x2 h1 => ?_)
  refine ev_br (br_if_ne (tgt := 9) (pc := 4) dX10_evenings_4 (by decide)) (fun _ => ?_) (fun _ => ?_)
  · refine ev_step (st_iconst (pc := 7) dX10_evenings_7 ni_m1) ?_
    exact ev_iret (pc := 8) dX10_evenings_8
  · refine ev_step (st_iload_n (pc := 9) (j := 1) dX10_evenings_9 rfl rfl) ?_
    refine ev_br (br_if_ne (tgt := 21) (pc := 10) dX10_evenings_10 (by decide)) (fun _ => ?_) (fun _ => ?_)
    · refine ev_step (st_aload_n (pc := 13) (j := 0) dX10_evenings_13 rfl rfl) ?_
      refine ev_getR (pc := 14) k_X10_119 rfl dX10_evenings_14 (fun a3 => ?_)
      refine ev_step (st_bipush (pc := 17) dX10_evenings_17 nb_30) ?_
      refine ev_ldi (pc := 19) dX10_evenings_19 (fun x4 => ?_)
      exact ev_iret (pc := 20) dX10_evenings_20
    · refine ev_step (st_aload_n (pc := 21) (j := 0) dX10_evenings_21 rfl rfl) ?_
      refine ev_ck (fun ha hS => ?_)
      refine ev_callV (iv_V (As := []) (st := []) (pc := 22) rfl m_X10_copies l_X10_320 i_X10_copies e_X10_copies ha hS rfl (Nat.le_of_ble_eq_true rfl) rfl dX10_evenings_22) (tX10_copies G fu v0 h1) (by decide) (by decide) (fun h5 => ?_)
      refine ev_step (st_aload_n (pc := 25) (j := 0) dX10_evenings_25 rfl rfl) ?_
      refine ev_step (st_iload_n (pc := 26) (j := 1) dX10_evenings_26 rfl rfl) ?_
      refine ev_ck (fun ha hS => ?_)
      refine ev_callV (iv_V (As := [.int v1]) (st := []) (pc := 27) rfl m_X10_goes l_X10_399 i_X10_goes e_X10_goes ha hS rfl (Nat.le_of_ble_eq_true rfl) rfl dX10_evenings_27) (tX10_goes G fu v0 v1 h5) (by decide) (by decide) (fun h6 => ?_)
      refine ev_step (st_aload_n (pc := 30) (j := 0) dX10_evenings_30 rfl rfl) ?_
      refine ev_ck (fun ha hS => ?_)
      refine ev_callV (iv_V (As := []) (st := []) (pc := 31) rfl m_X10_records l_X10_387 i_X10_records e_X10_records ha hS rfl (Nat.le_of_ble_eq_true rfl) rfl dX10_evenings_31) (tX10_records G fu v0 h6) (by decide) (by decide) (fun h7 => ?_)
      refine ev_step (st_aload_n (pc := 34) (j := 0) dX10_evenings_34 rfl rfl) ?_
      refine ev_getR (pc := 35) k_X10_119 rfl dX10_evenings_35 (fun a8 => ?_)
      refine ev_step (st_bipush (pc := 38) dX10_evenings_38 nb_30) ?_
      refine ev_ldi (pc := 40) dX10_evenings_40 (fun x9 => ?_)
      exact ev_iret (pc := 41) dX10_evenings_41
set_option maxRecDepth 100000 in
set_option maxHeartbeats 4000000 in
theorem tX10_undo_21 (G : gx) (fu : Nat) (h0 : mh) (v0 : Nat) (n : Nat) (v1 : Int32) (h : mh) : Ev lI G yX10_undo cX10_undo 2 (some .boolean) 1 h0 21 [(0, .ref (gB G + v0)), (1, .int v1)] [] h (itr (bX10_undo_21 fu v0) n (v1, h)) := by
  refine ev_itr (P := fun (q : Int32 × mh) (R9 : Option (Int32 × mh)) => Ev lI G yX10_undo cX10_undo 2 (some .boolean) 1 h0 21 [(0, .ref (gB G + v0)), (1, .int q.1)] [] q.2 R9) (fun _ => ev_none) (fun k21 hk9 q => ?_) n (v1, h)
  obtain ⟨v1, h⟩ := q
  have hk21 : ∀ (v1 : Int32) (h : mh), Ev lI G yX10_undo cX10_undo 2 (some .boolean) 1 h0 21 [(0, .ref (gB G + v0)), (1, .int v1)] [] h (k21 (v1, h)) := fun v1 h => hk9 (v1, h)
  show Ev lI G yX10_undo cX10_undo 2 (some .boolean) 1 h0 21 [(0, .ref (gB G + v0)), (1, .int v1)] [] h (bX10_undo_21 fu v0 k21 (v1, h))
  unfold bX10_undo_21
  refine ev_step (st_iload_n (pc := 21) (j := 1) dX10_undo_21 rfl rfl) ?_
  refine ev_step (st_bipush (pc := 22) dX10_undo_22 nb_33) ?_
  refine ev_br (br_icmp_ge (tgt := 53) (pc := 24) dX10_undo_24 (by decide)) (fun _ => ?_) (fun _ => ?_)
  · refine ev_step (st_iconst (pc := 53) dX10_undo_53 ni_1) ?_
    exact ev_zret (pc := 54) dX10_undo_54
  · refine ev_step (st_aload_n (pc := 27) (j := 0) dX10_undo_27 rfl rfl) ?_
    refine ev_getR (pc := 28) k_X10_119 rfl dX10_undo_28 (fun a1 => ?_)
    refine ev_step (st_iload_n (pc := 31) (j := 1) dX10_undo_31 rfl rfl) ?_
    refine ev_step (st_aload_n (pc := 32) (j := 0) dX10_undo_32 rfl rfl) ?_
    refine ev_getR (pc := 33) k_X10_131 rfl dX10_undo_33 (fun a2 => ?_)
    refine ev_step (st_bipush (pc := 36) dX10_undo_36 nb_33) ?_
    refine ev_step (st_aload_n (pc := 38) (j := 0) dX10_undo_38 rfl rfl) ?_
    refine ev_getI (pc := 39) k_X10_248 rfl dX10_undo_39 (fun x3 => ?_)
    refine ev_step (st_imul (pc := 42) dX10_undo_42) ?_
    refine ev_step (st_iload_n (pc := 43) (j := 1) dX10_undo_43 rfl rfl) ?_
    refine ev_step (st_iadd (pc := 44) dX10_undo_44) ?_
    refine ev_ldi (pc := 45) dX10_undo_45 (fun x4 => ?_)
    refine ev_sti (pc := 46) dX10_undo_46 (fun h5 => ?_)
    refine ev_step (st_inc (pc := 47) (j := 1) (ls' := [(1, .int (v1 + (1 : Int32))), (0, .ref (gB G + v0))]) dX10_undo_47 rfl ni_1 (by decide) rfl) ?_
    refine ev_step (st_goto (pc := 50) (tgt := 21) dX10_undo_50 (by decide)) ?_
    refine ev_sub (ls' := [(0, .ref (gB G + v0)), (1, .int (v1 + (1 : Int32)))]) [1, 0] rfl ?_
    exact hk21 (v1 + (1 : Int32)) h5
set_option maxRecDepth 100000 in
set_option maxHeartbeats 4000000 in
theorem tX10_undo (G : gx) (fu : Nat) (v0 : Nat) (h : mh) : Ct lI G yX10_undo cX10_undo 2 (some .boolean) 1 [.ref (gB G + v0)] h (fX10_undo fu v0 h) := by
  refine ct_ls (ls := [(0, .ref (gB G + v0))]) rfl (by decide) (Nat.le_of_ble_eq_true rfl) ?_
  unfold fX10_undo
  refine ev_step (st_aload_n (pc := 0) (j := 0) dX10_undo_0 rfl rfl) ?_
  refine ev_getI (pc := 1) k_X10_248 rfl dX10_undo_1 (fun x1 => ?_)
  refine ev_br (br_if_ne (tgt := 9) (pc := 4) dX10_undo_4 (by decide)) (fun _ => ?_) (fun _ => ?_)
  · refine ev_step (st_iconst (pc := 7) dX10_undo_7 ni_0) ?_
    exact ev_zret (pc := 8) dX10_undo_8
  · refine ev_step (st_aload_n (pc := 9) (j := 0) dX10_undo_9 rfl rfl) ?_
    refine ev_step (st_dup (pc := 10) dX10_undo_10 rfl) ?_
    refine ev_getI (pc := 11) k_X10_248 rfl dX10_undo_11 (fun x2 => ?_)
    refine ev_step (st_iconst (pc := 14) dX10_undo_14 ni_1) ?_
    refine ev_step (st_isub (pc := 15) dX10_undo_15) ?_
    refine ev_putI (pc := 16) (p_X10_248 _ rfl) rfl dX10_undo_16 (fun h3 => ?_)
    refine ev_step (st_iconst (pc := 19) dX10_undo_19 ni_0) ?_
    refine ev_step (st_istore_n (pc := 20) (ls' := [(1, .int ((0 : Int32))), (0, .ref (gB G + v0))]) dX10_undo_20 rfl (by decide) rfl) ?_
    refine ev_sub (ls' := [(0, .ref (gB G + v0)), (1, .int ((0 : Int32)))]) [1, 0] rfl ?_
    exact tX10_undo_21 G fu h v0 fu ((0 : Int32)) h3
set_option maxRecDepth 100000 in
set_option maxHeartbeats 4000000 in
theorem tX10_trustBits_46 (G : gx) (fu : Nat) (h0 : mh) (v0 : Nat) (v1 : Int32) (v2 : Int32) (v3 : Int32) (v4 : Int32) (k5 : Int32 × Int32 × mh → Option (Int32 × mh)) (hk5 : ∀ (v3 : Int32) (v4 : Int32) (h : mh), Ev lI G yX10_trustBits cX10_trustBits 5 (some .int) 4 h0 5 [(0, .ref (gB G + v0)), (1, .int v1), (2, .int v2), (3, .int v3), (4, .int v4)] [] h (k5 (v3, v4, h))) (h : mh) : Ev lI G yX10_trustBits cX10_trustBits 5 (some .int) 4 h0 46 [(0, .ref (gB G + v0)), (1, .int v1), (2, .int v2), (3, .int v3), (4, .int v4)] [] h (fX10_trustBits_46 fu k5 v0 v1 v2 v3 v4 h) := by
  unfold fX10_trustBits_46
  refine ev_step (st_inc (pc := 46) (j := 4) (ls' := [(4, .int (v4 + (1 : Int32))), (0, .ref (gB G + v0)), (1, .int v1), (2, .int v2), (3, .int v3)]) dX10_trustBits_46 rfl ni_1 (by decide) rfl) ?_
  refine ev_step (st_goto (pc := 49) (tgt := 5) dX10_trustBits_49 (by decide)) ?_
  refine ev_sub (ls' := [(0, .ref (gB G + v0)), (1, .int v1), (2, .int v2), (3, .int v3), (4, .int (v4 + (1 : Int32)))]) [1, 2, 3, 4, 0] rfl ?_
  exact hk5 v3 (v4 + (1 : Int32)) h
set_option maxRecDepth 100000 in
set_option maxHeartbeats 4000000 in
theorem tX10_trustBits_5 (G : gx) (fu : Nat) (h0 : mh) (v0 : Nat) (v1 : Int32) (v2 : Int32) (n : Nat) (v3 : Int32) (v4 : Int32) (h : mh) : Ev lI G yX10_trustBits cX10_trustBits 5 (some .int) 4 h0 5 [(0, .ref (gB G + v0)), (1, .int v1), (2, .int v2), (3, .int v3), (4, .int v4)] [] h (itr (bX10_trustBits_5 fu v0 v1 v2) n (v3, v4, h)) := by
  refine ev_itr (P := fun (q : Int32 × Int32 × mh) (R9 : Option (Int32 × mh)) => Ev lI G yX10_trustBits cX10_trustBits 5 (some .int) 4 h0 5 [(0, .ref (gB G + v0)), (1, .int v1), (2, .int v2), (3, .int q.1), (4, .int q.2.1)] [] q.2.2 R9) (fun _ => ev_none) (fun k5 hk9 q => ?_) n (v3, v4, h)
  obtain ⟨v3, v4, h⟩ := q
  have hk5 : ∀ (v3 : Int32) (v4 : Int32) (h : mh), Ev lI G yX10_trustBits cX10_trustBits 5 (some .int) 4 h0 5 [(0, .ref (gB G + v0)), (1, .int v1), (2, .int v2), (3, .int v3), (4, .int v4)] [] h (k5 (v3, v4, h)) := fun v3 v4 h => hk9 (v3, v4, h)
  show Ev lI G yX10_trustBits cX10_trustBits 5 (some .int) 4 h0 5 [(0, .ref (gB G + v0)), (1, .int v1), (2, .int v2), (3, .int v3), (4, .int v4)] [] h (bX10_trustBits_5 fu v0 v1 v2 k5 (v3, v4, h))
  unfold bX10_trustBits_5
  refine ev_step (st_iload (pc := 5) (j := 4) dX10_trustBits_5 rfl) ?_
  refine ev_step (st_aload_n (pc := 7) (j := 0) dX10_trustBits_7 rfl rfl) ?_
  refine ev_getR (pc := 8) k_X10_55 rfl dX10_trustBits_8 (fun a1 => ?_)
  refine ev_step (st_aload_n (pc := 11) (j := 0) dX10_trustBits_11 rfl rfl) ?_
  refine ev_getI (pc := 12) k_X10_230 rfl dX10_trustBits_12 (fun x2 => ?_)
  refine ev_ldi (pc := 15) dX10_trustBits_15 (fun x3 => ?_)
  refine ev_br (br_icmp_ge (tgt := 52) (pc := 16) dX10_trustBits_16 (by decide)) (fun _ => ?_) (fun _ => ?_)
  · refine ev_step (st_iload_n (pc := 52) (j := 3) dX10_trustBits_52 rfl rfl) ?_
    exact ev_iret (pc := 53) dX10_trustBits_53
  · refine ev_step (st_aload_n (pc := 19) (j := 0) dX10_trustBits_19 rfl rfl) ?_
    refine ev_step (st_iload (pc := 20) (j := 4) dX10_trustBits_20 rfl) ?_
    refine ev_ck (fun ha hS => ?_)
    refine ev_callI (iv_V (As := [.int v4]) (st := []) (pc := 22) rfl m_X10_isOn l_X10_365 i_X10_isOn e_X10_isOn ha hS rfl (Nat.le_of_ble_eq_true rfl) rfl dX10_trustBits_22) (tX10_isOn G fu v0 v4 h) (by decide) (by decide) (fun x5 h4 => ?_)
    refine ev_br (br_if_eq (tgt := 46) (pc := 25) dX10_trustBits_25 (by decide)) (fun _ => ?_) (fun _ => ?_)
    · refine ev_sub (ls' := [(0, .ref (gB G + v0)), (1, .int v1), (2, .int v2), (3, .int v3), (4, .int v4)]) [0, 1, 2, 3, 4] rfl ?_
      exact tX10_trustBits_46 G fu h0 v0 v1 v2 v3 v4 k5 hk5 h4
    · refine ev_step (st_aload_n (pc := 28) (j := 0) dX10_trustBits_28 rfl rfl) ?_
      refine ev_step (st_iload (pc := 29) (j := 4) dX10_trustBits_29 rfl) ?_
      refine ev_step (st_iload_n (pc := 31) (j := 1) dX10_trustBits_31 rfl rfl) ?_
      refine ev_step (st_iload_n (pc := 32) (j := 2) dX10_trustBits_32 rfl rfl) ?_
      refine ev_ck (fun ha hS => ?_)
      refine ev_callI (iv_V (As := [.int v4, .int v1, .int v2]) (st := []) (pc := 33) rfl m_X10_doesTrust l_X10_359 i_X10_doesTrust e_X10_doesTrust ha hS rfl (Nat.le_of_ble_eq_true rfl) rfl dX10_trustBits_33) (tX10_doesTrust G fu v0 v4 v1 v2 h4) (by decide) (by decide) (fun x7 h6 => ?_)
      refine ev_br (br_if_eq (tgt := 46) (pc := 36) dX10_trustBits_36 (by decide)) (fun _ => ?_) (fun _ => ?_)
      · refine ev_sub (ls' := [(0, .ref (gB G + v0)), (1, .int v1), (2, .int v2), (3, .int v3), (4, .int v4)]) [0, 1, 2, 3, 4] rfl ?_
        exact tX10_trustBits_46 G fu h0 v0 v1 v2 v3 v4 k5 hk5 h6
      · refine ev_step (st_iload_n (pc := 39) (j := 3) dX10_trustBits_39 rfl rfl) ?_
        refine ev_step (st_iconst (pc := 40) dX10_trustBits_40 ni_1) ?_
        refine ev_step (st_iload (pc := 41) (j := 4) dX10_trustBits_41 rfl) ?_
        refine ev_step (st_ishl (pc := 43) dX10_trustBits_43) ?_
        refine ev_step (st_ior (pc := 44) dX10_trustBits_44) ?_
        refine ev_top (fun x8 => ?_)
        refine ev_step (st_istore_n (pc := 45) (ls' := [(3, .int x8), (0, .ref (gB G + v0)), (1, .int v1), (2, .int v2), (4, .int v4)]) dX10_trustBits_45 rfl (by decide) rfl) ?_
        refine ev_sub (ls' := [(0, .ref (gB G + v0)), (1, .int v1), (2, .int v2), (3, .int x8), (4, .int v4)]) [1, 2, 3, 0, 4] rfl ?_
        exact tX10_trustBits_46 G fu h0 v0 v1 v2 x8 v4 k5 hk5 h6
set_option maxRecDepth 100000 in
set_option maxHeartbeats 4000000 in
theorem tX10_trustBits (G : gx) (fu : Nat) (v0 : Nat) (v1 : Int32) (v2 : Int32) (h : mh) : Ct lI G yX10_trustBits cX10_trustBits 5 (some .int) 4 [.ref (gB G + v0), .int v1, .int v2] h (fX10_trustBits fu v0 v1 v2 h) := by
  refine ct_ls (ls := [(0, .ref (gB G + v0)), (1, .int v1), (2, .int v2)]) rfl (by decide) (Nat.le_of_ble_eq_true rfl) ?_
  unfold fX10_trustBits
  refine ev_step (st_iconst (pc := 0) dX10_trustBits_0 ni_0) ?_
  refine ev_step (st_istore_n (pc := 1) (ls' := [(3, .int ((0 : Int32))), (0, .ref (gB G + v0)), (1, .int v1), (2, .int v2)]) dX10_trustBits_1 rfl (by decide) rfl) ?_
  refine ev_step (st_iconst (pc := 2) dX10_trustBits_2 ni_0) ?_
  refine ev_step (st_istore (pc := 3) (ls' := [(4, .int ((0 : Int32))), (3, .int ((0 : Int32))), (0, .ref (gB G + v0)), (1, .int v1), (2, .int v2)]) dX10_trustBits_3 (by decide) rfl) ?_
  refine ev_sub (ls' := [(0, .ref (gB G + v0)), (1, .int v1), (2, .int v2), (3, .int ((0 : Int32))), (4, .int ((0 : Int32)))]) [2, 3, 4, 1, 0] rfl ?_
  exact tX10_trustBits_5 G fu h v0 v1 v2 fu ((0 : Int32)) ((0 : Int32)) h
set_option maxRecDepth 100000 in
set_option maxHeartbeats 4000000 in
theorem tX10_isTonight (G : gx) (fu : Nat) (v0 : Nat) (v1 : Int32) (h : mh) : Ct lI G yX10_isTonight cX10_isTonight 3 (some .int) 6 [.ref (gB G + v0), .int v1] h (fX10_isTonight fu v0 v1 h) := by
  refine ct_ls (ls := [(0, .ref (gB G + v0)), (1, .int v1)]) rfl (by decide) (Nat.le_of_ble_eq_true rfl) ?_
  unfold fX10_isTonight
  refine ev_step (st_aload_n (pc := 0) (j := 0) dX10_isTonight_0 rfl rfl) ?_
  refine ev_ck (fun ha hS => ?_)
  refine ev_callV (iv_V (As := []) (st := []) (pc := 1) rfl m_X10_copiesStill l_X10_402 i_X10_copiesStill e_X10_copiesStill ha hS rfl (Nat.le_of_ble_eq_true rfl) rfl dX10_isTonight_1) (tX10_copiesStill G fu v0 h) (by decide) (by decide) (fun h1 => ?_)
  refine ev_step (st_aload_n (pc := 4) (j := 0) dX10_isTonight_4 rfl rfl) ?_
  refine ev_ck (fun ha hS => ?_)
  refine ev_callI (iv_V (As := []) (st := []) (pc := 5) rfl m_X10_knownMany l_X10_405 i_X10_knownMany e_X10_knownMany ha hS rfl (Nat.le_of_ble_eq_true rfl) rfl dX10_isTonight_5) (tX10_knownMany G fu v0 h1) (by decide) (by decide) (fun x3 h2 => ?_)
  refine ev_step (st_istore_n (pc := 8) (ls' := [(2, .int x3), (0, .ref (gB G + v0)), (1, .int v1)]) dX10_isTonight_8 rfl (by decide) rfl) ?_
  refine ev_step (st_aload_n (pc := 9) (j := 1) dX10_isTonight_9 rfl rfl) ?_
  refine ev_getR (pc := 10) k_X10_122 rfl dX10_isTonight_10 (fun a4 => ?_)
  refine ev_step (st_bipush (pc := 13) dX10_isTonight_13 nb_31) ?_
  refine ev_step (st_iload_n (pc := 15) (j := 2) dX10_isTonight_15 rfl rfl) ?_
  refine ev_sti (pc := 16) dX10_isTonight_16 (fun h5 => ?_)
  refine ev_step (st_aload_n (pc := 17) (j := 1) dX10_isTonight_17 rfl rfl) ?_
  refine ev_ck (fun ha hS => ?_)
  refine ev_callV (iv_V (As := []) (st := []) (pc := 18) rfl m_X10_eveningGoes l_X10_378 i_X10_eveningGoes e_X10_eveningGoes ha hS rfl (Nat.le_of_ble_eq_true rfl) rfl dX10_isTonight_18) (tX10_eveningGoes G fu v0 h5) (by decide) (by decide) (fun h6 => ?_)
  refine ev_step (st_aload_n (pc := 21) (j := 1) dX10_isTonight_21 rfl rfl) ?_
  refine ev_ck (fun ha hS => ?_)
  refine ev_callI (iv_V (As := []) (st := []) (pc := 22) rfl m_X10_knownMany l_X10_405 i_X10_knownMany e_X10_knownMany ha hS rfl (Nat.le_of_ble_eq_true rfl) rfl dX10_isTonight_22) (tX10_knownMany G fu v0 h6) (by decide) (by decide) (fun x8 h7 => ?_)
  refine ev_step (st_iload_n (pc := 25) (j := 0) dX10_isTonight_25 rfl rfl) ?_
  refine ev_step (st_isub (pc := 26) dX10_isTonight_26) ?_
  exact ev_iret (pc := 27) dX10_isTonight_27
set_option maxRecDepth 100000 in
set_option maxHeartbeats 4000000 in
theorem tX10_tonight (G : gx) (fu : Nat) (v0 : Nat) (v1 : Int32) (v2 : Int32) (h : mh) : Ct lI G yX10_tonight cX10_tonight 6 (some .int) 7 [.ref (gB G + v0), .int v1, .int v2] h (fX10_tonight fu v0 v1 v2 h) := by
  refine ct_ls (ls := [(0, .ref (gB G + v0)), (1, .int v1), (2, .int v2)]) rfl (by decide) (Nat.le_of_ble_eq_true rfl) ?_
  unfold fX10_tonight
  refine ev_step (st_aload_n (pc := 0) (j := 0) dX10_tonight_0 rfl rfl) ?_
  refine ev_step (st_iload_n (pc := 1) (j := 1) dX10_tonight_1 rfl rfl) ?_
  refine ev_ck (fun ha hS => ?_)
  refine ev_callI (iv_V (As := [.int v1]) (st := []) (pc := 2) rfl m_X10_isRole l_X10_381 i_X10_isRole e_X10_isRole ha hS rfl (Nat.le_of_ble_eq_true rfl) rfl dX10_tonight_2) (tX10_isRole G fu v0 v1 h) (by decide) (by decide) (fun x2 h1 => ?_)
  refine ev_br (br_if_eq (tgt := 17) (pc := 5) dX10_tonight_5 (by decide)) (fun _ => ?_) (fun _ => ?_)
  · refine ev_step (st_iconst (pc := 17) dX10_tonight_17 ni_m1) ?_
    exact ev_iret (pc := 18) dX10_tonight_18
  · refine ev_step (st_iload_n (pc := 8) (j := 2) dX10_tonight_8 rfl rfl) ?_
    refine ev_step (st_iconst (pc := 9) dX10_tonight_9 ni_0) ?_
    refine ev_step (st_iconst (pc := 10) dX10_tonight_10 ni_3) ?_
    refine ev_callI (iv_S (As := [.int v2, .int ((0 : Int32)), .int ((3 : Int32))]) (st := []) (pc := 11) m_X10_in l_X10_310 z_X10_in rfl (Nat.le_of_ble_eq_true rfl) rfl dX10_tonight_11) (tX10_in G fu v2 ((0 : Int32)) ((3 : Int32)) h1) (by decide) (by decide) (fun x4 h3 => ?_)
    refine ev_br (br_if_ne (tgt := 19) (pc := 14) dX10_tonight_14 (by decide)) (fun _ => ?_) (fun _ => ?_)
    · refine ev_step (st_iconst (pc := 17) dX10_tonight_17 ni_m1) ?_
      exact ev_iret (pc := 18) dX10_tonight_18
    · refine ev_step (st_aload_n (pc := 19) (j := 0) dX10_tonight_19 rfl rfl) ?_
      refine ev_ck (fun ha hS => ?_)
      refine ev_callV (iv_V (As := []) (st := []) (pc := 20) rfl m_X10_copiesStill l_X10_402 i_X10_copiesStill e_X10_copiesStill ha hS rfl (Nat.le_of_ble_eq_true rfl) rfl dX10_tonight_20) (tX10_copiesStill G fu v0 h3) (by decide) (by decide) (fun h5 => ?_)
      refine ev_step (st_aload_n (pc := 23) (j := 0) dX10_tonight_23 rfl rfl) ?_
      refine ev_step (st_iload_n (pc := 24) (j := 1) dX10_tonight_24 rfl rfl) ?_
      refine ev_ck (fun ha hS => ?_)
      refine ev_callI (iv_V (As := [.int v1]) (st := []) (pc := 25) rfl m_X10_saidBy l_X10_353 i_X10_saidBy e_X10_saidBy ha hS rfl (Nat.le_of_ble_eq_true rfl) rfl dX10_tonight_25) (tX10_saidBy G fu v0 v1 h5) (by decide) (by decide) (fun x7 h6 => ?_)
      refine ev_step (st_istore_n (pc := 28) (ls' := [(3, .int x7), (0, .ref (gB G + v0)), (1, .int v1), (2, .int v2)]) dX10_tonight_28 rfl (by decide) rfl) ?_
      refine ev_step (st_aload_n (pc := 29) (j := 1) dX10_tonight_29 rfl rfl) ?_
      refine ev_step (st_iload_n (pc := 30) (j := 2) dX10_tonight_30 rfl rfl) ?_
      refine ev_step (st_iload_n (pc := 31) (j := 0) dX10_tonight_31 rfl rfl) ?_
      refine ev_ck (fun ha hS => ?_)
      refine ev_callI (iv_V (As := [.int v1, .int x7]) (st := []) (pc := 32) rfl m_X10_trustBits l_X10_408 i_X10_trustBits e_X10_trustBits ha hS rfl (Nat.le_of_ble_eq_true rfl) rfl dX10_tonight_32) (tX10_trustBits G fu v0 v1 x7 h6) (by decide) (by decide) (fun x9 h8 => ?_)
      refine ev_step (st_istore (pc := 35) (ls' := [(4, .int x9), (3, .int x7), (0, .ref (gB G + v0)), (1, .int v1), (2, .int v2)]) dX10_tonight_35 (by decide) rfl) ?_
      refine ev_step (st_aload_n (pc := 37) (j := 2) dX10_tonight_37 rfl rfl) ?_
      refine ev_step (st_iload_n (pc := 38) (j := 3) dX10_tonight_38 rfl rfl) ?_
      refine ev_ck (fun ha hS => ?_)
      refine ev_callI (iv_V (As := [.int v1]) (st := []) (pc := 39) rfl m_X10_isTonight l_X10_411 i_X10_isTonight e_X10_isTonight ha hS rfl (Nat.le_of_ble_eq_true rfl) rfl dX10_tonight_39) (tX10_isTonight G fu v0 v1 h8) (by decide) (by decide) (fun x11 h10 => ?_)
      refine ev_step (st_istore (pc := 42) (ls' := [(5, .int x11), (4, .int x9), (3, .int x7), (0, .ref (gB G + v0)), (1, .int v1), (2, .int v2)]) dX10_tonight_42 (by decide) rfl) ?_
      refine ev_step (st_iload_n (pc := 44) (j := 5) dX10_tonight_44 rfl rfl) ?_
      refine ev_br (br_if_ne (tgt := 52) (pc := 45) dX10_tonight_45 (by decide)) (fun _ => ?_) (fun _ => ?_)
      · refine ev_step (st_iload_n (pc := 48) (j := 2) dX10_tonight_48 rfl rfl) ?_
        refine ev_step (st_goto (pc := 49) (tgt := 76) dX10_tonight_49 (by decide)) ?_
        exact ev_iret (pc := 76) dX10_tonight_76
      · refine ev_step (st_iload_n (pc := 52) (j := 5) dX10_tonight_52 rfl rfl) ?_
        refine ev_step (st_iconst (pc := 53) dX10_tonight_53 ni_1) ?_
        refine ev_br (br_icmp_ne (tgt := 62) (pc := 54) dX10_tonight_54 (by decide)) (fun _ => ?_) (fun _ => ?_)
        · refine ev_step (st_iload (pc := 57) (j := 1) dX10_tonight_57 rfl) ?_
          refine ev_step (st_goto (pc := 59) (tgt := 76) dX10_tonight_59 (by decide)) ?_
          exact ev_iret (pc := 76) dX10_tonight_76
        · refine ev_step (st_iload_n (pc := 62) (j := 5) dX10_tonight_62 rfl rfl) ?_
          refine ev_step (st_iconst (pc := 63) dX10_tonight_63 ni_2) ?_
          refine ev_br (br_icmp_ne (tgt := 74) (pc := 64) dX10_tonight_64 (by decide)) (fun _ => ?_) (fun _ => ?_)
          · refine ev_step (st_aload_n (pc := 67) (j := 3) dX10_tonight_67 rfl rfl) ?_
            refine ev_ck (fun ha hS => ?_)
            refine ev_callI (iv_V (As := []) (st := []) (pc := 68) rfl m_X10_doneBits l_X10_414 i_X10_doneBits e_X10_doneBits ha hS rfl (Nat.le_of_ble_eq_true rfl) rfl dX10_tonight_68) (tX10_doneBits G fu v0 h10) (by decide) (by decide) (fun x13 h12 => ?_)
            refine ev_step (st_goto (pc := 71) (tgt := 76) dX10_tonight_71 (by decide)) ?_
            exact ev_iret (pc := 76) dX10_tonight_76
          · refine ev_step (st_iload (pc := 74) (j := 0) dX10_tonight_74 rfl) ?_
            exact ev_iret (pc := 76) dX10_tonight_76
set_option maxRecDepth 100000 in
set_option maxHeartbeats 4000000 in
theorem tX10_best_70 (G : gx) (fu : Nat) (h0 : mh) (v0 : Nat) (v1 : Int32) (v2 : Int32) (v3 : Int32) (v4 : Int32) (k20 : Int32 × Int32 × Int32 × mh → Option (Int32 × mh)) (hk20 : ∀ (v2 : Int32) (v3 : Int32) (v4 : Int32) (h : mh), Ev lI G yX10_best cX10_best 5 (some .int) 7 h0 20 [(0, .ref (gB G + v0)), (1, .int v1), (2, .int v2), (3, .int v3), (4, .int v4)] [] h (k20 (v2, v3, v4, h))) (h : mh) : Ev lI G yX10_best cX10_best 5 (some .int) 7 h0 70 [(0, .ref (gB G + v0)), (1, .int v1), (2, .int v2), (3, .int v3), (4, .int v4)] [] h (fX10_best_70 fu k20 v0 v1 v2 v3 v4 h) := by
  unfold fX10_best_70
  refine ev_step (st_inc (pc := 70) (j := 4) (ls' := [(4, .int (v4 + (1 : Int32))), (0, .ref (gB G + v0)), (1, .int v1), (2, .int v2), (3, .int v3)]) dX10_best_70 rfl ni_1 (by decide) rfl) ?_
  refine ev_step (st_goto (pc := 73) (tgt := 20) dX10_best_73 (by decide)) ?_
  refine ev_sub (ls' := [(0, .ref (gB G + v0)), (1, .int v1), (2, .int v2), (3, .int v3), (4, .int (v4 + (1 : Int32)))]) [1, 2, 3, 4, 0] rfl ?_
  exact hk20 v2 v3 (v4 + (1 : Int32)) h
set_option maxRecDepth 100000 in
set_option maxHeartbeats 4000000 in
theorem tX10_best_76 (G : gx) (fu : Nat) (h0 : mh) (v0 : Nat) (v1 : Int32) (v2 : Int32) (v3 : Int32) (v4 : Int32) (h : mh) : Ev lI G yX10_best cX10_best 5 (some .int) 7 h0 76 [(0, .ref (gB G + v0)), (1, .int v1), (2, .int v2), (3, .int v3), (4, .int v4)] [] h (fX10_best_76 fu v0 v1 v2 v3 v4 h) := by
  unfold fX10_best_76
  refine ev_step (st_iload_n (pc := 76) (j := 1) dX10_best_76 rfl rfl) ?_
  refine ev_br (br_if_ne (tgt := 84) (pc := 77) dX10_best_77 (by decide)) (fun _ => ?_) (fun _ => ?_)
  · refine ev_step (st_iload_n (pc := 80) (j := 2) dX10_best_80 rfl rfl) ?_
    refine ev_step (st_goto (pc := 81) (tgt := 85) dX10_best_81 (by decide)) ?_
    exact ev_iret (pc := 85) dX10_best_85
  · refine ev_step (st_iload_n (pc := 84) (j := 3) dX10_best_84 rfl rfl) ?_
    exact ev_iret (pc := 85) dX10_best_85
set_option maxRecDepth 100000 in
set_option maxHeartbeats 4000000 in
theorem tX10_best_20 (G : gx) (fu : Nat) (h0 : mh) (v0 : Nat) (v1 : Int32) (n : Nat) (v2 : Int32) (v3 : Int32) (v4 : Int32) (h : mh) : Ev lI G yX10_best cX10_best 5 (some .int) 7 h0 20 [(0, .ref (gB G + v0)), (1, .int v1), (2, .int v2), (3, .int v3), (4, .int v4)] [] h (itr (bX10_best_20 fu v0 v1) n (v2, v3, v4, h)) := by
  refine ev_itr (P := fun (q : Int32 × Int32 × Int32 × mh) (R9 : Option (Int32 × mh)) => Ev lI G yX10_best cX10_best 5 (some .int) 7 h0 20 [(0, .ref (gB G + v0)), (1, .int v1), (2, .int q.1), (3, .int q.2.1), (4, .int q.2.2.1)] [] q.2.2.2 R9) (fun _ => ev_none) (fun k20 hk9 q => ?_) n (v2, v3, v4, h)
  obtain ⟨v2, v3, v4, h⟩ := q
  have hk20 : ∀ (v2 : Int32) (v3 : Int32) (v4 : Int32) (h : mh), Ev lI G yX10_best cX10_best 5 (some .int) 7 h0 20 [(0, .ref (gB G + v0)), (1, .int v1), (2, .int v2), (3, .int v3), (4, .int v4)] [] h (k20 (v2, v3, v4, h)) := fun v2 v3 v4 h => hk9 (v2, v3, v4, h)
  show Ev lI G yX10_best cX10_best 5 (some .int) 7 h0 20 [(0, .ref (gB G + v0)), (1, .int v1), (2, .int v2), (3, .int v3), (4, .int v4)] [] h (bX10_best_20 fu v0 v1 k20 (v2, v3, v4, h))
  unfold bX10_best_20
  refine ev_step (st_iload (pc := 20) (j := 4) dX10_best_20 rfl) ?_
  refine ev_step (st_aload_n (pc := 22) (j := 0) dX10_best_22 rfl rfl) ?_
  refine ev_getR (pc := 23) k_X10_46 rfl dX10_best_23 (fun a1 => ?_)
  refine ev_step (st_aload_n (pc := 26) (j := 0) dX10_best_26 rfl rfl) ?_
  refine ev_getI (pc := 27) k_X10_230 rfl dX10_best_27 (fun x2 => ?_)
  refine ev_ldi (pc := 30) dX10_best_30 (fun x3 => ?_)
  refine ev_br (br_icmp_ge (tgt := 76) (pc := 31) dX10_best_31 (by decide)) (fun _ => ?_) (fun _ => ?_)
  · refine ev_sub (ls' := [(0, .ref (gB G + v0)), (1, .int v1), (2, .int v2), (3, .int v3), (4, .int v4)]) [0, 1, 2, 3, 4] rfl ?_
    exact tX10_best_76 G fu h0 v0 v1 v2 v3 v4 h
  · refine ev_step (st_aload_n (pc := 34) (j := 0) dX10_best_34 rfl rfl) ?_
    refine ev_getR (pc := 35) k_X10_119 rfl dX10_best_35 (fun a4 => ?_)
    refine ev_step (st_bipush (pc := 38) dX10_best_38 nb_6) ?_
    refine ev_step (st_iload (pc := 40) (j := 4) dX10_best_40 rfl) ?_
    refine ev_step (st_iadd (pc := 42) dX10_best_42) ?_
    refine ev_ldi (pc := 43) dX10_best_43 (fun x5 => ?_)
    refine ev_br (br_if_gt (tgt := 70) (pc := 44) dX10_best_44 (by decide)) (fun _ => ?_) (fun _ => ?_)
    · refine ev_sub (ls' := [(0, .ref (gB G + v0)), (1, .int v1), (2, .int v2), (3, .int v3), (4, .int v4)]) [0, 1, 2, 3, 4] rfl ?_
      exact tX10_best_70 G fu h0 v0 v1 v2 v3 v4 k20 hk20 h
    · refine ev_step (st_aload_n (pc := 47) (j := 0) dX10_best_47 rfl rfl) ?_
      refine ev_step (st_iload (pc := 48) (j := 4) dX10_best_48 rfl) ?_
      refine ev_ck (fun ha hS => ?_)
      refine ev_callI (iv_V (As := [.int v4]) (st := []) (pc := 50) rfl m_X10_isTonight l_X10_411 i_X10_isTonight e_X10_isTonight ha hS rfl (Nat.le_of_ble_eq_true rfl) rfl dX10_best_50) (tX10_isTonight G fu v0 v4 h) (by decide) (by decide) (fun x7 h6 => ?_)
      refine ev_step (st_iload_n (pc := 53) (j := 3) dX10_best_53 rfl rfl) ?_
      refine ev_br (br_icmp_gt (tgt := 60) (pc := 54) dX10_best_54 (by decide)) (fun _ => ?_) (fun _ => ?_)
      · refine ev_step (st_iload (pc := 60) (j := 4) dX10_best_60 rfl) ?_
        refine ev_step (st_istore_n (pc := 62) (ls' := [(2, .int v4), (0, .ref (gB G + v0)), (1, .int v1), (3, .int v3), (4, .int v4)]) dX10_best_62 rfl (by decide) rfl) ?_
        refine ev_step (st_aload_n (pc := 63) (j := 1) dX10_best_63 rfl rfl) ?_
        refine ev_step (st_iload (pc := 64) (j := 4) dX10_best_64 rfl) ?_
        refine ev_ck (fun ha hS => ?_)
        refine ev_callI (iv_V (As := [.int v4]) (st := []) (pc := 66) rfl m_X10_isTonight l_X10_411 i_X10_isTonight e_X10_isTonight ha hS rfl (Nat.le_of_ble_eq_true rfl) rfl dX10_best_66) (tX10_isTonight G fu v0 v4 h6) (by decide) (by decide) (fun x9 h8 => ?_)
        refine ev_step (st_istore_n (pc := 69) (ls' := [(3, .int x9), (2, .int v4), (0, .ref (gB G + v0)), (1, .int v1), (4, .int v4)]) dX10_best_69 rfl (by decide) rfl) ?_
        refine ev_sub (ls' := [(0, .ref (gB G + v0)), (1, .int v1), (2, .int v4), (3, .int x9), (4, .int v4)]) [2, 3, 1, 0, 4] rfl ?_
        exact tX10_best_70 G fu h0 v0 v1 v4 x9 v4 k20 hk20 h8
      · refine ev_step (st_goto (pc := 57) (tgt := 70) dX10_best_57 (by decide)) ?_
        refine ev_sub (ls' := [(0, .ref (gB G + v0)), (1, .int v1), (2, .int v2), (3, .int v3), (4, .int v4)]) [0, 1, 2, 3, 4] rfl ?_
        exact tX10_best_70 G fu h0 v0 v1 v2 v3 v4 k20 hk20 h6
set_option maxRecDepth 100000 in
set_option maxHeartbeats 4000000 in
theorem tX10_best (G : gx) (fu : Nat) (v0 : Nat) (v1 : Int32) (h : mh) : Ct lI G yX10_best cX10_best 5 (some .int) 7 [.ref (gB G + v0), .int v1] h (fX10_best fu v0 v1 h) := by
  refine ct_ls (ls := [(0, .ref (gB G + v0)), (1, .int v1)]) rfl (by decide) (Nat.le_of_ble_eq_true rfl) ?_
  unfold fX10_best
  refine ev_step (st_iload_n (pc := 0) (j := 1) dX10_best_0 rfl rfl) ?_
  refine ev_step (st_iconst (pc := 1) dX10_best_1 ni_0) ?_
  refine ev_step (st_iconst (pc := 2) dX10_best_2 ni_1) ?_
  refine ev_callI (iv_S (As := [.int v1, .int ((0 : Int32)), .int ((1 : Int32))]) (st := []) (pc := 3) m_X10_in l_X10_310 z_X10_in rfl (Nat.le_of_ble_eq_true rfl) rfl dX10_best_3) (tX10_in G fu v1 ((0 : Int32)) ((1 : Int32)) h) (by decide) (by decide) (fun x2 h1 => ?_)
  refine ev_br (br_if_ne (tgt := 11) (pc := 6) dX10_best_6 (by decide)) (fun _ => ?_) (fun _ => ?_)
  · refine ev_step (st_iconst (pc := 9) dX10_best_9 ni_m1) ?_
    exact ev_iret (pc := 10) dX10_best_10
  · refine ev_step (st_bipush (pc := 11) dX10_best_11 nb_m2) ?_
    refine ev_step (st_istore_n (pc := 13) (ls' := [(2, .int ((-2 : Int32))), (0, .ref (gB G + v0)), (1, .int v1)]) dX10_best_13 rfl (by decide) rfl) ?_
    refine ev_step (st_bipush (pc := 14) dX10_best_14 nb_m2) ?_
    refine ev_step (st_istore_n (pc := 16) (ls' := [(3, .int ((-2 : Int32))), (2, .int ((-2 : Int32))), (0, .ref (gB G + v0)), (1, .int v1)]) dX10_best_16 rfl (by decide) rfl) ?_
    refine ev_step (st_iconst (pc := 17) dX10_best_17 ni_0) ?_
    refine ev_step (st_istore (pc := 18) (ls' := [(4, .int ((0 : Int32))), (3, .int ((-2 : Int32))), (2, .int ((-2 : Int32))), (0, .ref (gB G + v0)), (1, .int v1)]) dX10_best_18 (by decide) rfl) ?_
    refine ev_sub (ls' := [(0, .ref (gB G + v0)), (1, .int v1), (2, .int ((-2 : Int32))), (3, .int ((-2 : Int32))), (4, .int ((0 : Int32)))]) [3, 4, 2, 1, 0] rfl ?_
    exact tX10_best_20 G fu h v0 v1 fu ((-2 : Int32)) ((-2 : Int32)) ((0 : Int32)) h1
set_option maxRecDepth 100000 in
set_option maxHeartbeats 4000000 in
theorem tX10_isEnough (G : gx) (fu : Nat) (v0 : Nat) (v1 : Int32) (h : mh) : Ct lI G yX10_isEnough cX10_isEnough 2 (some .boolean) 3 [.ref (gB G + v0), .int v1] h (fX10_isEnough fu v0 v1 h) := by
  refine ct_ls (ls := [(0, .ref (gB G + v0)), (1, .int v1)]) rfl (by decide) (Nat.le_of_ble_eq_true rfl) ?_
  unfold fX10_isEnough
  refine ev_step (st_iload_n (pc := 0) (j := 1) dX10_isEnough_0 rfl rfl) ?_
  refine ev_step (st_iconst (pc := 1) dX10_isEnough_1 ni_m1) ?_
  refine ev_br (br_icmp_ne (tgt := 33) (pc := 2) dX10_isEnough_2 (by decide)) (fun _ => ?_) (fun _ => ?_)
  · refine ev_step (st_aload_n (pc := 5) (j := 0) dX10_isEnough_5 rfl rfl) ?_
    refine ev_ck (fun ha hS => ?_)
    refine ev_callI (iv_V (As := []) (st := []) (pc := 6) rfl m_X10_doneBits l_X10_414 i_X10_doneBits e_X10_doneBits ha hS rfl (Nat.le_of_ble_eq_true rfl) rfl dX10_isEnough_6) (tX10_doneBits G fu v0 h) (by decide) (by decide) (fun x2 h1 => ?_)
    refine ev_step (st_iconst (pc := 9) dX10_isEnough_9 ni_1) ?_
    refine ev_step (st_aload_n (pc := 10) (j := 0) dX10_isEnough_10 rfl rfl) ?_
    refine ev_getR (pc := 11) k_X10_55 rfl dX10_isEnough_11 (fun a3 => ?_)
    refine ev_step (st_aload_n (pc := 14) (j := 0) dX10_isEnough_14 rfl rfl) ?_
    refine ev_getI (pc := 15) k_X10_230 rfl dX10_isEnough_15 (fun x4 => ?_)
    refine ev_ldi (pc := 18) dX10_isEnough_18 (fun x5 => ?_)
    refine ev_step (st_ishl (pc := 19) dX10_isEnough_19) ?_
    refine ev_step (st_iconst (pc := 20) dX10_isEnough_20 ni_1) ?_
    refine ev_step (st_isub (pc := 21) dX10_isEnough_21) ?_
    refine ev_br (br_icmp_ne (tgt := 29) (pc := 22) dX10_isEnough_22 (by decide)) (fun _ => ?_) (fun _ => ?_)
    · refine ev_step (st_iconst (pc := 25) dX10_isEnough_25 ni_1) ?_
      refine ev_step (st_goto (pc := 26) (tgt := 38) dX10_isEnough_26 (by decide)) ?_
      exact ev_zret (pc := 38) dX10_isEnough_38
    · refine ev_step (st_iconst (pc := 29) dX10_isEnough_29 ni_0) ?_
      refine ev_step (st_goto (pc := 30) (tgt := 38) dX10_isEnough_30 (by decide)) ?_
      exact ev_zret (pc := 38) dX10_isEnough_38
  · refine ev_step (st_aload_n (pc := 33) (j := 0) dX10_isEnough_33 rfl rfl) ?_
    refine ev_step (st_iload_n (pc := 34) (j := 1) dX10_isEnough_34 rfl rfl) ?_
    refine ev_ck (fun ha hS => ?_)
    refine ev_callI (iv_V (As := [.int v1]) (st := []) (pc := 35) rfl m_X10_hasDone l_X10_350 i_X10_hasDone e_X10_hasDone ha hS rfl (Nat.le_of_ble_eq_true rfl) rfl dX10_isEnough_35) (tX10_hasDone G fu v0 v1 h) (by decide) (by decide) (fun x7 h6 => ?_)
    exact ev_zret (pc := 38) dX10_isEnough_38
set_option maxRecDepth 100000 in
set_option maxHeartbeats 4000000 in
theorem tX10_power_4 (G : gx) (fu : Nat) (h0 : mh) (v0 : Int32) (v1 : Int32) (n : Nat) (v2 : Int32) (v3 : Int32) (h : mh) : Ev lI G yX10_power cX10_power 4 (some .int) 1 h0 4 [(0, .int v0), (1, .int v1), (2, .int v2), (3, .int v3)] [] h (itr (bX10_power_4 fu v0 v1) n (v2, v3, h)) := by
  refine ev_itr (P := fun (q : Int32 × Int32 × mh) (R9 : Option (Int32 × mh)) => Ev lI G yX10_power cX10_power 4 (some .int) 1 h0 4 [(0, .int v0), (1, .int v1), (2, .int q.1), (3, .int q.2.1)] [] q.2.2 R9) (fun _ => ev_none) (fun k4 hk9 q => ?_) n (v2, v3, h)
  obtain ⟨v2, v3, h⟩ := q
  have hk4 : ∀ (v2 : Int32) (v3 : Int32) (h : mh), Ev lI G yX10_power cX10_power 4 (some .int) 1 h0 4 [(0, .int v0), (1, .int v1), (2, .int v2), (3, .int v3)] [] h (k4 (v2, v3, h)) := fun v2 v3 h => hk9 (v2, v3, h)
  show Ev lI G yX10_power cX10_power 4 (some .int) 1 h0 4 [(0, .int v0), (1, .int v1), (2, .int v2), (3, .int v3)] [] h (bX10_power_4 fu v0 v1 k4 (v2, v3, h))
  unfold bX10_power_4
  refine ev_step (st_iload_n (pc := 4) (j := 3) dX10_power_4 rfl rfl) ?_
  refine ev_step (st_iload_n (pc := 5) (j := 1) dX10_power_5 rfl rfl) ?_
  refine ev_br (br_icmp_ge (tgt := 19) (pc := 6) dX10_power_6 (by decide)) (fun _ => ?_) (fun _ => ?_)
  · refine ev_step (st_iload_n (pc := 19) (j := 2) dX10_power_19 rfl rfl) ?_
    exact ev_iret (pc := 20) dX10_power_20
  · refine ev_step (st_iload_n (pc := 9) (j := 2) dX10_power_9 rfl rfl) ?_
    refine ev_step (st_iload_n (pc := 10) (j := 0) dX10_power_10 rfl rfl) ?_
    refine ev_step (st_imul (pc := 11) dX10_power_11) ?_
    refine ev_top (fun x1 => ?_)
    refine ev_step (st_istore_n (pc := 12) (ls' := [(2, .int x1), (0, .int v0), (1, .int v1), (3, .int v3)]) dX10_power_12 rfl (by decide) rfl) ?_
    refine ev_step (st_inc (pc := 13) (j := 3) (ls' := [(3, .int (v3 + (1 : Int32))), (2, .int x1), (0, .int v0), (1, .int v1)]) dX10_power_13 rfl ni_1 (by decide) rfl) ?_
    refine ev_step (st_goto (pc := 16) (tgt := 4) dX10_power_16 (by decide)) ?_
    refine ev_sub (ls' := [(0, .int v0), (1, .int v1), (2, .int x1), (3, .int (v3 + (1 : Int32)))]) [2, 3, 1, 0] rfl ?_
    exact hk4 x1 (v3 + (1 : Int32)) h
set_option maxRecDepth 100000 in
set_option maxHeartbeats 4000000 in
theorem tX10_power (G : gx) (fu : Nat) (v0 : Int32) (v1 : Int32) (h : mh) : Ct lI G yX10_power cX10_power 4 (some .int) 1 [.int v0, .int v1] h (fX10_power fu v0 v1 h) := by
  refine ct_ls (ls := [(0, .int v0), (1, .int v1)]) rfl (by decide) (Nat.le_of_ble_eq_true rfl) ?_
  unfold fX10_power
  refine ev_step (st_iconst (pc := 0) dX10_power_0 ni_1) ?_
  refine ev_step (st_istore_n (pc := 1) (ls' := [(2, .int ((1 : Int32))), (0, .int v0), (1, .int v1)]) dX10_power_1 rfl (by decide) rfl) ?_
  refine ev_step (st_iconst (pc := 2) dX10_power_2 ni_0) ?_
  refine ev_step (st_istore_n (pc := 3) (ls' := [(3, .int ((0 : Int32))), (2, .int ((1 : Int32))), (0, .int v0), (1, .int v1)]) dX10_power_3 rfl (by decide) rfl) ?_
  refine ev_sub (ls' := [(0, .int v0), (1, .int v1), (2, .int ((1 : Int32))), (3, .int ((0 : Int32)))]) [2, 3, 1, 0] rfl ?_
  exact tX10_power_4 G fu h v0 v1 fu ((1 : Int32)) ((0 : Int32)) h
set_option maxRecDepth 100000 in
set_option maxHeartbeats 4000000 in
theorem tX10_doesWay_76 (G : gx) (fu : Nat) (h0 : mh) (v0 : Nat) (v1 : Int32) (v2 : Int32) (v3 : Int32) (v4 : Int32) (h : mh) : Ev lI G yX10_doesWay cX10_doesWay 6 (some .boolean) 6 h0 76 [(0, .ref (gB G + v0)), (1, .int v1), (2, .int v2), (3, .int v3), (4, .int v4)] [] h (fX10_doesWay_76 fu v0 v1 v2 v3 v4 h) := by
  unfold fX10_doesWay_76
  refine ev_step (st_aload_n (pc := 76) (j := 0) dX10_doesWay_76 rfl rfl) ?_
  refine ev_step (st_iload_n (pc := 77) (j := 1) dX10_doesWay_77 rfl rfl) ?_
  refine ev_ck (fun ha hS => ?_)
  refine ev_callI (iv_V (As := [.int v1]) (st := []) (pc := 78) rfl m_X10_isEnough l_X10_420 i_X10_isEnough e_X10_isEnough ha hS rfl (Nat.le_of_ble_eq_true rfl) rfl dX10_doesWay_78) (tX10_isEnough G fu v0 v1 h) (by decide) (by decide) (fun x2 h1 => ?_)
  exact ev_zret (pc := 81) dX10_doesWay_81
set_option maxRecDepth 100000 in
set_option maxHeartbeats 4000000 in
theorem tX10_doesWay_9 (G : gx) (fu : Nat) (h0 : mh) (v0 : Nat) (v1 : Int32) (v2 : Int32) (v3 : Int32) (n : Nat) (v4 : Int32) (h : mh) : Ev lI G yX10_doesWay cX10_doesWay 6 (some .boolean) 6 h0 9 [(0, .ref (gB G + v0)), (1, .int v1), (2, .int v2), (3, .int v3), (4, .int v4)] [] h (itr (bX10_doesWay_9 fu v0 v1 v2 v3) n (v4, h)) := by
  refine ev_itr (P := fun (q : Int32 × mh) (R9 : Option (Int32 × mh)) => Ev lI G yX10_doesWay cX10_doesWay 6 (some .boolean) 6 h0 9 [(0, .ref (gB G + v0)), (1, .int v1), (2, .int v2), (3, .int v3), (4, .int q.1)] [] q.2 R9) (fun _ => ev_none) (fun k9 hk9 q => ?_) n (v4, h)
  obtain ⟨v4, h⟩ := q
  have hk9 : ∀ (v4 : Int32) (h : mh), Ev lI G yX10_doesWay cX10_doesWay 6 (some .boolean) 6 h0 9 [(0, .ref (gB G + v0)), (1, .int v1), (2, .int v2), (3, .int v3), (4, .int v4)] [] h (k9 (v4, h)) := fun v4 h => hk9 (v4, h)
  show Ev lI G yX10_doesWay cX10_doesWay 6 (some .boolean) 6 h0 9 [(0, .ref (gB G + v0)), (1, .int v1), (2, .int v2), (3, .int v3), (4, .int v4)] [] h (bX10_doesWay_9 fu v0 v1 v2 v3 k9 (v4, h))
  unfold bX10_doesWay_9
  refine ev_step (st_iload (pc := 9) (j := 4) dX10_doesWay_9 rfl) ?_
  refine ev_br (br_if_lt (tgt := 76) (pc := 11) dX10_doesWay_11 (by decide)) (fun _ => ?_) (fun _ => ?_)
  · refine ev_sub (ls' := [(0, .ref (gB G + v0)), (1, .int v1), (2, .int v2), (3, .int v3), (4, .int v4)]) [0, 1, 2, 3, 4] rfl ?_
    exact tX10_doesWay_76 G fu h0 v0 v1 v2 v3 v4 h
  · refine ev_step (st_iload_n (pc := 14) (j := 2) dX10_doesWay_14 rfl rfl) ?_
    refine ev_step (st_aload_n (pc := 15) (j := 0) dX10_doesWay_15 rfl rfl) ?_
    refine ev_getR (pc := 16) k_X10_46 rfl dX10_doesWay_16 (fun a1 => ?_)
    refine ev_step (st_aload_n (pc := 19) (j := 0) dX10_doesWay_19 rfl rfl) ?_
    refine ev_getI (pc := 20) k_X10_230 rfl dX10_doesWay_20 (fun x2 => ?_)
    refine ev_ldi (pc := 23) dX10_doesWay_23 (fun x3 => ?_)
    refine ev_step (st_iload (pc := 24) (j := 4) dX10_doesWay_24 rfl) ?_
    refine ev_callI (iv_S (As := [.int x3, .int v4]) (st := [.int v2]) (pc := 26) m_X10_power l_X10_417 z_X10_power rfl (Nat.le_of_ble_eq_true rfl) rfl dX10_doesWay_26) (tX10_power G fu x3 v4 h) (by decide) (by decide) (fun x5 h4 => ?_)
    refine ev_div (pc := 29) dX10_doesWay_29 (fun x6 => ?_)
    refine ev_step (st_aload_n (pc := 30) (j := 0) dX10_doesWay_30 rfl rfl) ?_
    refine ev_getR (pc := 31) k_X10_46 rfl dX10_doesWay_31 (fun a7 => ?_)
    refine ev_step (st_aload_n (pc := 34) (j := 0) dX10_doesWay_34 rfl rfl) ?_
    refine ev_getI (pc := 35) k_X10_230 rfl dX10_doesWay_35 (fun x8 => ?_)
    refine ev_ldi (pc := 38) dX10_doesWay_38 (fun x9 => ?_)
    refine ev_rem (pc := 39) dX10_doesWay_39 (fun x10 => ?_)
    refine ev_step (st_istore (pc := 40) (ls' := [(5, .int x10), (0, .ref (gB G + v0)), (1, .int v1), (2, .int v2), (3, .int v3), (4, .int v4)]) dX10_doesWay_40 (by decide) rfl) ?_
    refine ev_step (st_aload_n (pc := 42) (j := 1) dX10_doesWay_42 rfl rfl) ?_
    refine ev_getR (pc := 43) k_X10_122 rfl dX10_doesWay_43 (fun a11 => ?_)
    refine ev_step (st_bipush (pc := 46) dX10_doesWay_46 nb_6) ?_
    refine ev_step (st_iload (pc := 48) (j := 0) dX10_doesWay_48 rfl) ?_
    refine ev_step (st_iadd (pc := 50) dX10_doesWay_50) ?_
    refine ev_ldi (pc := 51) dX10_doesWay_51 (fun x12 => ?_)
    refine ev_br (br_if_le (tgt := 57) (pc := 52) dX10_doesWay_52 (by decide)) (fun _ => ?_) (fun _ => ?_)
    · refine ev_step (st_aload_n (pc := 57) (j := 1) dX10_doesWay_57 rfl rfl) ?_
      refine ev_getR (pc := 58) k_X10_122 rfl dX10_doesWay_58 (fun a13 => ?_)
      refine ev_step (st_bipush (pc := 61) dX10_doesWay_61 nb_31) ?_
      refine ev_step (st_iload (pc := 63) (j := 0) dX10_doesWay_63 rfl) ?_
      refine ev_sti (pc := 65) dX10_doesWay_65 (fun h14 => ?_)
      refine ev_step (st_aload_n (pc := 66) (j := 1) dX10_doesWay_66 rfl rfl) ?_
      refine ev_ck (fun ha hS => ?_)
      refine ev_callV (iv_V (As := []) (st := []) (pc := 67) rfl m_X10_eveningGoes l_X10_378 i_X10_eveningGoes e_X10_eveningGoes ha hS rfl (Nat.le_of_ble_eq_true rfl) rfl dX10_doesWay_67) (tX10_eveningGoes G fu v0 h14) (by decide) (by decide) (fun h15 => ?_)
      refine ev_step (st_inc (pc := 70) (j := 5) (ls' := [(4, .int (v4 + (-1 : Int32))), (5, .int x10), (0, .ref (gB G + v0)), (1, .int v1), (2, .int v2), (3, .int v3)]) dX10_doesWay_70 rfl ni_m1 (by decide) rfl) ?_
      refine ev_step (st_goto (pc := 73) (tgt := 9) dX10_doesWay_73 (by decide)) ?_
      refine ev_sub (ls' := [(0, .ref (gB G + v0)), (1, .int v1), (2, .int v2), (3, .int v3), (4, .int (v4 + (-1 : Int32)))]) [2, 3, 4, 5, 0] rfl ?_
      exact hk9 (v4 + (-1 : Int32)) h15
    · refine ev_step (st_iconst (pc := 55) dX10_doesWay_55 ni_0) ?_
      exact ev_zret (pc := 56) dX10_doesWay_56
set_option maxRecDepth 100000 in
set_option maxHeartbeats 4000000 in
theorem tX10_doesWay (G : gx) (fu : Nat) (v0 : Nat) (v1 : Int32) (v2 : Int32) (v3 : Int32) (h : mh) : Ct lI G yX10_doesWay cX10_doesWay 6 (some .boolean) 6 [.ref (gB G + v0), .int v1, .int v2, .int v3] h (fX10_doesWay fu v0 v1 v2 v3 h) := by
  refine ct_ls (ls := [(0, .ref (gB G + v0)), (1, .int v1), (2, .int v2), (3, .int v3)]) rfl (by decide) (Nat.le_of_ble_eq_true rfl) ?_
  unfold fX10_doesWay
  refine ev_step (st_aload_n (pc := 0) (j := 0) dX10_doesWay_0 rfl rfl) ?_
  refine ev_ck (fun ha hS => ?_)
  refine ev_callV (iv_V (As := []) (st := []) (pc := 1) rfl m_X10_copiesStill l_X10_402 i_X10_copiesStill e_X10_copiesStill ha hS rfl (Nat.le_of_ble_eq_true rfl) rfl dX10_doesWay_1) (tX10_copiesStill G fu v0 h) (by decide) (by decide) (fun h1 => ?_)
  refine ev_step (st_iload_n (pc := 4) (j := 3) dX10_doesWay_4 rfl rfl) ?_
  refine ev_step (st_iconst (pc := 5) dX10_doesWay_5 ni_1) ?_
  refine ev_step (st_isub (pc := 6) dX10_doesWay_6) ?_
  refine ev_top (fun x2 => ?_)
  refine ev_step (st_istore (pc := 7) (ls' := [(4, .int x2), (0, .ref (gB G + v0)), (1, .int v1), (2, .int v2), (3, .int v3)]) dX10_doesWay_7 (by decide) rfl) ?_
  refine ev_sub (ls' := [(0, .ref (gB G + v0)), (1, .int v1), (2, .int v2), (3, .int v3), (4, .int x2)]) [1, 2, 3, 4, 0] rfl ?_
  exact tX10_doesWay_9 G fu h v0 v1 v2 v3 fu x2 h1
set_option maxRecDepth 100000 in
set_option maxHeartbeats 4000000 in
theorem tX10_findsPlan_89 (G : gx) (fu : Nat) (h0 : mh) (v0 : Nat) (v1 : Int32) (k23 : mh → Option (Unit × mh)) (hk23 : ∀ (h : mh), Ev lV G yX10_findsPlan cX10_findsPlan 2 (none) 7 h0 23 [(0, .ref (gB G + v0)), (1, .int v1)] [] h (k23 (h))) (h : mh) : Ev lV G yX10_findsPlan cX10_findsPlan 2 (none) 7 h0 89 [(0, .ref (gB G + v0)), (1, .int v1)] [] h (fX10_findsPlan_89 fu k23 v0 v1 h) := by
  unfold fX10_findsPlan_89
  refine ev_step (st_aload_n (pc := 89) (j := 0) dX10_findsPlan_89 rfl rfl) ?_
  refine ev_step (st_dup (pc := 90) dX10_findsPlan_90 rfl) ?_
  refine ev_getI (pc := 91) k_X10_423 rfl dX10_findsPlan_91 (fun x1 => ?_)
  refine ev_step (st_iconst (pc := 94) dX10_findsPlan_94 ni_1) ?_
  refine ev_step (st_iadd (pc := 95) dX10_findsPlan_95) ?_
  refine ev_putI (pc := 96) (p_X10_423 _ rfl) rfl dX10_findsPlan_96 (fun h2 => ?_)
  refine ev_step (st_goto (pc := 99) (tgt := 23) dX10_findsPlan_99 (by decide)) ?_
  refine ev_sub (ls' := [(0, .ref (gB G + v0)), (1, .int v1)]) [0, 1] rfl ?_
  exact hk23  h2
set_option maxRecDepth 100000 in
set_option maxHeartbeats 4000000 in
theorem tX10_findsPlan_36 (G : gx) (fu : Nat) (h0 : mh) (v0 : Nat) (v1 : Int32) (k23 : mh → Option (Unit × mh)) (hk23 : ∀ (h : mh), Ev lV G yX10_findsPlan cX10_findsPlan 2 (none) 7 h0 23 [(0, .ref (gB G + v0)), (1, .int v1)] [] h (k23 (h))) (n : Nat) (h : mh) : Ev lV G yX10_findsPlan cX10_findsPlan 2 (none) 7 h0 36 [(0, .ref (gB G + v0)), (1, .int v1)] [] h (itr (bX10_findsPlan_36 fu k23 v0 v1) n (h)) := by
  refine ev_itr (P := fun (q : mh) (R9 : Option (Unit × mh)) => Ev lV G yX10_findsPlan cX10_findsPlan 2 (none) 7 h0 36 [(0, .ref (gB G + v0)), (1, .int v1)] [] q R9) (fun _ => ev_none) (fun k36 hk9 h => ?_) n (h)
  have hk36 : ∀ (h : mh), Ev lV G yX10_findsPlan cX10_findsPlan 2 (none) 7 h0 36 [(0, .ref (gB G + v0)), (1, .int v1)] [] h (k36 (h)) := fun h => hk9 (h)
  show Ev lV G yX10_findsPlan cX10_findsPlan 2 (none) 7 h0 36 [(0, .ref (gB G + v0)), (1, .int v1)] [] h (bX10_findsPlan_36 fu k23 v0 v1 k36 (h))
  unfold bX10_findsPlan_36
  refine ev_step (st_aload_n (pc := 36) (j := 0) dX10_findsPlan_36 rfl rfl) ?_
  refine ev_getI (pc := 37) k_X10_426 rfl dX10_findsPlan_37 (fun x1 => ?_)
  refine ev_step (st_aload_n (pc := 40) (j := 0) dX10_findsPlan_40 rfl rfl) ?_
  refine ev_getR (pc := 41) k_X10_46 rfl dX10_findsPlan_41 (fun a2 => ?_)
  refine ev_step (st_aload_n (pc := 44) (j := 0) dX10_findsPlan_44 rfl rfl) ?_
  refine ev_getI (pc := 45) k_X10_230 rfl dX10_findsPlan_45 (fun x3 => ?_)
  refine ev_ldi (pc := 48) dX10_findsPlan_48 (fun x4 => ?_)
  refine ev_step (st_aload_n (pc := 49) (j := 0) dX10_findsPlan_49 rfl rfl) ?_
  refine ev_getI (pc := 50) k_X10_423 rfl dX10_findsPlan_50 (fun x5 => ?_)
  refine ev_callI (iv_S (As := [.int x4, .int x5]) (st := [.int x1]) (pc := 53) m_X10_power l_X10_417 z_X10_power rfl (Nat.le_of_ble_eq_true rfl) rfl dX10_findsPlan_53) (tX10_power G fu x4 x5 h) (by decide) (by decide) (fun x7 h6 => ?_)
  refine ev_br (br_icmp_ge (tgt := 89) (pc := 56) dX10_findsPlan_56 (by decide)) (fun _ => ?_) (fun _ => ?_)
  · refine ev_sub (ls' := [(0, .ref (gB G + v0)), (1, .int v1)]) [0, 1] rfl ?_
    exact tX10_findsPlan_89 G fu h0 v0 v1 k23 hk23 h6
  · refine ev_step (st_aload_n (pc := 59) (j := 0) dX10_findsPlan_59 rfl rfl) ?_
    refine ev_step (st_iload_n (pc := 60) (j := 1) dX10_findsPlan_60 rfl rfl) ?_
    refine ev_step (st_aload_n (pc := 61) (j := 0) dX10_findsPlan_61 rfl rfl) ?_
    refine ev_getI (pc := 62) k_X10_426 rfl dX10_findsPlan_62 (fun x8 => ?_)
    refine ev_step (st_aload_n (pc := 65) (j := 0) dX10_findsPlan_65 rfl rfl) ?_
    refine ev_getI (pc := 66) k_X10_423 rfl dX10_findsPlan_66 (fun x9 => ?_)
    refine ev_ck (fun ha hS => ?_)
    refine ev_callI (iv_V (As := [.int v1, .int x8, .int x9]) (st := []) (pc := 69) rfl m_X10_doesWay l_X10_429 i_X10_doesWay e_X10_doesWay ha hS rfl (Nat.le_of_ble_eq_true rfl) rfl dX10_findsPlan_69) (tX10_doesWay G fu v0 v1 x8 x9 h6) (by decide) (by decide) (fun x11 h10 => ?_)
    refine ev_br (br_if_eq (tgt := 76) (pc := 72) dX10_findsPlan_72 (by decide)) (fun _ => ?_) (fun _ => ?_)
    · refine ev_step (st_aload_n (pc := 76) (j := 0) dX10_findsPlan_76 rfl rfl) ?_
      refine ev_step (st_dup (pc := 77) dX10_findsPlan_77 rfl) ?_
      refine ev_getI (pc := 78) k_X10_426 rfl dX10_findsPlan_78 (fun x12 => ?_)
      refine ev_step (st_iconst (pc := 81) dX10_findsPlan_81 ni_1) ?_
      refine ev_step (st_iadd (pc := 82) dX10_findsPlan_82) ?_
      refine ev_putI (pc := 83) (p_X10_426 _ rfl) rfl dX10_findsPlan_83 (fun h13 => ?_)
      refine ev_step (st_goto (pc := 86) (tgt := 36) dX10_findsPlan_86 (by decide)) ?_
      refine ev_sub (ls' := [(0, .ref (gB G + v0)), (1, .int v1)]) [0, 1] rfl ?_
      exact hk36  h13
    · exact ev_vret (pc := 75) dX10_findsPlan_75
set_option maxRecDepth 100000 in
set_option maxHeartbeats 4000000 in
theorem tX10_findsPlan_23 (G : gx) (fu : Nat) (h0 : mh) (v0 : Nat) (v1 : Int32) (n : Nat) (h : mh) : Ev lV G yX10_findsPlan cX10_findsPlan 2 (none) 7 h0 23 [(0, .ref (gB G + v0)), (1, .int v1)] [] h (itr (bX10_findsPlan_23 fu v0 v1) n (h)) := by
  refine ev_itr (P := fun (q : mh) (R9 : Option (Unit × mh)) => Ev lV G yX10_findsPlan cX10_findsPlan 2 (none) 7 h0 23 [(0, .ref (gB G + v0)), (1, .int v1)] [] q R9) (fun _ => ev_none) (fun k23 hk9 h => ?_) n (h)
  have hk23 : ∀ (h : mh), Ev lV G yX10_findsPlan cX10_findsPlan 2 (none) 7 h0 23 [(0, .ref (gB G + v0)), (1, .int v1)] [] h (k23 (h)) := fun h => hk9 (h)
  show Ev lV G yX10_findsPlan cX10_findsPlan 2 (none) 7 h0 23 [(0, .ref (gB G + v0)), (1, .int v1)] [] h (bX10_findsPlan_23 fu v0 v1 k23 (h))
  unfold bX10_findsPlan_23
  refine ev_step (st_aload_n (pc := 23) (j := 0) dX10_findsPlan_23 rfl rfl) ?_
  refine ev_getI (pc := 24) k_X10_423 rfl dX10_findsPlan_24 (fun x1 => ?_)
  refine ev_step (st_iconst (pc := 27) dX10_findsPlan_27 ni_4) ?_
  refine ev_br (br_icmp_gt (tgt := 102) (pc := 28) dX10_findsPlan_28 (by decide)) (fun _ => ?_) (fun _ => ?_)
  · exact ev_vret (pc := 102) dX10_findsPlan_102
  · refine ev_step (st_aload_n (pc := 31) (j := 0) dX10_findsPlan_31 rfl rfl) ?_
    refine ev_step (st_iconst (pc := 32) dX10_findsPlan_32 ni_0) ?_
    refine ev_putI (pc := 33) (p_X10_426 _ rfl) rfl dX10_findsPlan_33 (fun h2 => ?_)
    refine ev_sub (ls' := [(0, .ref (gB G + v0)), (1, .int v1)]) [0, 1] rfl ?_
    exact tX10_findsPlan_36 G fu h0 v0 v1 k23 hk23 fu  h2
set_option maxRecDepth 100000 in
set_option maxHeartbeats 4000000 in
theorem tX10_findsPlan (G : gx) (fu : Nat) (v0 : Nat) (v1 : Int32) (h : mh) : Ct lV G yX10_findsPlan cX10_findsPlan 2 (none) 7 [.ref (gB G + v0), .int v1] h (fX10_findsPlan fu v0 v1 h) := by
  refine ct_ls (ls := [(0, .ref (gB G + v0)), (1, .int v1)]) rfl (by decide) (Nat.le_of_ble_eq_true rfl) ?_
  unfold fX10_findsPlan
  refine ev_step (st_aload_n (pc := 0) (j := 0) dX10_findsPlan_0 rfl rfl) ?_
  refine ev_ck (fun ha hS => ?_)
  refine ev_callV (iv_V (As := []) (st := []) (pc := 1) rfl m_X10_copiesStill l_X10_402 i_X10_copiesStill e_X10_copiesStill ha hS rfl (Nat.le_of_ble_eq_true rfl) rfl dX10_findsPlan_1) (tX10_copiesStill G fu v0 h) (by decide) (by decide) (fun h1 => ?_)
  refine ev_step (st_aload_n (pc := 4) (j := 0) dX10_findsPlan_4 rfl rfl) ?_
  refine ev_step (st_iconst (pc := 5) dX10_findsPlan_5 ni_0) ?_
  refine ev_putI (pc := 6) (p_X10_423 _ rfl) rfl dX10_findsPlan_6 (fun h2 => ?_)
  refine ev_step (st_aload_n (pc := 9) (j := 0) dX10_findsPlan_9 rfl rfl) ?_
  refine ev_step (st_iload_n (pc := 10) (j := 1) dX10_findsPlan_10 rfl rfl) ?_
  refine ev_ck (fun ha hS => ?_)
  refine ev_callI (iv_V (As := [.int v1]) (st := []) (pc := 11) rfl m_X10_isEnough l_X10_420 i_X10_isEnough e_X10_isEnough ha hS rfl (Nat.le_of_ble_eq_true rfl) rfl dX10_findsPlan_11) (tX10_isEnough G fu v0 v1 h2) (by decide) (by decide) (fun x4 h3 => ?_)
  refine ev_br (br_if_eq (tgt := 18) (pc := 14) dX10_findsPlan_14 (by decide)) (fun _ => ?_) (fun _ => ?_)
  · refine ev_step (st_aload_n (pc := 18) (j := 0) dX10_findsPlan_18 rfl rfl) ?_
    refine ev_step (st_iconst (pc := 19) dX10_findsPlan_19 ni_1) ?_
    refine ev_putI (pc := 20) (p_X10_423 _ rfl) rfl dX10_findsPlan_20 (fun h5 => ?_)
    refine ev_sub (ls' := [(0, .ref (gB G + v0)), (1, .int v1)]) [0, 1] rfl ?_
    exact tX10_findsPlan_23 G fu h v0 v1 fu  h5
  · exact ev_vret (pc := 17) dX10_findsPlan_17
set_option maxRecDepth 100000 in
set_option maxHeartbeats 4000000 in
theorem tX10_plan_13 (G : gx) (fu : Nat) (h0 : mh) (v0 : Nat) (v1 : Int32) (v2 : Int32) (h : mh) : Ev lI G yX10_plan cX10_plan 3 (some .int) 8 h0 13 [(0, .ref (gB G + v0)), (1, .int v1), (2, .int v2)] [] h (fX10_plan_13 fu v0 v1 v2 h) := by
  unfold fX10_plan_13
  refine ev_step (st_iload_n (pc := 13) (j := 2) dX10_plan_13 rfl rfl) ?_
  refine ev_step (st_iconst (pc := 14) dX10_plan_14 ni_m1) ?_
  refine ev_step (st_iconst (pc := 15) dX10_plan_15 ni_3) ?_
  refine ev_callI (iv_S (As := [.int v2, .int ((-1 : Int32)), .int ((3 : Int32))]) (st := []) (pc := 16) m_X10_in l_X10_310 z_X10_in rfl (Nat.le_of_ble_eq_true rfl) rfl dX10_plan_16) (tX10_in G fu v2 ((-1 : Int32)) ((3 : Int32)) h) (by decide) (by decide) (fun x2 h1 => ?_)
  refine ev_br (br_if_ne (tgt := 24) (pc := 19) dX10_plan_19 (by decide)) (fun _ => ?_) (fun _ => ?_)
  · refine ev_step (st_iconst (pc := 22) dX10_plan_22 ni_m1) ?_
    exact ev_iret (pc := 23) dX10_plan_23
  · refine ev_step (st_aload_n (pc := 24) (j := 0) dX10_plan_24 rfl rfl) ?_
    refine ev_step (st_iload_n (pc := 25) (j := 1) dX10_plan_25 rfl rfl) ?_
    refine ev_ck (fun ha hS => ?_)
    refine ev_callV (iv_V (As := [.int v1]) (st := []) (pc := 26) rfl m_X10_findsPlan l_X10_432 i_X10_findsPlan e_X10_findsPlan ha hS rfl (Nat.le_of_ble_eq_true rfl) rfl dX10_plan_26) (tX10_findsPlan G fu v0 v1 h1) (by decide) (by decide) (fun h3 => ?_)
    refine ev_step (st_aload_n (pc := 29) (j := 0) dX10_plan_29 rfl rfl) ?_
    refine ev_getI (pc := 30) k_X10_423 rfl dX10_plan_30 (fun x4 => ?_)
    refine ev_step (st_iconst (pc := 33) dX10_plan_33 ni_5) ?_
    refine ev_br (br_icmp_ne (tgt := 40) (pc := 34) dX10_plan_34 (by decide)) (fun _ => ?_) (fun _ => ?_)
    · refine ev_step (st_bipush (pc := 37) dX10_plan_37 nb_m2) ?_
      exact ev_iret (pc := 39) dX10_plan_39
    · refine ev_step (st_iload_n (pc := 40) (j := 2) dX10_plan_40 rfl rfl) ?_
      refine ev_step (st_iconst (pc := 41) dX10_plan_41 ni_m1) ?_
      refine ev_br (br_icmp_ne (tgt := 50) (pc := 42) dX10_plan_42 (by decide)) (fun _ => ?_) (fun _ => ?_)
      · refine ev_step (st_aload_n (pc := 45) (j := 0) dX10_plan_45 rfl rfl) ?_
        refine ev_getI (pc := 46) k_X10_423 rfl dX10_plan_46 (fun x5 => ?_)
        exact ev_iret (pc := 49) dX10_plan_49
      · refine ev_step (st_iload_n (pc := 50) (j := 2) dX10_plan_50 rfl rfl) ?_
        refine ev_step (st_aload_n (pc := 51) (j := 0) dX10_plan_51 rfl rfl) ?_
        refine ev_getI (pc := 52) k_X10_423 rfl dX10_plan_52 (fun x6 => ?_)
        refine ev_br (br_icmp_ge (tgt := 96) (pc := 55) dX10_plan_55 (by decide)) (fun _ => ?_) (fun _ => ?_)
        · refine ev_step (st_iconst (pc := 96) dX10_plan_96 ni_m1) ?_
          exact ev_iret (pc := 97) dX10_plan_97
        · refine ev_step (st_aload_n (pc := 58) (j := 0) dX10_plan_58 rfl rfl) ?_
          refine ev_getI (pc := 59) k_X10_426 rfl dX10_plan_59 (fun x7 => ?_)
          refine ev_step (st_aload_n (pc := 62) (j := 0) dX10_plan_62 rfl rfl) ?_
          refine ev_getR (pc := 63) k_X10_46 rfl dX10_plan_63 (fun a8 => ?_)
          refine ev_step (st_aload_n (pc := 66) (j := 0) dX10_plan_66 rfl rfl) ?_
          refine ev_getI (pc := 67) k_X10_230 rfl dX10_plan_67 (fun x9 => ?_)
          refine ev_ldi (pc := 70) dX10_plan_70 (fun x10 => ?_)
          refine ev_step (st_aload_n (pc := 71) (j := 0) dX10_plan_71 rfl rfl) ?_
          refine ev_getI (pc := 72) k_X10_423 rfl dX10_plan_72 (fun x11 => ?_)
          refine ev_step (st_iconst (pc := 75) dX10_plan_75 ni_1) ?_
          refine ev_step (st_isub (pc := 76) dX10_plan_76) ?_
          refine ev_step (st_iload_n (pc := 77) (j := 2) dX10_plan_77 rfl rfl) ?_
          refine ev_step (st_isub (pc := 78) dX10_plan_78) ?_
          refine ev_callI (iv_S (As := [.int x10, .int ((x11 - ((1 : Int32))) - v2)]) (st := [.int x7]) (pc := 79) m_X10_power l_X10_417 z_X10_power rfl (Nat.le_of_ble_eq_true rfl) rfl dX10_plan_79) (tX10_power G fu x10 ((x11 - ((1 : Int32))) - v2) h3) (by decide) (by decide) (fun x13 h12 => ?_)
          refine ev_div (pc := 82) dX10_plan_82 (fun x14 => ?_)
          refine ev_step (st_aload_n (pc := 83) (j := 0) dX10_plan_83 rfl rfl) ?_
          refine ev_getR (pc := 84) k_X10_46 rfl dX10_plan_84 (fun a15 => ?_)
          refine ev_step (st_aload_n (pc := 87) (j := 0) dX10_plan_87 rfl rfl) ?_
          refine ev_getI (pc := 88) k_X10_230 rfl dX10_plan_88 (fun x16 => ?_)
          refine ev_ldi (pc := 91) dX10_plan_91 (fun x17 => ?_)
          refine ev_rem (pc := 92) dX10_plan_92 (fun x18 => ?_)
          refine ev_step (st_goto (pc := 93) (tgt := 97) dX10_plan_93 (by decide)) ?_
          exact ev_iret (pc := 97) dX10_plan_97
set_option maxRecDepth 100000 in
set_option maxHeartbeats 4000000 in
theorem tX10_plan (G : gx) (fu : Nat) (v0 : Nat) (v1 : Int32) (v2 : Int32) (h : mh) : Ct lI G yX10_plan cX10_plan 3 (some .int) 8 [.ref (gB G + v0), .int v1, .int v2] h (fX10_plan fu v0 v1 v2 h) := by
  refine ct_ls (ls := [(0, .ref (gB G + v0)), (1, .int v1), (2, .int v2)]) rfl (by decide) (Nat.le_of_ble_eq_true rfl) ?_
  unfold fX10_plan
  refine ev_step (st_iload_n (pc := 0) (j := 1) dX10_plan_0 rfl rfl) ?_
  refine ev_step (st_iconst (pc := 1) dX10_plan_1 ni_m1) ?_
  refine ev_br (br_icmp_eq (tgt := 13) (pc := 2) dX10_plan_2 (by decide)) (fun _ => ?_) (fun _ => ?_)
  · refine ev_sub (ls' := [(0, .ref (gB G + v0)), (1, .int v1), (2, .int v2)]) [0, 1, 2] rfl ?_
    exact tX10_plan_13 G fu h v0 v1 v2 h
  · refine ev_step (st_aload_n (pc := 5) (j := 0) dX10_plan_5 rfl rfl) ?_
    refine ev_step (st_iload_n (pc := 6) (j := 1) dX10_plan_6 rfl rfl) ?_
    refine ev_ck (fun ha hS => ?_)
    refine ev_callI (iv_V (As := [.int v1]) (st := []) (pc := 7) rfl m_X10_isListener l_X10_384 i_X10_isListener e_X10_isListener ha hS rfl (Nat.le_of_ble_eq_true rfl) rfl dX10_plan_7) (tX10_isListener G fu v0 v1 h) (by decide) (by decide) (fun x2 h1 => ?_)
    refine ev_br (br_if_eq (tgt := 22) (pc := 10) dX10_plan_10 (by decide)) (fun _ => ?_) (fun _ => ?_)
    · refine ev_step (st_iconst (pc := 22) dX10_plan_22 ni_m1) ?_
      exact ev_iret (pc := 23) dX10_plan_23
    · refine ev_sub (ls' := [(0, .ref (gB G + v0)), (1, .int v1), (2, .int v2)]) [0, 1, 2] rfl ?_
      exact tX10_plan_13 G fu h v0 v1 v2 h1
set_option maxRecDepth 100000 in
set_option maxHeartbeats 4000000 in
theorem tX10_star_70 (G : gx) (fu : Nat) (h0 : mh) (v0 : Nat) (v1 : Int32) (v2 : Int32) (v3 : Int32) (v4 : Int32) (v5 : Int32) (k24 : Int32 × Int32 × Int32 × mh → Option (Int32 × mh)) (hk24 : ∀ (v2 : Int32) (v3 : Int32) (v4 : Int32) (h : mh), Ev lI G yX10_star cX10_star 6 (some .int) 5 h0 24 [(0, .ref (gB G + v0)), (1, .int v1), (2, .int v2), (3, .int v3), (4, .int v4)] [] h (k24 (v2, v3, v4, h))) (h : mh) : Ev lI G yX10_star cX10_star 6 (some .int) 5 h0 70 [(0, .ref (gB G + v0)), (1, .int v1), (2, .int v2), (3, .int v3), (4, .int v4), (5, .int v5)] [] h (fX10_star_70 fu k24 v0 v1 v2 v3 v4 v5 h) := by
  unfold fX10_star_70
  refine ev_step (st_inc (pc := 70) (j := 4) (ls' := [(4, .int (v4 + (1 : Int32))), (0, .ref (gB G + v0)), (1, .int v1), (2, .int v2), (3, .int v3), (5, .int v5)]) dX10_star_70 rfl ni_1 (by decide) rfl) ?_
  refine ev_step (st_goto (pc := 73) (tgt := 24) dX10_star_73 (by decide)) ?_
  refine ev_sub (ls' := [(0, .ref (gB G + v0)), (1, .int v1), (2, .int v2), (3, .int v3), (4, .int (v4 + (1 : Int32)))]) [1, 2, 3, 4, 0] rfl ?_
  exact hk24 v2 v3 (v4 + (1 : Int32)) h
set_option maxRecDepth 100000 in
set_option maxHeartbeats 4000000 in
theorem tX10_star_76 (G : gx) (fu : Nat) (h0 : mh) (v0 : Nat) (v1 : Int32) (v2 : Int32) (v3 : Int32) (v4 : Int32) (h : mh) : Ev lI G yX10_star cX10_star 6 (some .int) 5 h0 76 [(0, .ref (gB G + v0)), (1, .int v1), (2, .int v2), (3, .int v3), (4, .int v4)] [] h (fX10_star_76 fu v0 v1 v2 v3 v4 h) := by
  unfold fX10_star_76
  refine ev_step (st_iload_n (pc := 76) (j := 1) dX10_star_76 rfl rfl) ?_
  refine ev_br (br_if_ne (tgt := 84) (pc := 77) dX10_star_77 (by decide)) (fun _ => ?_) (fun _ => ?_)
  · refine ev_step (st_iload_n (pc := 80) (j := 2) dX10_star_80 rfl rfl) ?_
    refine ev_step (st_goto (pc := 81) (tgt := 85) dX10_star_81 (by decide)) ?_
    exact ev_iret (pc := 85) dX10_star_85
  · refine ev_step (st_iload_n (pc := 84) (j := 3) dX10_star_84 rfl rfl) ?_
    exact ev_iret (pc := 85) dX10_star_85
set_option maxRecDepth 100000 in
set_option maxHeartbeats 4000000 in
theorem tX10_star_24 (G : gx) (fu : Nat) (h0 : mh) (v0 : Nat) (v1 : Int32) (n : Nat) (v2 : Int32) (v3 : Int32) (v4 : Int32) (h : mh) : Ev lI G yX10_star cX10_star 6 (some .int) 5 h0 24 [(0, .ref (gB G + v0)), (1, .int v1), (2, .int v2), (3, .int v3), (4, .int v4)] [] h (itr (bX10_star_24 fu v0 v1) n (v2, v3, v4, h)) := by
  refine ev_itr (P := fun (q : Int32 × Int32 × Int32 × mh) (R9 : Option (Int32 × mh)) => Ev lI G yX10_star cX10_star 6 (some .int) 5 h0 24 [(0, .ref (gB G + v0)), (1, .int v1), (2, .int q.1), (3, .int q.2.1), (4, .int q.2.2.1)] [] q.2.2.2 R9) (fun _ => ev_none) (fun k24 hk9 q => ?_) n (v2, v3, v4, h)
  obtain ⟨v2, v3, v4, h⟩ := q
  have hk24 : ∀ (v2 : Int32) (v3 : Int32) (v4 : Int32) (h : mh), Ev lI G yX10_star cX10_star 6 (some .int) 5 h0 24 [(0, .ref (gB G + v0)), (1, .int v1), (2, .int v2), (3, .int v3), (4, .int v4)] [] h (k24 (v2, v3, v4, h)) := fun v2 v3 v4 h => hk9 (v2, v3, v4, h)
  show Ev lI G yX10_star cX10_star 6 (some .int) 5 h0 24 [(0, .ref (gB G + v0)), (1, .int v1), (2, .int v2), (3, .int v3), (4, .int v4)] [] h (bX10_star_24 fu v0 v1 k24 (v2, v3, v4, h))
  unfold bX10_star_24
  refine ev_step (st_iload (pc := 24) (j := 4) dX10_star_24 rfl) ?_
  refine ev_step (st_aload_n (pc := 26) (j := 0) dX10_star_26 rfl rfl) ?_
  refine ev_getR (pc := 27) k_X10_46 rfl dX10_star_27 (fun a1 => ?_)
  refine ev_step (st_aload_n (pc := 30) (j := 0) dX10_star_30 rfl rfl) ?_
  refine ev_getI (pc := 31) k_X10_230 rfl dX10_star_31 (fun x2 => ?_)
  refine ev_ldi (pc := 34) dX10_star_34 (fun x3 => ?_)
  refine ev_br (br_icmp_ge (tgt := 76) (pc := 35) dX10_star_35 (by decide)) (fun _ => ?_) (fun _ => ?_)
  · refine ev_sub (ls' := [(0, .ref (gB G + v0)), (1, .int v1), (2, .int v2), (3, .int v3), (4, .int v4)]) [0, 1, 2, 3, 4] rfl ?_
    exact tX10_star_76 G fu h0 v0 v1 v2 v3 v4 h
  · refine ev_step (st_aload_n (pc := 38) (j := 0) dX10_star_38 rfl rfl) ?_
    refine ev_step (st_iload (pc := 39) (j := 4) dX10_star_39 rfl) ?_
    refine ev_step (st_aload_n (pc := 41) (j := 0) dX10_star_41 rfl rfl) ?_
    refine ev_step (st_iload (pc := 42) (j := 4) dX10_star_42 rfl) ?_
    refine ev_ck (fun ha hS => ?_)
    refine ev_callI (iv_V (As := [.int v4]) (st := [.int v4, .ref (gB G + v0)]) (pc := 44) rfl m_X10_saidBy l_X10_353 i_X10_saidBy e_X10_saidBy ha hS rfl (Nat.le_of_ble_eq_true rfl) rfl dX10_star_44) (tX10_saidBy G fu v0 v4 h) (by decide) (by decide) (fun x5 h4 => ?_)
    refine ev_ck (fun ha hS => ?_)
    refine ev_callI (iv_V (As := [.int v4, .int x5]) (st := []) (pc := 47) rfl m_X10_trustBits l_X10_408 i_X10_trustBits e_X10_trustBits ha hS rfl (Nat.le_of_ble_eq_true rfl) rfl dX10_star_47) (tX10_trustBits G fu v0 v4 x5 h4) (by decide) (by decide) (fun x7 h6 => ?_)
    refine ev_callI (iv_S (As := [.int x7]) (st := []) (pc := 50) m_X10_bits l_X10_336 z_X10_bits rfl (Nat.le_of_ble_eq_true rfl) rfl dX10_star_50) (tX10_bits G fu x7 h6) (by decide) (by decide) (fun x9 h8 => ?_)
    refine ev_step (st_istore (pc := 53) (ls' := [(5, .int x9), (0, .ref (gB G + v0)), (1, .int v1), (2, .int v2), (3, .int v3), (4, .int v4)]) dX10_star_53 (by decide) rfl) ?_
    refine ev_step (st_iload (pc := 55) (j := 0) dX10_star_55 rfl) ?_
    refine ev_step (st_iload_n (pc := 57) (j := 4) dX10_star_57 rfl rfl) ?_
    refine ev_br (br_icmp_gt (tgt := 64) (pc := 58) dX10_star_58 (by decide)) (fun _ => ?_) (fun _ => ?_)
    · refine ev_step (st_iload (pc := 64) (j := 5) dX10_star_64 rfl) ?_
      refine ev_step (st_istore_n (pc := 66) (ls' := [(2, .int v4), (5, .int x9), (0, .ref (gB G + v0)), (1, .int v1), (3, .int v3), (4, .int v4)]) dX10_star_66 rfl (by decide) rfl) ?_
      refine ev_step (st_iload (pc := 67) (j := 1) dX10_star_67 rfl) ?_
      refine ev_step (st_istore_n (pc := 69) (ls' := [(3, .int x9), (2, .int v4), (5, .int x9), (0, .ref (gB G + v0)), (1, .int v1), (4, .int v4)]) dX10_star_69 rfl (by decide) rfl) ?_
      refine ev_sub (ls' := [(0, .ref (gB G + v0)), (1, .int v1), (2, .int v4), (3, .int x9), (4, .int v4), (5, .int x9)]) [3, 4, 1, 0, 5, 2] rfl ?_
      exact tX10_star_70 G fu h0 v0 v1 v4 x9 v4 x9 k24 hk24 h8
    · refine ev_step (st_goto (pc := 61) (tgt := 70) dX10_star_61 (by decide)) ?_
      refine ev_sub (ls' := [(0, .ref (gB G + v0)), (1, .int v1), (2, .int v2), (3, .int v3), (4, .int v4), (5, .int x9)]) [1, 2, 3, 4, 5, 0] rfl ?_
      exact tX10_star_70 G fu h0 v0 v1 v2 v3 v4 x9 k24 hk24 h8
set_option maxRecDepth 100000 in
set_option maxHeartbeats 4000000 in
theorem tX10_star (G : gx) (fu : Nat) (v0 : Nat) (v1 : Int32) (h : mh) : Ct lI G yX10_star cX10_star 6 (some .int) 5 [.ref (gB G + v0), .int v1] h (fX10_star fu v0 v1 h) := by
  refine ct_ls (ls := [(0, .ref (gB G + v0)), (1, .int v1)]) rfl (by decide) (Nat.le_of_ble_eq_true rfl) ?_
  unfold fX10_star
  refine ev_step (st_iload_n (pc := 0) (j := 1) dX10_star_0 rfl rfl) ?_
  refine ev_step (st_iconst (pc := 1) dX10_star_1 ni_0) ?_
  refine ev_step (st_iconst (pc := 2) dX10_star_2 ni_1) ?_
  refine ev_callI (iv_S (As := [.int v1, .int ((0 : Int32)), .int ((1 : Int32))]) (st := []) (pc := 3) m_X10_in l_X10_310 z_X10_in rfl (Nat.le_of_ble_eq_true rfl) rfl dX10_star_3) (tX10_in G fu v1 ((0 : Int32)) ((1 : Int32)) h) (by decide) (by decide) (fun x2 h1 => ?_)
  refine ev_br (br_if_ne (tgt := 11) (pc := 6) dX10_star_6 (by decide)) (fun _ => ?_) (fun _ => ?_)
  · refine ev_step (st_iconst (pc := 9) dX10_star_9 ni_m1) ?_
    exact ev_iret (pc := 10) dX10_star_10
  · refine ev_step (st_aload_n (pc := 11) (j := 0) dX10_star_11 rfl rfl) ?_
    refine ev_ck (fun ha hS => ?_)
    refine ev_callV (iv_V (As := []) (st := []) (pc := 12) rfl m_X10_copies l_X10_320 i_X10_copies e_X10_copies ha hS rfl (Nat.le_of_ble_eq_true rfl) rfl dX10_star_12) (tX10_copies G fu v0 h1) (by decide) (by decide) (fun h3 => ?_)
    refine ev_step (st_bipush (pc := 15) dX10_star_15 nb_m2) ?_
    refine ev_step (st_istore_n (pc := 17) (ls' := [(2, .int ((-2 : Int32))), (0, .ref (gB G + v0)), (1, .int v1)]) dX10_star_17 rfl (by decide) rfl) ?_
    refine ev_step (st_bipush (pc := 18) dX10_star_18 nb_m2) ?_
    refine ev_step (st_istore_n (pc := 20) (ls' := [(3, .int ((-2 : Int32))), (2, .int ((-2 : Int32))), (0, .ref (gB G + v0)), (1, .int v1)]) dX10_star_20 rfl (by decide) rfl) ?_
    refine ev_step (st_iconst (pc := 21) dX10_star_21 ni_0) ?_
    refine ev_step (st_istore (pc := 22) (ls' := [(4, .int ((0 : Int32))), (3, .int ((-2 : Int32))), (2, .int ((-2 : Int32))), (0, .ref (gB G + v0)), (1, .int v1)]) dX10_star_22 (by decide) rfl) ?_
    refine ev_sub (ls' := [(0, .ref (gB G + v0)), (1, .int v1), (2, .int ((-2 : Int32))), (3, .int ((-2 : Int32))), (4, .int ((0 : Int32)))]) [3, 4, 2, 1, 0] rfl ?_
    exact tX10_star_24 G fu h v0 v1 fu ((-2 : Int32)) ((-2 : Int32)) ((0 : Int32)) h3
set_option maxRecDepth 100000 in
set_option maxHeartbeats 4000000 in
theorem tX10_credit_51 (G : gx) (fu : Nat) (h0 : mh) (v0 : Nat) (v1 : Int32) (v2 : Int32) (v3 : Int32) (k18 : Int32 × Int32 × mh → Option (Int32 × mh)) (hk18 : ∀ (v2 : Int32) (v3 : Int32) (h : mh), Ev lI G yX10_credit cX10_credit 4 (some .int) 4 h0 18 [(0, .ref (gB G + v0)), (1, .int v1), (2, .int v2), (3, .int v3)] [] h (k18 (v2, v3, h))) (h : mh) : Ev lI G yX10_credit cX10_credit 4 (some .int) 4 h0 51 [(0, .ref (gB G + v0)), (1, .int v1), (2, .int v2), (3, .int v3)] [] h (fX10_credit_51 fu k18 v0 v1 v2 v3 h) := by
  unfold fX10_credit_51
  refine ev_step (st_inc (pc := 51) (j := 3) (ls' := [(3, .int (v3 + (1 : Int32))), (0, .ref (gB G + v0)), (1, .int v1), (2, .int v2)]) dX10_credit_51 rfl ni_1 (by decide) rfl) ?_
  refine ev_step (st_goto (pc := 54) (tgt := 18) dX10_credit_54 (by decide)) ?_
  refine ev_sub (ls' := [(0, .ref (gB G + v0)), (1, .int v1), (2, .int v2), (3, .int (v3 + (1 : Int32)))]) [1, 2, 3, 0] rfl ?_
  exact hk18 v2 (v3 + (1 : Int32)) h
set_option maxRecDepth 100000 in
set_option maxHeartbeats 4000000 in
theorem tX10_credit_18 (G : gx) (fu : Nat) (h0 : mh) (v0 : Nat) (v1 : Int32) (n : Nat) (v2 : Int32) (v3 : Int32) (h : mh) : Ev lI G yX10_credit cX10_credit 4 (some .int) 4 h0 18 [(0, .ref (gB G + v0)), (1, .int v1), (2, .int v2), (3, .int v3)] [] h (itr (bX10_credit_18 fu v0 v1) n (v2, v3, h)) := by
  refine ev_itr (P := fun (q : Int32 × Int32 × mh) (R9 : Option (Int32 × mh)) => Ev lI G yX10_credit cX10_credit 4 (some .int) 4 h0 18 [(0, .ref (gB G + v0)), (1, .int v1), (2, .int q.1), (3, .int q.2.1)] [] q.2.2 R9) (fun _ => ev_none) (fun k18 hk9 q => ?_) n (v2, v3, h)
  obtain ⟨v2, v3, h⟩ := q
  have hk18 : ∀ (v2 : Int32) (v3 : Int32) (h : mh), Ev lI G yX10_credit cX10_credit 4 (some .int) 4 h0 18 [(0, .ref (gB G + v0)), (1, .int v1), (2, .int v2), (3, .int v3)] [] h (k18 (v2, v3, h)) := fun v2 v3 h => hk9 (v2, v3, h)
  show Ev lI G yX10_credit cX10_credit 4 (some .int) 4 h0 18 [(0, .ref (gB G + v0)), (1, .int v1), (2, .int v2), (3, .int v3)] [] h (bX10_credit_18 fu v0 v1 k18 (v2, v3, h))
  unfold bX10_credit_18
  refine ev_step (st_iload_n (pc := 18) (j := 3) dX10_credit_18 rfl rfl) ?_
  refine ev_step (st_aload_n (pc := 19) (j := 0) dX10_credit_19 rfl rfl) ?_
  refine ev_getR (pc := 20) k_X10_46 rfl dX10_credit_20 (fun a1 => ?_)
  refine ev_step (st_aload_n (pc := 23) (j := 0) dX10_credit_23 rfl rfl) ?_
  refine ev_getI (pc := 24) k_X10_230 rfl dX10_credit_24 (fun x2 => ?_)
  refine ev_ldi (pc := 27) dX10_credit_27 (fun x3 => ?_)
  refine ev_br (br_icmp_ge (tgt := 57) (pc := 28) dX10_credit_28 (by decide)) (fun _ => ?_) (fun _ => ?_)
  · refine ev_step (st_iload_n (pc := 57) (j := 2) dX10_credit_57 rfl rfl) ?_
    exact ev_iret (pc := 58) dX10_credit_58
  · refine ev_step (st_aload_n (pc := 31) (j := 0) dX10_credit_31 rfl rfl) ?_
    refine ev_step (st_iload_n (pc := 32) (j := 1) dX10_credit_32 rfl rfl) ?_
    refine ev_step (st_iload_n (pc := 33) (j := 3) dX10_credit_33 rfl rfl) ?_
    refine ev_step (st_aload_n (pc := 34) (j := 0) dX10_credit_34 rfl rfl) ?_
    refine ev_step (st_iload_n (pc := 35) (j := 3) dX10_credit_35 rfl rfl) ?_
    refine ev_ck (fun ha hS => ?_)
    refine ev_callI (iv_V (As := [.int v3]) (st := [.int v3, .int v1, .ref (gB G + v0)]) (pc := 36) rfl m_X10_saidBy l_X10_353 i_X10_saidBy e_X10_saidBy ha hS rfl (Nat.le_of_ble_eq_true rfl) rfl dX10_credit_36) (tX10_saidBy G fu v0 v3 h) (by decide) (by decide) (fun x5 h4 => ?_)
    refine ev_ck (fun ha hS => ?_)
    refine ev_callI (iv_V (As := [.int v1, .int v3, .int x5]) (st := []) (pc := 39) rfl m_X10_doesTrust l_X10_359 i_X10_doesTrust e_X10_doesTrust ha hS rfl (Nat.le_of_ble_eq_true rfl) rfl dX10_credit_39) (tX10_doesTrust G fu v0 v1 v3 x5 h4) (by decide) (by decide) (fun x7 h6 => ?_)
    refine ev_br (br_if_eq (tgt := 51) (pc := 42) dX10_credit_42 (by decide)) (fun _ => ?_) (fun _ => ?_)
    · refine ev_sub (ls' := [(0, .ref (gB G + v0)), (1, .int v1), (2, .int v2), (3, .int v3)]) [0, 1, 2, 3] rfl ?_
      exact tX10_credit_51 G fu h0 v0 v1 v2 v3 k18 hk18 h6
    · refine ev_step (st_iload_n (pc := 45) (j := 2) dX10_credit_45 rfl rfl) ?_
      refine ev_step (st_iconst (pc := 46) dX10_credit_46 ni_1) ?_
      refine ev_step (st_iload_n (pc := 47) (j := 3) dX10_credit_47 rfl rfl) ?_
      refine ev_step (st_ishl (pc := 48) dX10_credit_48) ?_
      refine ev_step (st_ior (pc := 49) dX10_credit_49) ?_
      refine ev_top (fun x8 => ?_)
      refine ev_step (st_istore_n (pc := 50) (ls' := [(2, .int x8), (0, .ref (gB G + v0)), (1, .int v1), (3, .int v3)]) dX10_credit_50 rfl (by decide) rfl) ?_
      refine ev_sub (ls' := [(0, .ref (gB G + v0)), (1, .int v1), (2, .int x8), (3, .int v3)]) [1, 2, 0, 3] rfl ?_
      exact tX10_credit_51 G fu h0 v0 v1 x8 v3 k18 hk18 h6
set_option maxRecDepth 100000 in
set_option maxHeartbeats 4000000 in
theorem tX10_credit (G : gx) (fu : Nat) (v0 : Nat) (v1 : Int32) (h : mh) : Ct lI G yX10_credit cX10_credit 4 (some .int) 4 [.ref (gB G + v0), .int v1] h (fX10_credit fu v0 v1 h) := by
  refine ct_ls (ls := [(0, .ref (gB G + v0)), (1, .int v1)]) rfl (by decide) (Nat.le_of_ble_eq_true rfl) ?_
  unfold fX10_credit
  refine ev_step (st_aload_n (pc := 0) (j := 0) dX10_credit_0 rfl rfl) ?_
  refine ev_step (st_iload_n (pc := 1) (j := 1) dX10_credit_1 rfl rfl) ?_
  refine ev_ck (fun ha hS => ?_)
  refine ev_callI (iv_V (As := [.int v1]) (st := []) (pc := 2) rfl m_X10_isListener l_X10_384 i_X10_isListener e_X10_isListener ha hS rfl (Nat.le_of_ble_eq_true rfl) rfl dX10_credit_2) (tX10_isListener G fu v0 v1 h) (by decide) (by decide) (fun x2 h1 => ?_)
  refine ev_br (br_if_ne (tgt := 10) (pc := 5) dX10_credit_5 (by decide)) (fun _ => ?_) (fun _ => ?_)
  · refine ev_step (st_iconst (pc := 8) dX10_credit_8 ni_m1) ?_
    exact ev_iret (pc := 9) dX10_credit_9
  · refine ev_step (st_aload_n (pc := 10) (j := 0) dX10_credit_10 rfl rfl) ?_
    refine ev_ck (fun ha hS => ?_)
    refine ev_callV (iv_V (As := []) (st := []) (pc := 11) rfl m_X10_copies l_X10_320 i_X10_copies e_X10_copies ha hS rfl (Nat.le_of_ble_eq_true rfl) rfl dX10_credit_11) (tX10_copies G fu v0 h1) (by decide) (by decide) (fun h3 => ?_)
    refine ev_step (st_iconst (pc := 14) dX10_credit_14 ni_0) ?_
    refine ev_step (st_istore_n (pc := 15) (ls' := [(2, .int ((0 : Int32))), (0, .ref (gB G + v0)), (1, .int v1)]) dX10_credit_15 rfl (by decide) rfl) ?_
    refine ev_step (st_iconst (pc := 16) dX10_credit_16 ni_0) ?_
    refine ev_step (st_istore_n (pc := 17) (ls' := [(3, .int ((0 : Int32))), (2, .int ((0 : Int32))), (0, .ref (gB G + v0)), (1, .int v1)]) dX10_credit_17 rfl (by decide) rfl) ?_
    refine ev_sub (ls' := [(0, .ref (gB G + v0)), (1, .int v1), (2, .int ((0 : Int32))), (3, .int ((0 : Int32)))]) [2, 3, 1, 0] rfl ?_
    exact tX10_credit_18 G fu h v0 v1 fu ((0 : Int32)) ((0 : Int32)) h3
