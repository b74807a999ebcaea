theorem dX8_explains_0 : decode cX8_explains 0 = .ok (.iload_n 1, 1) := by decide +kernel
theorem dX8_explains_1 : decode cX8_explains 1 = .ok (.iconst 0, 1) := by decide +kernel
theorem dX8_explains_2 : decode cX8_explains 2 = .ok (.iconst 2, 1) := by decide +kernel
theorem dX8_explains_3 : decode cX8_explains 3 = .ok (.invokestatic 64, 3) := by decide +kernel
theorem dX8_explains_6 : decode cX8_explains 6 = .ok (.ifCond .eq 17, 3) := by decide +kernel
theorem dX8_explains_9 : decode cX8_explains 9 = .ok (.iload_n 2, 1) := by decide +kernel
theorem dX8_explains_10 : decode cX8_explains 10 = .ok (.invokestatic 71, 3) := by decide +kernel
theorem dX8_explains_13 : decode cX8_explains 13 = .ok (.ifCond .eq 10, 3) := by decide +kernel
theorem dX8_explains_16 : decode cX8_explains 16 = .ok (.iload_n 3, 1) := by decide +kernel
theorem dX8_explains_17 : decode cX8_explains 17 = .ok (.invokestatic 266, 3) := by decide +kernel
theorem dX8_explains_20 : decode cX8_explains 20 = .ok (.ifCond .ne 6, 3) := by decide +kernel
theorem dX8_explains_23 : decode cX8_explains 23 = .ok (.bipush (-2), 2) := by decide +kernel
theorem dX8_explains_25 : decode cX8_explains 25 = .ok (.ireturn, 1) := by decide +kernel
theorem dX8_explains_26 : decode cX8_explains 26 = .ok (.iload_n 1, 1) := by decide +kernel
theorem dX8_explains_27 : decode cX8_explains 27 = .ok (.ifCond .ne 24, 3) := by decide +kernel
theorem dX8_explains_30 : decode cX8_explains 30 = .ok (.iload_n 2, 1) := by decide +kernel
theorem dX8_explains_31 : decode cX8_explains 31 = .ok (.ifCond .ne 17, 3) := by decide +kernel
theorem dX8_explains_34 : decode cX8_explains 34 = .ok (.iload_n 3, 1) := by decide +kernel
theorem dX8_explains_35 : decode cX8_explains 35 = .ok (.ifCond .ne 13, 3) := by decide +kernel
theorem dX8_explains_38 : decode cX8_explains 38 = .ok (.aload_n 0, 1) := by decide +kernel
theorem dX8_explains_39 : decode cX8_explains 39 = .ok (.getfield 56, 3) := by decide +kernel
theorem dX8_explains_42 : decode cX8_explains 42 = .ok (.invokevirtual 318, 3) := by decide +kernel
theorem dX8_explains_45 : decode cX8_explains 45 = .ok (.goto 5, 3) := by decide +kernel
theorem dX8_explains_48 : decode cX8_explains 48 = .ok (.bipush (-2), 2) := by decide +kernel
theorem dX8_explains_50 : decode cX8_explains 50 = .ok (.ireturn, 1) := by decide +kernel
theorem dX8_explains_51 : decode cX8_explains 51 = .ok (.aload_n 0, 1) := by decide +kernel
theorem dX8_explains_52 : decode cX8_explains 52 = .ok (.getfield 56, 3) := by decide +kernel
theorem dX8_explains_55 : decode cX8_explains 55 = .ok (.invokevirtual 318, 3) := by decide +kernel
theorem dX8_explains_58 : decode cX8_explains 58 = .ok (.aload_n 0, 1) := by decide +kernel
theorem dX8_explains_59 : decode cX8_explains 59 = .ok (.getfield 56, 3) := by decide +kernel
theorem dX8_explains_62 : decode cX8_explains 62 = .ok (.iload_n 1, 1) := by decide +kernel
theorem dX8_explains_63 : decode cX8_explains 63 = .ok (.iload_n 2, 1) := by decide +kernel
theorem dX8_explains_64 : decode cX8_explains 64 = .ok (.iload_n 3, 1) := by decide +kernel
theorem dX8_explains_65 : decode cX8_explains 65 = .ok (.invokevirtual 321, 3) := by decide +kernel
theorem dX8_explains_68 : decode cX8_explains 68 = .ok (.iadd, 1) := by decide +kernel
theorem dX8_explains_69 : decode cX8_explains 69 = .ok (.ireturn, 1) := by decide +kernel
theorem dX8_count_0 : decode cX8_count 0 = .ok (.iload_n 1, 1) := by decide +kernel
theorem dX8_count_1 : decode cX8_count 1 = .ok (.tableswitch 120 0 8 #[51, 59, 67, 75, 83, 91, 96, 104, 112], 51) := by decide +kernel
theorem dX8_count_52 : decode cX8_count 52 = .ok (.aload_n 0, 1) := by decide +kernel
theorem dX8_count_53 : decode cX8_count 53 = .ok (.getfield 10, 3) := by decide +kernel
theorem dX8_count_56 : decode cX8_count 56 = .ok (.getfield 89, 3) := by decide +kernel
theorem dX8_count_59 : decode cX8_count 59 = .ok (.ireturn, 1) := by decide +kernel
theorem dX8_count_60 : decode cX8_count 60 = .ok (.aload_n 0, 1) := by decide +kernel
theorem dX8_count_61 : decode cX8_count 61 = .ok (.getfield 28, 3) := by decide +kernel
theorem dX8_count_64 : decode cX8_count 64 = .ok (.getfield 159, 3) := by decide +kernel
theorem dX8_count_67 : decode cX8_count 67 = .ok (.ireturn, 1) := by decide +kernel
theorem dX8_count_68 : decode cX8_count 68 = .ok (.aload_n 0, 1) := by decide +kernel
theorem dX8_count_69 : decode cX8_count 69 = .ok (.getfield 19, 3) := by decide +kernel
theorem dX8_count_72 : decode cX8_count 72 = .ok (.getfield 136, 3) := by decide +kernel
theorem dX8_count_75 : decode cX8_count 75 = .ok (.ireturn, 1) := by decide +kernel
theorem dX8_count_76 : decode cX8_count 76 = .ok (.aload_n 0, 1) := by decide +kernel
theorem dX8_count_77 : decode cX8_count 77 = .ok (.getfield 35, 3) := by decide +kernel
theorem dX8_count_80 : decode cX8_count 80 = .ok (.getfield 214, 3) := by decide +kernel
theorem dX8_count_83 : decode cX8_count 83 = .ok (.ireturn, 1) := by decide +kernel
theorem dX8_count_84 : decode cX8_count 84 = .ok (.aload_n 0, 1) := by decide +kernel
theorem dX8_count_85 : decode cX8_count 85 = .ok (.getfield 35, 3) := by decide +kernel
theorem dX8_count_88 : decode cX8_count 88 = .ok (.getfield 223, 3) := by decide +kernel
theorem dX8_count_91 : decode cX8_count 91 = .ok (.ireturn, 1) := by decide +kernel
theorem dX8_count_92 : decode cX8_count 92 = .ok (.aload_n 0, 1) := by decide +kernel
theorem dX8_count_93 : decode cX8_count 93 = .ok (.getfield 60, 3) := by decide +kernel
theorem dX8_count_96 : decode cX8_count 96 = .ok (.ireturn, 1) := by decide +kernel
theorem dX8_count_97 : decode cX8_count 97 = .ok (.aload_n 0, 1) := by decide +kernel
theorem dX8_count_98 : decode cX8_count 98 = .ok (.getfield 28, 3) := by decide +kernel
theorem dX8_count_101 : decode cX8_count 101 = .ok (.getfield 324, 3) := by decide +kernel
theorem dX8_count_104 : decode cX8_count 104 = .ok (.ireturn, 1) := by decide +kernel
theorem dX8_count_105 : decode cX8_count 105 = .ok (.aload_n 0, 1) := by decide +kernel
theorem dX8_count_106 : decode cX8_count 106 = .ok (.getfield 56, 3) := by decide +kernel
theorem dX8_count_109 : decode cX8_count 109 = .ok (.invokevirtual 327, 3) := by decide +kernel
theorem dX8_count_112 : decode cX8_count 112 = .ok (.ireturn, 1) := by decide +kernel
theorem dX8_count_113 : decode cX8_count 113 = .ok (.aload_n 0, 1) := by decide +kernel
theorem dX8_count_114 : decode cX8_count 114 = .ok (.getfield 49, 3) := by decide +kernel
theorem dX8_count_117 : decode cX8_count 117 = .ok (.getfield 257, 3) := by decide +kernel
theorem dX8_count_120 : decode cX8_count 120 = .ok (.ireturn, 1) := by decide +kernel
theorem dX8_count_121 : decode cX8_count 121 = .ok (.bipush (-2), 2) := by decide +kernel
theorem dX8_count_123 : decode cX8_count 123 = .ok (.ireturn, 1) := by decide +kernel
theorem dX8_within_0 : decode cX8_within 0 = .ok (.iload_n 0, 1) := by decide +kernel
theorem dX8_within_1 : decode cX8_within 1 = .ok (.iload_n 1, 1) := by decide +kernel
theorem dX8_within_2 : decode cX8_within 2 = .ok (.if_icmp .lt 12, 3) := by decide +kernel
theorem dX8_within_5 : decode cX8_within 5 = .ok (.iload_n 0, 1) := by decide +kernel
theorem dX8_within_6 : decode cX8_within 6 = .ok (.iload_n 2, 1) := by decide +kernel
theorem dX8_within_7 : decode cX8_within 7 = .ok (.if_icmp .gt 7, 3) := by decide +kernel
theorem dX8_within_10 : decode cX8_within 10 = .ok (.iconst 1, 1) := by decide +kernel
theorem dX8_within_11 : decode cX8_within 11 = .ok (.goto 4, 3) := by decide +kernel
theorem dX8_within_14 : decode cX8_within 14 = .ok (.iconst 0, 1) := by decide +kernel
theorem dX8_within_15 : decode cX8_within 15 = .ok (.ireturn, 1) := by decide +kernel
theorem dX8_isRing_0 : decode cX8_isRing 0 = .ok (.iload_n 0, 1) := by decide +kernel
theorem dX8_isRing_1 : decode cX8_isRing 1 = .ok (.iconst 0, 1) := by decide +kernel
theorem dX8_isRing_2 : decode cX8_isRing 2 = .ok (.iconst 3, 1) := by decide +kernel
theorem dX8_isRing_3 : decode cX8_isRing 3 = .ok (.invokestatic 64, 3) := by decide +kernel
theorem dX8_isRing_6 : decode cX8_isRing 6 = .ok (.ireturn, 1) := by decide +kernel
theorem dX8_isWeek_0 : decode cX8_isWeek 0 = .ok (.iload_n 0, 1) := by decide +kernel
theorem dX8_isWeek_1 : decode cX8_isWeek 1 = .ok (.iconst 0, 1) := by decide +kernel
theorem dX8_isWeek_2 : decode cX8_isWeek 2 = .ok (.bipush 60, 2) := by decide +kernel
theorem dX8_isWeek_4 : decode cX8_isWeek 4 = .ok (.invokestatic 64, 3) := by decide +kernel
theorem dX8_isWeek_7 : decode cX8_isWeek 7 = .ok (.ireturn, 1) := by decide +kernel
theorem dX8_isSpan_0 : decode cX8_isSpan 0 = .ok (.iload_n 0, 1) := by decide +kernel
theorem dX8_isSpan_1 : decode cX8_isSpan 1 = .ok (.iconst 0, 1) := by decide +kernel
theorem dX8_isSpan_2 : decode cX8_isSpan 2 = .ok (.sipush 2000, 3) := by decide +kernel
theorem dX8_isSpan_5 : decode cX8_isSpan 5 = .ok (.invokestatic 64, 3) := by decide +kernel
theorem dX8_isSpan_8 : decode cX8_isSpan 8 = .ok (.ifCond .eq 18, 3) := by decide +kernel
theorem dX8_isSpan_11 : decode cX8_isSpan 11 = .ok (.iload_n 1, 1) := by decide +kernel
theorem dX8_isSpan_12 : decode cX8_isSpan 12 = .ok (.iload_n 0, 1) := by decide +kernel
theorem dX8_isSpan_13 : decode cX8_isSpan 13 = .ok (.sipush 2000, 3) := by decide +kernel
theorem dX8_isSpan_16 : decode cX8_isSpan 16 = .ok (.invokestatic 64, 3) := by decide +kernel
theorem dX8_isSpan_19 : decode cX8_isSpan 19 = .ok (.ifCond .eq 7, 3) := by decide +kernel
theorem dX8_isSpan_22 : decode cX8_isSpan 22 = .ok (.iconst 1, 1) := by decide +kernel
theorem dX8_isSpan_23 : decode cX8_isSpan 23 = .ok (.goto 4, 3) := by decide +kernel
theorem dX8_isSpan_26 : decode cX8_isSpan 26 = .ok (.iconst 0, 1) := by decide +kernel
theorem dX8_isSpan_27 : decode cX8_isSpan 27 = .ok (.ireturn, 1) := by decide +kernel
theorem dX8_isLog_0 : decode cX8_isLog 0 = .ok (.iload_n 0, 1) := by decide +kernel
theorem dX8_isLog_1 : decode cX8_isLog 1 = .ok (.iconst 1, 1) := by decide +kernel
theorem dX8_isLog_2 : decode cX8_isLog 2 = .ok (.bipush 50, 2) := by decide +kernel
theorem dX8_isLog_4 : decode cX8_isLog 4 = .ok (.invokestatic 64, 3) := by decide +kernel
theorem dX8_isLog_7 : decode cX8_isLog 7 = .ok (.ifCond .eq 17, 3) := by decide +kernel
theorem dX8_isLog_10 : decode cX8_isLog 10 = .ok (.iload_n 1, 1) := by decide +kernel
theorem dX8_isLog_11 : decode cX8_isLog 11 = .ok (.iconst 0, 1) := by decide +kernel
theorem dX8_isLog_12 : decode cX8_isLog 12 = .ok (.bipush 60, 2) := by decide +kernel
theorem dX8_isLog_14 : decode cX8_isLog 14 = .ok (.invokestatic 64, 3) := by decide +kernel
theorem dX8_isLog_17 : decode cX8_isLog 17 = .ok (.ifCond .eq 7, 3) := by decide +kernel
theorem dX8_isLog_20 : decode cX8_isLog 20 = .ok (.iconst 1, 1) := by decide +kernel
theorem dX8_isLog_21 : decode cX8_isLog 21 = .ok (.goto 4, 3) := by decide +kernel
theorem dX8_isLog_24 : decode cX8_isLog 24 = .ok (.iconst 0, 1) := by decide +kernel
theorem dX8_isLog_25 : decode cX8_isLog 25 = .ok (.ireturn, 1) := by decide +kernel
theorem dX9_init_0 : decode cX9_init 0 = .ok (.aload_n 0, 1) := by decide +kernel
theorem dX9_init_1 : decode cX9_init 1 = .ok (.invokespecial 1, 3) := by decide +kernel
theorem dX9_init_4 : decode cX9_init 4 = .ok (.aload_n 0, 1) := by decide +kernel
theorem dX9_init_5 : decode cX9_init 5 = .ok (.bipush 10, 2) := by decide +kernel
theorem dX9_init_7 : decode cX9_init 7 = .ok (.putfield 7, 3) := by decide +kernel
theorem dX9_init_10 : decode cX9_init 10 = .ok (.aload_n 0, 1) := by decide +kernel
theorem dX9_init_11 : decode cX9_init 11 = .ok (.bipush 12, 2) := by decide +kernel
theorem dX9_init_13 : decode cX9_init 13 = .ok (.newarray .long, 2) := by decide +kernel
theorem dX9_init_15 : decode cX9_init 15 = .ok (.putfield 13, 3) := by decide +kernel
theorem dX9_init_18 : decode cX9_init 18 = .ok (.aload_n 0, 1) := by decide +kernel
theorem dX9_init_19 : decode cX9_init 19 = .ok (.iconst 4, 1) := by decide +kernel
theorem dX9_init_20 : decode cX9_init 20 = .ok (.newarray .int, 2) := by decide +kernel
theorem dX9_init_22 : decode cX9_init 22 = .ok (.putfield 17, 3) := by decide +kernel
theorem dX9_init_25 : decode cX9_init 25 = .ok (.aload_n 0, 1) := by decide +kernel
theorem dX9_init_26 : decode cX9_init 26 = .ok (.iconst 4, 1) := by decide +kernel
theorem dX9_init_27 : decode cX9_init 27 = .ok (.newarray .int, 2) := by decide +kernel
theorem dX9_init_29 : decode cX9_init 29 = .ok (.putfield 21, 3) := by decide +kernel
theorem dX9_init_32 : decode cX9_init 32 = .ok (.aload_n 0, 1) := by decide +kernel
theorem dX9_init_33 : decode cX9_init 33 = .ok (.bipush 30, 2) := by decide +kernel
theorem dX9_init_35 : decode cX9_init 35 = .ok (.newarray .int, 2) := by decide +kernel
theorem dX9_init_37 : decode cX9_init 37 = .ok (.putfield 24, 3) := by decide +kernel
theorem dX9_init_40 : decode cX9_init 40 = .ok (.aload_n 0, 1) := by decide +kernel
theorem dX9_init_41 : decode cX9_init 41 = .ok (.bipush 30, 2) := by decide +kernel
theorem dX9_init_43 : decode cX9_init 43 = .ok (.newarray .int, 2) := by decide +kernel
theorem dX9_init_45 : decode cX9_init 45 = .ok (.putfield 27, 3) := by decide +kernel
theorem dX9_init_48 : decode cX9_init 48 = .ok (.aload_n 0, 1) := by decide +kernel
theorem dX9_init_49 : decode cX9_init 49 = .ok (.bipush 8, 2) := by decide +kernel
theorem dX9_init_51 : decode cX9_init 51 = .ok (.newarray .int, 2) := by decide +kernel
theorem dX9_init_53 : decode cX9_init 53 = .ok (.putfield 30, 3) := by decide +kernel
theorem dX9_init_56 : decode cX9_init 56 = .ok (.aload_n 0, 1) := by decide +kernel
theorem dX9_init_57 : decode cX9_init 57 = .ok (.bipush 8, 2) := by decide +kernel
theorem dX9_init_59 : decode cX9_init 59 = .ok (.newarray .boolean, 2) := by decide +kernel
theorem dX9_init_61 : decode cX9_init 61 = .ok (.putfield 33, 3) := by decide +kernel
theorem dX9_init_64 : decode cX9_init 64 = .ok (.aload_n 0, 1) := by decide +kernel
theorem dX9_init_65 : decode cX9_init 65 = .ok (.bipush 8, 2) := by decide +kernel
theorem dX9_init_67 : decode cX9_init 67 = .ok (.newarray .int, 2) := by decide +kernel
theorem dX9_init_69 : decode cX9_init 69 = .ok (.putfield 37, 3) := by decide +kernel
theorem dX9_init_72 : decode cX9_init 72 = .ok (.aload_n 0, 1) := by decide +kernel
theorem dX9_init_73 : decode cX9_init 73 = .ok (.bipush 8, 2) := by decide +kernel
theorem dX9_init_75 : decode cX9_init 75 = .ok (.newarray .int, 2) := by decide +kernel
theorem dX9_init_77 : decode cX9_init 77 = .ok (.putfield 40, 3) := by decide +kernel
theorem dX9_init_80 : decode cX9_init 80 = .ok (.aload_n 0, 1) := by decide +kernel
theorem dX9_init_81 : decode cX9_init 81 = .ok (.bipush 8, 2) := by decide +kernel
theorem dX9_init_83 : decode cX9_init 83 = .ok (.newarray .int, 2) := by decide +kernel
theorem dX9_init_85 : decode cX9_init 85 = .ok (.putfield 43, 3) := by decide +kernel
theorem dX9_init_88 : decode cX9_init 88 = .ok (.aload_n 0, 1) := by decide +kernel
theorem dX9_init_89 : decode cX9_init 89 = .ok (.bipush 8, 2) := by decide +kernel
theorem dX9_init_91 : decode cX9_init 91 = .ok (.newarray .int, 2) := by decide +kernel
theorem dX9_init_93 : decode cX9_init 93 = .ok (.putfield 46, 3) := by decide +kernel
theorem dX9_init_96 : decode cX9_init 96 = .ok (.aload_n 0, 1) := by decide +kernel
theorem dX9_init_97 : decode cX9_init 97 = .ok (.bipush 8, 2) := by decide +kernel
theorem dX9_init_99 : decode cX9_init 99 = .ok (.newarray .int, 2) := by decide +kernel
theorem dX9_init_101 : decode cX9_init 101 = .ok (.putfield 49, 3) := by decide +kernel
theorem dX9_init_104 : decode cX9_init 104 = .ok (.aload_n 0, 1) := by decide +kernel
theorem dX9_init_105 : decode cX9_init 105 = .ok (.bipush 8, 2) := by decide +kernel
theorem dX9_init_107 : decode cX9_init 107 = .ok (.newarray .int, 2) := by decide +kernel
theorem dX9_init_109 : decode cX9_init 109 = .ok (.putfield 52, 3) := by decide +kernel
theorem dX9_init_112 : decode cX9_init 112 = .ok (.aload_n 0, 1) := by decide +kernel
theorem dX9_init_113 : decode cX9_init 113 = .ok (.bipush 8, 2) := by decide +kernel
theorem dX9_init_115 : decode cX9_init 115 = .ok (.newarray .int, 2) := by decide +kernel
theorem dX9_init_117 : decode cX9_init 117 = .ok (.putfield 55, 3) := by decide +kernel
theorem dX9_init_120 : decode cX9_init 120 = .ok (.aload_n 0, 1) := by decide +kernel
theorem dX9_init_121 : decode cX9_init 121 = .ok (.bipush 8, 2) := by decide +kernel
theorem dX9_init_123 : decode cX9_init 123 = .ok (.newarray .int, 2) := by decide +kernel
theorem dX9_init_125 : decode cX9_init 125 = .ok (.putfield 58, 3) := by decide +kernel
theorem dX9_init_128 : decode cX9_init 128 = .ok (.aload_n 0, 1) := by decide +kernel
theorem dX9_init_129 : decode cX9_init 129 = .ok (.sipush 200, 3) := by decide +kernel
theorem dX9_init_132 : decode cX9_init 132 = .ok (.newarray .int, 2) := by decide +kernel
theorem dX9_init_134 : decode cX9_init 134 = .ok (.putfield 61, 3) := by decide +kernel
theorem dX9_init_137 : decode cX9_init 137 = .ok (.aload_n 0, 1) := by decide +kernel
theorem dX9_init_138 : decode cX9_init 138 = .ok (.sipush 200, 3) := by decide +kernel
theorem dX9_init_141 : decode cX9_init 141 = .ok (.newarray .int, 2) := by decide +kernel
theorem dX9_init_143 : decode cX9_init 143 = .ok (.putfield 64, 3) := by decide +kernel
theorem dX9_init_146 : decode cX9_init 146 = .ok (.aload_n 0, 1) := by decide +kernel
theorem dX9_init_147 : decode cX9_init 147 = .ok (.sipush 200, 3) := by decide +kernel
theorem dX9_init_150 : decode cX9_init 150 = .ok (.newarray .int, 2) := by decide +kernel
theorem dX9_init_152 : decode cX9_init 152 = .ok (.putfield 67, 3) := by decide +kernel
theorem dX9_init_155 : decode cX9_init 155 = .ok (.aload_n 0, 1) := by decide +kernel
theorem dX9_init_156 : decode cX9_init 156 = .ok (.sipush 200, 3) := by decide +kernel
theorem dX9_init_159 : decode cX9_init 159 = .ok (.newarray .int, 2) := by decide +kernel
theorem dX9_init_161 : decode cX9_init 161 = .ok (.putfield 70, 3) := by decide +kernel
theorem dX9_init_164 : decode cX9_init 164 = .ok (.aload_n 0, 1) := by decide +kernel
theorem dX9_init_165 : decode cX9_init 165 = .ok (.sipush 200, 3) := by decide +kernel
theorem dX9_init_168 : decode cX9_init 168 = .ok (.newarray .int, 2) := by decide +kernel
theorem dX9_init_170 : decode cX9_init 170 = .ok (.putfield 73, 3) := by decide +kernel
theorem dX9_init_173 : decode cX9_init 173 = .ok (.aload_n 0, 1) := by decide +kernel
theorem dX9_init_174 : decode cX9_init 174 = .ok (.sipush 200, 3) := by decide +kernel
theorem dX9_init_177 : decode cX9_init 177 = .ok (.newarray .int, 2) := by decide +kernel
theorem dX9_init_179 : decode cX9_init 179 = .ok (.putfield 76, 3) := by decide +kernel
theorem dX9_init_182 : decode cX9_init 182 = .ok (.aload_n 0, 1) := by decide +kernel
theorem dX9_init_183 : decode cX9_init 183 = .ok (.iconst 4, 1) := by decide +kernel
theorem dX9_init_184 : decode cX9_init 184 = .ok (.newarray .int, 2) := by decide +kernel
theorem dX9_init_186 : decode cX9_init 186 = .ok (.putfield 79, 3) := by decide +kernel
theorem dX9_init_189 : decode cX9_init 189 = .ok (.aload_n 0, 1) := by decide +kernel
theorem dX9_init_190 : decode cX9_init 190 = .ok (.iconst 4, 1) := by decide +kernel
theorem dX9_init_191 : decode cX9_init 191 = .ok (.newarray .int, 2) := by decide +kernel
theorem dX9_init_193 : decode cX9_init 193 = .ok (.putfield 82, 3) := by decide +kernel
theorem dX9_init_196 : decode cX9_init 196 = .ok (.aload_n 0, 1) := by decide +kernel
theorem dX9_init_197 : decode cX9_init 197 = .ok (.iconst 4, 1) := by decide +kernel
theorem dX9_init_198 : decode cX9_init 198 = .ok (.putfield 85, 3) := by decide +kernel
theorem dX9_init_201 : decode cX9_init 201 = .ok (.aload_n 0, 1) := by decide +kernel
theorem dX9_init_202 : decode cX9_init 202 = .ok (.iconst 3, 1) := by decide +kernel
theorem dX9_init_203 : decode cX9_init 203 = .ok (.putfield 88, 3) := by decide +kernel
theorem dX9_init_206 : decode cX9_init 206 = .ok (.aload_n 0, 1) := by decide +kernel
theorem dX9_init_207 : decode cX9_init 207 = .ok (.bipush 30, 2) := by decide +kernel
theorem dX9_init_209 : decode cX9_init 209 = .ok (.newarray .int, 2) := by decide +kernel
theorem dX9_init_211 : decode cX9_init 211 = .ok (.putfield 91, 3) := by decide +kernel
theorem dX9_init_214 : decode cX9_init 214 = .ok (.aload_n 0, 1) := by decide +kernel
theorem dX9_init_215 : decode cX9_init 215 = .ok (.bipush 30, 2) := by decide +kernel
theorem dX9_init_217 : decode cX9_init 217 = .ok (.newarray .int, 2) := by decide +kernel
theorem dX9_init_219 : decode cX9_init 219 = .ok (.putfield 94, 3) := by decide +kernel
theorem dX9_init_222 : decode cX9_init 222 = .ok (.aload_n 0, 1) := by decide +kernel
theorem dX9_init_223 : decode cX9_init 223 = .ok (.bipush 30, 2) := by decide +kernel
theorem dX9_init_225 : decode cX9_init 225 = .ok (.newarray .int, 2) := by decide +kernel
theorem dX9_init_227 : decode cX9_init 227 = .ok (.putfield 97, 3) := by decide +kernel
theorem dX9_init_230 : decode cX9_init 230 = .ok (.aload_n 0, 1) := by decide +kernel
theorem dX9_init_231 : decode cX9_init 231 = .ok (.bipush 30, 2) := by decide +kernel
theorem dX9_init_233 : decode cX9_init 233 = .ok (.newarray .boolean, 2) := by decide +kernel
theorem dX9_init_235 : decode cX9_init 235 = .ok (.putfield 100, 3) := by decide +kernel
theorem dX9_init_238 : decode cX9_init 238 = .ok (.aload_n 0, 1) := by decide +kernel
theorem dX9_init_239 : decode cX9_init 239 = .ok (.sipush 244, 3) := by decide +kernel
theorem dX9_init_242 : decode cX9_init 242 = .ok (.newarray .int, 2) := by decide +kernel
theorem dX9_init_244 : decode cX9_init 244 = .ok (.putfield 103, 3) := by decide +kernel
theorem dX9_init_247 : decode cX9_init 247 = .ok (.aload_n 0, 1) := by decide +kernel
theorem dX9_init_248 : decode cX9_init 248 = .ok (.bipush 10, 2) := by decide +kernel
theorem dX9_init_250 : decode cX9_init 250 = .ok (.newarray .int, 2) := by decide +kernel
theorem dX9_init_252 : decode cX9_init 252 = .ok (.putfield 106, 3) := by decide +kernel
theorem dX9_init_255 : decode cX9_init 255 = .ok (.aload_n 0, 1) := by decide +kernel
theorem dX9_init_256 : decode cX9_init 256 = .ok (.bipush 10, 2) := by decide +kernel
theorem dX9_init_258 : decode cX9_init 258 = .ok (.newarray .int, 2) := by decide +kernel
theorem dX9_init_260 : decode cX9_init 260 = .ok (.putfield 109, 3) := by decide +kernel
theorem dX9_init_263 : decode cX9_init 263 = .ok (.aload_n 0, 1) := by decide +kernel
theorem dX9_init_264 : decode cX9_init 264 = .ok (.bipush 12, 2) := by decide +kernel
theorem dX9_init_266 : decode cX9_init 266 = .ok (.newarray .long, 2) := by decide +kernel
theorem dX9_init_268 : decode cX9_init 268 = .ok (.putfield 112, 3) := by decide +kernel
theorem dX9_init_271 : decode cX9_init 271 = .ok (.aload_n 0, 1) := by decide +kernel
theorem dX9_init_272 : decode cX9_init 272 = .ok (.bipush 12, 2) := by decide +kernel
theorem dX9_init_274 : decode cX9_init 274 = .ok (.newarray .long, 2) := by decide +kernel
theorem dX9_init_276 : decode cX9_init 276 = .ok (.putfield 115, 3) := by decide +kernel
theorem dX9_init_279 : decode cX9_init 279 = .ok (.aload_n 0, 1) := by decide +kernel
theorem dX9_init_280 : decode cX9_init 280 = .ok (.iconst 4, 1) := by decide +kernel
theorem dX9_init_281 : decode cX9_init 281 = .ok (.newarray .int, 2) := by decide +kernel
theorem dX9_init_283 : decode cX9_init 283 = .ok (.putfield 118, 3) := by decide +kernel
theorem dX9_init_286 : decode cX9_init 286 = .ok (.aload_n 0, 1) := by decide +kernel
theorem dX9_init_287 : decode cX9_init 287 = .ok (.sipush 164, 3) := by decide +kernel
theorem dX9_init_290 : decode cX9_init 290 = .ok (.newarray .long, 2) := by decide +kernel
theorem dX9_init_292 : decode cX9_init 292 = .ok (.putfield 121, 3) := by decide +kernel
theorem dX9_init_295 : decode cX9_init 295 = .ok (.aload_n 0, 1) := by decide +kernel
theorem dX9_init_296 : decode cX9_init 296 = .ok (.bipush 13, 2) := by decide +kernel
theorem dX9_init_298 : decode cX9_init 298 = .ok (.newarray .int, 2) := by decide +kernel
theorem dX9_init_300 : decode cX9_init 300 = .ok (.putfield 124, 3) := by decide +kernel
theorem dX9_init_303 : decode cX9_init 303 = .ok (.aload_n 0, 1) := by decide +kernel
theorem dX9_init_304 : decode cX9_init 304 = .ok (.bipush 13, 2) := by decide +kernel
theorem dX9_init_306 : decode cX9_init 306 = .ok (.newarray .int, 2) := by decide +kernel
theorem dX9_init_308 : decode cX9_init 308 = .ok (.putfield 127, 3) := by decide +kernel
theorem dX9_init_311 : decode cX9_init 311 = .ok (.aload_n 0, 1) := by decide +kernel
theorem dX9_init_312 : decode cX9_init 312 = .ok (.bipush 13, 2) := by decide +kernel
theorem dX9_init_314 : decode cX9_init 314 = .ok (.newarray .int, 2) := by decide +kernel
theorem dX9_init_316 : decode cX9_init 316 = .ok (.putfield 130, 3) := by decide +kernel
theorem dX9_init_319 : decode cX9_init 319 = .ok (.aload_n 0, 1) := by decide +kernel
theorem dX9_init_320 : decode cX9_init 320 = .ok (.bipush 52, 2) := by decide +kernel
theorem dX9_init_322 : decode cX9_init 322 = .ok (.newarray .boolean, 2) := by decide +kernel
theorem dX9_init_324 : decode cX9_init 324 = .ok (.putfield 133, 3) := by decide +kernel
theorem dX9_init_327 : decode cX9_init 327 = .ok (.aload_n 0, 1) := by decide +kernel
theorem dX9_init_328 : decode cX9_init 328 = .ok (.iconst 4, 1) := by decide +kernel
theorem dX9_init_329 : decode cX9_init 329 = .ok (.newarray .int, 2) := by decide +kernel
theorem dX9_init_331 : decode cX9_init 331 = .ok (.putfield 136, 3) := by decide +kernel
theorem dX9_init_334 : decode cX9_init 334 = .ok (.aload_n 0, 1) := by decide +kernel
theorem dX9_init_335 : decode cX9_init 335 = .ok (.bipush 8, 2) := by decide +kernel
theorem dX9_init_337 : decode cX9_init 337 = .ok (.newarray .int, 2) := by decide +kernel
theorem dX9_init_339 : decode cX9_init 339 = .ok (.putfield 139, 3) := by decide +kernel
theorem dX9_init_342 : decode cX9_init 342 = .ok (.iconst 0, 1) := by decide +kernel
theorem dX9_init_343 : decode cX9_init 343 = .ok (.istore_n 1, 1) := by decide +kernel
theorem dX9_init_344 : decode cX9_init 344 = .ok (.iload_n 1, 1) := by decide +kernel
theorem dX9_init_345 : decode cX9_init 345 = .ok (.bipush 12, 2) := by decide +kernel
theorem dX9_init_347 : decode cX9_init 347 = .ok (.if_icmp .ge 26, 3) := by decide +kernel
theorem dX9_init_350 : decode cX9_init 350 = .ok (.aload_n 0, 1) := by decide +kernel
theorem dX9_init_351 : decode cX9_init 351 = .ok (.getfield 13, 3) := by decide +kernel
theorem dX9_init_354 : decode cX9_init 354 = .ok (.iload_n 1, 1) := by decide +kernel
theorem dX9_init_355 : decode cX9_init 355 = .ok (.ldc2_w 142, 3) := by decide +kernel
theorem dX9_init_358 : decode cX9_init 358 = .ok (.iload_n 1, 1) := by decide +kernel
theorem dX9_init_359 : decode cX9_init 359 = .ok (.iconst 3, 1) := by decide +kernel
theorem dX9_init_360 : decode cX9_init 360 = .ok (.irem, 1) := by decide +kernel
theorem dX9_init_361 : decode cX9_init 361 = .ok (.invokestatic 144, 3) := by decide +kernel
theorem dX9_init_364 : decode cX9_init 364 = .ok (.i2l, 1) := by decide +kernel
theorem dX9_init_365 : decode cX9_init 365 = .ok (.lmul, 1) := by decide +kernel
theorem dX9_init_366 : decode cX9_init 366 = .ok (.lastore, 1) := by decide +kernel
theorem dX9_init_367 : decode cX9_init 367 = .ok (.iinc 1 1, 3) := by decide +kernel
theorem dX9_init_370 : decode cX9_init 370 = .ok (.goto (-26), 3) := by decide +kernel
theorem dX9_init_373 : decode cX9_init 373 = .ok (.return_, 1) := by decide +kernel
theorem dX9_in_0 : decode cX9_in 0 = .ok (.iload_n 0, 1) := by decide +kernel
theorem dX9_in_1 : decode cX9_in 1 = .ok (.iload_n 1, 1) := by decide +kernel
theorem dX9_in_2 : decode cX9_in 2 = .ok (.if_icmp .lt 12, 3) := by decide +kernel
theorem dX9_in_5 : decode cX9_in 5 = .ok (.iload_n 0, 1) := by decide +kernel
theorem dX9_in_6 : decode cX9_in 6 = .ok (.iload_n 2, 1) := by decide +kernel
theorem dX9_in_7 : decode cX9_in 7 = .ok (.if_icmp .gt 7, 3) := by decide +kernel
theorem dX9_in_10 : decode cX9_in 10 = .ok (.iconst 1, 1) := by decide +kernel
theorem dX9_in_11 : decode cX9_in 11 = .ok (.goto 4, 3) := by decide +kernel
theorem dX9_in_14 : decode cX9_in 14 = .ok (.iconst 0, 1) := by decide +kernel
theorem dX9_in_15 : decode cX9_in 15 = .ok (.ireturn, 1) := by decide +kernel
theorem dX9_isRing_0 : decode cX9_isRing 0 = .ok (.iload_n 0, 1) := by decide +kernel
theorem dX9_isRing_1 : decode cX9_isRing 1 = .ok (.iconst 0, 1) := by decide +kernel
theorem dX9_isRing_2 : decode cX9_isRing 2 = .ok (.iconst 3, 1) := by decide +kernel
theorem dX9_isRing_3 : decode cX9_isRing 3 = .ok (.invokestatic 148, 3) := by decide +kernel
theorem dX9_isRing_6 : decode cX9_isRing 6 = .ok (.ireturn, 1) := by decide +kernel
theorem dX9_massOf_0 : decode cX9_massOf 0 = .ok (.iload_n 0, 1) := by decide +kernel
theorem dX9_massOf_1 : decode cX9_massOf 1 = .ok (.ifCond .ne 8, 3) := by decide +kernel
theorem dX9_massOf_4 : decode cX9_massOf 4 = .ok (.bipush 10, 2) := by decide +kernel
theorem dX9_massOf_6 : decode cX9_massOf 6 = .ok (.goto 15, 3) := by decide +kernel
theorem dX9_massOf_9 : decode cX9_massOf 9 = .ok (.iload_n 0, 1) := by decide +kernel
theorem dX9_massOf_10 : decode cX9_massOf 10 = .ok (.iconst 1, 1) := by decide +kernel
theorem dX9_massOf_11 : decode cX9_massOf 11 = .ok (.if_icmp .ne 8, 3) := by decide +kernel
theorem dX9_massOf_14 : decode cX9_massOf 14 = .ok (.bipush 30, 2) := by decide +kernel
theorem dX9_massOf_16 : decode cX9_massOf 16 = .ok (.goto 5, 3) := by decide +kernel
theorem dX9_massOf_19 : decode cX9_massOf 19 = .ok (.bipush 60, 2) := by decide +kernel
theorem dX9_massOf_21 : decode cX9_massOf 21 = .ok (.ireturn, 1) := by decide +kernel
theorem dX9_roomOf_0 : decode cX9_roomOf 0 = .ok (.iload_n 0, 1) := by decide +kernel
theorem dX9_roomOf_1 : decode cX9_roomOf 1 = .ok (.ifCond .ne 7, 3) := by decide +kernel
theorem dX9_roomOf_4 : decode cX9_roomOf 4 = .ok (.iconst 2, 1) := by decide +kernel
theorem dX9_roomOf_5 : decode cX9_roomOf 5 = .ok (.goto 13, 3) := by decide +kernel
theorem dX9_roomOf_8 : decode cX9_roomOf 8 = .ok (.iload_n 0, 1) := by decide +kernel
theorem dX9_roomOf_9 : decode cX9_roomOf 9 = .ok (.iconst 1, 1) := by decide +kernel
theorem dX9_roomOf_10 : decode cX9_roomOf 10 = .ok (.if_icmp .ne 7, 3) := by decide +kernel
theorem dX9_roomOf_13 : decode cX9_roomOf 13 = .ok (.iconst 3, 1) := by decide +kernel
theorem dX9_roomOf_14 : decode cX9_roomOf 14 = .ok (.goto 4, 3) := by decide +kernel
theorem dX9_roomOf_17 : decode cX9_roomOf 17 = .ok (.iconst 4, 1) := by decide +kernel
theorem dX9_roomOf_18 : decode cX9_roomOf 18 = .ok (.ireturn, 1) := by decide +kernel
theorem dX9_air_0 : decode cX9_air 0 = .ok (.iload_n 1, 1) := by decide +kernel
theorem dX9_air_1 : decode cX9_air 1 = .ok (.iconst 0, 1) := by decide +kernel
theorem dX9_air_2 : decode cX9_air 2 = .ok (.bipush 40, 2) := by decide +kernel
theorem dX9_air_4 : decode cX9_air 4 = .ok (.invokestatic 148, 3) := by decide +kernel
theorem dX9_air_7 : decode cX9_air 7 = .ok (.ifCond .ne 6, 3) := by decide +kernel
theorem dX9_air_10 : decode cX9_air 10 = .ok (.bipush (-2), 2) := by decide +kernel
theorem dX9_air_12 : decode cX9_air 12 = .ok (.ireturn, 1) := by decide +kernel
theorem dX9_air_13 : decode cX9_air 13 = .ok (.aload_n 0, 1) := by decide +kernel
theorem dX9_air_14 : decode cX9_air 14 = .ok (.getfield 7, 3) := by decide +kernel
theorem dX9_air_17 : decode cX9_air 17 = .ok (.istore_n 2, 1) := by decide +kernel
theorem dX9_air_18 : decode cX9_air 18 = .ok (.aload_n 0, 1) := by decide +kernel
theorem dX9_air_19 : decode cX9_air 19 = .ok (.iload_n 1, 1) := by decide +kernel
theorem dX9_air_20 : decode cX9_air 20 = .ok (.putfield 7, 3) := by decide +kernel
theorem dX9_air_23 : decode cX9_air 23 = .ok (.iload_n 2, 1) := by decide +kernel
theorem dX9_air_24 : decode cX9_air 24 = .ok (.ireturn, 1) := by decide +kernel
theorem dX9_damp_0 : decode cX9_damp 0 = .ok (.iload_n 1, 1) := by decide +kernel
theorem dX9_damp_1 : decode cX9_damp 1 = .ok (.invokestatic 152, 3) := by decide +kernel
theorem dX9_damp_4 : decode cX9_damp 4 = .ok (.ifCond .eq 14, 3) := by decide +kernel
theorem dX9_damp_7 : decode cX9_damp 7 = .ok (.iload_n 2, 1) := by decide +kernel
theorem dX9_damp_8 : decode cX9_damp 8 = .ok (.iconst 0, 1) := by decide +kernel
theorem dX9_damp_9 : decode cX9_damp 9 = .ok (.sipush 1000, 3) := by decide +kernel
theorem dX9_damp_12 : decode cX9_damp 12 = .ok (.invokestatic 148, 3) := by decide +kernel
theorem dX9_damp_15 : decode cX9_damp 15 = .ok (.ifCond .ne 6, 3) := by decide +kernel
theorem dX9_damp_18 : decode cX9_damp 18 = .ok (.bipush (-2), 2) := by decide +kernel
theorem dX9_damp_20 : decode cX9_damp 20 = .ok (.ireturn, 1) := by decide +kernel
theorem dX9_damp_21 : decode cX9_damp 21 = .ok (.aload_n 0, 1) := by decide +kernel
theorem dX9_damp_22 : decode cX9_damp 22 = .ok (.getfield 17, 3) := by decide +kernel
theorem dX9_damp_25 : decode cX9_damp 25 = .ok (.iload_n 1, 1) := by decide +kernel
theorem dX9_damp_26 : decode cX9_damp 26 = .ok (.iaload, 1) := by decide +kernel
theorem dX9_damp_27 : decode cX9_damp 27 = .ok (.istore_n 3, 1) := by decide +kernel
theorem dX9_damp_28 : decode cX9_damp 28 = .ok (.aload_n 0, 1) := by decide +kernel
theorem dX9_damp_29 : decode cX9_damp 29 = .ok (.getfield 17, 3) := by decide +kernel
theorem dX9_damp_32 : decode cX9_damp 32 = .ok (.iload_n 1, 1) := by decide +kernel
theorem dX9_damp_33 : decode cX9_damp 33 = .ok (.iload_n 2, 1) := by decide +kernel
theorem dX9_damp_34 : decode cX9_damp 34 = .ok (.iastore, 1) := by decide +kernel
theorem dX9_damp_35 : decode cX9_damp 35 = .ok (.iload_n 3, 1) := by decide +kernel
theorem dX9_damp_36 : decode cX9_damp 36 = .ok (.ireturn, 1) := by decide +kernel
theorem dX9_crack_0 : decode cX9_crack 0 = .ok (.iload_n 1, 1) := by decide +kernel
theorem dX9_crack_1 : decode cX9_crack 1 = .ok (.invokestatic 152, 3) := by decide +kernel
theorem dX9_crack_4 : decode cX9_crack 4 = .ok (.ifCond .eq 12, 3) := by decide +kernel
theorem dX9_crack_7 : decode cX9_crack 7 = .ok (.iload_n 2, 1) := by decide +kernel
theorem dX9_crack_8 : decode cX9_crack 8 = .ok (.iconst 0, 1) := by decide +kernel
theorem dX9_crack_9 : decode cX9_crack 9 = .ok (.iconst 4, 1) := by decide +kernel
theorem dX9_crack_10 : decode cX9_crack 10 = .ok (.invokestatic 148, 3) := by decide +kernel
theorem dX9_crack_13 : decode cX9_crack 13 = .ok (.ifCond .ne 6, 3) := by decide +kernel
theorem dX9_crack_16 : decode cX9_crack 16 = .ok (.bipush (-2), 2) := by decide +kernel
theorem dX9_crack_18 : decode cX9_crack 18 = .ok (.ireturn, 1) := by decide +kernel
theorem dX9_crack_19 : decode cX9_crack 19 = .ok (.aload_n 0, 1) := by decide +kernel
theorem dX9_crack_20 : decode cX9_crack 20 = .ok (.getfield 21, 3) := by decide +kernel
theorem dX9_crack_23 : decode cX9_crack 23 = .ok (.iload_n 1, 1) := by decide +kernel
theorem dX9_crack_24 : decode cX9_crack 24 = .ok (.iaload, 1) := by decide +kernel
theorem dX9_crack_25 : decode cX9_crack 25 = .ok (.istore_n 3, 1) := by decide +kernel
theorem dX9_crack_26 : decode cX9_crack 26 = .ok (.aload_n 0, 1) := by decide +kernel
theorem dX9_crack_27 : decode cX9_crack 27 = .ok (.getfield 21, 3) := by decide +kernel
theorem dX9_crack_30 : decode cX9_crack 30 = .ok (.iload_n 1, 1) := by decide +kernel
theorem dX9_crack_31 : decode cX9_crack 31 = .ok (.iload_n 2, 1) := by decide +kernel
theorem dX9_crack_32 : decode cX9_crack 32 = .ok (.iastore, 1) := by decide +kernel
theorem dX9_crack_33 : decode cX9_crack 33 = .ok (.iload_n 3, 1) := by decide +kernel
theorem dX9_crack_34 : decode cX9_crack 34 = .ok (.ireturn, 1) := by decide +kernel
theorem dX9_fire_0 : decode cX9_fire 0 = .ok (.iload_n 1, 1) := by decide +kernel
theorem dX9_fire_1 : decode cX9_fire 1 = .ok (.iconst 0, 1) := by decide +kernel
theorem dX9_fire_2 : decode cX9_fire 2 = .ok (.iconst 2, 1) := by decide +kernel
theorem dX9_fire_3 : decode cX9_fire 3 = .ok (.invokestatic 148, 3) := by decide +kernel
theorem dX9_fire_6 : decode cX9_fire 6 = .ok (.ifCond .ne 6, 3) := by decide +kernel
theorem dX9_fire_9 : decode cX9_fire 9 = .ok (.bipush (-2), 2) := by decide +kernel
theorem dX9_fire_11 : decode cX9_fire 11 = .ok (.ireturn, 1) := by decide +kernel
theorem dX9_fire_12 : decode cX9_fire 12 = .ok (.aload_n 0, 1) := by decide +kernel
theorem dX9_fire_13 : decode cX9_fire 13 = .ok (.getfield 156, 3) := by decide +kernel
theorem dX9_fire_16 : decode cX9_fire 16 = .ok (.istore_n 2, 1) := by decide +kernel
theorem dX9_fire_17 : decode cX9_fire 17 = .ok (.aload_n 0, 1) := by decide +kernel
theorem dX9_fire_18 : decode cX9_fire 18 = .ok (.iload_n 1, 1) := by decide +kernel
theorem dX9_fire_19 : decode cX9_fire 19 = .ok (.putfield 156, 3) := by decide +kernel
theorem dX9_fire_22 : decode cX9_fire 22 = .ok (.iload_n 2, 1) := by decide +kernel
theorem dX9_fire_23 : decode cX9_fire 23 = .ok (.ireturn, 1) := by decide +kernel
theorem dX9_isLog_0 : decode cX9_isLog 0 = .ok (.iload_n 0, 1) := by decide +kernel
theorem dX9_isLog_1 : decode cX9_isLog 1 = .ok (.iconst 1, 1) := by decide +kernel
theorem dX9_isLog_2 : decode cX9_isLog 2 = .ok (.bipush 50, 2) := by decide +kernel
theorem dX9_isLog_4 : decode cX9_isLog 4 = .ok (.invokestatic 148, 3) := by decide +kernel
theorem dX9_isLog_7 : decode cX9_isLog 7 = .ok (.ifCond .eq 17, 3) := by decide +kernel
theorem dX9_isLog_10 : decode cX9_isLog 10 = .ok (.iload_n 1, 1) := by decide +kernel
theorem dX9_isLog_11 : decode cX9_isLog 11 = .ok (.iconst 0, 1) := by decide +kernel
theorem dX9_isLog_12 : decode cX9_isLog 12 = .ok (.bipush 60, 2) := by decide +kernel
theorem dX9_isLog_14 : decode cX9_isLog 14 = .ok (.invokestatic 148, 3) := by decide +kernel
theorem dX9_isLog_17 : decode cX9_isLog 17 = .ok (.ifCond .eq 7, 3) := by decide +kernel
theorem dX9_isLog_20 : decode cX9_isLog 20 = .ok (.iconst 1, 1) := by decide +kernel
theorem dX9_isLog_21 : decode cX9_isLog 21 = .ok (.goto 4, 3) := by decide +kernel
theorem dX9_isLog_24 : decode cX9_isLog 24 = .ok (.iconst 0, 1) := by decide +kernel
theorem dX9_isLog_25 : decode cX9_isLog 25 = .ok (.ireturn, 1) := by decide +kernel
theorem dX9_log_0 : decode cX9_log 0 = .ok (.iload_n 1, 1) := by decide +kernel
theorem dX9_log_1 : decode cX9_log 1 = .ok (.iload_n 2, 1) := by decide +kernel
theorem dX9_log_2 : decode cX9_log 2 = .ok (.invokestatic 159, 3) := by decide +kernel
theorem dX9_log_5 : decode cX9_log 5 = .ok (.ifCond .ne 6, 3) := by decide +kernel
theorem dX9_log_8 : decode cX9_log 8 = .ok (.bipush (-2), 2) := by decide +kernel
theorem dX9_log_10 : decode cX9_log 10 = .ok (.ireturn, 1) := by decide +kernel
theorem dX9_log_11 : decode cX9_log 11 = .ok (.aload_n 0, 1) := by decide +kernel
theorem dX9_log_12 : decode cX9_log 12 = .ok (.getfield 163, 3) := by decide +kernel
theorem dX9_log_15 : decode cX9_log 15 = .ok (.bipush 30, 2) := by decide +kernel
theorem dX9_log_17 : decode cX9_log 17 = .ok (.if_icmp .ne 6, 3) := by decide +kernel
theorem dX9_log_20 : decode cX9_log 20 = .ok (.bipush (-4), 2) := by decide +kernel
theorem dX9_log_22 : decode cX9_log 22 = .ok (.ireturn, 1) := by decide +kernel
theorem dX9_log_23 : decode cX9_log 23 = .ok (.aload_n 0, 1) := by decide +kernel
theorem dX9_log_24 : decode cX9_log 24 = .ok (.getfield 24, 3) := by decide +kernel
theorem dX9_log_27 : decode cX9_log 27 = .ok (.aload_n 0, 1) := by decide +kernel
theorem dX9_log_28 : decode cX9_log 28 = .ok (.getfield 163, 3) := by decide +kernel
theorem dX9_log_31 : decode cX9_log 31 = .ok (.iload_n 1, 1) := by decide +kernel
theorem dX9_log_32 : decode cX9_log 32 = .ok (.iastore, 1) := by decide +kernel
theorem dX9_log_33 : decode cX9_log 33 = .ok (.aload_n 0, 1) := by decide +kernel
theorem dX9_log_34 : decode cX9_log 34 = .ok (.getfield 27, 3) := by decide +kernel
theorem dX9_log_37 : decode cX9_log 37 = .ok (.aload_n 0, 1) := by decide +kernel
theorem dX9_log_38 : decode cX9_log 38 = .ok (.getfield 163, 3) := by decide +kernel
theorem dX9_log_41 : decode cX9_log 41 = .ok (.iload_n 2, 1) := by decide +kernel
theorem dX9_log_42 : decode cX9_log 42 = .ok (.iastore, 1) := by decide +kernel
theorem dX9_log_43 : decode cX9_log 43 = .ok (.aload_n 0, 1) := by decide +kernel
theorem dX9_log_44 : decode cX9_log 44 = .ok (.dup, 1) := by decide +kernel
theorem dX9_log_45 : decode cX9_log 45 = .ok (.getfield 163, 3) := by decide +kernel
theorem dX9_log_48 : decode cX9_log 48 = .ok (.iconst 1, 1) := by decide +kernel
theorem dX9_log_49 : decode cX9_log 49 = .ok (.iadd, 1) := by decide +kernel
theorem dX9_log_50 : decode cX9_log 50 = .ok (.putfield 163, 3) := by decide +kernel
theorem dX9_log_53 : decode cX9_log 53 = .ok (.aload_n 0, 1) := by decide +kernel
theorem dX9_log_54 : decode cX9_log 54 = .ok (.getfield 163, 3) := by decide +kernel
theorem dX9_log_57 : decode cX9_log 57 = .ok (.ireturn, 1) := by decide +kernel
theorem dX9_takeNow_0 : decode cX9_takeNow 0 = .ok (.iconst 0, 1) := by decide +kernel
theorem dX9_takeNow_1 : decode cX9_takeNow 1 = .ok (.istore_n 1, 1) := by decide +kernel
theorem dX9_takeNow_2 : decode cX9_takeNow 2 = .ok (.iload_n 1, 1) := by decide +kernel
theorem dX9_takeNow_3 : decode cX9_takeNow 3 = .ok (.bipush 12, 2) := by decide +kernel
theorem dX9_takeNow_5 : decode cX9_takeNow 5 = .ok (.if_icmp .ge 21, 3) := by decide +kernel
theorem dX9_takeNow_8 : decode cX9_takeNow 8 = .ok (.aload_n 0, 1) := by decide +kernel
theorem dX9_takeNow_9 : decode cX9_takeNow 9 = .ok (.getfield 112, 3) := by decide +kernel
theorem dX9_takeNow_12 : decode cX9_takeNow 12 = .ok (.iload_n 1, 1) := by decide +kernel
theorem dX9_takeNow_13 : decode cX9_takeNow 13 = .ok (.aload_n 0, 1) := by decide +kernel
theorem dX9_takeNow_14 : decode cX9_takeNow 14 = .ok (.getfield 13, 3) := by decide +kernel
theorem dX9_takeNow_17 : decode cX9_takeNow 17 = .ok (.iload_n 1, 1) := by decide +kernel
theorem dX9_takeNow_18 : decode cX9_takeNow 18 = .ok (.laload, 1) := by decide +kernel
theorem dX9_takeNow_19 : decode cX9_takeNow 19 = .ok (.lastore, 1) := by decide +kernel
theorem dX9_takeNow_20 : decode cX9_takeNow 20 = .ok (.iinc 1 1, 3) := by decide +kernel
theorem dX9_takeNow_23 : decode cX9_takeNow 23 = .ok (.goto (-21), 3) := by decide +kernel
theorem dX9_takeNow_26 : decode cX9_takeNow 26 = .ok (.iconst 0, 1) := by decide +kernel
theorem dX9_takeNow_27 : decode cX9_takeNow 27 = .ok (.istore_n 1, 1) := by decide +kernel
theorem dX9_takeNow_28 : decode cX9_takeNow 28 = .ok (.iload_n 1, 1) := by decide +kernel
theorem dX9_takeNow_29 : decode cX9_takeNow 29 = .ok (.iconst 4, 1) := by decide +kernel
theorem dX9_takeNow_30 : decode cX9_takeNow 30 = .ok (.if_icmp .ge 21, 3) := by decide +kernel
theorem dX9_takeNow_33 : decode cX9_takeNow 33 = .ok (.aload_n 0, 1) := by decide +kernel
theorem dX9_takeNow_34 : decode cX9_takeNow 34 = .ok (.getfield 118, 3) := by decide +kernel
theorem dX9_takeNow_37 : decode cX9_takeNow 37 = .ok (.iload_n 1, 1) := by decide +kernel
theorem dX9_takeNow_38 : decode cX9_takeNow 38 = .ok (.aload_n 0, 1) := by decide +kernel
theorem dX9_takeNow_39 : decode cX9_takeNow 39 = .ok (.getfield 17, 3) := by decide +kernel
theorem dX9_takeNow_42 : decode cX9_takeNow 42 = .ok (.iload_n 1, 1) := by decide +kernel
theorem dX9_takeNow_43 : decode cX9_takeNow 43 = .ok (.iaload, 1) := by decide +kernel
theorem dX9_takeNow_44 : decode cX9_takeNow 44 = .ok (.iastore, 1) := by decide +kernel
theorem dX9_takeNow_45 : decode cX9_takeNow 45 = .ok (.iinc 1 1, 3) := by decide +kernel
theorem dX9_takeNow_48 : decode cX9_takeNow 48 = .ok (.goto (-20), 3) := by decide +kernel
theorem dX9_takeNow_51 : decode cX9_takeNow 51 = .ok (.return_, 1) := by decide +kernel
theorem dX9_cellOf_0 : decode cX9_cellOf 0 = .ok (.iconst 3, 1) := by decide +kernel
theorem dX9_cellOf_1 : decode cX9_cellOf 1 = .ok (.iload_n 0, 1) := by decide +kernel
theorem dX9_cellOf_2 : decode cX9_cellOf 2 = .ok (.imul, 1) := by decide +kernel
theorem dX9_cellOf_3 : decode cX9_cellOf 3 = .ok (.iload_n 1, 1) := by decide +kernel
theorem dX9_cellOf_4 : decode cX9_cellOf 4 = .ok (.iadd, 1) := by decide +kernel
theorem dX9_cellOf_5 : decode cX9_cellOf 5 = .ok (.ireturn, 1) := by decide +kernel
theorem dX9_burnt_0 : decode cX9_burnt 0 = .ok (.iload_n 0, 1) := by decide +kernel
theorem dX9_burnt_1 : decode cX9_burnt 1 = .ok (.i2l, 1) := by decide +kernel
theorem dX9_burnt_2 : decode cX9_burnt 2 = .ok (.sipush 2000, 3) := by decide +kernel
theorem dX9_burnt_5 : decode cX9_burnt 5 = .ok (.bipush 26, 2) := by decide +kernel
theorem dX9_burnt_7 : decode cX9_burnt 7 = .ok (.iload_n 1, 1) := by decide +kernel
theorem dX9_burnt_8 : decode cX9_burnt 8 = .ok (.imul, 1) := by decide +kernel
theorem dX9_burnt_9 : decode cX9_burnt 9 = .ok (.isub, 1) := by decide +kernel
theorem dX9_burnt_10 : decode cX9_burnt 10 = .ok (.i2l, 1) := by decide +kernel
theorem dX9_burnt_11 : decode cX9_burnt 11 = .ok (.lmul, 1) := by decide +kernel
theorem dX9_burnt_12 : decode cX9_burnt 12 = .ok (.ldc2_w 142, 3) := by decide +kernel
theorem dX9_burnt_15 : decode cX9_burnt 15 = .ok (.ldiv, 1) := by decide +kernel
theorem dX9_burnt_16 : decode cX9_burnt 16 = .ok (.lreturn, 1) := by decide +kernel
theorem dX9_shift_0 : decode cX9_shift 0 = .ok (.aload_n 0, 1) := by decide +kernel
theorem dX9_shift_1 : decode cX9_shift 1 = .ok (.getfield 112, 3) := by decide +kernel
theorem dX9_shift_4 : decode cX9_shift 4 = .ok (.iload_n 1, 1) := by decide +kernel
theorem dX9_shift_5 : decode cX9_shift 5 = .ok (.dup2, 1) := by decide +kernel
theorem dX9_shift_6 : decode cX9_shift 6 = .ok (.laload, 1) := by decide +kernel
theorem dX9_shift_7 : decode cX9_shift 7 = .ok (.lload_n 3, 1) := by decide +kernel
theorem dX9_shift_8 : decode cX9_shift 8 = .ok (.lsub, 1) := by decide +kernel
theorem dX9_shift_9 : decode cX9_shift 9 = .ok (.lastore, 1) := by decide +kernel
theorem dX9_shift_10 : decode cX9_shift 10 = .ok (.aload_n 0, 1) := by decide +kernel
theorem dX9_shift_11 : decode cX9_shift 11 = .ok (.getfield 112, 3) := by decide +kernel
theorem dX9_shift_14 : decode cX9_shift 14 = .ok (.iload_n 2, 1) := by decide +kernel
theorem dX9_shift_15 : decode cX9_shift 15 = .ok (.dup2, 1) := by decide +kernel
theorem dX9_shift_16 : decode cX9_shift 16 = .ok (.laload, 1) := by decide +kernel
theorem dX9_shift_17 : decode cX9_shift 17 = .ok (.lload_n 3, 1) := by decide +kernel
theorem dX9_shift_18 : decode cX9_shift 18 = .ok (.ladd, 1) := by decide +kernel
theorem dX9_shift_19 : decode cX9_shift 19 = .ok (.lastore, 1) := by decide +kernel
theorem dX9_shift_20 : decode cX9_shift 20 = .ok (.return_, 1) := by decide +kernel
theorem dX9_letOut_0 : decode cX9_letOut 0 = .ok (.lload_n 2, 1) := by decide +kernel
theorem dX9_letOut_1 : decode cX9_letOut 1 = .ok (.lconst 0, 1) := by decide +kernel
theorem dX9_letOut_2 : decode cX9_letOut 2 = .ok (.lcmp, 1) := by decide +kernel
theorem dX9_letOut_3 : decode cX9_letOut 3 = .ok (.ifCond .le 7, 3) := by decide +kernel
theorem dX9_letOut_6 : decode cX9_letOut 6 = .ok (.lload_n 2, 1) := by decide +kernel
theorem dX9_letOut_7 : decode cX9_letOut 7 = .ok (.goto 4, 3) := by decide +kernel
theorem dX9_letOut_10 : decode cX9_letOut 10 = .ok (.lconst 0, 1) := by decide +kernel
theorem dX9_letOut_11 : decode cX9_letOut 11 = .ok (.lstore 4, 2) := by decide +kernel
theorem dX9_letOut_13 : decode cX9_letOut 13 = .ok (.aload_n 0, 1) := by decide +kernel
theorem dX9_letOut_14 : decode cX9_letOut 14 = .ok (.getfield 112, 3) := by decide +kernel
theorem dX9_letOut_17 : decode cX9_letOut 17 = .ok (.iload_n 1, 1) := by decide +kernel
theorem dX9_letOut_18 : decode cX9_letOut 18 = .ok (.dup2, 1) := by decide +kernel
theorem dX9_letOut_19 : decode cX9_letOut 19 = .ok (.laload, 1) := by decide +kernel
theorem dX9_letOut_20 : decode cX9_letOut 20 = .ok (.lload 4, 2) := by decide +kernel
theorem dX9_letOut_22 : decode cX9_letOut 22 = .ok (.lsub, 1) := by decide +kernel
theorem dX9_letOut_23 : decode cX9_letOut 23 = .ok (.lastore, 1) := by decide +kernel
theorem dX9_letOut_24 : decode cX9_letOut 24 = .ok (.aload_n 0, 1) := by decide +kernel
theorem dX9_letOut_25 : decode cX9_letOut 25 = .ok (.dup, 1) := by decide +kernel
theorem dX9_letOut_26 : decode cX9_letOut 26 = .ok (.getfield 166, 3) := by decide +kernel
theorem dX9_letOut_29 : decode cX9_letOut 29 = .ok (.lload 4, 2) := by decide +kernel
theorem dX9_letOut_31 : decode cX9_letOut 31 = .ok (.ladd, 1) := by decide +kernel
theorem dX9_letOut_32 : decode cX9_letOut 32 = .ok (.putfield 166, 3) := by decide +kernel
theorem dX9_letOut_35 : decode cX9_letOut 35 = .ok (.return_, 1) := by decide +kernel
theorem dX9_layWarm_0 : decode cX9_layWarm 0 = .ok (.iconst 0, 1) := by decide +kernel
theorem dX9_layWarm_1 : decode cX9_layWarm 1 = .ok (.istore_n 1, 1) := by decide +kernel
theorem dX9_layWarm_2 : decode cX9_layWarm 2 = .ok (.iload_n 1, 1) := by decide +kernel
theorem dX9_layWarm_3 : decode cX9_layWarm 3 = .ok (.bipush 12, 2) := by decide +kernel
theorem dX9_layWarm_5 : decode cX9_layWarm 5 = .ok (.if_icmp .ge 29, 3) := by decide +kernel
theorem dX9_layWarm_8 : decode cX9_layWarm 8 = .ok (.aload_n 0, 1) := by decide +kernel
theorem dX9_layWarm_9 : decode cX9_layWarm 9 = .ok (.getfield 115, 3) := by decide +kernel
theorem dX9_layWarm_12 : decode cX9_layWarm 12 = .ok (.iload_n 1, 1) := by decide +kernel
theorem dX9_layWarm_13 : decode cX9_layWarm 13 = .ok (.aload_n 0, 1) := by decide +kernel
theorem dX9_layWarm_14 : decode cX9_layWarm 14 = .ok (.getfield 112, 3) := by decide +kernel
theorem dX9_layWarm_17 : decode cX9_layWarm 17 = .ok (.iload_n 1, 1) := by decide +kernel
theorem dX9_layWarm_18 : decode cX9_layWarm 18 = .ok (.laload, 1) := by decide +kernel
theorem dX9_layWarm_19 : decode cX9_layWarm 19 = .ok (.iload_n 1, 1) := by decide +kernel
theorem dX9_layWarm_20 : decode cX9_layWarm 20 = .ok (.iconst 3, 1) := by decide +kernel
theorem dX9_layWarm_21 : decode cX9_layWarm 21 = .ok (.irem, 1) := by decide +kernel
theorem dX9_layWarm_22 : decode cX9_layWarm 22 = .ok (.invokestatic 144, 3) := by decide +kernel
theorem dX9_layWarm_25 : decode cX9_layWarm 25 = .ok (.i2l, 1) := by decide +kernel
theorem dX9_layWarm_26 : decode cX9_layWarm 26 = .ok (.ldiv, 1) := by decide +kernel
theorem dX9_layWarm_27 : decode cX9_layWarm 27 = .ok (.lastore, 1) := by decide +kernel
theorem dX9_layWarm_28 : decode cX9_layWarm 28 = .ok (.iinc 1 1, 3) := by decide +kernel
theorem dX9_layWarm_31 : decode cX9_layWarm 31 = .ok (.goto (-29), 3) := by decide +kernel
theorem dX9_layWarm_34 : decode cX9_layWarm 34 = .ok (.return_, 1) := by decide +kernel
theorem dX9_step_0 : decode cX9_step 0 = .ok (.aload_n 0, 1) := by decide +kernel
theorem dX9_step_1 : decode cX9_step 1 = .ok (.lconst 0, 1) := by decide +kernel
theorem dX9_step_2 : decode cX9_step 2 = .ok (.putfield 166, 3) := by decide +kernel
theorem dX9_step_5 : decode cX9_step 5 = .ok (.lload_n 1, 1) := by decide +kernel
theorem dX9_step_6 : decode cX9_step 6 = .ok (.ldc2_w 170, 3) := by decide +kernel
theorem dX9_step_9 : decode cX9_step 9 = .ok (.ldiv, 1) := by decide +kernel
theorem dX9_step_10 : decode cX9_step 10 = .ok (.lstore 4, 2) := by decide +kernel
theorem dX9_step_12 : decode cX9_step 12 = .ok (.lload_n 1, 1) := by decide +kernel
theorem dX9_step_13 : decode cX9_step 13 = .ok (.lload 4, 2) := by decide +kernel
theorem dX9_step_15 : decode cX9_step 15 = .ok (.lsub, 1) := by decide +kernel
theorem dX9_step_16 : decode cX9_step 16 = .ok (.ldc2_w 170, 3) := by decide +kernel
theorem dX9_step_19 : decode cX9_step 19 = .ok (.ldiv, 1) := by decide +kernel
theorem dX9_step_20 : decode cX9_step 20 = .ok (.lstore 6, 2) := by decide +kernel
theorem dX9_step_22 : decode cX9_step 22 = .ok (.aload_n 0, 1) := by decide +kernel
theorem dX9_step_23 : decode cX9_step 23 = .ok (.getfield 112, 3) := by decide +kernel
theorem dX9_step_26 : decode cX9_step 26 = .ok (.aload_n 0, 1) := by decide +kernel
theorem dX9_step_27 : decode cX9_step 27 = .ok (.getfield 156, 3) := by decide +kernel
theorem dX9_step_30 : decode cX9_step 30 = .ok (.iconst 0, 1) := by decide +kernel
theorem dX9_step_31 : decode cX9_step 31 = .ok (.invokestatic 172, 3) := by decide +kernel
theorem dX9_step_34 : decode cX9_step 34 = .ok (.dup2, 1) := by decide +kernel
theorem dX9_step_35 : decode cX9_step 35 = .ok (.laload, 1) := by decide +kernel
theorem dX9_step_36 : decode cX9_step 36 = .ok (.lload 4, 2) := by decide +kernel
theorem dX9_step_38 : decode cX9_step 38 = .ok (.ladd, 1) := by decide +kernel
theorem dX9_step_39 : decode cX9_step 39 = .ok (.lastore, 1) := by decide +kernel
theorem dX9_step_40 : decode cX9_step 40 = .ok (.aload_n 0, 1) := by decide +kernel
theorem dX9_step_41 : decode cX9_step 41 = .ok (.getfield 112, 3) := by decide +kernel
theorem dX9_step_44 : decode cX9_step 44 = .ok (.aload_n 0, 1) := by decide +kernel
theorem dX9_step_45 : decode cX9_step 45 = .ok (.getfield 156, 3) := by decide +kernel
theorem dX9_step_48 : decode cX9_step 48 = .ok (.iconst 1, 1) := by decide +kernel
theorem dX9_step_49 : decode cX9_step 49 = .ok (.iadd, 1) := by decide +kernel
theorem dX9_step_50 : decode cX9_step 50 = .ok (.iconst 0, 1) := by decide +kernel
theorem dX9_step_51 : decode cX9_step 51 = .ok (.invokestatic 172, 3) := by decide +kernel
theorem dX9_step_54 : decode cX9_step 54 = .ok (.dup2, 1) := by decide +kernel
theorem dX9_step_55 : decode cX9_step 55 = .ok (.laload, 1) := by decide +kernel
theorem dX9_step_56 : decode cX9_step 56 = .ok (.lload 6, 2) := by decide +kernel
theorem dX9_step_58 : decode cX9_step 58 = .ok (.ladd, 1) := by decide +kernel
theorem dX9_step_59 : decode cX9_step 59 = .ok (.lastore, 1) := by decide +kernel
theorem dX9_step_60 : decode cX9_step 60 = .ok (.aload_n 0, 1) := by decide +kernel
theorem dX9_step_61 : decode cX9_step 61 = .ok (.getfield 112, 3) := by decide +kernel
theorem dX9_step_64 : decode cX9_step 64 = .ok (.aload_n 0, 1) := by decide +kernel
theorem dX9_step_65 : decode cX9_step 65 = .ok (.getfield 156, 3) := by decide +kernel
theorem dX9_step_68 : decode cX9_step 68 = .ok (.ifCond .ne 7, 3) := by decide +kernel
theorem dX9_step_71 : decode cX9_step 71 = .ok (.iconst 0, 1) := by decide +kernel
theorem dX9_step_72 : decode cX9_step 72 = .ok (.goto 9, 3) := by decide +kernel
theorem dX9_step_75 : decode cX9_step 75 = .ok (.aload_n 0, 1) := by decide +kernel
theorem dX9_step_76 : decode cX9_step 76 = .ok (.getfield 156, 3) := by decide +kernel
theorem dX9_step_79 : decode cX9_step 79 = .ok (.iconst 1, 1) := by decide +kernel
theorem dX9_step_80 : decode cX9_step 80 = .ok (.isub, 1) := by decide +kernel
theorem dX9_step_81 : decode cX9_step 81 = .ok (.iconst 0, 1) := by decide +kernel
theorem dX9_step_82 : decode cX9_step 82 = .ok (.invokestatic 172, 3) := by decide +kernel
theorem dX9_step_85 : decode cX9_step 85 = .ok (.dup2, 1) := by decide +kernel
theorem dX9_step_86 : decode cX9_step 86 = .ok (.laload, 1) := by decide +kernel
theorem dX9_step_87 : decode cX9_step 87 = .ok (.lload_n 1, 1) := by decide +kernel
theorem dX9_step_88 : decode cX9_step 88 = .ok (.lload 4, 2) := by decide +kernel
theorem dX9_step_90 : decode cX9_step 90 = .ok (.lsub, 1) := by decide +kernel
theorem dX9_step_91 : decode cX9_step 91 = .ok (.lload 6, 2) := by decide +kernel
theorem dX9_step_93 : decode cX9_step 93 = .ok (.lsub, 1) := by decide +kernel
theorem dX9_step_94 : decode cX9_step 94 = .ok (.ladd, 1) := by decide +kernel
theorem dX9_step_95 : decode cX9_step 95 = .ok (.lastore, 1) := by decide +kernel
theorem dX9_step_96 : decode cX9_step 96 = .ok (.aload_n 0, 1) := by decide +kernel
theorem dX9_step_97 : decode cX9_step 97 = .ok (.invokevirtual 176, 3) := by decide +kernel
theorem dX9_step_100 : decode cX9_step 100 = .ok (.iconst 0, 1) := by decide +kernel
theorem dX9_step_101 : decode cX9_step 101 = .ok (.istore 8, 2) := by decide +kernel
theorem dX9_step_103 : decode cX9_step 103 = .ok (.iload 8, 2) := by decide +kernel
theorem dX9_step_105 : decode cX9_step 105 = .ok (.iconst 4, 1) := by decide +kernel
theorem dX9_step_106 : decode cX9_step 106 = .ok (.if_icmp .ge 113, 3) := by decide +kernel
theorem dX9_step_109 : decode cX9_step 109 = .ok (.aload_n 0, 1) := by decide +kernel
theorem dX9_step_110 : decode cX9_step 110 = .ok (.getfield 115, 3) := by decide +kernel
theorem dX9_step_113 : decode cX9_step 113 = .ok (.iload 8, 2) := by decide +kernel
theorem dX9_step_115 : decode cX9_step 115 = .ok (.iconst 0, 1) := by decide +kernel
theorem dX9_step_116 : decode cX9_step 116 = .ok (.invokestatic 172, 3) := by decide +kernel
theorem dX9_step_119 : decode cX9_step 119 = .ok (.laload, 1) := by decide +kernel
theorem dX9_step_120 : decode cX9_step 120 = .ok (.lstore 9, 2) := by decide +kernel
theorem dX9_step_122 : decode cX9_step 122 = .ok (.aload_n 0, 1) := by decide +kernel
theorem dX9_step_123 : decode cX9_step 123 = .ok (.getfield 118, 3) := by decide +kernel
theorem dX9_step_126 : decode cX9_step 126 = .ok (.iload 8, 2) := by decide +kernel
theorem dX9_step_128 : decode cX9_step 128 = .ok (.iaload, 1) := by decide +kernel
theorem dX9_step_129 : decode cX9_step 129 = .ok (.ifCond .le 84, 3) := by decide +kernel
theorem dX9_step_132 : decode cX9_step 132 = .ok (.lload 9, 2) := by decide +kernel
theorem dX9_step_134 : decode cX9_step 134 = .ok (.ldc2_w 179, 3) := by decide +kernel
theorem dX9_step_137 : decode cX9_step 137 = .ok (.lcmp, 1) := by decide +kernel
theorem dX9_step_138 : decode cX9_step 138 = .ok (.ifCond .lt 75, 3) := by decide +kernel
theorem dX9_step_141 : decode cX9_step 141 = .ok (.lload 9, 2) := by decide +kernel
theorem dX9_step_143 : decode cX9_step 143 = .ok (.ldc2_w 179, 3) := by decide +kernel
theorem dX9_step_146 : decode cX9_step 146 = .ok (.lsub, 1) := by decide +kernel
theorem dX9_step_147 : decode cX9_step 147 = .ok (.ldc2_w 181, 3) := by decide +kernel
theorem dX9_step_150 : decode cX9_step 150 = .ok (.ldiv, 1) := by decide +kernel
theorem dX9_step_151 : decode cX9_step 151 = .ok (.lconst 1, 1) := by decide +kernel
theorem dX9_step_152 : decode cX9_step 152 = .ok (.ladd, 1) := by decide +kernel
theorem dX9_step_153 : decode cX9_step 153 = .ok (.lstore 11, 2) := by decide +kernel
theorem dX9_step_155 : decode cX9_step 155 = .ok (.lload 11, 2) := by decide +kernel
theorem dX9_step_157 : decode cX9_step 157 = .ok (.aload_n 0, 1) := by decide +kernel
theorem dX9_step_158 : decode cX9_step 158 = .ok (.getfield 118, 3) := by decide +kernel
theorem dX9_step_161 : decode cX9_step 161 = .ok (.iload 8, 2) := by decide +kernel
theorem dX9_step_163 : decode cX9_step 163 = .ok (.iaload, 1) := by decide +kernel
theorem dX9_step_164 : decode cX9_step 164 = .ok (.i2l, 1) := by decide +kernel
theorem dX9_step_165 : decode cX9_step 165 = .ok (.lcmp, 1) := by decide +kernel
theorem dX9_step_166 : decode cX9_step 166 = .ok (.ifCond .ge 8, 3) := by decide +kernel
theorem dX9_step_169 : decode cX9_step 169 = .ok (.lload 11, 2) := by decide +kernel
theorem dX9_step_171 : decode cX9_step 171 = .ok (.goto 11, 3) := by decide +kernel
theorem dX9_step_174 : decode cX9_step 174 = .ok (.aload_n 0, 1) := by decide +kernel
theorem dX9_step_175 : decode cX9_step 175 = .ok (.getfield 118, 3) := by decide +kernel
theorem dX9_step_178 : decode cX9_step 178 = .ok (.iload 8, 2) := by decide +kernel
theorem dX9_step_180 : decode cX9_step 180 = .ok (.iaload, 1) := by decide +kernel
theorem dX9_step_181 : decode cX9_step 181 = .ok (.i2l, 1) := by decide +kernel
theorem dX9_step_182 : decode cX9_step 182 = .ok (.lstore 11, 2) := by decide +kernel
theorem dX9_step_184 : decode cX9_step 184 = .ok (.aload_n 0, 1) := by decide +kernel
theorem dX9_step_185 : decode cX9_step 185 = .ok (.getfield 118, 3) := by decide +kernel
theorem dX9_step_188 : decode cX9_step 188 = .ok (.iload 8, 2) := by decide +kernel
theorem dX9_step_190 : decode cX9_step 190 = .ok (.dup2, 1) := by decide +kernel
theorem dX9_step_191 : decode cX9_step 191 = .ok (.iaload, 1) := by decide +kernel
theorem dX9_step_192 : decode cX9_step 192 = .ok (.lload 11, 2) := by decide +kernel
theorem dX9_step_194 : decode cX9_step 194 = .ok (.l2i, 1) := by decide +kernel
theorem dX9_step_195 : decode cX9_step 195 = .ok (.isub, 1) := by decide +kernel
theorem dX9_step_196 : decode cX9_step 196 = .ok (.iastore, 1) := by decide +kernel
theorem dX9_step_197 : decode cX9_step 197 = .ok (.aload_n 0, 1) := by decide +kernel
theorem dX9_step_198 : decode cX9_step 198 = .ok (.iload 8, 2) := by decide +kernel
theorem dX9_step_200 : decode cX9_step 200 = .ok (.iconst 0, 1) := by decide +kernel
theorem dX9_step_201 : decode cX9_step 201 = .ok (.invokestatic 172, 3) := by decide +kernel
theorem dX9_step_204 : decode cX9_step 204 = .ok (.ldc2_w 183, 3) := by decide +kernel
theorem dX9_step_207 : decode cX9_step 207 = .ok (.lload 11, 2) := by decide +kernel
theorem dX9_step_209 : decode cX9_step 209 = .ok (.lmul, 1) := by decide +kernel
theorem dX9_step_210 : decode cX9_step 210 = .ok (.invokevirtual 185, 3) := by decide +kernel
theorem dX9_step_213 : decode cX9_step 213 = .ok (.iinc 8 1, 3) := by decide +kernel
theorem dX9_step_216 : decode cX9_step 216 = .ok (.goto (-113), 3) := by decide +kernel
theorem dX9_step_219 : decode cX9_step 219 = .ok (.aload_n 0, 1) := by decide +kernel
theorem dX9_step_220 : decode cX9_step 220 = .ok (.invokevirtual 176, 3) := by decide +kernel
theorem dX9_step_223 : decode cX9_step 223 = .ok (.iconst 0, 1) := by decide +kernel
theorem dX9_step_224 : decode cX9_step 224 = .ok (.istore 8, 2) := by decide +kernel
theorem dX9_step_226 : decode cX9_step 226 = .ok (.iload 8, 2) := by decide +kernel
theorem dX9_step_228 : decode cX9_step 228 = .ok (.iconst 4, 1) := by decide +kernel
theorem dX9_step_229 : decode cX9_step 229 = .ok (.if_icmp .ge 102, 3) := by decide +kernel
theorem dX9_step_232 : decode cX9_step 232 = .ok (.aload_n 0, 1) := by decide +kernel
theorem dX9_step_233 : decode cX9_step 233 = .ok (.iload 8, 2) := by decide +kernel
theorem dX9_step_235 : decode cX9_step 235 = .ok (.iconst 0, 1) := by decide +kernel
theorem dX9_step_236 : decode cX9_step 236 = .ok (.invokestatic 172, 3) := by decide +kernel
theorem dX9_step_239 : decode cX9_step 239 = .ok (.iload 8, 2) := by decide +kernel
theorem dX9_step_241 : decode cX9_step 241 = .ok (.iconst 1, 1) := by decide +kernel
theorem dX9_step_242 : decode cX9_step 242 = .ok (.invokestatic 172, 3) := by decide +kernel
theorem dX9_step_245 : decode cX9_step 245 = .ok (.ldc2_w 170, 3) := by decide +kernel
theorem dX9_step_248 : decode cX9_step 248 = .ok (.aload_n 0, 1) := by decide +kernel
theorem dX9_step_249 : decode cX9_step 249 = .ok (.getfield 115, 3) := by decide +kernel
theorem dX9_step_252 : decode cX9_step 252 = .ok (.iload 8, 2) := by decide +kernel
theorem dX9_step_254 : decode cX9_step 254 = .ok (.iconst 0, 1) := by decide +kernel
theorem dX9_step_255 : decode cX9_step 255 = .ok (.invokestatic 172, 3) := by decide +kernel
theorem dX9_step_258 : decode cX9_step 258 = .ok (.laload, 1) := by decide +kernel
theorem dX9_step_259 : decode cX9_step 259 = .ok (.aload_n 0, 1) := by decide +kernel
theorem dX9_step_260 : decode cX9_step 260 = .ok (.getfield 115, 3) := by decide +kernel
theorem dX9_step_263 : decode cX9_step 263 = .ok (.iload 8, 2) := by decide +kernel
theorem dX9_step_265 : decode cX9_step 265 = .ok (.iconst 1, 1) := by decide +kernel
theorem dX9_step_266 : decode cX9_step 266 = .ok (.invokestatic 172, 3) := by decide +kernel
theorem dX9_step_269 : decode cX9_step 269 = .ok (.laload, 1) := by decide +kernel
theorem dX9_step_270 : decode cX9_step 270 = .ok (.lsub, 1) := by decide +kernel
theorem dX9_step_271 : decode cX9_step 271 = .ok (.lmul, 1) := by decide +kernel
theorem dX9_step_272 : decode cX9_step 272 = .ok (.invokevirtual 189, 3) := by decide +kernel
theorem dX9_step_275 : decode cX9_step 275 = .ok (.aload_n 0, 1) := by decide +kernel
theorem dX9_step_276 : decode cX9_step 276 = .ok (.iload 8, 2) := by decide +kernel
theorem dX9_step_278 : decode cX9_step 278 = .ok (.iconst 1, 1) := by decide +kernel
theorem dX9_step_279 : decode cX9_step 279 = .ok (.invokestatic 172, 3) := by decide +kernel
theorem dX9_step_282 : decode cX9_step 282 = .ok (.iload 8, 2) := by decide +kernel
theorem dX9_step_284 : decode cX9_step 284 = .ok (.iconst 2, 1) := by decide +kernel
theorem dX9_step_285 : decode cX9_step 285 = .ok (.invokestatic 172, 3) := by decide +kernel
theorem dX9_step_288 : decode cX9_step 288 = .ok (.iconst 2, 1) := by decide +kernel
theorem dX9_step_289 : decode cX9_step 289 = .ok (.aload_n 0, 1) := by decide +kernel
theorem dX9_step_290 : decode cX9_step 290 = .ok (.getfield 21, 3) := by decide +kernel
theorem dX9_step_293 : decode cX9_step 293 = .ok (.iload 8, 2) := by decide +kernel
theorem dX9_step_295 : decode cX9_step 295 = .ok (.iaload, 1) := by decide +kernel
theorem dX9_step_296 : decode cX9_step 296 = .ok (.iadd, 1) := by decide +kernel
theorem dX9_step_297 : decode cX9_step 297 = .ok (.i2l, 1) := by decide +kernel
theorem dX9_step_298 : decode cX9_step 298 = .ok (.aload_n 0, 1) := by decide +kernel
theorem dX9_step_299 : decode cX9_step 299 = .ok (.getfield 115, 3) := by decide +kernel
theorem dX9_step_302 : decode cX9_step 302 = .ok (.iload 8, 2) := by decide +kernel
theorem dX9_step_304 : decode cX9_step 304 = .ok (.iconst 1, 1) := by decide +kernel
theorem dX9_step_305 : decode cX9_step 305 = .ok (.invokestatic 172, 3) := by decide +kernel
theorem dX9_step_308 : decode cX9_step 308 = .ok (.laload, 1) := by decide +kernel
theorem dX9_step_309 : decode cX9_step 309 = .ok (.aload_n 0, 1) := by decide +kernel
theorem dX9_step_310 : decode cX9_step 310 = .ok (.getfield 115, 3) := by decide +kernel
theorem dX9_step_313 : decode cX9_step 313 = .ok (.iload 8, 2) := by decide +kernel
theorem dX9_step_315 : decode cX9_step 315 = .ok (.iconst 2, 1) := by decide +kernel
theorem dX9_step_316 : decode cX9_step 316 = .ok (.invokestatic 172, 3) := by decide +kernel
theorem dX9_step_319 : decode cX9_step 319 = .ok (.laload, 1) := by decide +kernel
theorem dX9_step_320 : decode cX9_step 320 = .ok (.lsub, 1) := by decide +kernel
theorem dX9_step_321 : decode cX9_step 321 = .ok (.lmul, 1) := by decide +kernel
theorem dX9_step_322 : decode cX9_step 322 = .ok (.invokevirtual 189, 3) := by decide +kernel
theorem dX9_step_325 : decode cX9_step 325 = .ok (.iinc 8 1, 3) := by decide +kernel
theorem dX9_step_328 : decode cX9_step 328 = .ok (.goto (-102), 3) := by decide +kernel
theorem dX9_step_331 : decode cX9_step 331 = .ok (.aload_n 0, 1) := by decide +kernel
theorem dX9_step_332 : decode cX9_step 332 = .ok (.invokevirtual 176, 3) := by decide +kernel
theorem dX9_step_335 : decode cX9_step 335 = .ok (.iconst 0, 1) := by decide +kernel
theorem dX9_step_336 : decode cX9_step 336 = .ok (.istore 8, 2) := by decide +kernel
theorem dX9_step_338 : decode cX9_step 338 = .ok (.iload 8, 2) := by decide +kernel
theorem dX9_step_340 : decode cX9_step 340 = .ok (.iconst 3, 1) := by decide +kernel
theorem dX9_step_341 : decode cX9_step 341 = .ok (.if_icmp .ge 52, 3) := by decide +kernel
theorem dX9_step_344 : decode cX9_step 344 = .ok (.aload_n 0, 1) := by decide +kernel
theorem dX9_step_345 : decode cX9_step 345 = .ok (.iload 8, 2) := by decide +kernel
theorem dX9_step_347 : decode cX9_step 347 = .ok (.iconst 0, 1) := by decide +kernel
theorem dX9_step_348 : decode cX9_step 348 = .ok (.invokestatic 172, 3) := by decide +kernel
theorem dX9_step_351 : decode cX9_step 351 = .ok (.iload 8, 2) := by decide +kernel
theorem dX9_step_353 : decode cX9_step 353 = .ok (.iconst 1, 1) := by decide +kernel
theorem dX9_step_354 : decode cX9_step 354 = .ok (.iadd, 1) := by decide +kernel
theorem dX9_step_355 : decode cX9_step 355 = .ok (.iconst 0, 1) := by decide +kernel
theorem dX9_step_356 : decode cX9_step 356 = .ok (.invokestatic 172, 3) := by decide +kernel
theorem dX9_step_359 : decode cX9_step 359 = .ok (.aload_n 0, 1) := by decide +kernel
theorem dX9_step_360 : decode cX9_step 360 = .ok (.getfield 115, 3) := by decide +kernel
theorem dX9_step_363 : decode cX9_step 363 = .ok (.iload 8, 2) := by decide +kernel
theorem dX9_step_365 : decode cX9_step 365 = .ok (.iconst 0, 1) := by decide +kernel
theorem dX9_step_366 : decode cX9_step 366 = .ok (.invokestatic 172, 3) := by decide +kernel
theorem dX9_step_369 : decode cX9_step 369 = .ok (.laload, 1) := by decide +kernel
theorem dX9_step_370 : decode cX9_step 370 = .ok (.aload_n 0, 1) := by decide +kernel
theorem dX9_step_371 : decode cX9_step 371 = .ok (.getfield 115, 3) := by decide +kernel
theorem dX9_step_374 : decode cX9_step 374 = .ok (.iload 8, 2) := by decide +kernel
theorem dX9_step_376 : decode cX9_step 376 = .ok (.iconst 1, 1) := by decide +kernel
theorem dX9_step_377 : decode cX9_step 377 = .ok (.iadd, 1) := by decide +kernel
theorem dX9_step_378 : decode cX9_step 378 = .ok (.iconst 0, 1) := by decide +kernel
theorem dX9_step_379 : decode cX9_step 379 = .ok (.invokestatic 172, 3) := by decide +kernel
theorem dX9_step_382 : decode cX9_step 382 = .ok (.laload, 1) := by decide +kernel
theorem dX9_step_383 : decode cX9_step 383 = .ok (.lsub, 1) := by decide +kernel
theorem dX9_step_384 : decode cX9_step 384 = .ok (.invokevirtual 189, 3) := by decide +kernel
theorem dX9_step_387 : decode cX9_step 387 = .ok (.iinc 8 1, 3) := by decide +kernel
theorem dX9_step_390 : decode cX9_step 390 = .ok (.goto (-52), 3) := by decide +kernel
theorem dX9_step_393 : decode cX9_step 393 = .ok (.aload_n 0, 1) := by decide +kernel
theorem dX9_step_394 : decode cX9_step 394 = .ok (.invokevirtual 176, 3) := by decide +kernel
theorem dX9_step_397 : decode cX9_step 397 = .ok (.iconst 0, 1) := by decide +kernel
theorem dX9_step_398 : decode cX9_step 398 = .ok (.istore 8, 2) := by decide +kernel
theorem dX9_step_400 : decode cX9_step 400 = .ok (.iload 8, 2) := by decide +kernel
theorem dX9_step_402 : decode cX9_step 402 = .ok (.iconst 4, 1) := by decide +kernel
theorem dX9_step_403 : decode cX9_step 403 = .ok (.if_icmp .ge 110, 3) := by decide +kernel
theorem dX9_step_406 : decode cX9_step 406 = .ok (.aload_n 0, 1) := by decide +kernel
theorem dX9_step_407 : decode cX9_step 407 = .ok (.iload 8, 2) := by decide +kernel
theorem dX9_step_409 : decode cX9_step 409 = .ok (.iconst 2, 1) := by decide +kernel
theorem dX9_step_410 : decode cX9_step 410 = .ok (.invokestatic 172, 3) := by decide +kernel
theorem dX9_step_413 : decode cX9_step 413 = .ok (.iconst 1, 1) := by decide +kernel
theorem dX9_step_414 : decode cX9_step 414 = .ok (.aload_n 0, 1) := by decide +kernel
theorem dX9_step_415 : decode cX9_step 415 = .ok (.getfield 21, 3) := by decide +kernel
theorem dX9_step_418 : decode cX9_step 418 = .ok (.iload 8, 2) := by decide +kernel
theorem dX9_step_420 : decode cX9_step 420 = .ok (.iaload, 1) := by decide +kernel
theorem dX9_step_421 : decode cX9_step 421 = .ok (.iadd, 1) := by decide +kernel
theorem dX9_step_422 : decode cX9_step 422 = .ok (.i2l, 1) := by decide +kernel
theorem dX9_step_423 : decode cX9_step 423 = .ok (.aload_n 0, 1) := by decide +kernel
theorem dX9_step_424 : decode cX9_step 424 = .ok (.getfield 115, 3) := by decide +kernel
theorem dX9_step_427 : decode cX9_step 427 = .ok (.iload 8, 2) := by decide +kernel
theorem dX9_step_429 : decode cX9_step 429 = .ok (.iconst 2, 1) := by decide +kernel
theorem dX9_step_430 : decode cX9_step 430 = .ok (.invokestatic 172, 3) := by decide +kernel
theorem dX9_step_433 : decode cX9_step 433 = .ok (.laload, 1) := by decide +kernel
theorem dX9_step_434 : decode cX9_step 434 = .ok (.aload_n 0, 1) := by decide +kernel
theorem dX9_step_435 : decode cX9_step 435 = .ok (.getfield 7, 3) := by decide +kernel
theorem dX9_step_438 : decode cX9_step 438 = .ok (.i2l, 1) := by decide +kernel
theorem dX9_step_439 : decode cX9_step 439 = .ok (.lsub, 1) := by decide +kernel
theorem dX9_step_440 : decode cX9_step 440 = .ok (.lmul, 1) := by decide +kernel
theorem dX9_step_441 : decode cX9_step 441 = .ok (.invokevirtual 185, 3) := by decide +kernel
theorem dX9_step_444 : decode cX9_step 444 = .ok (.iload 8, 2) := by decide +kernel
theorem dX9_step_446 : decode cX9_step 446 = .ok (.iconst 3, 1) := by decide +kernel
theorem dX9_step_447 : decode cX9_step 447 = .ok (.if_icmp .ne 7, 3) := by decide +kernel
theorem dX9_step_450 : decode cX9_step 450 = .ok (.iconst 4, 1) := by decide +kernel
theorem dX9_step_451 : decode cX9_step 451 = .ok (.goto 15, 3) := by decide +kernel
theorem dX9_step_454 : decode cX9_step 454 = .ok (.iload 8, 2) := by decide +kernel
theorem dX9_step_456 : decode cX9_step 456 = .ok (.iconst 2, 1) := by decide +kernel
theorem dX9_step_457 : decode cX9_step 457 = .ok (.if_icmp .ne 7, 3) := by decide +kernel
theorem dX9_step_460 : decode cX9_step 460 = .ok (.iconst 2, 1) := by decide +kernel
theorem dX9_step_461 : decode cX9_step 461 = .ok (.goto 5, 3) := by decide +kernel
theorem dX9_step_464 : decode cX9_step 464 = .ok (.iload 8, 2) := by decide +kernel
theorem dX9_step_466 : decode cX9_step 466 = .ok (.istore 9, 2) := by decide +kernel
theorem dX9_step_468 : decode cX9_step 468 = .ok (.aload_n 0, 1) := by decide +kernel
theorem dX9_step_469 : decode cX9_step 469 = .ok (.iload 8, 2) := by decide +kernel
theorem dX9_step_471 : decode cX9_step 471 = .ok (.iconst 0, 1) := by decide +kernel
theorem dX9_step_472 : decode cX9_step 472 = .ok (.invokestatic 172, 3) := by decide +kernel
theorem dX9_step_475 : decode cX9_step 475 = .ok (.iload_n 3, 1) := by decide +kernel
theorem dX9_step_476 : decode cX9_step 476 = .ok (.ifCond .eq 27, 3) := by decide +kernel
theorem dX9_step_479 : decode cX9_step 479 = .ok (.iload 9, 2) := by decide +kernel
theorem dX9_step_481 : decode cX9_step 481 = .ok (.i2l, 1) := by decide +kernel
theorem dX9_step_482 : decode cX9_step 482 = .ok (.aload_n 0, 1) := by decide +kernel
theorem dX9_step_483 : decode cX9_step 483 = .ok (.getfield 115, 3) := by decide +kernel
theorem dX9_step_486 : decode cX9_step 486 = .ok (.iload 8, 2) := by decide +kernel
theorem dX9_step_488 : decode cX9_step 488 = .ok (.iconst 0, 1) := by decide +kernel
theorem dX9_step_489 : decode cX9_step 489 = .ok (.invokestatic 172, 3) := by decide +kernel
theorem dX9_step_492 : decode cX9_step 492 = .ok (.laload, 1) := by decide +kernel
theorem dX9_step_493 : decode cX9_step 493 = .ok (.aload_n 0, 1) := by decide +kernel
theorem dX9_step_494 : decode cX9_step 494 = .ok (.getfield 7, 3) := by decide +kernel
theorem dX9_step_497 : decode cX9_step 497 = .ok (.i2l, 1) := by decide +kernel
theorem dX9_step_498 : decode cX9_step 498 = .ok (.lsub, 1) := by decide +kernel
theorem dX9_step_499 : decode cX9_step 499 = .ok (.lmul, 1) := by decide +kernel
theorem dX9_step_500 : decode cX9_step 500 = .ok (.goto 4, 3) := by decide +kernel
theorem dX9_step_503 : decode cX9_step 503 = .ok (.lconst 0, 1) := by decide +kernel
theorem dX9_step_504 : decode cX9_step 504 = .ok (.invokevirtual 185, 3) := by decide +kernel
theorem dX9_step_507 : decode cX9_step 507 = .ok (.iinc 8 1, 3) := by decide +kernel
theorem dX9_step_510 : decode cX9_step 510 = .ok (.goto (-110), 3) := by decide +kernel
theorem dX9_step_513 : decode cX9_step 513 = .ok (.return_, 1) := by decide +kernel
theorem dX9_faceOf_0 : decode cX9_faceOf 0 = .ok (.aload_n 0, 1) := by decide +kernel
theorem dX9_faceOf_1 : decode cX9_faceOf 1 = .ok (.getfield 112, 3) := by decide +kernel
theorem dX9_faceOf_4 : decode cX9_faceOf 4 = .ok (.iload_n 1, 1) := by decide +kernel
theorem dX9_faceOf_5 : decode cX9_faceOf 5 = .ok (.iconst 0, 1) := by decide +kernel
theorem dX9_faceOf_6 : decode cX9_faceOf 6 = .ok (.invokestatic 172, 3) := by decide +kernel
theorem dX9_faceOf_9 : decode cX9_faceOf 9 = .ok (.laload, 1) := by decide +kernel
theorem dX9_faceOf_10 : decode cX9_faceOf 10 = .ok (.ldc2_w 142, 3) := by decide +kernel
theorem dX9_faceOf_13 : decode cX9_faceOf 13 = .ok (.ldiv, 1) := by decide +kernel
theorem dX9_faceOf_14 : decode cX9_faceOf 14 = .ok (.lreturn, 1) := by decide +kernel
theorem dX9_isInside_0 : decode cX9_isInside 0 = .ok (.aload_n 0, 1) := by decide +kernel
theorem dX9_isInside_1 : decode cX9_isInside 1 = .ok (.getfield 64, 3) := by decide +kernel
theorem dX9_isInside_4 : decode cX9_isInside 4 = .ok (.iload_n 1, 1) := by decide +kernel
theorem dX9_isInside_5 : decode cX9_isInside 5 = .ok (.iaload, 1) := by decide +kernel
theorem dX9_isInside_6 : decode cX9_isInside 6 = .ok (.iconst (-1), 1) := by decide +kernel
theorem dX9_isInside_7 : decode cX9_isInside 7 = .ok (.if_icmp .eq 7, 3) := by decide +kernel
theorem dX9_isInside_10 : decode cX9_isInside 10 = .ok (.iconst 1, 1) := by decide +kernel
theorem dX9_isInside_11 : decode cX9_isInside 11 = .ok (.goto 4, 3) := by decide +kernel
theorem dX9_isInside_14 : decode cX9_isInside 14 = .ok (.iconst 0, 1) := by decide +kernel
theorem dX9_isInside_15 : decode cX9_isInside 15 = .ok (.ireturn, 1) := by decide +kernel
theorem dX9_bake_0 : decode cX9_bake 0 = .ok (.iconst 0, 1) := by decide +kernel
theorem dX9_bake_1 : decode cX9_bake 1 = .ok (.istore_n 1, 1) := by decide +kernel
theorem dX9_bake_2 : decode cX9_bake 2 = .ok (.iload_n 1, 1) := by decide +kernel
theorem dX9_bake_3 : decode cX9_bake 3 = .ok (.aload_n 0, 1) := by decide +kernel
theorem dX9_bake_4 : decode cX9_bake 4 = .ok (.getfield 193, 3) := by decide +kernel
theorem dX9_bake_7 : decode cX9_bake 7 = .ok (.if_icmp .ge 86, 3) := by decide +kernel
theorem dX9_bake_10 : decode cX9_bake 10 = .ok (.aload_n 0, 1) := by decide +kernel
theorem dX9_bake_11 : decode cX9_bake 11 = .ok (.iload_n 1, 1) := by decide +kernel
theorem dX9_bake_12 : decode cX9_bake 12 = .ok (.invokevirtual 196, 3) := by decide +kernel
theorem dX9_bake_15 : decode cX9_bake 15 = .ok (.ifCond .eq 72, 3) := by decide +kernel
theorem dX9_bake_18 : decode cX9_bake 18 = .ok (.aload_n 0, 1) := by decide +kernel
theorem dX9_bake_19 : decode cX9_bake 19 = .ok (.getfield 64, 3) := by decide +kernel
theorem dX9_bake_22 : decode cX9_bake 22 = .ok (.iload_n 1, 1) := by decide +kernel
theorem dX9_bake_23 : decode cX9_bake 23 = .ok (.iaload, 1) := by decide +kernel
theorem dX9_bake_24 : decode cX9_bake 24 = .ok (.iconst 0, 1) := by decide +kernel
theorem dX9_bake_25 : decode cX9_bake 25 = .ok (.invokestatic 172, 3) := by decide +kernel
theorem dX9_bake_28 : decode cX9_bake 28 = .ok (.istore_n 2, 1) := by decide +kernel
theorem dX9_bake_29 : decode cX9_bake 29 = .ok (.aload_n 0, 1) := by decide +kernel
theorem dX9_bake_30 : decode cX9_bake 30 = .ok (.getfield 112, 3) := by decide +kernel
theorem dX9_bake_33 : decode cX9_bake 33 = .ok (.iload_n 2, 1) := by decide +kernel
theorem dX9_bake_34 : decode cX9_bake 34 = .ok (.laload, 1) := by decide +kernel
theorem dX9_bake_35 : decode cX9_bake 35 = .ok (.ldc2_w 199, 3) := by decide +kernel
theorem dX9_bake_38 : decode cX9_bake 38 = .ok (.lcmp, 1) := by decide +kernel
theorem dX9_bake_39 : decode cX9_bake 39 = .ok (.ifCond .ge 12, 3) := by decide +kernel
theorem dX9_bake_42 : decode cX9_bake 42 = .ok (.aload_n 0, 1) := by decide +kernel
theorem dX9_bake_43 : decode cX9_bake 43 = .ok (.getfield 112, 3) := by decide +kernel
theorem dX9_bake_46 : decode cX9_bake 46 = .ok (.iload_n 2, 1) := by decide +kernel
theorem dX9_bake_47 : decode cX9_bake 47 = .ok (.laload, 1) := by decide +kernel
theorem dX9_bake_48 : decode cX9_bake 48 = .ok (.goto 6, 3) := by decide +kernel
theorem dX9_bake_51 : decode cX9_bake 51 = .ok (.ldc2_w 199, 3) := by decide +kernel
theorem dX9_bake_54 : decode cX9_bake 54 = .ok (.lstore_n 3, 1) := by decide +kernel
theorem dX9_bake_55 : decode cX9_bake 55 = .ok (.lload_n 3, 1) := by decide +kernel
theorem dX9_bake_56 : decode cX9_bake 56 = .ok (.lconst 0, 1) := by decide +kernel
theorem dX9_bake_57 : decode cX9_bake 57 = .ok (.lcmp, 1) := by decide +kernel
theorem dX9_bake_58 : decode cX9_bake 58 = .ok (.ifCond .ge 7, 3) := by decide +kernel
theorem dX9_bake_61 : decode cX9_bake 61 = .ok (.lconst 0, 1) := by decide +kernel
theorem dX9_bake_62 : decode cX9_bake 62 = .ok (.goto 4, 3) := by decide +kernel
theorem dX9_bake_65 : decode cX9_bake 65 = .ok (.lload_n 3, 1) := by decide +kernel
theorem dX9_bake_66 : decode cX9_bake 66 = .ok (.lstore_n 3, 1) := by decide +kernel
theorem dX9_bake_67 : decode cX9_bake 67 = .ok (.aload_n 0, 1) := by decide +kernel
theorem dX9_bake_68 : decode cX9_bake 68 = .ok (.getfield 112, 3) := by decide +kernel
theorem dX9_bake_71 : decode cX9_bake 71 = .ok (.iload_n 2, 1) := by decide +kernel
theorem dX9_bake_72 : decode cX9_bake 72 = .ok (.dup2, 1) := by decide +kernel
theorem dX9_bake_73 : decode cX9_bake 73 = .ok (.laload, 1) := by decide +kernel
theorem dX9_bake_74 : decode cX9_bake 74 = .ok (.lload_n 3, 1) := by decide +kernel
theorem dX9_bake_75 : decode cX9_bake 75 = .ok (.lsub, 1) := by decide +kernel
theorem dX9_bake_76 : decode cX9_bake 76 = .ok (.lastore, 1) := by decide +kernel
theorem dX9_bake_77 : decode cX9_bake 77 = .ok (.aload_n 0, 1) := by decide +kernel
theorem dX9_bake_78 : decode cX9_bake 78 = .ok (.dup, 1) := by decide +kernel
theorem dX9_bake_79 : decode cX9_bake 79 = .ok (.getfield 201, 3) := by decide +kernel
theorem dX9_bake_82 : decode cX9_bake 82 = .ok (.lload_n 3, 1) := by decide +kernel
theorem dX9_bake_83 : decode cX9_bake 83 = .ok (.ladd, 1) := by decide +kernel
theorem dX9_bake_84 : decode cX9_bake 84 = .ok (.putfield 201, 3) := by decide +kernel
theorem dX9_bake_87 : decode cX9_bake 87 = .ok (.iinc 1 1, 3) := by decide +kernel
theorem dX9_bake_90 : decode cX9_bake 90 = .ok (.goto (-88), 3) := by decide +kernel
theorem dX9_bake_93 : decode cX9_bake 93 = .ok (.iconst 0, 1) := by decide +kernel
theorem dX9_bake_94 : decode cX9_bake 94 = .ok (.istore_n 1, 1) := by decide +kernel
theorem dX9_bake_95 : decode cX9_bake 95 = .ok (.iload_n 1, 1) := by decide +kernel
theorem dX9_bake_96 : decode cX9_bake 96 = .ok (.aload_n 0, 1) := by decide +kernel
theorem dX9_bake_97 : decode cX9_bake 97 = .ok (.getfield 193, 3) := by decide +kernel
theorem dX9_bake_100 : decode cX9_bake 100 = .ok (.if_icmp .ge 110, 3) := by decide +kernel
theorem dX9_bake_103 : decode cX9_bake 103 = .ok (.aload_n 0, 1) := by decide +kernel
theorem dX9_bake_104 : decode cX9_bake 104 = .ok (.iload_n 1, 1) := by decide +kernel
theorem dX9_bake_105 : decode cX9_bake 105 = .ok (.invokevirtual 196, 3) := by decide +kernel
theorem dX9_bake_108 : decode cX9_bake 108 = .ok (.ifCond .eq 96, 3) := by decide +kernel
theorem dX9_bake_111 : decode cX9_bake 111 = .ok (.aload_n 0, 1) := by decide +kernel
theorem dX9_bake_112 : decode cX9_bake 112 = .ok (.getfield 67, 3) := by decide +kernel
theorem dX9_bake_115 : decode cX9_bake 115 = .ok (.iload_n 1, 1) := by decide +kernel
theorem dX9_bake_116 : decode cX9_bake 116 = .ok (.dup2, 1) := by decide +kernel
theorem dX9_bake_117 : decode cX9_bake 117 = .ok (.iaload, 1) := by decide +kernel
theorem dX9_bake_118 : decode cX9_bake 118 = .ok (.iconst 1, 1) := by decide +kernel
theorem dX9_bake_119 : decode cX9_bake 119 = .ok (.iadd, 1) := by decide +kernel
theorem dX9_bake_120 : decode cX9_bake 120 = .ok (.iastore, 1) := by decide +kernel
theorem dX9_bake_121 : decode cX9_bake 121 = .ok (.aload_n 0, 1) := by decide +kernel
theorem dX9_bake_122 : decode cX9_bake 122 = .ok (.aload_n 0, 1) := by decide +kernel
theorem dX9_bake_123 : decode cX9_bake 123 = .ok (.getfield 61, 3) := by decide +kernel
theorem dX9_bake_126 : decode cX9_bake 126 = .ok (.iload_n 1, 1) := by decide +kernel
theorem dX9_bake_127 : decode cX9_bake 127 = .ok (.iaload, 1) := by decide +kernel
theorem dX9_bake_128 : decode cX9_bake 128 = .ok (.aload_n 0, 1) := by decide +kernel
theorem dX9_bake_129 : decode cX9_bake 129 = .ok (.getfield 67, 3) := by decide +kernel
theorem dX9_bake_132 : decode cX9_bake 132 = .ok (.iload_n 1, 1) := by decide +kernel
theorem dX9_bake_133 : decode cX9_bake 133 = .ok (.iaload, 1) := by decide +kernel
theorem dX9_bake_134 : decode cX9_bake 134 = .ok (.aload_n 0, 1) := by decide +kernel
theorem dX9_bake_135 : decode cX9_bake 135 = .ok (.aload_n 0, 1) := by decide +kernel
theorem dX9_bake_136 : decode cX9_bake 136 = .ok (.getfield 64, 3) := by decide +kernel
theorem dX9_bake_139 : decode cX9_bake 139 = .ok (.iload_n 1, 1) := by decide +kernel
theorem dX9_bake_140 : decode cX9_bake 140 = .ok (.iaload, 1) := by decide +kernel
theorem dX9_bake_141 : decode cX9_bake 141 = .ok (.invokevirtual 204, 3) := by decide +kernel
theorem dX9_bake_144 : decode cX9_bake 144 = .ok (.invokevirtual 208, 3) := by decide +kernel
theorem dX9_bake_147 : decode cX9_bake 147 = .ok (.istore_n 2, 1) := by decide +kernel
theorem dX9_bake_148 : decode cX9_bake 148 = .ok (.aload_n 0, 1) := by decide +kernel
theorem dX9_bake_149 : decode cX9_bake 149 = .ok (.getfield 70, 3) := by decide +kernel
theorem dX9_bake_152 : decode cX9_bake 152 = .ok (.iload_n 1, 1) := by decide +kernel
theorem dX9_bake_153 : decode cX9_bake 153 = .ok (.dup2, 1) := by decide +kernel
theorem dX9_bake_154 : decode cX9_bake 154 = .ok (.iaload, 1) := by decide +kernel
theorem dX9_bake_155 : decode cX9_bake 155 = .ok (.iload_n 2, 1) := by decide +kernel
theorem dX9_bake_156 : decode cX9_bake 156 = .ok (.iconst 1, 1) := by decide +kernel
theorem dX9_bake_157 : decode cX9_bake 157 = .ok (.if_icmp .ne 7, 3) := by decide +kernel
theorem dX9_bake_160 : decode cX9_bake 160 = .ok (.iconst 1, 1) := by decide +kernel
theorem dX9_bake_161 : decode cX9_bake 161 = .ok (.goto 4, 3) := by decide +kernel
theorem dX9_bake_164 : decode cX9_bake 164 = .ok (.iconst 0, 1) := by decide +kernel
theorem dX9_bake_165 : decode cX9_bake 165 = .ok (.iadd, 1) := by decide +kernel
theorem dX9_bake_166 : decode cX9_bake 166 = .ok (.iastore, 1) := by decide +kernel
theorem dX9_bake_167 : decode cX9_bake 167 = .ok (.aload_n 0, 1) := by decide +kernel
theorem dX9_bake_168 : decode cX9_bake 168 = .ok (.getfield 73, 3) := by decide +kernel
theorem dX9_bake_171 : decode cX9_bake 171 = .ok (.iload_n 1, 1) := by decide +kernel
theorem dX9_bake_172 : decode cX9_bake 172 = .ok (.dup2, 1) := by decide +kernel
theorem dX9_bake_173 : decode cX9_bake 173 = .ok (.iaload, 1) := by decide +kernel
theorem dX9_bake_174 : decode cX9_bake 174 = .ok (.iload_n 2, 1) := by decide +kernel
theorem dX9_bake_175 : decode cX9_bake 175 = .ok (.iconst 2, 1) := by decide +kernel
theorem dX9_bake_176 : decode cX9_bake 176 = .ok (.if_icmp .ne 7, 3) := by decide +kernel
theorem dX9_bake_179 : decode cX9_bake 179 = .ok (.iconst 1, 1) := by decide +kernel
theorem dX9_bake_180 : decode cX9_bake 180 = .ok (.goto 4, 3) := by decide +kernel
theorem dX9_bake_183 : decode cX9_bake 183 = .ok (.iconst 0, 1) := by decide +kernel
theorem dX9_bake_184 : decode cX9_bake 184 = .ok (.iadd, 1) := by decide +kernel
theorem dX9_bake_185 : decode cX9_bake 185 = .ok (.iastore, 1) := by decide +kernel
theorem dX9_bake_186 : decode cX9_bake 186 = .ok (.aload_n 0, 1) := by decide +kernel
theorem dX9_bake_187 : decode cX9_bake 187 = .ok (.getfield 76, 3) := by decide +kernel
theorem dX9_bake_190 : decode cX9_bake 190 = .ok (.iload_n 1, 1) := by decide +kernel
theorem dX9_bake_191 : decode cX9_bake 191 = .ok (.dup2, 1) := by decide +kernel
theorem dX9_bake_192 : decode cX9_bake 192 = .ok (.iaload, 1) := by decide +kernel
theorem dX9_bake_193 : decode cX9_bake 193 = .ok (.iload_n 2, 1) := by decide +kernel
theorem dX9_bake_194 : decode cX9_bake 194 = .ok (.ifCond .ne 7, 3) := by decide +kernel
theorem dX9_bake_197 : decode cX9_bake 197 = .ok (.iconst 1, 1) := by decide +kernel
theorem dX9_bake_198 : decode cX9_bake 198 = .ok (.goto 4, 3) := by decide +kernel
theorem dX9_bake_201 : decode cX9_bake 201 = .ok (.iconst 0, 1) := by decide +kernel
theorem dX9_bake_202 : decode cX9_bake 202 = .ok (.iadd, 1) := by decide +kernel
theorem dX9_bake_203 : decode cX9_bake 203 = .ok (.iastore, 1) := by decide +kernel
theorem dX9_bake_204 : decode cX9_bake 204 = .ok (.iinc 1 1, 3) := by decide +kernel
theorem dX9_bake_207 : decode cX9_bake 207 = .ok (.goto (-112), 3) := by decide +kernel
theorem dX9_bake_210 : decode cX9_bake 210 = .ok (.return_, 1) := by decide +kernel
theorem dX9_sortOf_0 : decode cX9_sortOf 0 = .ok (.aload_n 0, 1) := by decide +kernel
theorem dX9_sortOf_1 : decode cX9_sortOf 1 = .ok (.getfield 52, 3) := by decide +kernel
theorem dX9_sortOf_4 : decode cX9_sortOf 4 = .ok (.iload_n 1, 1) := by decide +kernel
theorem dX9_sortOf_5 : decode cX9_sortOf 5 = .ok (.iaload, 1) := by decide +kernel
theorem dX9_sortOf_6 : decode cX9_sortOf 6 = .ok (.ifCond .le 17, 3) := by decide +kernel
theorem dX9_sortOf_9 : decode cX9_sortOf 9 = .ok (.iload_n 2, 1) := by decide +kernel
theorem dX9_sortOf_10 : decode cX9_sortOf 10 = .ok (.aload_n 0, 1) := by decide +kernel
theorem dX9_sortOf_11 : decode cX9_sortOf 11 = .ok (.getfield 52, 3) := by decide +kernel
theorem dX9_sortOf_14 : decode cX9_sortOf 14 = .ok (.iload_n 1, 1) := by decide +kernel
theorem dX9_sortOf_15 : decode cX9_sortOf 15 = .ok (.iaload, 1) := by decide +kernel
theorem dX9_sortOf_16 : decode cX9_sortOf 16 = .ok (.if_icmp .le 7, 3) := by decide +kernel
theorem dX9_sortOf_19 : decode cX9_sortOf 19 = .ok (.iconst 1, 1) := by decide +kernel
theorem dX9_sortOf_20 : decode cX9_sortOf 20 = .ok (.goto 4, 3) := by decide +kernel
theorem dX9_sortOf_23 : decode cX9_sortOf 23 = .ok (.iconst 0, 1) := by decide +kernel
theorem dX9_sortOf_24 : decode cX9_sortOf 24 = .ok (.istore 5, 2) := by decide +kernel
theorem dX9_sortOf_26 : decode cX9_sortOf 26 = .ok (.iload 5, 2) := by decide +kernel
theorem dX9_sortOf_28 : decode cX9_sortOf 28 = .ok (.ifCond .eq 12, 3) := by decide +kernel
theorem dX9_sortOf_31 : decode cX9_sortOf 31 = .ok (.aload_n 0, 1) := by decide +kernel
theorem dX9_sortOf_32 : decode cX9_sortOf 32 = .ok (.getfield 55, 3) := by decide +kernel
theorem dX9_sortOf_35 : decode cX9_sortOf 35 = .ok (.iload_n 1, 1) := by decide +kernel
theorem dX9_sortOf_36 : decode cX9_sortOf 36 = .ok (.iaload, 1) := by decide +kernel
theorem dX9_sortOf_37 : decode cX9_sortOf 37 = .ok (.goto 9, 3) := by decide +kernel
theorem dX9_sortOf_40 : decode cX9_sortOf 40 = .ok (.aload_n 0, 1) := by decide +kernel
theorem dX9_sortOf_41 : decode cX9_sortOf 41 = .ok (.getfield 43, 3) := by decide +kernel
theorem dX9_sortOf_44 : decode cX9_sortOf 44 = .ok (.iload_n 1, 1) := by decide +kernel
theorem dX9_sortOf_45 : decode cX9_sortOf 45 = .ok (.iaload, 1) := by decide +kernel
theorem dX9_sortOf_46 : decode cX9_sortOf 46 = .ok (.istore 6, 2) := by decide +kernel
theorem dX9_sortOf_48 : decode cX9_sortOf 48 = .ok (.iload 5, 2) := by decide +kernel
theorem dX9_sortOf_50 : decode cX9_sortOf 50 = .ok (.ifCond .eq 12, 3) := by decide +kernel
theorem dX9_sortOf_53 : decode cX9_sortOf 53 = .ok (.aload_n 0, 1) := by decide +kernel
theorem dX9_sortOf_54 : decode cX9_sortOf 54 = .ok (.getfield 58, 3) := by decide +kernel
theorem dX9_sortOf_57 : decode cX9_sortOf 57 = .ok (.iload_n 1, 1) := by decide +kernel
theorem dX9_sortOf_58 : decode cX9_sortOf 58 = .ok (.iaload, 1) := by decide +kernel
theorem dX9_sortOf_59 : decode cX9_sortOf 59 = .ok (.goto 9, 3) := by decide +kernel
theorem dX9_sortOf_62 : decode cX9_sortOf 62 = .ok (.aload_n 0, 1) := by decide +kernel
theorem dX9_sortOf_63 : decode cX9_sortOf 63 = .ok (.getfield 46, 3) := by decide +kernel
theorem dX9_sortOf_66 : decode cX9_sortOf 66 = .ok (.iload_n 1, 1) := by decide +kernel
theorem dX9_sortOf_67 : decode cX9_sortOf 67 = .ok (.iaload, 1) := by decide +kernel
theorem dX9_sortOf_68 : decode cX9_sortOf 68 = .ok (.istore 7, 2) := by decide +kernel
theorem dX9_sortOf_70 : decode cX9_sortOf 70 = .ok (.lload_n 3, 1) := by decide +kernel
theorem dX9_sortOf_71 : decode cX9_sortOf 71 = .ok (.iload 6, 2) := by decide +kernel
theorem dX9_sortOf_73 : decode cX9_sortOf 73 = .ok (.i2l, 1) := by decide +kernel
theorem dX9_sortOf_74 : decode cX9_sortOf 74 = .ok (.lcmp, 1) := by decide +kernel
theorem dX9_sortOf_75 : decode cX9_sortOf 75 = .ok (.ifCond .ge 7, 3) := by decide +kernel
theorem dX9_sortOf_78 : decode cX9_sortOf 78 = .ok (.iconst 0, 1) := by decide +kernel
theorem dX9_sortOf_79 : decode cX9_sortOf 79 = .ok (.goto 16, 3) := by decide +kernel
theorem dX9_sortOf_82 : decode cX9_sortOf 82 = .ok (.lload_n 3, 1) := by decide +kernel
theorem dX9_sortOf_83 : decode cX9_sortOf 83 = .ok (.iload 7, 2) := by decide +kernel
theorem dX9_sortOf_85 : decode cX9_sortOf 85 = .ok (.i2l, 1) := by decide +kernel
theorem dX9_sortOf_86 : decode cX9_sortOf 86 = .ok (.lcmp, 1) := by decide +kernel
theorem dX9_sortOf_87 : decode cX9_sortOf 87 = .ok (.ifCond .le 7, 3) := by decide +kernel
theorem dX9_sortOf_90 : decode cX9_sortOf 90 = .ok (.iconst 2, 1) := by decide +kernel
theorem dX9_sortOf_91 : decode cX9_sortOf 91 = .ok (.goto 4, 3) := by decide +kernel
theorem dX9_sortOf_94 : decode cX9_sortOf 94 = .ok (.iconst 1, 1) := by decide +kernel
theorem dX9_sortOf_95 : decode cX9_sortOf 95 = .ok (.ireturn, 1) := by decide +kernel
theorem dX9_dropLog_0 : decode cX9_dropLog 0 = .ok (.aload_n 0, 1) := by decide +kernel
theorem dX9_dropLog_1 : decode cX9_dropLog 1 = .ok (.dup, 1) := by decide +kernel
theorem dX9_dropLog_2 : decode cX9_dropLog 2 = .ok (.getfield 163, 3) := by decide +kernel
theorem dX9_dropLog_5 : decode cX9_dropLog 5 = .ok (.iconst 1, 1) := by decide +kernel
theorem dX9_dropLog_6 : decode cX9_dropLog 6 = .ok (.isub, 1) := by decide +kernel
theorem dX9_dropLog_7 : decode cX9_dropLog 7 = .ok (.putfield 163, 3) := by decide +kernel
theorem dX9_dropLog_10 : decode cX9_dropLog 10 = .ok (.iconst 0, 1) := by decide +kernel
theorem dX9_dropLog_11 : decode cX9_dropLog 11 = .ok (.istore_n 1, 1) := by decide +kernel
theorem dX9_dropLog_12 : decode cX9_dropLog 12 = .ok (.iload_n 1, 1) := by decide +kernel
theorem dX9_dropLog_13 : decode cX9_dropLog 13 = .ok (.aload_n 0, 1) := by decide +kernel
theorem dX9_dropLog_14 : decode cX9_dropLog 14 = .ok (.getfield 163, 3) := by decide +kernel
theorem dX9_dropLog_17 : decode cX9_dropLog 17 = .ok (.if_icmp .ge 37, 3) := by decide +kernel
theorem dX9_dropLog_20 : decode cX9_dropLog 20 = .ok (.aload_n 0, 1) := by decide +kernel
theorem dX9_dropLog_21 : decode cX9_dropLog 21 = .ok (.getfield 24, 3) := by decide +kernel
theorem dX9_dropLog_24 : decode cX9_dropLog 24 = .ok (.iload_n 1, 1) := by decide +kernel
theorem dX9_dropLog_25 : decode cX9_dropLog 25 = .ok (.aload_n 0, 1) := by decide +kernel
theorem dX9_dropLog_26 : decode cX9_dropLog 26 = .ok (.getfield 24, 3) := by decide +kernel
theorem dX9_dropLog_29 : decode cX9_dropLog 29 = .ok (.iload_n 1, 1) := by decide +kernel
theorem dX9_dropLog_30 : decode cX9_dropLog 30 = .ok (.iconst 1, 1) := by decide +kernel
theorem dX9_dropLog_31 : decode cX9_dropLog 31 = .ok (.iadd, 1) := by decide +kernel
theorem dX9_dropLog_32 : decode cX9_dropLog 32 = .ok (.iaload, 1) := by decide +kernel
theorem dX9_dropLog_33 : decode cX9_dropLog 33 = .ok (.iastore, 1) := by decide +kernel
theorem dX9_dropLog_34 : decode cX9_dropLog 34 = .ok (.aload_n 0, 1) := by decide +kernel
theorem dX9_dropLog_35 : decode cX9_dropLog 35 = .ok (.getfield 27, 3) := by decide +kernel
theorem dX9_dropLog_38 : decode cX9_dropLog 38 = .ok (.iload_n 1, 1) := by decide +kernel
theorem dX9_dropLog_39 : decode cX9_dropLog 39 = .ok (.aload_n 0, 1) := by decide +kernel
theorem dX9_dropLog_40 : decode cX9_dropLog 40 = .ok (.getfield 27, 3) := by decide +kernel
theorem dX9_dropLog_43 : decode cX9_dropLog 43 = .ok (.iload_n 1, 1) := by decide +kernel
theorem dX9_dropLog_44 : decode cX9_dropLog 44 = .ok (.iconst 1, 1) := by decide +kernel
theorem dX9_dropLog_45 : decode cX9_dropLog 45 = .ok (.iadd, 1) := by decide +kernel
theorem dX9_dropLog_46 : decode cX9_dropLog 46 = .ok (.iaload, 1) := by decide +kernel
theorem dX9_dropLog_47 : decode cX9_dropLog 47 = .ok (.iastore, 1) := by decide +kernel
theorem dX9_dropLog_48 : decode cX9_dropLog 48 = .ok (.iinc 1 1, 3) := by decide +kernel
theorem dX9_dropLog_51 : decode cX9_dropLog 51 = .ok (.goto (-39), 3) := by decide +kernel
theorem dX9_dropLog_54 : decode cX9_dropLog 54 = .ok (.return_, 1) := by decide +kernel
theorem dX9_ticks_0 : decode cX9_ticks 0 = .ok (.iload_n 1, 1) := by decide +kernel
theorem dX9_ticks_1 : decode cX9_ticks 1 = .ok (.iconst 1, 1) := by decide +kernel
theorem dX9_ticks_2 : decode cX9_ticks 2 = .ok (.bipush 60, 2) := by decide +kernel
theorem dX9_ticks_4 : decode cX9_ticks 4 = .ok (.invokestatic 148, 3) := by decide +kernel
theorem dX9_ticks_7 : decode cX9_ticks 7 = .ok (.ifCond .ne 6, 3) := by decide +kernel
theorem dX9_ticks_10 : decode cX9_ticks 10 = .ok (.bipush (-2), 2) := by decide +kernel
theorem dX9_ticks_12 : decode cX9_ticks 12 = .ok (.ireturn, 1) := by decide +kernel
theorem dX9_ticks_13 : decode cX9_ticks 13 = .ok (.iconst 0, 1) := by decide +kernel
theorem dX9_ticks_14 : decode cX9_ticks 14 = .ok (.istore_n 2, 1) := by decide +kernel
theorem dX9_ticks_15 : decode cX9_ticks 15 = .ok (.iload_n 2, 1) := by decide +kernel
theorem dX9_ticks_16 : decode cX9_ticks 16 = .ok (.iload_n 1, 1) := by decide +kernel
theorem dX9_ticks_17 : decode cX9_ticks 17 = .ok (.if_icmp .ge 152, 3) := by decide +kernel
theorem dX9_ticks_20 : decode cX9_ticks 20 = .ok (.aload_n 0, 1) := by decide +kernel
theorem dX9_ticks_21 : decode cX9_ticks 21 = .ok (.invokevirtual 212, 3) := by decide +kernel
theorem dX9_ticks_24 : decode cX9_ticks 24 = .ok (.lconst 0, 1) := by decide +kernel
theorem dX9_ticks_25 : decode cX9_ticks 25 = .ok (.lstore_n 3, 1) := by decide +kernel
theorem dX9_ticks_26 : decode cX9_ticks 26 = .ok (.aload_n 0, 1) := by decide +kernel
theorem dX9_ticks_27 : decode cX9_ticks 27 = .ok (.getfield 163, 3) := by decide +kernel
theorem dX9_ticks_30 : decode cX9_ticks 30 = .ok (.ifCond .le 23, 3) := by decide +kernel
theorem dX9_ticks_33 : decode cX9_ticks 33 = .ok (.aload_n 0, 1) := by decide +kernel
theorem dX9_ticks_34 : decode cX9_ticks 34 = .ok (.getfield 24, 3) := by decide +kernel
theorem dX9_ticks_37 : decode cX9_ticks 37 = .ok (.iconst 0, 1) := by decide +kernel
theorem dX9_ticks_38 : decode cX9_ticks 38 = .ok (.iaload, 1) := by decide +kernel
theorem dX9_ticks_39 : decode cX9_ticks 39 = .ok (.aload_n 0, 1) := by decide +kernel
theorem dX9_ticks_40 : decode cX9_ticks 40 = .ok (.getfield 27, 3) := by decide +kernel
theorem dX9_ticks_43 : decode cX9_ticks 43 = .ok (.iconst 0, 1) := by decide +kernel
theorem dX9_ticks_44 : decode cX9_ticks 44 = .ok (.iaload, 1) := by decide +kernel
theorem dX9_ticks_45 : decode cX9_ticks 45 = .ok (.invokestatic 215, 3) := by decide +kernel
theorem dX9_ticks_48 : decode cX9_ticks 48 = .ok (.lstore_n 3, 1) := by decide +kernel
theorem dX9_ticks_49 : decode cX9_ticks 49 = .ok (.aload_n 0, 1) := by decide +kernel
theorem dX9_ticks_50 : decode cX9_ticks 50 = .ok (.invokevirtual 219, 3) := by decide +kernel
theorem dX9_ticks_53 : decode cX9_ticks 53 = .ok (.aload_n 0, 1) := by decide +kernel
theorem dX9_ticks_54 : decode cX9_ticks 54 = .ok (.lload_n 3, 1) := by decide +kernel
theorem dX9_ticks_55 : decode cX9_ticks 55 = .ok (.aload_n 0, 1) := by decide +kernel
theorem dX9_ticks_56 : decode cX9_ticks 56 = .ok (.getfield 222, 3) := by decide +kernel
theorem dX9_ticks_59 : decode cX9_ticks 59 = .ok (.invokevirtual 226, 3) := by decide +kernel
theorem dX9_ticks_62 : decode cX9_ticks 62 = .ok (.aload_n 0, 1) := by decide +kernel
theorem dX9_ticks_63 : decode cX9_ticks 63 = .ok (.invokevirtual 230, 3) := by decide +kernel
theorem dX9_ticks_66 : decode cX9_ticks 66 = .ok (.aload_n 0, 1) := by decide +kernel
theorem dX9_ticks_67 : decode cX9_ticks 67 = .ok (.dup, 1) := by decide +kernel
theorem dX9_ticks_68 : decode cX9_ticks 68 = .ok (.getfield 233, 3) := by decide +kernel
theorem dX9_ticks_71 : decode cX9_ticks 71 = .ok (.lload_n 3, 1) := by decide +kernel
theorem dX9_ticks_72 : decode cX9_ticks 72 = .ok (.ladd, 1) := by decide +kernel
theorem dX9_ticks_73 : decode cX9_ticks 73 = .ok (.putfield 233, 3) := by decide +kernel
theorem dX9_ticks_76 : decode cX9_ticks 76 = .ok (.aload_n 0, 1) := by decide +kernel
theorem dX9_ticks_77 : decode cX9_ticks 77 = .ok (.dup, 1) := by decide +kernel
theorem dX9_ticks_78 : decode cX9_ticks 78 = .ok (.getfield 235, 3) := by decide +kernel
theorem dX9_ticks_81 : decode cX9_ticks 81 = .ok (.aload_n 0, 1) := by decide +kernel
theorem dX9_ticks_82 : decode cX9_ticks 82 = .ok (.getfield 166, 3) := by decide +kernel
theorem dX9_ticks_85 : decode cX9_ticks 85 = .ok (.ladd, 1) := by decide +kernel
theorem dX9_ticks_86 : decode cX9_ticks 86 = .ok (.putfield 235, 3) := by decide +kernel
theorem dX9_ticks_89 : decode cX9_ticks 89 = .ok (.aload_n 0, 1) := by decide +kernel
theorem dX9_ticks_90 : decode cX9_ticks 90 = .ok (.iconst 0, 1) := by decide +kernel
theorem dX9_ticks_91 : decode cX9_ticks 91 = .ok (.putfield 222, 3) := by decide +kernel
theorem dX9_ticks_94 : decode cX9_ticks 94 = .ok (.aload_n 0, 1) := by decide +kernel
theorem dX9_ticks_95 : decode cX9_ticks 95 = .ok (.dup, 1) := by decide +kernel
theorem dX9_ticks_96 : decode cX9_ticks 96 = .ok (.getfield 238, 3) := by decide +kernel
theorem dX9_ticks_99 : decode cX9_ticks 99 = .ok (.iconst 1, 1) := by decide +kernel
theorem dX9_ticks_100 : decode cX9_ticks 100 = .ok (.iadd, 1) := by decide +kernel
theorem dX9_ticks_101 : decode cX9_ticks 101 = .ok (.putfield 238, 3) := by decide +kernel
theorem dX9_ticks_104 : decode cX9_ticks 104 = .ok (.iconst 0, 1) := by decide +kernel
theorem dX9_ticks_105 : decode cX9_ticks 105 = .ok (.istore 5, 2) := by decide +kernel
theorem dX9_ticks_107 : decode cX9_ticks 107 = .ok (.iload 5, 2) := by decide +kernel
theorem dX9_ticks_109 : decode cX9_ticks 109 = .ok (.bipush 12, 2) := by decide +kernel
theorem dX9_ticks_111 : decode cX9_ticks 111 = .ok (.if_icmp .ge 23, 3) := by decide +kernel
theorem dX9_ticks_114 : decode cX9_ticks 114 = .ok (.aload_n 0, 1) := by decide +kernel
theorem dX9_ticks_115 : decode cX9_ticks 115 = .ok (.getfield 13, 3) := by decide +kernel
theorem dX9_ticks_118 : decode cX9_ticks 118 = .ok (.iload 5, 2) := by decide +kernel
theorem dX9_ticks_120 : decode cX9_ticks 120 = .ok (.aload_n 0, 1) := by decide +kernel
theorem dX9_ticks_121 : decode cX9_ticks 121 = .ok (.getfield 112, 3) := by decide +kernel
theorem dX9_ticks_124 : decode cX9_ticks 124 = .ok (.iload 5, 2) := by decide +kernel
theorem dX9_ticks_126 : decode cX9_ticks 126 = .ok (.laload, 1) := by decide +kernel
theorem dX9_ticks_127 : decode cX9_ticks 127 = .ok (.lastore, 1) := by decide +kernel
theorem dX9_ticks_128 : decode cX9_ticks 128 = .ok (.iinc 5 1, 3) := by decide +kernel
theorem dX9_ticks_131 : decode cX9_ticks 131 = .ok (.goto (-24), 3) := by decide +kernel
theorem dX9_ticks_134 : decode cX9_ticks 134 = .ok (.iconst 0, 1) := by decide +kernel
theorem dX9_ticks_135 : decode cX9_ticks 135 = .ok (.istore 5, 2) := by decide +kernel
theorem dX9_ticks_137 : decode cX9_ticks 137 = .ok (.iload 5, 2) := by decide +kernel
theorem dX9_ticks_139 : decode cX9_ticks 139 = .ok (.iconst 4, 1) := by decide +kernel
theorem dX9_ticks_140 : decode cX9_ticks 140 = .ok (.if_icmp .ge 23, 3) := by decide +kernel
theorem dX9_ticks_143 : decode cX9_ticks 143 = .ok (.aload_n 0, 1) := by decide +kernel
theorem dX9_ticks_144 : decode cX9_ticks 144 = .ok (.getfield 17, 3) := by decide +kernel
theorem dX9_ticks_147 : decode cX9_ticks 147 = .ok (.iload 5, 2) := by decide +kernel
theorem dX9_ticks_149 : decode cX9_ticks 149 = .ok (.aload_n 0, 1) := by decide +kernel
theorem dX9_ticks_150 : decode cX9_ticks 150 = .ok (.getfield 118, 3) := by decide +kernel
theorem dX9_ticks_153 : decode cX9_ticks 153 = .ok (.iload 5, 2) := by decide +kernel
theorem dX9_ticks_155 : decode cX9_ticks 155 = .ok (.iaload, 1) := by decide +kernel
theorem dX9_ticks_156 : decode cX9_ticks 156 = .ok (.iastore, 1) := by decide +kernel
theorem dX9_ticks_157 : decode cX9_ticks 157 = .ok (.iinc 5 1, 3) := by decide +kernel
theorem dX9_ticks_160 : decode cX9_ticks 160 = .ok (.goto (-23), 3) := by decide +kernel
theorem dX9_ticks_163 : decode cX9_ticks 163 = .ok (.iinc 2 1, 3) := by decide +kernel
theorem dX9_ticks_166 : decode cX9_ticks 166 = .ok (.goto (-151), 3) := by decide +kernel
theorem dX9_ticks_169 : decode cX9_ticks 169 = .ok (.aload_n 0, 1) := by decide +kernel
theorem dX9_ticks_170 : decode cX9_ticks 170 = .ok (.getfield 163, 3) := by decide +kernel
theorem dX9_ticks_173 : decode cX9_ticks 173 = .ok (.ireturn, 1) := by decide +kernel
theorem dX9_heat_0 : decode cX9_heat 0 = .ok (.iload_n 1, 1) := by decide +kernel
theorem dX9_heat_1 : decode cX9_heat 1 = .ok (.invokestatic 152, 3) := by decide +kernel
theorem dX9_heat_4 : decode cX9_heat 4 = .ok (.ifCond .eq 21, 3) := by decide +kernel
theorem dX9_heat_7 : decode cX9_heat 7 = .ok (.iload_n 2, 1) := by decide +kernel
theorem dX9_heat_8 : decode cX9_heat 8 = .ok (.iconst 0, 1) := by decide +kernel
theorem dX9_heat_9 : decode cX9_heat 9 = .ok (.iconst 2, 1) := by decide +kernel
theorem dX9_heat_10 : decode cX9_heat 10 = .ok (.invokestatic 148, 3) := by decide +kernel
theorem dX9_heat_13 : decode cX9_heat 13 = .ok (.ifCond .eq 12, 3) := by decide +kernel
theorem dX9_heat_16 : decode cX9_heat 16 = .ok (.iload_n 3, 1) := by decide +kernel
theorem dX9_heat_17 : decode cX9_heat 17 = .ok (.iconst 0, 1) := by decide +kernel
theorem dX9_heat_18 : decode cX9_heat 18 = .ok (.iconst 1, 1) := by decide +kernel
theorem dX9_heat_19 : decode cX9_heat 19 = .ok (.invokestatic 148, 3) := by decide +kernel
theorem dX9_heat_22 : decode cX9_heat 22 = .ok (.ifCond .ne 7, 3) := by decide +kernel
theorem dX9_heat_25 : decode cX9_heat 25 = .ok (.ldc2_w 241, 3) := by decide +kernel
theorem dX9_heat_28 : decode cX9_heat 28 = .ok (.lreturn, 1) := by decide +kernel
theorem dX9_heat_29 : decode cX9_heat 29 = .ok (.aload_n 0, 1) := by decide +kernel
theorem dX9_heat_30 : decode cX9_heat 30 = .ok (.getfield 13, 3) := by decide +kernel
theorem dX9_heat_33 : decode cX9_heat 33 = .ok (.iload_n 1, 1) := by decide +kernel
theorem dX9_heat_34 : decode cX9_heat 34 = .ok (.iload_n 2, 1) := by decide +kernel
theorem dX9_heat_35 : decode cX9_heat 35 = .ok (.invokestatic 172, 3) := by decide +kernel
theorem dX9_heat_38 : decode cX9_heat 38 = .ok (.laload, 1) := by decide +kernel
theorem dX9_heat_39 : decode cX9_heat 39 = .ok (.lstore 4, 2) := by decide +kernel
theorem dX9_heat_41 : decode cX9_heat 41 = .ok (.iload_n 3, 1) := by decide +kernel
theorem dX9_heat_42 : decode cX9_heat 42 = .ok (.ifCond .ne 8, 3) := by decide +kernel
theorem dX9_heat_45 : decode cX9_heat 45 = .ok (.lload 4, 2) := by decide +kernel
theorem dX9_heat_47 : decode cX9_heat 47 = .ok (.goto 11, 3) := by decide +kernel
theorem dX9_heat_50 : decode cX9_heat 50 = .ok (.lload 4, 2) := by decide +kernel
theorem dX9_heat_52 : decode cX9_heat 52 = .ok (.iload_n 2, 1) := by decide +kernel
theorem dX9_heat_53 : decode cX9_heat 53 = .ok (.invokestatic 144, 3) := by decide +kernel
theorem dX9_heat_56 : decode cX9_heat 56 = .ok (.i2l, 1) := by decide +kernel
theorem dX9_heat_57 : decode cX9_heat 57 = .ok (.ldiv, 1) := by decide +kernel
theorem dX9_heat_58 : decode cX9_heat 58 = .ok (.lreturn, 1) := by decide +kernel
theorem dX9_sum_0 : decode cX9_sum 0 = .ok (.lconst 0, 1) := by decide +kernel
theorem dX9_sum_1 : decode cX9_sum 1 = .ok (.lstore_n 2, 1) := by decide +kernel
theorem dX9_sum_2 : decode cX9_sum 2 = .ok (.iload_n 1, 1) := by decide +kernel
theorem dX9_sum_3 : decode cX9_sum 3 = .ok (.tableswitch 80 0 4 #[33, 38, 66, 71, 76], 33) := by decide +kernel
theorem dX9_sum_36 : decode cX9_sum 36 = .ok (.aload_n 0, 1) := by decide +kernel
theorem dX9_sum_37 : decode cX9_sum 37 = .ok (.getfield 233, 3) := by decide +kernel
theorem dX9_sum_40 : decode cX9_sum 40 = .ok (.lreturn, 1) := by decide +kernel
theorem dX9_sum_41 : decode cX9_sum 41 = .ok (.iconst 0, 1) := by decide +kernel
theorem dX9_sum_42 : decode cX9_sum 42 = .ok (.istore 4, 2) := by decide +kernel
theorem dX9_sum_44 : decode cX9_sum 44 = .ok (.iload 4, 2) := by decide +kernel
theorem dX9_sum_46 : decode cX9_sum 46 = .ok (.bipush 12, 2) := by decide +kernel
theorem dX9_sum_48 : decode cX9_sum 48 = .ok (.if_icmp .ge 19, 3) := by decide +kernel
theorem dX9_sum_51 : decode cX9_sum 51 = .ok (.lload_n 2, 1) := by decide +kernel
theorem dX9_sum_52 : decode cX9_sum 52 = .ok (.aload_n 0, 1) := by decide +kernel
theorem dX9_sum_53 : decode cX9_sum 53 = .ok (.getfield 13, 3) := by decide +kernel
theorem dX9_sum_56 : decode cX9_sum 56 = .ok (.iload 4, 2) := by decide +kernel
theorem dX9_sum_58 : decode cX9_sum 58 = .ok (.laload, 1) := by decide +kernel
theorem dX9_sum_59 : decode cX9_sum 59 = .ok (.ladd, 1) := by decide +kernel
theorem dX9_sum_60 : decode cX9_sum 60 = .ok (.lstore_n 2, 1) := by decide +kernel
theorem dX9_sum_61 : decode cX9_sum 61 = .ok (.iinc 4 1, 3) := by decide +kernel
theorem dX9_sum_64 : decode cX9_sum 64 = .ok (.goto (-20), 3) := by decide +kernel
theorem dX9_sum_67 : decode cX9_sum 67 = .ok (.lload_n 2, 1) := by decide +kernel
theorem dX9_sum_68 : decode cX9_sum 68 = .ok (.lreturn, 1) := by decide +kernel
theorem dX9_sum_69 : decode cX9_sum 69 = .ok (.aload_n 0, 1) := by decide +kernel
theorem dX9_sum_70 : decode cX9_sum 70 = .ok (.getfield 235, 3) := by decide +kernel
theorem dX9_sum_73 : decode cX9_sum 73 = .ok (.lreturn, 1) := by decide +kernel
theorem dX9_sum_74 : decode cX9_sum 74 = .ok (.aload_n 0, 1) := by decide +kernel
theorem dX9_sum_75 : decode cX9_sum 75 = .ok (.getfield 201, 3) := by decide +kernel
theorem dX9_sum_78 : decode cX9_sum 78 = .ok (.lreturn, 1) := by decide +kernel
theorem dX9_sum_79 : decode cX9_sum 79 = .ok (.ldc2_w 243, 3) := by decide +kernel
theorem dX9_sum_82 : decode cX9_sum 82 = .ok (.lreturn, 1) := by decide +kernel
theorem dX9_sum_83 : decode cX9_sum 83 = .ok (.ldc2_w 241, 3) := by decide +kernel
theorem dX9_sum_86 : decode cX9_sum 86 = .ok (.lreturn, 1) := by decide +kernel
theorem dX9_isSpan_0 : decode cX9_isSpan 0 = .ok (.iload_n 0, 1) := by decide +kernel
theorem dX9_isSpan_1 : decode cX9_isSpan 1 = .ok (.iconst 0, 1) := by decide +kernel
theorem dX9_isSpan_2 : decode cX9_isSpan 2 = .ok (.sipush 2000, 3) := by decide +kernel
theorem dX9_isSpan_5 : decode cX9_isSpan 5 = .ok (.invokestatic 148, 3) := by decide +kernel
theorem dX9_isSpan_8 : decode cX9_isSpan 8 = .ok (.ifCond .eq 18, 3) := by decide +kernel
theorem dX9_isSpan_11 : decode cX9_isSpan 11 = .ok (.iload_n 1, 1) := by decide +kernel
theorem dX9_isSpan_12 : decode cX9_isSpan 12 = .ok (.iload_n 0, 1) := by decide +kernel
theorem dX9_isSpan_13 : decode cX9_isSpan 13 = .ok (.sipush 2000, 3) := by decide +kernel
theorem dX9_isSpan_16 : decode cX9_isSpan 16 = .ok (.invokestatic 148, 3) := by decide +kernel
theorem dX9_isSpan_19 : decode cX9_isSpan 19 = .ok (.ifCond .eq 7, 3) := by decide +kernel
theorem dX9_isSpan_22 : decode cX9_isSpan 22 = .ok (.iconst 1, 1) := by decide +kernel
theorem dX9_isSpan_23 : decode cX9_isSpan 23 = .ok (.goto 4, 3) := by decide +kernel
theorem dX9_isSpan_26 : decode cX9_isSpan 26 = .ok (.iconst 0, 1) := by decide +kernel
theorem dX9_isSpan_27 : decode cX9_isSpan 27 = .ok (.ireturn, 1) := by decide +kernel
theorem dX9_isKind_0 : decode cX9_isKind 0 = .ok (.iload_n 1, 1) := by decide +kernel
theorem dX9_isKind_1 : decode cX9_isKind 1 = .ok (.iconst 0, 1) := by decide +kernel
theorem dX9_isKind_2 : decode cX9_isKind 2 = .ok (.aload_n 0, 1) := by decide +kernel
theorem dX9_isKind_3 : decode cX9_isKind 3 = .ok (.getfield 245, 3) := by decide +kernel
theorem dX9_isKind_6 : decode cX9_isKind 6 = .ok (.iconst 1, 1) := by decide +kernel
theorem dX9_isKind_7 : decode cX9_isKind 7 = .ok (.isub, 1) := by decide +kernel
theorem dX9_isKind_8 : decode cX9_isKind 8 = .ok (.invokestatic 148, 3) := by decide +kernel
theorem dX9_isKind_11 : decode cX9_isKind 11 = .ok (.ireturn, 1) := by decide +kernel
theorem dX9_isLoaf_0 : decode cX9_isLoaf 0 = .ok (.iload_n 1, 1) := by decide +kernel
theorem dX9_isLoaf_1 : decode cX9_isLoaf 1 = .ok (.iconst 0, 1) := by decide +kernel
theorem dX9_isLoaf_2 : decode cX9_isLoaf 2 = .ok (.aload_n 0, 1) := by decide +kernel
theorem dX9_isLoaf_3 : decode cX9_isLoaf 3 = .ok (.getfield 193, 3) := by decide +kernel
theorem dX9_isLoaf_6 : decode cX9_isLoaf 6 = .ok (.iconst 1, 1) := by decide +kernel
theorem dX9_isLoaf_7 : decode cX9_isLoaf 7 = .ok (.isub, 1) := by decide +kernel
theorem dX9_isLoaf_8 : decode cX9_isLoaf 8 = .ok (.invokestatic 148, 3) := by decide +kernel
theorem dX9_isLoaf_11 : decode cX9_isLoaf 11 = .ok (.ireturn, 1) := by decide +kernel
theorem dX9_kind_0 : decode cX9_kind 0 = .ok (.iload_n 1, 1) := by decide +kernel
theorem dX9_kind_1 : decode cX9_kind 1 = .ok (.iconst 1, 1) := by decide +kernel
theorem dX9_kind_2 : decode cX9_kind 2 = .ok (.iconst 3, 1) := by decide +kernel
theorem dX9_kind_3 : decode cX9_kind 3 = .ok (.invokestatic 148, 3) := by decide +kernel
theorem dX9_kind_6 : decode cX9_kind 6 = .ok (.ifCond .eq 54, 3) := by decide +kernel
theorem dX9_kind_9 : decode cX9_kind 9 = .ok (.iload_n 2, 1) := by decide +kernel
theorem dX9_kind_10 : decode cX9_kind 10 = .ok (.ifCond .eq 8, 3) := by decide +kernel
theorem dX9_kind_13 : decode cX9_kind 13 = .ok (.iload_n 1, 1) := by decide +kernel
theorem dX9_kind_14 : decode cX9_kind 14 = .ok (.iconst 1, 1) := by decide +kernel
theorem dX9_kind_15 : decode cX9_kind 15 = .ok (.if_icmp .eq 45, 3) := by decide +kernel
theorem dX9_kind_18 : decode cX9_kind 18 = .ok (.iload_n 3, 1) := by decide +kernel
theorem dX9_kind_19 : decode cX9_kind 19 = .ok (.iconst 1, 1) := by decide +kernel
theorem dX9_kind_20 : decode cX9_kind 20 = .ok (.bipush 30, 2) := by decide +kernel
theorem dX9_kind_22 : decode cX9_kind 22 = .ok (.invokestatic 148, 3) := by decide +kernel
theorem dX9_kind_25 : decode cX9_kind 25 = .ok (.ifCond .eq 35, 3) := by decide +kernel
theorem dX9_kind_28 : decode cX9_kind 28 = .ok (.iload 4, 2) := by decide +kernel
theorem dX9_kind_30 : decode cX9_kind 30 = .ok (.iload_n 3, 1) := by decide +kernel
theorem dX9_kind_31 : decode cX9_kind 31 = .ok (.bipush 60, 2) := by decide +kernel
theorem dX9_kind_33 : decode cX9_kind 33 = .ok (.invokestatic 148, 3) := by decide +kernel
theorem dX9_kind_36 : decode cX9_kind 36 = .ok (.ifCond .eq 24, 3) := by decide +kernel
theorem dX9_kind_39 : decode cX9_kind 39 = .ok (.iload 5, 2) := by decide +kernel
theorem dX9_kind_41 : decode cX9_kind 41 = .ok (.iload 6, 2) := by decide +kernel
theorem dX9_kind_43 : decode cX9_kind 43 = .ok (.invokestatic 248, 3) := by decide +kernel
theorem dX9_kind_46 : decode cX9_kind 46 = .ok (.ifCond .eq 14, 3) := by decide +kernel
theorem dX9_kind_49 : decode cX9_kind 49 = .ok (.iload 7, 2) := by decide +kernel
theorem dX9_kind_51 : decode cX9_kind 51 = .ok (.iconst 0, 1) := by decide +kernel
theorem dX9_kind_52 : decode cX9_kind 52 = .ok (.bipush 9, 2) := by decide +kernel
theorem dX9_kind_54 : decode cX9_kind 54 = .ok (.invokestatic 148, 3) := by decide +kernel
theorem dX9_kind_57 : decode cX9_kind 57 = .ok (.ifCond .ne 6, 3) := by decide +kernel
theorem dX9_kind_60 : decode cX9_kind 60 = .ok (.bipush (-2), 2) := by decide +kernel
theorem dX9_kind_62 : decode cX9_kind 62 = .ok (.ireturn, 1) := by decide +kernel
theorem dX9_kind_63 : decode cX9_kind 63 = .ok (.aload_n 0, 1) := by decide +kernel
theorem dX9_kind_64 : decode cX9_kind 64 = .ok (.getfield 245, 3) := by decide +kernel
theorem dX9_kind_67 : decode cX9_kind 67 = .ok (.bipush 8, 2) := by decide +kernel
theorem dX9_kind_69 : decode cX9_kind 69 = .ok (.if_icmp .ne 6, 3) := by decide +kernel
theorem dX9_kind_72 : decode cX9_kind 72 = .ok (.bipush (-4), 2) := by decide +kernel
theorem dX9_kind_74 : decode cX9_kind 74 = .ok (.ireturn, 1) := by decide +kernel
theorem dX9_kind_75 : decode cX9_kind 75 = .ok (.aload_n 0, 1) := by decide +kernel
theorem dX9_kind_76 : decode cX9_kind 76 = .ok (.getfield 30, 3) := by decide +kernel
theorem dX9_kind_79 : decode cX9_kind 79 = .ok (.aload_n 0, 1) := by decide +kernel
theorem dX9_kind_80 : decode cX9_kind 80 = .ok (.getfield 245, 3) := by decide +kernel
theorem dX9_kind_83 : decode cX9_kind 83 = .ok (.iload_n 1, 1) := by decide +kernel
theorem dX9_kind_84 : decode cX9_kind 84 = .ok (.iastore, 1) := by decide +kernel
theorem dX9_kind_85 : decode cX9_kind 85 = .ok (.aload_n 0, 1) := by decide +kernel
theorem dX9_kind_86 : decode cX9_kind 86 = .ok (.getfield 33, 3) := by decide +kernel
theorem dX9_kind_89 : decode cX9_kind 89 = .ok (.aload_n 0, 1) := by decide +kernel
theorem dX9_kind_90 : decode cX9_kind 90 = .ok (.getfield 245, 3) := by decide +kernel
theorem dX9_kind_93 : decode cX9_kind 93 = .ok (.iload_n 2, 1) := by decide +kernel
theorem dX9_kind_94 : decode cX9_kind 94 = .ok (.bastore, 1) := by decide +kernel
theorem dX9_kind_95 : decode cX9_kind 95 = .ok (.aload_n 0, 1) := by decide +kernel
theorem dX9_kind_96 : decode cX9_kind 96 = .ok (.getfield 37, 3) := by decide +kernel
theorem dX9_kind_99 : decode cX9_kind 99 = .ok (.aload_n 0, 1) := by decide +kernel
theorem dX9_kind_100 : decode cX9_kind 100 = .ok (.getfield 245, 3) := by decide +kernel
theorem dX9_kind_103 : decode cX9_kind 103 = .ok (.iload_n 3, 1) := by decide +kernel
theorem dX9_kind_104 : decode cX9_kind 104 = .ok (.iastore, 1) := by decide +kernel
theorem dX9_kind_105 : decode cX9_kind 105 = .ok (.aload_n 0, 1) := by decide +kernel
theorem dX9_kind_106 : decode cX9_kind 106 = .ok (.getfield 40, 3) := by decide +kernel
theorem dX9_kind_109 : decode cX9_kind 109 = .ok (.aload_n 0, 1) := by decide +kernel
theorem dX9_kind_110 : decode cX9_kind 110 = .ok (.getfield 245, 3) := by decide +kernel
theorem dX9_kind_113 : decode cX9_kind 113 = .ok (.iload 4, 2) := by decide +kernel
theorem dX9_kind_115 : decode cX9_kind 115 = .ok (.iastore, 1) := by decide +kernel
theorem dX9_kind_116 : decode cX9_kind 116 = .ok (.aload_n 0, 1) := by decide +kernel
theorem dX9_kind_117 : decode cX9_kind 117 = .ok (.getfield 43, 3) := by decide +kernel
theorem dX9_kind_120 : decode cX9_kind 120 = .ok (.aload_n 0, 1) := by decide +kernel
theorem dX9_kind_121 : decode cX9_kind 121 = .ok (.getfield 245, 3) := by decide +kernel
theorem dX9_kind_124 : decode cX9_kind 124 = .ok (.iload 5, 2) := by decide +kernel
theorem dX9_kind_126 : decode cX9_kind 126 = .ok (.iastore, 1) := by decide +kernel
theorem dX9_kind_127 : decode cX9_kind 127 = .ok (.aload_n 0, 1) := by decide +kernel
theorem dX9_kind_128 : decode cX9_kind 128 = .ok (.getfield 46, 3) := by decide +kernel
theorem dX9_kind_131 : decode cX9_kind 131 = .ok (.aload_n 0, 1) := by decide +kernel
theorem dX9_kind_132 : decode cX9_kind 132 = .ok (.getfield 245, 3) := by decide +kernel
theorem dX9_kind_135 : decode cX9_kind 135 = .ok (.iload 6, 2) := by decide +kernel
theorem dX9_kind_137 : decode cX9_kind 137 = .ok (.iastore, 1) := by decide +kernel
theorem dX9_kind_138 : decode cX9_kind 138 = .ok (.aload_n 0, 1) := by decide +kernel
theorem dX9_kind_139 : decode cX9_kind 139 = .ok (.getfield 49, 3) := by decide +kernel
theorem dX9_kind_142 : decode cX9_kind 142 = .ok (.aload_n 0, 1) := by decide +kernel
theorem dX9_kind_143 : decode cX9_kind 143 = .ok (.getfield 245, 3) := by decide +kernel
theorem dX9_kind_146 : decode cX9_kind 146 = .ok (.iload 7, 2) := by decide +kernel
theorem dX9_kind_148 : decode cX9_kind 148 = .ok (.iastore, 1) := by decide +kernel
theorem dX9_kind_149 : decode cX9_kind 149 = .ok (.aload_n 0, 1) := by decide +kernel
theorem dX9_kind_150 : decode cX9_kind 150 = .ok (.dup, 1) := by decide +kernel
theorem dX9_kind_151 : decode cX9_kind 151 = .ok (.getfield 245, 3) := by decide +kernel
theorem dX9_kind_154 : decode cX9_kind 154 = .ok (.iconst 1, 1) := by decide +kernel
theorem dX9_kind_155 : decode cX9_kind 155 = .ok (.iadd, 1) := by decide +kernel
theorem dX9_kind_156 : decode cX9_kind 156 = .ok (.putfield 245, 3) := by decide +kernel
theorem dX9_kind_159 : decode cX9_kind 159 = .ok (.aload_n 0, 1) := by decide +kernel
theorem dX9_kind_160 : decode cX9_kind 160 = .ok (.getfield 245, 3) := by decide +kernel
theorem dX9_kind_163 : decode cX9_kind 163 = .ok (.iconst 1, 1) := by decide +kernel
theorem dX9_kind_164 : decode cX9_kind 164 = .ok (.isub, 1) := by decide +kernel
theorem dX9_kind_165 : decode cX9_kind 165 = .ok (.ireturn, 1) := by decide +kernel
theorem dX9_second_0 : decode cX9_second 0 = .ok (.aload_n 0, 1) := by decide +kernel
theorem dX9_second_1 : decode cX9_second 1 = .ok (.iload_n 1, 1) := by decide +kernel
theorem dX9_second_2 : decode cX9_second 2 = .ok (.invokevirtual 251, 3) := by decide +kernel
theorem dX9_second_5 : decode cX9_second 5 = .ok (.ifCond .eq 22, 3) := by decide +kernel
theorem dX9_second_8 : decode cX9_second 8 = .ok (.iload_n 2, 1) := by decide +kernel
theorem dX9_second_9 : decode cX9_second 9 = .ok (.iconst 1, 1) := by decide +kernel
theorem dX9_second_10 : decode cX9_second 10 = .ok (.bipush 30, 2) := by decide +kernel
theorem dX9_second_12 : decode cX9_second 12 = .ok (.invokestatic 148, 3) := by decide +kernel
theorem dX9_second_15 : decode cX9_second 15 = .ok (.ifCond .eq 12, 3) := by decide +kernel
theorem dX9_second_18 : decode cX9_second 18 = .ok (.iload_n 3, 1) := by decide +kernel
theorem dX9_second_19 : decode cX9_second 19 = .ok (.iload 4, 2) := by decide +kernel
theorem dX9_second_21 : decode cX9_second 21 = .ok (.invokestatic 248, 3) := by decide +kernel
theorem dX9_second_24 : decode cX9_second 24 = .ok (.ifCond .ne 6, 3) := by decide +kernel
theorem dX9_second_27 : decode cX9_second 27 = .ok (.bipush (-2), 2) := by decide +kernel
theorem dX9_second_29 : decode cX9_second 29 = .ok (.ireturn, 1) := by decide +kernel
theorem dX9_second_30 : decode cX9_second 30 = .ok (.iconst 0, 1) := by decide +kernel
theorem dX9_second_31 : decode cX9_second 31 = .ok (.istore 5, 2) := by decide +kernel
theorem dX9_second_33 : decode cX9_second 33 = .ok (.iconst 0, 1) := by decide +kernel
theorem dX9_second_34 : decode cX9_second 34 = .ok (.istore 6, 2) := by decide +kernel
theorem dX9_second_36 : decode cX9_second 36 = .ok (.iload 6, 2) := by decide +kernel
theorem dX9_second_38 : decode cX9_second 38 = .ok (.aload_n 0, 1) := by decide +kernel
theorem dX9_second_39 : decode cX9_second 39 = .ok (.getfield 193, 3) := by decide +kernel
theorem dX9_second_42 : decode cX9_second 42 = .ok (.if_icmp .ge 41, 3) := by decide +kernel
theorem dX9_second_45 : decode cX9_second 45 = .ok (.iload 5, 2) := by decide +kernel
theorem dX9_second_47 : decode cX9_second 47 = .ok (.ifCond .ne 23, 3) := by decide +kernel
theorem dX9_second_50 : decode cX9_second 50 = .ok (.aload_n 0, 1) := by decide +kernel
theorem dX9_second_51 : decode cX9_second 51 = .ok (.iload 6, 2) := by decide +kernel
theorem dX9_second_53 : decode cX9_second 53 = .ok (.invokevirtual 196, 3) := by decide +kernel
theorem dX9_second_56 : decode cX9_second 56 = .ok (.ifCond .eq 18, 3) := by decide +kernel
theorem dX9_second_59 : decode cX9_second 59 = .ok (.aload_n 0, 1) := by decide +kernel
theorem dX9_second_60 : decode cX9_second 60 = .ok (.getfield 61, 3) := by decide +kernel
theorem dX9_second_63 : decode cX9_second 63 = .ok (.iload 6, 2) := by decide +kernel
theorem dX9_second_65 : decode cX9_second 65 = .ok (.iaload, 1) := by decide +kernel
theorem dX9_second_66 : decode cX9_second 66 = .ok (.iload_n 1, 1) := by decide +kernel
theorem dX9_second_67 : decode cX9_second 67 = .ok (.if_icmp .ne 7, 3) := by decide +kernel
theorem dX9_second_70 : decode cX9_second 70 = .ok (.iconst 1, 1) := by decide +kernel
theorem dX9_second_71 : decode cX9_second 71 = .ok (.goto 4, 3) := by decide +kernel
theorem dX9_second_74 : decode cX9_second 74 = .ok (.iconst 0, 1) := by decide +kernel
theorem dX9_second_75 : decode cX9_second 75 = .ok (.istore 5, 2) := by decide +kernel
theorem dX9_second_77 : decode cX9_second 77 = .ok (.iinc 6 1, 3) := by decide +kernel
theorem dX9_second_80 : decode cX9_second 80 = .ok (.goto (-44), 3) := by decide +kernel
theorem dX9_second_83 : decode cX9_second 83 = .ok (.aload_n 0, 1) := by decide +kernel
theorem dX9_second_84 : decode cX9_second 84 = .ok (.getfield 52, 3) := by decide +kernel
theorem dX9_second_87 : decode cX9_second 87 = .ok (.iload_n 1, 1) := by decide +kernel
theorem dX9_second_88 : decode cX9_second 88 = .ok (.iaload, 1) := by decide +kernel
theorem dX9_second_89 : decode cX9_second 89 = .ok (.ifCond .gt 8, 3) := by decide +kernel
theorem dX9_second_92 : decode cX9_second 92 = .ok (.iload 5, 2) := by decide +kernel
theorem dX9_second_94 : decode cX9_second 94 = .ok (.ifCond .eq 6, 3) := by decide +kernel
theorem dX9_second_97 : decode cX9_second 97 = .ok (.bipush (-3), 2) := by decide +kernel
theorem dX9_second_99 : decode cX9_second 99 = .ok (.ireturn, 1) := by decide +kernel
theorem dX9_second_100 : decode cX9_second 100 = .ok (.aload_n 0, 1) := by decide +kernel
theorem dX9_second_101 : decode cX9_second 101 = .ok (.getfield 52, 3) := by decide +kernel
theorem dX9_second_104 : decode cX9_second 104 = .ok (.iload_n 1, 1) := by decide +kernel
theorem dX9_second_105 : decode cX9_second 105 = .ok (.iload_n 2, 1) := by decide +kernel
theorem dX9_second_106 : decode cX9_second 106 = .ok (.iastore, 1) := by decide +kernel
theorem dX9_second_107 : decode cX9_second 107 = .ok (.aload_n 0, 1) := by decide +kernel
theorem dX9_second_108 : decode cX9_second 108 = .ok (.getfield 55, 3) := by decide +kernel
theorem dX9_second_111 : decode cX9_second 111 = .ok (.iload_n 1, 1) := by decide +kernel
theorem dX9_second_112 : decode cX9_second 112 = .ok (.iload_n 3, 1) := by decide +kernel
theorem dX9_second_113 : decode cX9_second 113 = .ok (.iastore, 1) := by decide +kernel
theorem dX9_second_114 : decode cX9_second 114 = .ok (.aload_n 0, 1) := by decide +kernel
theorem dX9_second_115 : decode cX9_second 115 = .ok (.getfield 58, 3) := by decide +kernel
theorem dX9_second_118 : decode cX9_second 118 = .ok (.iload_n 1, 1) := by decide +kernel
theorem dX9_second_119 : decode cX9_second 119 = .ok (.iload 4, 2) := by decide +kernel
theorem dX9_second_121 : decode cX9_second 121 = .ok (.iastore, 1) := by decide +kernel
theorem dX9_second_122 : decode cX9_second 122 = .ok (.iconst 1, 1) := by decide +kernel
theorem dX9_second_123 : decode cX9_second 123 = .ok (.ireturn, 1) := by decide +kernel
theorem dX9_countNone_0 : decode cX9_countNone 0 = .ok (.aload_n 0, 1) := by decide +kernel
theorem dX9_countNone_1 : decode cX9_countNone 1 = .ok (.iconst 0, 1) := by decide +kernel
theorem dX9_countNone_2 : decode cX9_countNone 2 = .ok (.putfield 254, 3) := by decide +kernel
theorem dX9_countNone_5 : decode cX9_countNone 5 = .ok (.aload_n 0, 1) := by decide +kernel
theorem dX9_countNone_6 : decode cX9_countNone 6 = .ok (.iconst 0, 1) := by decide +kernel
theorem dX9_countNone_7 : decode cX9_countNone 7 = .ok (.putfield 257, 3) := by decide +kernel
theorem dX9_countNone_10 : decode cX9_countNone 10 = .ok (.aload_n 0, 1) := by decide +kernel
theorem dX9_countNone_11 : decode cX9_countNone 11 = .ok (.iconst 0, 1) := by decide +kernel
theorem dX9_countNone_12 : decode cX9_countNone 12 = .ok (.putfield 260, 3) := by decide +kernel
theorem dX9_countNone_15 : decode cX9_countNone 15 = .ok (.return_, 1) := by decide +kernel
theorem dX9_countKind_0 : decode cX9_countKind 0 = .ok (.aload_n 0, 1) := by decide +kernel
theorem dX9_countKind_1 : decode cX9_countKind 1 = .ok (.dup, 1) := by decide +kernel
theorem dX9_countKind_2 : decode cX9_countKind 2 = .ok (.getfield 254, 3) := by decide +kernel
theorem dX9_countKind_5 : decode cX9_countKind 5 = .ok (.aload_n 0, 1) := by decide +kernel
theorem dX9_countKind_6 : decode cX9_countKind 6 = .ok (.getfield 30, 3) := by decide +kernel
theorem dX9_countKind_9 : decode cX9_countKind 9 = .ok (.iload_n 1, 1) := by decide +kernel
theorem dX9_countKind_10 : decode cX9_countKind 10 = .ok (.iaload, 1) := by decide +kernel
theorem dX9_countKind_11 : decode cX9_countKind 11 = .ok (.iconst 1, 1) := by decide +kernel
theorem dX9_countKind_12 : decode cX9_countKind 12 = .ok (.if_icmp .ne 7, 3) := by decide +kernel
theorem dX9_countKind_15 : decode cX9_countKind 15 = .ok (.iconst 1, 1) := by decide +kernel
theorem dX9_countKind_16 : decode cX9_countKind 16 = .ok (.goto 4, 3) := by decide +kernel
theorem dX9_countKind_19 : decode cX9_countKind 19 = .ok (.iconst 0, 1) := by decide +kernel
theorem dX9_countKind_20 : decode cX9_countKind 20 = .ok (.iadd, 1) := by decide +kernel
theorem dX9_countKind_21 : decode cX9_countKind 21 = .ok (.putfield 254, 3) := by decide +kernel
theorem dX9_countKind_24 : decode cX9_countKind 24 = .ok (.aload_n 0, 1) := by decide +kernel
theorem dX9_countKind_25 : decode cX9_countKind 25 = .ok (.dup, 1) := by decide +kernel
theorem dX9_countKind_26 : decode cX9_countKind 26 = .ok (.getfield 257, 3) := by decide +kernel
theorem dX9_countKind_29 : decode cX9_countKind 29 = .ok (.aload_n 0, 1) := by decide +kernel
theorem dX9_countKind_30 : decode cX9_countKind 30 = .ok (.getfield 33, 3) := by decide +kernel
theorem dX9_countKind_33 : decode cX9_countKind 33 = .ok (.iload_n 1, 1) := by decide +kernel
theorem dX9_countKind_34 : decode cX9_countKind 34 = .ok (.baload, 1) := by decide +kernel
theorem dX9_countKind_35 : decode cX9_countKind 35 = .ok (.ifCond .eq 7, 3) := by decide +kernel
theorem dX9_countKind_38 : decode cX9_countKind 38 = .ok (.iconst 1, 1) := by decide +kernel
theorem dX9_countKind_39 : decode cX9_countKind 39 = .ok (.goto 4, 3) := by decide +kernel
theorem dX9_countKind_42 : decode cX9_countKind 42 = .ok (.iconst 0, 1) := by decide +kernel
theorem dX9_countKind_43 : decode cX9_countKind 43 = .ok (.iadd, 1) := by decide +kernel
theorem dX9_countKind_44 : decode cX9_countKind 44 = .ok (.putfield 257, 3) := by decide +kernel
theorem dX9_countKind_47 : decode cX9_countKind 47 = .ok (.aload_n 0, 1) := by decide +kernel
theorem dX9_countKind_48 : decode cX9_countKind 48 = .ok (.dup, 1) := by decide +kernel
theorem dX9_countKind_49 : decode cX9_countKind 49 = .ok (.getfield 260, 3) := by decide +kernel
theorem dX9_countKind_52 : decode cX9_countKind 52 = .ok (.aload_n 0, 1) := by decide +kernel
theorem dX9_countKind_53 : decode cX9_countKind 53 = .ok (.getfield 30, 3) := by decide +kernel
theorem dX9_countKind_56 : decode cX9_countKind 56 = .ok (.iload_n 1, 1) := by decide +kernel
theorem dX9_countKind_57 : decode cX9_countKind 57 = .ok (.iaload, 1) := by decide +kernel
theorem dX9_countKind_58 : decode cX9_countKind 58 = .ok (.iconst 1, 1) := by decide +kernel
theorem dX9_countKind_59 : decode cX9_countKind 59 = .ok (.if_icmp .le 12, 3) := by decide +kernel
theorem dX9_countKind_62 : decode cX9_countKind 62 = .ok (.aload_n 0, 1) := by decide +kernel
theorem dX9_countKind_63 : decode cX9_countKind 63 = .ok (.getfield 30, 3) := by decide +kernel
theorem dX9_countKind_66 : decode cX9_countKind 66 = .ok (.iload_n 1, 1) := by decide +kernel
theorem dX9_countKind_67 : decode cX9_countKind 67 = .ok (.iaload, 1) := by decide +kernel
theorem dX9_countKind_68 : decode cX9_countKind 68 = .ok (.goto 4, 3) := by decide +kernel
theorem dX9_countKind_71 : decode cX9_countKind 71 = .ok (.iconst 0, 1) := by decide +kernel
theorem dX9_countKind_72 : decode cX9_countKind 72 = .ok (.iadd, 1) := by decide +kernel
theorem dX9_countKind_73 : decode cX9_countKind 73 = .ok (.putfield 260, 3) := by decide +kernel
theorem dX9_countKind_76 : decode cX9_countKind 76 = .ok (.return_, 1) := by decide +kernel
theorem dX9_used_0 : decode cX9_used 0 = .ok (.aload_n 0, 1) := by decide +kernel
theorem dX9_used_1 : decode cX9_used 1 = .ok (.getfield 260, 3) := by decide +kernel
theorem dX9_used_4 : decode cX9_used 4 = .ok (.aload_n 0, 1) := by decide +kernel
theorem dX9_used_5 : decode cX9_used 5 = .ok (.getfield 254, 3) := by decide +kernel
theorem dX9_used_8 : decode cX9_used 8 = .ok (.aload_n 0, 1) := by decide +kernel
theorem dX9_used_9 : decode cX9_used 9 = .ok (.getfield 257, 3) := by decide +kernel
theorem dX9_used_12 : decode cX9_used 12 = .ok (.if_icmp .le 15, 3) := by decide +kernel
theorem dX9_used_15 : decode cX9_used 15 = .ok (.aload_n 0, 1) := by decide +kernel
theorem dX9_used_16 : decode cX9_used 16 = .ok (.getfield 254, 3) := by decide +kernel
theorem dX9_used_19 : decode cX9_used 19 = .ok (.aload_n 0, 1) := by decide +kernel
theorem dX9_used_20 : decode cX9_used 20 = .ok (.getfield 257, 3) := by decide +kernel
theorem dX9_used_23 : decode cX9_used 23 = .ok (.isub, 1) := by decide +kernel
theorem dX9_used_24 : decode cX9_used 24 = .ok (.goto 4, 3) := by decide +kernel
theorem dX9_used_27 : decode cX9_used 27 = .ok (.iconst 0, 1) := by decide +kernel
theorem dX9_used_28 : decode cX9_used 28 = .ok (.iadd, 1) := by decide +kernel
theorem dX9_used_29 : decode cX9_used 29 = .ok (.ireturn, 1) := by decide +kernel
theorem dX9_countRing_0 : decode cX9_countRing 0 = .ok (.aload_n 0, 1) := by decide +kernel
theorem dX9_countRing_1 : decode cX9_countRing 1 = .ok (.invokevirtual 263, 3) := by decide +kernel
theorem dX9_countRing_4 : decode cX9_countRing 4 = .ok (.iconst 0, 1) := by decide +kernel
theorem dX9_countRing_5 : decode cX9_countRing 5 = .ok (.istore_n 3, 1) := by decide +kernel
theorem dX9_countRing_6 : decode cX9_countRing 6 = .ok (.iload_n 3, 1) := by decide +kernel
theorem dX9_countRing_7 : decode cX9_countRing 7 = .ok (.aload_n 0, 1) := by decide +kernel
theorem dX9_countRing_8 : decode cX9_countRing 8 = .ok (.getfield 193, 3) := by decide +kernel
theorem dX9_countRing_11 : decode cX9_countRing 11 = .ok (.if_icmp .ge 34, 3) := by decide +kernel
theorem dX9_countRing_14 : decode cX9_countRing 14 = .ok (.aload_n 0, 1) := by decide +kernel
theorem dX9_countRing_15 : decode cX9_countRing 15 = .ok (.getfield 64, 3) := by decide +kernel
theorem dX9_countRing_18 : decode cX9_countRing 18 = .ok (.iload_n 3, 1) := by decide +kernel
theorem dX9_countRing_19 : decode cX9_countRing 19 = .ok (.iaload, 1) := by decide +kernel
theorem dX9_countRing_20 : decode cX9_countRing 20 = .ok (.iload_n 1, 1) := by decide +kernel
theorem dX9_countRing_21 : decode cX9_countRing 21 = .ok (.if_icmp .ne 18, 3) := by decide +kernel
theorem dX9_countRing_24 : decode cX9_countRing 24 = .ok (.iload_n 3, 1) := by decide +kernel
theorem dX9_countRing_25 : decode cX9_countRing 25 = .ok (.iload_n 2, 1) := by decide +kernel
theorem dX9_countRing_26 : decode cX9_countRing 26 = .ok (.if_icmp .eq 13, 3) := by decide +kernel
theorem dX9_countRing_29 : decode cX9_countRing 29 = .ok (.aload_n 0, 1) := by decide +kernel
theorem dX9_countRing_30 : decode cX9_countRing 30 = .ok (.aload_n 0, 1) := by decide +kernel
theorem dX9_countRing_31 : decode cX9_countRing 31 = .ok (.getfield 61, 3) := by decide +kernel
theorem dX9_countRing_34 : decode cX9_countRing 34 = .ok (.iload_n 3, 1) := by decide +kernel
theorem dX9_countRing_35 : decode cX9_countRing 35 = .ok (.iaload, 1) := by decide +kernel
theorem dX9_countRing_36 : decode cX9_countRing 36 = .ok (.invokevirtual 266, 3) := by decide +kernel
theorem dX9_countRing_39 : decode cX9_countRing 39 = .ok (.iinc 3 1, 3) := by decide +kernel
theorem dX9_countRing_42 : decode cX9_countRing 42 = .ok (.goto (-36), 3) := by decide +kernel
theorem dX9_countRing_45 : decode cX9_countRing 45 = .ok (.return_, 1) := by decide +kernel
theorem dX9_inside_0 : decode cX9_inside 0 = .ok (.iconst 0, 1) := by decide +kernel
theorem dX9_inside_1 : decode cX9_inside 1 = .ok (.istore_n 1, 1) := by decide +kernel
theorem dX9_inside_2 : decode cX9_inside 2 = .ok (.iconst 0, 1) := by decide +kernel
theorem dX9_inside_3 : decode cX9_inside 3 = .ok (.istore_n 2, 1) := by decide +kernel
theorem dX9_inside_4 : decode cX9_inside 4 = .ok (.iload_n 2, 1) := by decide +kernel
theorem dX9_inside_5 : decode cX9_inside 5 = .ok (.aload_n 0, 1) := by decide +kernel
theorem dX9_inside_6 : decode cX9_inside 6 = .ok (.getfield 193, 3) := by decide +kernel
theorem dX9_inside_9 : decode cX9_inside 9 = .ok (.if_icmp .ge 25, 3) := by decide +kernel
theorem dX9_inside_12 : decode cX9_inside 12 = .ok (.iload_n 1, 1) := by decide +kernel
theorem dX9_inside_13 : decode cX9_inside 13 = .ok (.aload_n 0, 1) := by decide +kernel
theorem dX9_inside_14 : decode cX9_inside 14 = .ok (.iload_n 2, 1) := by decide +kernel
theorem dX9_inside_15 : decode cX9_inside 15 = .ok (.invokevirtual 196, 3) := by decide +kernel
theorem dX9_inside_18 : decode cX9_inside 18 = .ok (.ifCond .eq 7, 3) := by decide +kernel
theorem dX9_inside_21 : decode cX9_inside 21 = .ok (.iconst 1, 1) := by decide +kernel
theorem dX9_inside_22 : decode cX9_inside 22 = .ok (.goto 4, 3) := by decide +kernel
theorem dX9_inside_25 : decode cX9_inside 25 = .ok (.iconst 0, 1) := by decide +kernel
theorem dX9_inside_26 : decode cX9_inside 26 = .ok (.iadd, 1) := by decide +kernel
theorem dX9_inside_27 : decode cX9_inside 27 = .ok (.istore_n 1, 1) := by decide +kernel
theorem dX9_inside_28 : decode cX9_inside 28 = .ok (.iinc 2 1, 3) := by decide +kernel
theorem dX9_inside_31 : decode cX9_inside 31 = .ok (.goto (-27), 3) := by decide +kernel
theorem dX9_inside_34 : decode cX9_inside 34 = .ok (.iload_n 1, 1) := by decide +kernel
theorem dX9_inside_35 : decode cX9_inside 35 = .ok (.ireturn, 1) := by decide +kernel
theorem dX9_hasRoom_0 : decode cX9_hasRoom 0 = .ok (.aload_n 0, 1) := by decide +kernel
theorem dX9_hasRoom_1 : decode cX9_hasRoom 1 = .ok (.iload_n 1, 1) := by decide +kernel
theorem dX9_hasRoom_2 : decode cX9_hasRoom 2 = .ok (.iconst (-1), 1) := by decide +kernel
theorem dX9_hasRoom_3 : decode cX9_hasRoom 3 = .ok (.invokevirtual 270, 3) := by decide +kernel
theorem dX9_hasRoom_6 : decode cX9_hasRoom 6 = .ok (.aload_n 0, 1) := by decide +kernel
theorem dX9_hasRoom_7 : decode cX9_hasRoom 7 = .ok (.iload_n 2, 1) := by decide +kernel
theorem dX9_hasRoom_8 : decode cX9_hasRoom 8 = .ok (.invokevirtual 266, 3) := by decide +kernel
theorem dX9_hasRoom_11 : decode cX9_hasRoom 11 = .ok (.aload_n 0, 1) := by decide +kernel
theorem dX9_hasRoom_12 : decode cX9_hasRoom 12 = .ok (.invokevirtual 274, 3) := by decide +kernel
theorem dX9_hasRoom_15 : decode cX9_hasRoom 15 = .ok (.iload_n 1, 1) := by decide +kernel
theorem dX9_hasRoom_16 : decode cX9_hasRoom 16 = .ok (.invokestatic 278, 3) := by decide +kernel
theorem dX9_hasRoom_19 : decode cX9_hasRoom 19 = .ok (.if_icmp .gt 7, 3) := by decide +kernel
theorem dX9_hasRoom_22 : decode cX9_hasRoom 22 = .ok (.iconst 1, 1) := by decide +kernel
theorem dX9_hasRoom_23 : decode cX9_hasRoom 23 = .ok (.goto 4, 3) := by decide +kernel
theorem dX9_hasRoom_26 : decode cX9_hasRoom 26 = .ok (.iconst 0, 1) := by decide +kernel
theorem dX9_hasRoom_27 : decode cX9_hasRoom 27 = .ok (.ireturn, 1) := by decide +kernel
theorem dX9_canGo_0 : decode cX9_canGo 0 = .ok (.aload_n 0, 1) := by decide +kernel
theorem dX9_canGo_1 : decode cX9_canGo 1 = .ok (.getfield 64, 3) := by decide +kernel
theorem dX9_canGo_4 : decode cX9_canGo 4 = .ok (.iload_n 1, 1) := by decide +kernel
theorem dX9_canGo_5 : decode cX9_canGo 5 = .ok (.iaload, 1) := by decide +kernel
theorem dX9_canGo_6 : decode cX9_canGo 6 = .ok (.istore_n 2, 1) := by decide +kernel
theorem dX9_canGo_7 : decode cX9_canGo 7 = .ok (.aload_n 0, 1) := by decide +kernel
theorem dX9_canGo_8 : decode cX9_canGo 8 = .ok (.iload_n 2, 1) := by decide +kernel
theorem dX9_canGo_9 : decode cX9_canGo 9 = .ok (.iload_n 1, 1) := by decide +kernel
theorem dX9_canGo_10 : decode cX9_canGo 10 = .ok (.invokevirtual 270, 3) := by decide +kernel
theorem dX9_canGo_13 : decode cX9_canGo 13 = .ok (.aload_n 0, 1) := by decide +kernel
theorem dX9_canGo_14 : decode cX9_canGo 14 = .ok (.invokevirtual 274, 3) := by decide +kernel
theorem dX9_canGo_17 : decode cX9_canGo 17 = .ok (.iload_n 2, 1) := by decide +kernel
theorem dX9_canGo_18 : decode cX9_canGo 18 = .ok (.invokestatic 278, 3) := by decide +kernel
theorem dX9_canGo_21 : decode cX9_canGo 21 = .ok (.if_icmp .gt 7, 3) := by decide +kernel
theorem dX9_canGo_24 : decode cX9_canGo 24 = .ok (.iconst 1, 1) := by decide +kernel
theorem dX9_canGo_25 : decode cX9_canGo 25 = .ok (.goto 4, 3) := by decide +kernel
theorem dX9_canGo_28 : decode cX9_canGo 28 = .ok (.iconst 0, 1) := by decide +kernel
theorem dX9_canGo_29 : decode cX9_canGo 29 = .ok (.ireturn, 1) := by decide +kernel
theorem dX9_put_0 : decode cX9_put 0 = .ok (.aload_n 0, 1) := by decide +kernel
theorem dX9_put_1 : decode cX9_put 1 = .ok (.iload_n 1, 1) := by decide +kernel
theorem dX9_put_2 : decode cX9_put 2 = .ok (.invokevirtual 251, 3) := by decide +kernel
theorem dX9_put_5 : decode cX9_put 5 = .ok (.ifCond .eq 10, 3) := by decide +kernel
theorem dX9_put_8 : decode cX9_put 8 = .ok (.iload_n 2, 1) := by decide +kernel
theorem dX9_put_9 : decode cX9_put 9 = .ok (.invokestatic 152, 3) := by decide +kernel
theorem dX9_put_12 : decode cX9_put 12 = .ok (.ifCond .ne 6, 3) := by decide +kernel
theorem dX9_put_15 : decode cX9_put 15 = .ok (.bipush (-2), 2) := by decide +kernel
theorem dX9_put_17 : decode cX9_put 17 = .ok (.ireturn, 1) := by decide +kernel
theorem dX9_put_18 : decode cX9_put 18 = .ok (.aload_n 0, 1) := by decide +kernel
theorem dX9_put_19 : decode cX9_put 19 = .ok (.iload_n 2, 1) := by decide +kernel
theorem dX9_put_20 : decode cX9_put 20 = .ok (.iload_n 1, 1) := by decide +kernel
theorem dX9_put_21 : decode cX9_put 21 = .ok (.invokevirtual 281, 3) := by decide +kernel
theorem dX9_put_24 : decode cX9_put 24 = .ok (.ifCond .ne 6, 3) := by decide +kernel
theorem dX9_put_27 : decode cX9_put 27 = .ok (.bipush (-3), 2) := by decide +kernel
theorem dX9_put_29 : decode cX9_put 29 = .ok (.ireturn, 1) := by decide +kernel
theorem dX9_put_30 : decode cX9_put 30 = .ok (.aload_n 0, 1) := by decide +kernel
theorem dX9_put_31 : decode cX9_put 31 = .ok (.invokevirtual 284, 3) := by decide +kernel
theorem dX9_put_34 : decode cX9_put 34 = .ok (.bipush 12, 2) := by decide +kernel
theorem dX9_put_36 : decode cX9_put 36 = .ok (.if_icmp .eq 13, 3) := by decide +kernel
theorem dX9_put_39 : decode cX9_put 39 = .ok (.aload_n 0, 1) := by decide +kernel
theorem dX9_put_40 : decode cX9_put 40 = .ok (.getfield 193, 3) := by decide +kernel
theorem dX9_put_43 : decode cX9_put 43 = .ok (.sipush 200, 3) := by decide +kernel
theorem dX9_put_46 : decode cX9_put 46 = .ok (.if_icmp .ne 6, 3) := by decide +kernel
theorem dX9_put_49 : decode cX9_put 49 = .ok (.bipush (-4), 2) := by decide +kernel
theorem dX9_put_51 : decode cX9_put 51 = .ok (.ireturn, 1) := by decide +kernel
theorem dX9_put_52 : decode cX9_put 52 = .ok (.aload_n 0, 1) := by decide +kernel
theorem dX9_put_53 : decode cX9_put 53 = .ok (.getfield 61, 3) := by decide +kernel
theorem dX9_put_56 : decode cX9_put 56 = .ok (.aload_n 0, 1) := by decide +kernel
theorem dX9_put_57 : decode cX9_put 57 = .ok (.getfield 193, 3) := by decide +kernel
theorem dX9_put_60 : decode cX9_put 60 = .ok (.iload_n 1, 1) := by decide +kernel
theorem dX9_put_61 : decode cX9_put 61 = .ok (.iastore, 1) := by decide +kernel
theorem dX9_put_62 : decode cX9_put 62 = .ok (.aload_n 0, 1) := by decide +kernel
theorem dX9_put_63 : decode cX9_put 63 = .ok (.getfield 64, 3) := by decide +kernel
theorem dX9_put_66 : decode cX9_put 66 = .ok (.aload_n 0, 1) := by decide +kernel
theorem dX9_put_67 : decode cX9_put 67 = .ok (.getfield 193, 3) := by decide +kernel
theorem dX9_put_70 : decode cX9_put 70 = .ok (.iload_n 2, 1) := by decide +kernel
theorem dX9_put_71 : decode cX9_put 71 = .ok (.iastore, 1) := by decide +kernel
theorem dX9_put_72 : decode cX9_put 72 = .ok (.aload_n 0, 1) := by decide +kernel
theorem dX9_put_73 : decode cX9_put 73 = .ok (.dup, 1) := by decide +kernel
theorem dX9_put_74 : decode cX9_put 74 = .ok (.getfield 193, 3) := by decide +kernel
theorem dX9_put_77 : decode cX9_put 77 = .ok (.iconst 1, 1) := by decide +kernel
theorem dX9_put_78 : decode cX9_put 78 = .ok (.iadd, 1) := by decide +kernel
theorem dX9_put_79 : decode cX9_put 79 = .ok (.putfield 193, 3) := by decide +kernel
theorem dX9_put_82 : decode cX9_put 82 = .ok (.aload_n 0, 1) := by decide +kernel
theorem dX9_put_83 : decode cX9_put 83 = .ok (.iconst 1, 1) := by decide +kernel
theorem dX9_put_84 : decode cX9_put 84 = .ok (.putfield 222, 3) := by decide +kernel
theorem dX9_put_87 : decode cX9_put 87 = .ok (.aload_n 0, 1) := by decide +kernel
theorem dX9_put_88 : decode cX9_put 88 = .ok (.getfield 193, 3) := by decide +kernel
theorem dX9_put_91 : decode cX9_put 91 = .ok (.iconst 1, 1) := by decide +kernel
theorem dX9_put_92 : decode cX9_put 92 = .ok (.isub, 1) := by decide +kernel
theorem dX9_put_93 : decode cX9_put 93 = .ok (.ireturn, 1) := by decide +kernel
theorem dX9_move_0 : decode cX9_move 0 = .ok (.aload_n 0, 1) := by decide +kernel
theorem dX9_move_1 : decode cX9_move 1 = .ok (.iload_n 1, 1) := by decide +kernel
theorem dX9_move_2 : decode cX9_move 2 = .ok (.invokevirtual 287, 3) := by decide +kernel
theorem dX9_move_5 : decode cX9_move 5 = .ok (.ifCond .eq 20, 3) := by decide +kernel
theorem dX9_move_8 : decode cX9_move 8 = .ok (.iload_n 2, 1) := by decide +kernel
theorem dX9_move_9 : decode cX9_move 9 = .ok (.invokestatic 152, 3) := by decide +kernel
theorem dX9_move_12 : decode cX9_move 12 = .ok (.ifCond .eq 13, 3) := by decide +kernel
theorem dX9_move_15 : decode cX9_move 15 = .ok (.aload_n 0, 1) := by decide +kernel
theorem dX9_move_16 : decode cX9_move 16 = .ok (.getfield 64, 3) := by decide +kernel
theorem dX9_move_19 : decode cX9_move 19 = .ok (.iload_n 1, 1) := by decide +kernel
theorem dX9_move_20 : decode cX9_move 20 = .ok (.iaload, 1) := by decide +kernel
theorem dX9_move_21 : decode cX9_move 21 = .ok (.iload_n 2, 1) := by decide +kernel
theorem dX9_move_22 : decode cX9_move 22 = .ok (.if_icmp .ne 6, 3) := by decide +kernel
theorem dX9_move_25 : decode cX9_move 25 = .ok (.bipush (-2), 2) := by decide +kernel
theorem dX9_move_27 : decode cX9_move 27 = .ok (.ireturn, 1) := by decide +kernel
theorem dX9_move_28 : decode cX9_move 28 = .ok (.aload_n 0, 1) := by decide +kernel
theorem dX9_move_29 : decode cX9_move 29 = .ok (.iload_n 1, 1) := by decide +kernel
theorem dX9_move_30 : decode cX9_move 30 = .ok (.invokevirtual 196, 3) := by decide +kernel
theorem dX9_move_33 : decode cX9_move 33 = .ok (.ifCond .eq 25, 3) := by decide +kernel
theorem dX9_move_36 : decode cX9_move 36 = .ok (.aload_n 0, 1) := by decide +kernel
theorem dX9_move_37 : decode cX9_move 37 = .ok (.iload_n 2, 1) := by decide +kernel
theorem dX9_move_38 : decode cX9_move 38 = .ok (.aload_n 0, 1) := by decide +kernel
theorem dX9_move_39 : decode cX9_move 39 = .ok (.getfield 61, 3) := by decide +kernel
theorem dX9_move_42 : decode cX9_move 42 = .ok (.iload_n 1, 1) := by decide +kernel
theorem dX9_move_43 : decode cX9_move 43 = .ok (.iaload, 1) := by decide +kernel
theorem dX9_move_44 : decode cX9_move 44 = .ok (.invokevirtual 281, 3) := by decide +kernel
theorem dX9_move_47 : decode cX9_move 47 = .ok (.ifCond .eq 11, 3) := by decide +kernel
theorem dX9_move_50 : decode cX9_move 50 = .ok (.aload_n 0, 1) := by decide +kernel
theorem dX9_move_51 : decode cX9_move 51 = .ok (.iload_n 1, 1) := by decide +kernel
theorem dX9_move_52 : decode cX9_move 52 = .ok (.invokevirtual 290, 3) := by decide +kernel
theorem dX9_move_55 : decode cX9_move 55 = .ok (.ifCond .ne 6, 3) := by decide +kernel
theorem dX9_move_58 : decode cX9_move 58 = .ok (.bipush (-3), 2) := by decide +kernel
theorem dX9_move_60 : decode cX9_move 60 = .ok (.ireturn, 1) := by decide +kernel
theorem dX9_move_61 : decode cX9_move 61 = .ok (.aload_n 0, 1) := by decide +kernel
theorem dX9_move_62 : decode cX9_move 62 = .ok (.getfield 64, 3) := by decide +kernel
theorem dX9_move_65 : decode cX9_move 65 = .ok (.iload_n 1, 1) := by decide +kernel
theorem dX9_move_66 : decode cX9_move 66 = .ok (.iaload, 1) := by decide +kernel
theorem dX9_move_67 : decode cX9_move 67 = .ok (.istore_n 3, 1) := by decide +kernel
theorem dX9_move_68 : decode cX9_move 68 = .ok (.aload_n 0, 1) := by decide +kernel
theorem dX9_move_69 : decode cX9_move 69 = .ok (.getfield 64, 3) := by decide +kernel
theorem dX9_move_72 : decode cX9_move 72 = .ok (.iload_n 1, 1) := by decide +kernel
theorem dX9_move_73 : decode cX9_move 73 = .ok (.iload_n 2, 1) := by decide +kernel
theorem dX9_move_74 : decode cX9_move 74 = .ok (.iastore, 1) := by decide +kernel
theorem dX9_move_75 : decode cX9_move 75 = .ok (.aload_n 0, 1) := by decide +kernel
theorem dX9_move_76 : decode cX9_move 76 = .ok (.iconst 1, 1) := by decide +kernel
theorem dX9_move_77 : decode cX9_move 77 = .ok (.putfield 222, 3) := by decide +kernel
theorem dX9_move_80 : decode cX9_move 80 = .ok (.iload_n 3, 1) := by decide +kernel
theorem dX9_move_81 : decode cX9_move 81 = .ok (.ireturn, 1) := by decide +kernel
theorem dX9_resultOf_0 : decode cX9_resultOf 0 = .ok (.iload_n 2, 1) := by decide +kernel
theorem dX9_resultOf_1 : decode cX9_resultOf 1 = .ok (.aload_n 0, 1) := by decide +kernel
theorem dX9_resultOf_2 : decode cX9_resultOf 2 = .ok (.getfield 49, 3) := by decide +kernel
theorem dX9_resultOf_5 : decode cX9_resultOf 5 = .ok (.iload_n 1, 1) := by decide +kernel
theorem dX9_resultOf_6 : decode cX9_resultOf 6 = .ok (.iaload, 1) := by decide +kernel
theorem dX9_resultOf_7 : decode cX9_resultOf 7 = .ok (.if_icmp .le 7, 3) := by decide +kernel
theorem dX9_resultOf_10 : decode cX9_resultOf 10 = .ok (.iconst 2, 1) := by decide +kernel
theorem dX9_resultOf_11 : decode cX9_resultOf 11 = .ok (.goto 33, 3) := by decide +kernel
theorem dX9_resultOf_14 : decode cX9_resultOf 14 = .ok (.iload_n 3, 1) := by decide +kernel
theorem dX9_resultOf_15 : decode cX9_resultOf 15 = .ok (.aload_n 0, 1) := by decide +kernel
theorem dX9_resultOf_16 : decode cX9_resultOf 16 = .ok (.getfield 37, 3) := by decide +kernel
theorem dX9_resultOf_19 : decode cX9_resultOf 19 = .ok (.iload_n 1, 1) := by decide +kernel
theorem dX9_resultOf_20 : decode cX9_resultOf 20 = .ok (.iaload, 1) := by decide +kernel
theorem dX9_resultOf_21 : decode cX9_resultOf 21 = .ok (.if_icmp .ge 7, 3) := by decide +kernel
theorem dX9_resultOf_24 : decode cX9_resultOf 24 = .ok (.iconst 0, 1) := by decide +kernel
theorem dX9_resultOf_25 : decode cX9_resultOf 25 = .ok (.goto 19, 3) := by decide +kernel
theorem dX9_resultOf_28 : decode cX9_resultOf 28 = .ok (.iload 4, 2) := by decide +kernel
theorem dX9_resultOf_30 : decode cX9_resultOf 30 = .ok (.aload_n 0, 1) := by decide +kernel
theorem dX9_resultOf_31 : decode cX9_resultOf 31 = .ok (.getfield 40, 3) := by decide +kernel
theorem dX9_resultOf_34 : decode cX9_resultOf 34 = .ok (.iload_n 1, 1) := by decide +kernel
theorem dX9_resultOf_35 : decode cX9_resultOf 35 = .ok (.iaload, 1) := by decide +kernel
theorem dX9_resultOf_36 : decode cX9_resultOf 36 = .ok (.if_icmp .le 7, 3) := by decide +kernel
theorem dX9_resultOf_39 : decode cX9_resultOf 39 = .ok (.iconst 3, 1) := by decide +kernel
theorem dX9_resultOf_40 : decode cX9_resultOf 40 = .ok (.goto 4, 3) := by decide +kernel
theorem dX9_resultOf_43 : decode cX9_resultOf 43 = .ok (.iconst 1, 1) := by decide +kernel
theorem dX9_resultOf_44 : decode cX9_resultOf 44 = .ok (.ireturn, 1) := by decide +kernel
theorem dX9_take_0 : decode cX9_take 0 = .ok (.aload_n 0, 1) := by decide +kernel
theorem dX9_take_1 : decode cX9_take 1 = .ok (.iload_n 1, 1) := by decide +kernel
theorem dX9_take_2 : decode cX9_take 2 = .ok (.invokevirtual 287, 3) := by decide +kernel
theorem dX9_take_5 : decode cX9_take 5 = .ok (.ifCond .ne 6, 3) := by decide +kernel
theorem dX9_take_8 : decode cX9_take 8 = .ok (.bipush (-2), 2) := by decide +kernel
theorem dX9_take_10 : decode cX9_take 10 = .ok (.ireturn, 1) := by decide +kernel
theorem dX9_take_11 : decode cX9_take 11 = .ok (.aload_n 0, 1) := by decide +kernel
theorem dX9_take_12 : decode cX9_take 12 = .ok (.iload_n 1, 1) := by decide +kernel
theorem dX9_take_13 : decode cX9_take 13 = .ok (.invokevirtual 196, 3) := by decide +kernel
theorem dX9_take_16 : decode cX9_take 16 = .ok (.ifCond .eq 11, 3) := by decide +kernel
theorem dX9_take_19 : decode cX9_take 19 = .ok (.aload_n 0, 1) := by decide +kernel
theorem dX9_take_20 : decode cX9_take 20 = .ok (.iload_n 1, 1) := by decide +kernel
theorem dX9_take_21 : decode cX9_take 21 = .ok (.invokevirtual 290, 3) := by decide +kernel
theorem dX9_take_24 : decode cX9_take 24 = .ok (.ifCond .ne 6, 3) := by decide +kernel
theorem dX9_take_27 : decode cX9_take 27 = .ok (.bipush (-3), 2) := by decide +kernel
theorem dX9_take_29 : decode cX9_take 29 = .ok (.ireturn, 1) := by decide +kernel
theorem dX9_take_30 : decode cX9_take 30 = .ok (.aload_n 0, 1) := by decide +kernel
theorem dX9_take_31 : decode cX9_take 31 = .ok (.getfield 64, 3) := by decide +kernel
theorem dX9_take_34 : decode cX9_take 34 = .ok (.iload_n 1, 1) := by decide +kernel
theorem dX9_take_35 : decode cX9_take 35 = .ok (.iconst (-1), 1) := by decide +kernel
theorem dX9_take_36 : decode cX9_take 36 = .ok (.iastore, 1) := by decide +kernel
theorem dX9_take_37 : decode cX9_take 37 = .ok (.aload_n 0, 1) := by decide +kernel
theorem dX9_take_38 : decode cX9_take 38 = .ok (.iconst 1, 1) := by decide +kernel
theorem dX9_take_39 : decode cX9_take 39 = .ok (.putfield 222, 3) := by decide +kernel
theorem dX9_take_42 : decode cX9_take 42 = .ok (.aload_n 0, 1) := by decide +kernel
theorem dX9_take_43 : decode cX9_take 43 = .ok (.aload_n 0, 1) := by decide +kernel
theorem dX9_take_44 : decode cX9_take 44 = .ok (.getfield 61, 3) := by decide +kernel
theorem dX9_take_47 : decode cX9_take 47 = .ok (.iload_n 1, 1) := by decide +kernel
theorem dX9_take_48 : decode cX9_take 48 = .ok (.iaload, 1) := by decide +kernel
theorem dX9_take_49 : decode cX9_take 49 = .ok (.aload_n 0, 1) := by decide +kernel
theorem dX9_take_50 : decode cX9_take 50 = .ok (.getfield 73, 3) := by decide +kernel
theorem dX9_take_53 : decode cX9_take 53 = .ok (.iload_n 1, 1) := by decide +kernel
theorem dX9_take_54 : decode cX9_take 54 = .ok (.iaload, 1) := by decide +kernel
theorem dX9_take_55 : decode cX9_take 55 = .ok (.aload_n 0, 1) := by decide +kernel
theorem dX9_take_56 : decode cX9_take 56 = .ok (.getfield 70, 3) := by decide +kernel
theorem dX9_take_59 : decode cX9_take 59 = .ok (.iload_n 1, 1) := by decide +kernel
theorem dX9_take_60 : decode cX9_take 60 = .ok (.iaload, 1) := by decide +kernel
theorem dX9_take_61 : decode cX9_take 61 = .ok (.aload_n 0, 1) := by decide +kernel
theorem dX9_take_62 : decode cX9_take 62 = .ok (.getfield 67, 3) := by decide +kernel
theorem dX9_take_65 : decode cX9_take 65 = .ok (.iload_n 1, 1) := by decide +kernel
theorem dX9_take_66 : decode cX9_take 66 = .ok (.iaload, 1) := by decide +kernel
theorem dX9_take_67 : decode cX9_take 67 = .ok (.invokevirtual 293, 3) := by decide +kernel
theorem dX9_take_70 : decode cX9_take 70 = .ok (.istore_n 2, 1) := by decide +kernel
theorem dX9_take_71 : decode cX9_take 71 = .ok (.aload_n 0, 1) := by decide +kernel
theorem dX9_take_72 : decode cX9_take 72 = .ok (.dup, 1) := by decide +kernel
theorem dX9_take_73 : decode cX9_take 73 = .ok (.getfield 297, 3) := by decide +kernel
theorem dX9_take_76 : decode cX9_take 76 = .ok (.iload_n 2, 1) := by decide +kernel
theorem dX9_take_77 : decode cX9_take 77 = .ok (.iconst 1, 1) := by decide +kernel
theorem dX9_take_78 : decode cX9_take 78 = .ok (.if_icmp .ne 7, 3) := by decide +kernel
theorem dX9_take_81 : decode cX9_take 81 = .ok (.iconst 1, 1) := by decide +kernel
theorem dX9_take_82 : decode cX9_take 82 = .ok (.goto 4, 3) := by decide +kernel
theorem dX9_take_85 : decode cX9_take 85 = .ok (.iconst 0, 1) := by decide +kernel
theorem dX9_take_86 : decode cX9_take 86 = .ok (.iadd, 1) := by decide +kernel
theorem dX9_take_87 : decode cX9_take 87 = .ok (.putfield 297, 3) := by decide +kernel
theorem dX9_take_90 : decode cX9_take 90 = .ok (.iload_n 2, 1) := by decide +kernel
theorem dX9_take_91 : decode cX9_take 91 = .ok (.ireturn, 1) := by decide +kernel
theorem dX9_loaf_0 : decode cX9_loaf 0 = .ok (.aload_n 0, 1) := by decide +kernel
theorem dX9_loaf_1 : decode cX9_loaf 1 = .ok (.iload_n 1, 1) := by decide +kernel
theorem dX9_loaf_2 : decode cX9_loaf 2 = .ok (.invokevirtual 287, 3) := by decide +kernel
theorem dX9_loaf_5 : decode cX9_loaf 5 = .ok (.ifCond .ne 6, 3) := by decide +kernel
theorem dX9_loaf_8 : decode cX9_loaf 8 = .ok (.bipush (-2), 2) := by decide +kernel
theorem dX9_loaf_10 : decode cX9_loaf 10 = .ok (.ireturn, 1) := by decide +kernel
theorem dX9_loaf_11 : decode cX9_loaf 11 = .ok (.iload_n 2, 1) := by decide +kernel
theorem dX9_loaf_12 : decode cX9_loaf 12 = .ok (.tableswitch 82 0 5 #[40, 47, 54, 61, 68, 75], 40) := by decide +kernel
theorem dX9_loaf_52 : decode cX9_loaf 52 = .ok (.aload_n 0, 1) := by decide +kernel
theorem dX9_loaf_53 : decode cX9_loaf 53 = .ok (.getfield 61, 3) := by decide +kernel
theorem dX9_loaf_56 : decode cX9_loaf 56 = .ok (.iload_n 1, 1) := by decide +kernel
theorem dX9_loaf_57 : decode cX9_loaf 57 = .ok (.iaload, 1) := by decide +kernel
theorem dX9_loaf_58 : decode cX9_loaf 58 = .ok (.ireturn, 1) := by decide +kernel
theorem dX9_loaf_59 : decode cX9_loaf 59 = .ok (.aload_n 0, 1) := by decide +kernel
theorem dX9_loaf_60 : decode cX9_loaf 60 = .ok (.getfield 64, 3) := by decide +kernel
theorem dX9_loaf_63 : decode cX9_loaf 63 = .ok (.iload_n 1, 1) := by decide +kernel
theorem dX9_loaf_64 : decode cX9_loaf 64 = .ok (.iaload, 1) := by decide +kernel
theorem dX9_loaf_65 : decode cX9_loaf 65 = .ok (.ireturn, 1) := by decide +kernel
theorem dX9_loaf_66 : decode cX9_loaf 66 = .ok (.aload_n 0, 1) := by decide +kernel
theorem dX9_loaf_67 : decode cX9_loaf 67 = .ok (.getfield 67, 3) := by decide +kernel
theorem dX9_loaf_70 : decode cX9_loaf 70 = .ok (.iload_n 1, 1) := by decide +kernel
theorem dX9_loaf_71 : decode cX9_loaf 71 = .ok (.iaload, 1) := by decide +kernel
theorem dX9_loaf_72 : decode cX9_loaf 72 = .ok (.ireturn, 1) := by decide +kernel
theorem dX9_loaf_73 : decode cX9_loaf 73 = .ok (.aload_n 0, 1) := by decide +kernel
theorem dX9_loaf_74 : decode cX9_loaf 74 = .ok (.getfield 70, 3) := by decide +kernel
theorem dX9_loaf_77 : decode cX9_loaf 77 = .ok (.iload_n 1, 1) := by decide +kernel
theorem dX9_loaf_78 : decode cX9_loaf 78 = .ok (.iaload, 1) := by decide +kernel
theorem dX9_loaf_79 : decode cX9_loaf 79 = .ok (.ireturn, 1) := by decide +kernel
theorem dX9_loaf_80 : decode cX9_loaf 80 = .ok (.aload_n 0, 1) := by decide +kernel
theorem dX9_loaf_81 : decode cX9_loaf 81 = .ok (.getfield 73, 3) := by decide +kernel
theorem dX9_loaf_84 : decode cX9_loaf 84 = .ok (.iload_n 1, 1) := by decide +kernel
theorem dX9_loaf_85 : decode cX9_loaf 85 = .ok (.iaload, 1) := by decide +kernel
theorem dX9_loaf_86 : decode cX9_loaf 86 = .ok (.ireturn, 1) := by decide +kernel
theorem dX9_loaf_87 : decode cX9_loaf 87 = .ok (.aload_n 0, 1) := by decide +kernel
theorem dX9_loaf_88 : decode cX9_loaf 88 = .ok (.getfield 76, 3) := by decide +kernel
theorem dX9_loaf_91 : decode cX9_loaf 91 = .ok (.iload_n 1, 1) := by decide +kernel
theorem dX9_loaf_92 : decode cX9_loaf 92 = .ok (.iaload, 1) := by decide +kernel
theorem dX9_loaf_93 : decode cX9_loaf 93 = .ok (.ireturn, 1) := by decide +kernel
theorem dX9_loaf_94 : decode cX9_loaf 94 = .ok (.bipush (-2), 2) := by decide +kernel
theorem dX9_loaf_96 : decode cX9_loaf 96 = .ok (.ireturn, 1) := by decide +kernel
theorem dX9_room_0 : decode cX9_room 0 = .ok (.iload_n 1, 1) := by decide +kernel
theorem dX9_room_1 : decode cX9_room 1 = .ok (.invokestatic 152, 3) := by decide +kernel
theorem dX9_room_4 : decode cX9_room 4 = .ok (.ifCond .ne 6, 3) := by decide +kernel
theorem dX9_room_7 : decode cX9_room 7 = .ok (.bipush (-2), 2) := by decide +kernel
theorem dX9_room_9 : decode cX9_room 9 = .ok (.ireturn, 1) := by decide +kernel
theorem dX9_room_10 : decode cX9_room 10 = .ok (.aload_n 0, 1) := by decide +kernel
theorem dX9_room_11 : decode cX9_room 11 = .ok (.iload_n 1, 1) := by decide +kernel
theorem dX9_room_12 : decode cX9_room 12 = .ok (.iconst (-1), 1) := by decide +kernel
theorem dX9_room_13 : decode cX9_room 13 = .ok (.invokevirtual 270, 3) := by decide +kernel
theorem dX9_room_16 : decode cX9_room 16 = .ok (.iload_n 1, 1) := by decide +kernel
theorem dX9_room_17 : decode cX9_room 17 = .ok (.invokestatic 278, 3) := by decide +kernel
theorem dX9_room_20 : decode cX9_room 20 = .ok (.aload_n 0, 1) := by decide +kernel
theorem dX9_room_21 : decode cX9_room 21 = .ok (.invokevirtual 274, 3) := by decide +kernel
theorem dX9_room_24 : decode cX9_room 24 = .ok (.isub, 1) := by decide +kernel
theorem dX9_room_25 : decode cX9_room 25 = .ok (.ireturn, 1) := by decide +kernel
theorem dX9_order_0 : decode cX9_order 0 = .ok (.aload_n 0, 1) := by decide +kernel
theorem dX9_order_1 : decode cX9_order 1 = .ok (.iload_n 1, 1) := by decide +kernel
theorem dX9_order_2 : decode cX9_order 2 = .ok (.invokevirtual 251, 3) := by decide +kernel
theorem dX9_order_5 : decode cX9_order 5 = .ok (.ifCond .ne 6, 3) := by decide +kernel
theorem dX9_order_8 : decode cX9_order 8 = .ok (.bipush (-2), 2) := by decide +kernel
theorem dX9_order_10 : decode cX9_order 10 = .ok (.ireturn, 1) := by decide +kernel
theorem dX9_order_11 : decode cX9_order 11 = .ok (.aload_n 0, 1) := by decide +kernel
theorem dX9_order_12 : decode cX9_order 12 = .ok (.getfield 300, 3) := by decide +kernel
theorem dX9_order_15 : decode cX9_order 15 = .ok (.iconst 4, 1) := by decide +kernel
theorem dX9_order_16 : decode cX9_order 16 = .ok (.if_icmp .ne 6, 3) := by decide +kernel
theorem dX9_order_19 : decode cX9_order 19 = .ok (.bipush (-4), 2) := by decide +kernel
theorem dX9_order_21 : decode cX9_order 21 = .ok (.ireturn, 1) := by decide +kernel
theorem dX9_order_22 : decode cX9_order 22 = .ok (.aload_n 0, 1) := by decide +kernel
theorem dX9_order_23 : decode cX9_order 23 = .ok (.getfield 79, 3) := by decide +kernel
theorem dX9_order_26 : decode cX9_order 26 = .ok (.aload_n 0, 1) := by decide +kernel
theorem dX9_order_27 : decode cX9_order 27 = .ok (.getfield 300, 3) := by decide +kernel
theorem dX9_order_30 : decode cX9_order 30 = .ok (.iload_n 1, 1) := by decide +kernel
theorem dX9_order_31 : decode cX9_order 31 = .ok (.iastore, 1) := by decide +kernel
theorem dX9_order_32 : decode cX9_order 32 = .ok (.aload_n 0, 1) := by decide +kernel
theorem dX9_order_33 : decode cX9_order 33 = .ok (.dup, 1) := by decide +kernel
theorem dX9_order_34 : decode cX9_order 34 = .ok (.getfield 300, 3) := by decide +kernel
theorem dX9_order_37 : decode cX9_order 37 = .ok (.iconst 1, 1) := by decide +kernel
theorem dX9_order_38 : decode cX9_order 38 = .ok (.iadd, 1) := by decide +kernel
theorem dX9_order_39 : decode cX9_order 39 = .ok (.putfield 300, 3) := by decide +kernel
theorem dX9_order_42 : decode cX9_order 42 = .ok (.aload_n 0, 1) := by decide +kernel
theorem dX9_order_43 : decode cX9_order 43 = .ok (.getfield 300, 3) := by decide +kernel
theorem dX9_order_46 : decode cX9_order 46 = .ok (.iconst 1, 1) := by decide +kernel
theorem dX9_order_47 : decode cX9_order 47 = .ok (.isub, 1) := by decide +kernel
theorem dX9_order_48 : decode cX9_order 48 = .ok (.ireturn, 1) := by decide +kernel
theorem dX9_opening_0 : decode cX9_opening 0 = .ok (.iload_n 1, 1) := by decide +kernel
theorem dX9_opening_1 : decode cX9_opening 1 = .ok (.aload_n 0, 1) := by decide +kernel
theorem dX9_opening_2 : decode cX9_opening 2 = .ok (.getfield 303, 3) := by decide +kernel
theorem dX9_opening_5 : decode cX9_opening 5 = .ok (.ifCond .ne 7, 3) := by decide +kernel
theorem dX9_opening_8 : decode cX9_opening 8 = .ok (.iconst 0, 1) := by decide +kernel
theorem dX9_opening_9 : decode cX9_opening 9 = .ok (.goto 16, 3) := by decide +kernel
theorem dX9_opening_12 : decode cX9_opening 12 = .ok (.aload_n 0, 1) := by decide +kernel
theorem dX9_opening_13 : decode cX9_opening 13 = .ok (.getfield 82, 3) := by decide +kernel
theorem dX9_opening_16 : decode cX9_opening 16 = .ok (.aload_n 0, 1) := by decide +kernel
theorem dX9_opening_17 : decode cX9_opening 17 = .ok (.getfield 303, 3) := by decide +kernel
theorem dX9_opening_20 : decode cX9_opening 20 = .ok (.iconst 1, 1) := by decide +kernel
theorem dX9_opening_21 : decode cX9_opening 21 = .ok (.isub, 1) := by decide +kernel
theorem dX9_opening_22 : decode cX9_opening 22 = .ok (.iaload, 1) := by decide +kernel
theorem dX9_opening_23 : decode cX9_opening 23 = .ok (.iconst 1, 1) := by decide +kernel
theorem dX9_opening_24 : decode cX9_opening 24 = .ok (.iadd, 1) := by decide +kernel
theorem dX9_opening_25 : decode cX9_opening 25 = .ok (.bipush 40, 2) := by decide +kernel
theorem dX9_opening_27 : decode cX9_opening 27 = .ok (.invokestatic 148, 3) := by decide +kernel
theorem dX9_opening_30 : decode cX9_opening 30 = .ok (.ifCond .ne 6, 3) := by decide +kernel
theorem dX9_opening_33 : decode cX9_opening 33 = .ok (.bipush (-2), 2) := by decide +kernel
theorem dX9_opening_35 : decode cX9_opening 35 = .ok (.ireturn, 1) := by decide +kernel
theorem dX9_opening_36 : decode cX9_opening 36 = .ok (.aload_n 0, 1) := by decide +kernel
theorem dX9_opening_37 : decode cX9_opening 37 = .ok (.getfield 303, 3) := by decide +kernel
theorem dX9_opening_40 : decode cX9_opening 40 = .ok (.iconst 3, 1) := by decide +kernel
theorem dX9_opening_41 : decode cX9_opening 41 = .ok (.if_icmp .ne 6, 3) := by decide +kernel
theorem dX9_opening_44 : decode cX9_opening 44 = .ok (.bipush (-4), 2) := by decide +kernel
theorem dX9_opening_46 : decode cX9_opening 46 = .ok (.ireturn, 1) := by decide +kernel
theorem dX9_opening_47 : decode cX9_opening 47 = .ok (.aload_n 0, 1) := by decide +kernel
theorem dX9_opening_48 : decode cX9_opening 48 = .ok (.getfield 82, 3) := by decide +kernel
theorem dX9_opening_51 : decode cX9_opening 51 = .ok (.aload_n 0, 1) := by decide +kernel
theorem dX9_opening_52 : decode cX9_opening 52 = .ok (.getfield 303, 3) := by decide +kernel
theorem dX9_opening_55 : decode cX9_opening 55 = .ok (.iload_n 1, 1) := by decide +kernel
theorem dX9_opening_56 : decode cX9_opening 56 = .ok (.iastore, 1) := by decide +kernel
theorem dX9_opening_57 : decode cX9_opening 57 = .ok (.aload_n 0, 1) := by decide +kernel
theorem dX9_opening_58 : decode cX9_opening 58 = .ok (.dup, 1) := by decide +kernel
theorem dX9_opening_59 : decode cX9_opening 59 = .ok (.getfield 303, 3) := by decide +kernel
theorem dX9_opening_62 : decode cX9_opening 62 = .ok (.iconst 1, 1) := by decide +kernel
theorem dX9_opening_63 : decode cX9_opening 63 = .ok (.iadd, 1) := by decide +kernel
theorem dX9_opening_64 : decode cX9_opening 64 = .ok (.putfield 303, 3) := by decide +kernel
theorem dX9_opening_67 : decode cX9_opening 67 = .ok (.aload_n 0, 1) := by decide +kernel
theorem dX9_opening_68 : decode cX9_opening 68 = .ok (.getfield 303, 3) := by decide +kernel
theorem dX9_opening_71 : decode cX9_opening 71 = .ok (.ireturn, 1) := by decide +kernel
theorem dX9_clear_0 : decode cX9_clear 0 = .ok (.aload_n 0, 1) := by decide +kernel
theorem dX9_clear_1 : decode cX9_clear 1 = .ok (.getfield 300, 3) := by decide +kernel
theorem dX9_clear_4 : decode cX9_clear 4 = .ok (.istore_n 1, 1) := by decide +kernel
theorem dX9_clear_5 : decode cX9_clear 5 = .ok (.aload_n 0, 1) := by decide +kernel
theorem dX9_clear_6 : decode cX9_clear 6 = .ok (.iconst 0, 1) := by decide +kernel
theorem dX9_clear_7 : decode cX9_clear 7 = .ok (.putfield 300, 3) := by decide +kernel
theorem dX9_clear_10 : decode cX9_clear 10 = .ok (.aload_n 0, 1) := by decide +kernel
theorem dX9_clear_11 : decode cX9_clear 11 = .ok (.iconst 0, 1) := by decide +kernel
theorem dX9_clear_12 : decode cX9_clear 12 = .ok (.putfield 303, 3) := by decide +kernel
theorem dX9_clear_15 : decode cX9_clear 15 = .ok (.iload_n 1, 1) := by decide +kernel
theorem dX9_clear_16 : decode cX9_clear 16 = .ok (.ireturn, 1) := by decide +kernel
theorem dX9_isOpening_0 : decode cX9_isOpening 0 = .ok (.iconst 0, 1) := by decide +kernel
theorem dX9_isOpening_1 : decode cX9_isOpening 1 = .ok (.istore_n 2, 1) := by decide +kernel
theorem dX9_isOpening_2 : decode cX9_isOpening 2 = .ok (.iconst 0, 1) := by decide +kernel
theorem dX9_isOpening_3 : decode cX9_isOpening 3 = .ok (.istore_n 3, 1) := by decide +kernel
theorem dX9_isOpening_4 : decode cX9_isOpening 4 = .ok (.iload_n 3, 1) := by decide +kernel
theorem dX9_isOpening_5 : decode cX9_isOpening 5 = .ok (.aload_n 0, 1) := by decide +kernel
theorem dX9_isOpening_6 : decode cX9_isOpening 6 = .ok (.getfield 303, 3) := by decide +kernel
theorem dX9_isOpening_9 : decode cX9_isOpening 9 = .ok (.if_icmp .ge 29, 3) := by decide +kernel
theorem dX9_isOpening_12 : decode cX9_isOpening 12 = .ok (.iload_n 2, 1) := by decide +kernel
theorem dX9_isOpening_13 : decode cX9_isOpening 13 = .ok (.ifCond .ne 13, 3) := by decide +kernel
theorem dX9_isOpening_16 : decode cX9_isOpening 16 = .ok (.aload_n 0, 1) := by decide +kernel
theorem dX9_isOpening_17 : decode cX9_isOpening 17 = .ok (.getfield 82, 3) := by decide +kernel
theorem dX9_isOpening_20 : decode cX9_isOpening 20 = .ok (.iload_n 3, 1) := by decide +kernel
theorem dX9_isOpening_21 : decode cX9_isOpening 21 = .ok (.iaload, 1) := by decide +kernel
theorem dX9_isOpening_22 : decode cX9_isOpening 22 = .ok (.iload_n 1, 1) := by decide +kernel
theorem dX9_isOpening_23 : decode cX9_isOpening 23 = .ok (.if_icmp .ne 7, 3) := by decide +kernel
theorem dX9_isOpening_26 : decode cX9_isOpening 26 = .ok (.iconst 1, 1) := by decide +kernel
theorem dX9_isOpening_27 : decode cX9_isOpening 27 = .ok (.goto 4, 3) := by decide +kernel
theorem dX9_isOpening_30 : decode cX9_isOpening 30 = .ok (.iconst 0, 1) := by decide +kernel
theorem dX9_isOpening_31 : decode cX9_isOpening 31 = .ok (.istore_n 2, 1) := by decide +kernel
theorem dX9_isOpening_32 : decode cX9_isOpening 32 = .ok (.iinc 3 1, 3) := by decide +kernel
theorem dX9_isOpening_35 : decode cX9_isOpening 35 = .ok (.goto (-31), 3) := by decide +kernel
theorem dX9_isOpening_38 : decode cX9_isOpening 38 = .ok (.iload_n 2, 1) := by decide +kernel
theorem dX9_isOpening_39 : decode cX9_isOpening 39 = .ok (.ireturn, 1) := by decide +kernel
theorem dX9_layAhead_0 : decode cX9_layAhead 0 = .ok (.aload_n 0, 1) := by decide +kernel
theorem dX9_layAhead_1 : decode cX9_layAhead 1 = .ok (.invokevirtual 212, 3) := by decide +kernel
theorem dX9_layAhead_4 : decode cX9_layAhead 4 = .ok (.iconst 0, 1) := by decide +kernel
theorem dX9_layAhead_5 : decode cX9_layAhead 5 = .ok (.istore_n 1, 1) := by decide +kernel
theorem dX9_layAhead_6 : decode cX9_layAhead 6 = .ok (.iload_n 1, 1) := by decide +kernel
theorem dX9_layAhead_7 : decode cX9_layAhead 7 = .ok (.bipush 40, 2) := by decide +kernel
theorem dX9_layAhead_9 : decode cX9_layAhead 9 = .ok (.if_icmp .gt 73, 3) := by decide +kernel
theorem dX9_layAhead_12 : decode cX9_layAhead 12 = .ok (.aload_n 0, 1) := by decide +kernel
theorem dX9_layAhead_13 : decode cX9_layAhead 13 = .ok (.iload_n 1, 1) := by decide +kernel
theorem dX9_layAhead_14 : decode cX9_layAhead 14 = .ok (.aload_n 0, 1) := by decide +kernel
theorem dX9_layAhead_15 : decode cX9_layAhead 15 = .ok (.getfield 163, 3) := by decide +kernel
theorem dX9_layAhead_18 : decode cX9_layAhead 18 = .ok (.if_icmp .ge 21, 3) := by decide +kernel
theorem dX9_layAhead_21 : decode cX9_layAhead 21 = .ok (.aload_n 0, 1) := by decide +kernel
theorem dX9_layAhead_22 : decode cX9_layAhead 22 = .ok (.getfield 24, 3) := by decide +kernel
theorem dX9_layAhead_25 : decode cX9_layAhead 25 = .ok (.iload_n 1, 1) := by decide +kernel
theorem dX9_layAhead_26 : decode cX9_layAhead 26 = .ok (.iaload, 1) := by decide +kernel
theorem dX9_layAhead_27 : decode cX9_layAhead 27 = .ok (.aload_n 0, 1) := by decide +kernel
theorem dX9_layAhead_28 : decode cX9_layAhead 28 = .ok (.getfield 27, 3) := by decide +kernel
theorem dX9_layAhead_31 : decode cX9_layAhead 31 = .ok (.iload_n 1, 1) := by decide +kernel
theorem dX9_layAhead_32 : decode cX9_layAhead 32 = .ok (.iaload, 1) := by decide +kernel
theorem dX9_layAhead_33 : decode cX9_layAhead 33 = .ok (.invokestatic 215, 3) := by decide +kernel
theorem dX9_layAhead_36 : decode cX9_layAhead 36 = .ok (.goto 4, 3) := by decide +kernel
theorem dX9_layAhead_39 : decode cX9_layAhead 39 = .ok (.lconst 0, 1) := by decide +kernel
theorem dX9_layAhead_40 : decode cX9_layAhead 40 = .ok (.aload_n 0, 1) := by decide +kernel
theorem dX9_layAhead_41 : decode cX9_layAhead 41 = .ok (.iload_n 1, 1) := by decide +kernel
theorem dX9_layAhead_42 : decode cX9_layAhead 42 = .ok (.invokevirtual 306, 3) := by decide +kernel
theorem dX9_layAhead_45 : decode cX9_layAhead 45 = .ok (.invokevirtual 226, 3) := by decide +kernel
theorem dX9_layAhead_48 : decode cX9_layAhead 48 = .ok (.iconst 0, 1) := by decide +kernel
theorem dX9_layAhead_49 : decode cX9_layAhead 49 = .ok (.istore_n 2, 1) := by decide +kernel
theorem dX9_layAhead_50 : decode cX9_layAhead 50 = .ok (.iload_n 2, 1) := by decide +kernel
theorem dX9_layAhead_51 : decode cX9_layAhead 51 = .ok (.iconst 4, 1) := by decide +kernel
theorem dX9_layAhead_52 : decode cX9_layAhead 52 = .ok (.if_icmp .ge 24, 3) := by decide +kernel
theorem dX9_layAhead_55 : decode cX9_layAhead 55 = .ok (.aload_n 0, 1) := by decide +kernel
theorem dX9_layAhead_56 : decode cX9_layAhead 56 = .ok (.getfield 121, 3) := by decide +kernel
theorem dX9_layAhead_59 : decode cX9_layAhead 59 = .ok (.iconst 4, 1) := by decide +kernel
theorem dX9_layAhead_60 : decode cX9_layAhead 60 = .ok (.iload_n 1, 1) := by decide +kernel
theorem dX9_layAhead_61 : decode cX9_layAhead 61 = .ok (.imul, 1) := by decide +kernel
theorem dX9_layAhead_62 : decode cX9_layAhead 62 = .ok (.iload_n 2, 1) := by decide +kernel
theorem dX9_layAhead_63 : decode cX9_layAhead 63 = .ok (.iadd, 1) := by decide +kernel
theorem dX9_layAhead_64 : decode cX9_layAhead 64 = .ok (.aload_n 0, 1) := by decide +kernel
theorem dX9_layAhead_65 : decode cX9_layAhead 65 = .ok (.iload_n 2, 1) := by decide +kernel
theorem dX9_layAhead_66 : decode cX9_layAhead 66 = .ok (.invokevirtual 204, 3) := by decide +kernel
theorem dX9_layAhead_69 : decode cX9_layAhead 69 = .ok (.lastore, 1) := by decide +kernel
theorem dX9_layAhead_70 : decode cX9_layAhead 70 = .ok (.iinc 2 1, 3) := by decide +kernel
theorem dX9_layAhead_73 : decode cX9_layAhead 73 = .ok (.goto (-23), 3) := by decide +kernel
theorem dX9_layAhead_76 : decode cX9_layAhead 76 = .ok (.iinc 1 1, 3) := by decide +kernel
theorem dX9_layAhead_79 : decode cX9_layAhead 79 = .ok (.goto (-73), 3) := by decide +kernel
theorem dX9_layAhead_82 : decode cX9_layAhead 82 = .ok (.return_, 1) := by decide +kernel
theorem dX9_bakesWell_0 : decode cX9_bakesWell 0 = .ok (.iconst 0, 1) := by decide +kernel
theorem dX9_bakesWell_1 : decode cX9_bakesWell 1 = .ok (.istore_n 3, 1) := by decide +kernel
theorem dX9_bakesWell_2 : decode cX9_bakesWell 2 = .ok (.iconst 0, 1) := by decide +kernel
theorem dX9_bakesWell_3 : decode cX9_bakesWell 3 = .ok (.istore 4, 2) := by decide +kernel
theorem dX9_bakesWell_5 : decode cX9_bakesWell 5 = .ok (.iconst 0, 1) := by decide +kernel
theorem dX9_bakesWell_6 : decode cX9_bakesWell 6 = .ok (.istore 5, 2) := by decide +kernel
theorem dX9_bakesWell_8 : decode cX9_bakesWell 8 = .ok (.aload_n 0, 1) := by decide +kernel
theorem dX9_bakesWell_9 : decode cX9_bakesWell 9 = .ok (.getfield 82, 3) := by decide +kernel
theorem dX9_bakesWell_12 : decode cX9_bakesWell 12 = .ok (.aload_n 0, 1) := by decide +kernel
theorem dX9_bakesWell_13 : decode cX9_bakesWell 13 = .ok (.getfield 124, 3) := by decide +kernel
theorem dX9_bakesWell_16 : decode cX9_bakesWell 16 = .ok (.iload_n 2, 1) := by decide +kernel
theorem dX9_bakesWell_17 : decode cX9_bakesWell 17 = .ok (.iaload, 1) := by decide +kernel
theorem dX9_bakesWell_18 : decode cX9_bakesWell 18 = .ok (.iaload, 1) := by decide +kernel
theorem dX9_bakesWell_19 : decode cX9_bakesWell 19 = .ok (.istore 6, 2) := by decide +kernel
theorem dX9_bakesWell_21 : decode cX9_bakesWell 21 = .ok (.iload 6, 2) := by decide +kernel
theorem dX9_bakesWell_23 : decode cX9_bakesWell 23 = .ok (.aload_n 0, 1) := by decide +kernel
theorem dX9_bakesWell_24 : decode cX9_bakesWell 24 = .ok (.getfield 82, 3) := by decide +kernel
theorem dX9_bakesWell_27 : decode cX9_bakesWell 27 = .ok (.aload_n 0, 1) := by decide +kernel
theorem dX9_bakesWell_28 : decode cX9_bakesWell 28 = .ok (.getfield 127, 3) := by decide +kernel
theorem dX9_bakesWell_31 : decode cX9_bakesWell 31 = .ok (.iload_n 2, 1) := by decide +kernel
theorem dX9_bakesWell_32 : decode cX9_bakesWell 32 = .ok (.iaload, 1) := by decide +kernel
theorem dX9_bakesWell_33 : decode cX9_bakesWell 33 = .ok (.iaload, 1) := by decide +kernel
theorem dX9_bakesWell_34 : decode cX9_bakesWell 34 = .ok (.if_icmp .ge 67, 3) := by decide +kernel
theorem dX9_bakesWell_37 : decode cX9_bakesWell 37 = .ok (.iinc 5 1, 3) := by decide +kernel
theorem dX9_bakesWell_40 : decode cX9_bakesWell 40 = .ok (.aload_n 0, 1) := by decide +kernel
theorem dX9_bakesWell_41 : decode cX9_bakesWell 41 = .ok (.iload_n 1, 1) := by decide +kernel
theorem dX9_bakesWell_42 : decode cX9_bakesWell 42 = .ok (.iload 5, 2) := by decide +kernel
theorem dX9_bakesWell_44 : decode cX9_bakesWell 44 = .ok (.aload_n 0, 1) := by decide +kernel
theorem dX9_bakesWell_45 : decode cX9_bakesWell 45 = .ok (.getfield 121, 3) := by decide +kernel
theorem dX9_bakesWell_48 : decode cX9_bakesWell 48 = .ok (.iconst 4, 1) := by decide +kernel
theorem dX9_bakesWell_49 : decode cX9_bakesWell 49 = .ok (.iload 6, 2) := by decide +kernel
theorem dX9_bakesWell_51 : decode cX9_bakesWell 51 = .ok (.imul, 1) := by decide +kernel
theorem dX9_bakesWell_52 : decode cX9_bakesWell 52 = .ok (.aload_n 0, 1) := by decide +kernel
theorem dX9_bakesWell_53 : decode cX9_bakesWell 53 = .ok (.getfield 130, 3) := by decide +kernel
theorem dX9_bakesWell_56 : decode cX9_bakesWell 56 = .ok (.iload_n 2, 1) := by decide +kernel
theorem dX9_bakesWell_57 : decode cX9_bakesWell 57 = .ok (.iaload, 1) := by decide +kernel
theorem dX9_bakesWell_58 : decode cX9_bakesWell 58 = .ok (.iadd, 1) := by decide +kernel
theorem dX9_bakesWell_59 : decode cX9_bakesWell 59 = .ok (.laload, 1) := by decide +kernel
theorem dX9_bakesWell_60 : decode cX9_bakesWell 60 = .ok (.invokevirtual 208, 3) := by decide +kernel
theorem dX9_bakesWell_63 : decode cX9_bakesWell 63 = .ok (.istore 7, 2) := by decide +kernel
theorem dX9_bakesWell_65 : decode cX9_bakesWell 65 = .ok (.iload_n 3, 1) := by decide +kernel
theorem dX9_bakesWell_66 : decode cX9_bakesWell 66 = .ok (.iload 7, 2) := by decide +kernel
theorem dX9_bakesWell_68 : decode cX9_bakesWell 68 = .ok (.iconst 2, 1) := by decide +kernel
theorem dX9_bakesWell_69 : decode cX9_bakesWell 69 = .ok (.if_icmp .ne 7, 3) := by decide +kernel
theorem dX9_bakesWell_72 : decode cX9_bakesWell 72 = .ok (.iconst 1, 1) := by decide +kernel
theorem dX9_bakesWell_73 : decode cX9_bakesWell 73 = .ok (.goto 4, 3) := by decide +kernel
theorem dX9_bakesWell_76 : decode cX9_bakesWell 76 = .ok (.iconst 0, 1) := by decide +kernel
theorem dX9_bakesWell_77 : decode cX9_bakesWell 77 = .ok (.iadd, 1) := by decide +kernel
theorem dX9_bakesWell_78 : decode cX9_bakesWell 78 = .ok (.istore_n 3, 1) := by decide +kernel
theorem dX9_bakesWell_79 : decode cX9_bakesWell 79 = .ok (.iload 4, 2) := by decide +kernel
theorem dX9_bakesWell_81 : decode cX9_bakesWell 81 = .ok (.iload 7, 2) := by decide +kernel
theorem dX9_bakesWell_83 : decode cX9_bakesWell 83 = .ok (.iconst 1, 1) := by decide +kernel
theorem dX9_bakesWell_84 : decode cX9_bakesWell 84 = .ok (.if_icmp .ne 7, 3) := by decide +kernel
theorem dX9_bakesWell_87 : decode cX9_bakesWell 87 = .ok (.iconst 1, 1) := by decide +kernel
theorem dX9_bakesWell_88 : decode cX9_bakesWell 88 = .ok (.goto 4, 3) := by decide +kernel
theorem dX9_bakesWell_91 : decode cX9_bakesWell 91 = .ok (.iconst 0, 1) := by decide +kernel
theorem dX9_bakesWell_92 : decode cX9_bakesWell 92 = .ok (.iadd, 1) := by decide +kernel
theorem dX9_bakesWell_93 : decode cX9_bakesWell 93 = .ok (.istore 4, 2) := by decide +kernel
theorem dX9_bakesWell_95 : decode cX9_bakesWell 95 = .ok (.iinc 6 1, 3) := by decide +kernel
theorem dX9_bakesWell_98 : decode cX9_bakesWell 98 = .ok (.goto (-77), 3) := by decide +kernel
theorem dX9_bakesWell_101 : decode cX9_bakesWell 101 = .ok (.aload_n 0, 1) := by decide +kernel
theorem dX9_bakesWell_102 : decode cX9_bakesWell 102 = .ok (.iload_n 1, 1) := by decide +kernel
theorem dX9_bakesWell_103 : decode cX9_bakesWell 103 = .ok (.iload_n 3, 1) := by decide +kernel
theorem dX9_bakesWell_104 : decode cX9_bakesWell 104 = .ok (.iload 4, 2) := by decide +kernel
theorem dX9_bakesWell_106 : decode cX9_bakesWell 106 = .ok (.iload 5, 2) := by decide +kernel
theorem dX9_bakesWell_108 : decode cX9_bakesWell 108 = .ok (.invokevirtual 293, 3) := by decide +kernel
theorem dX9_bakesWell_111 : decode cX9_bakesWell 111 = .ok (.iconst 1, 1) := by decide +kernel
theorem dX9_bakesWell_112 : decode cX9_bakesWell 112 = .ok (.if_icmp .ne 7, 3) := by decide +kernel
theorem dX9_bakesWell_115 : decode cX9_bakesWell 115 = .ok (.iconst 1, 1) := by decide +kernel
theorem dX9_bakesWell_116 : decode cX9_bakesWell 116 = .ok (.goto 4, 3) := by decide +kernel
theorem dX9_bakesWell_119 : decode cX9_bakesWell 119 = .ok (.iconst 0, 1) := by decide +kernel
theorem dX9_bakesWell_120 : decode cX9_bakesWell 120 = .ok (.ireturn, 1) := by decide +kernel
theorem dX9_layWays_0 : decode cX9_layWays 0 = .ok (.aload_n 0, 1) := by decide +kernel
theorem dX9_layWays_1 : decode cX9_layWays 1 = .ok (.invokevirtual 309, 3) := by decide +kernel
theorem dX9_layWays_4 : decode cX9_layWays 4 = .ok (.aload_n 0, 1) := by decide +kernel
theorem dX9_layWays_5 : decode cX9_layWays 5 = .ok (.iconst 0, 1) := by decide +kernel
theorem dX9_layWays_6 : decode cX9_layWays 6 = .ok (.putfield 312, 3) := by decide +kernel
theorem dX9_layWays_9 : decode cX9_layWays 9 = .ok (.iconst 0, 1) := by decide +kernel
theorem dX9_layWays_10 : decode cX9_layWays 10 = .ok (.istore_n 1, 1) := by decide +kernel
theorem dX9_layWays_11 : decode cX9_layWays 11 = .ok (.iload_n 1, 1) := by decide +kernel
theorem dX9_layWays_12 : decode cX9_layWays 12 = .ok (.aload_n 0, 1) := by decide +kernel
theorem dX9_layWays_13 : decode cX9_layWays 13 = .ok (.getfield 303, 3) := by decide +kernel
theorem dX9_layWays_16 : decode cX9_layWays 16 = .ok (.if_icmp .ge 128, 3) := by decide +kernel
theorem dX9_layWays_19 : decode cX9_layWays 19 = .ok (.iload_n 1, 1) := by decide +kernel
theorem dX9_layWays_20 : decode cX9_layWays 20 = .ok (.iconst 1, 1) := by decide +kernel
theorem dX9_layWays_21 : decode cX9_layWays 21 = .ok (.iadd, 1) := by decide +kernel
theorem dX9_layWays_22 : decode cX9_layWays 22 = .ok (.istore_n 2, 1) := by decide +kernel
theorem dX9_layWays_23 : decode cX9_layWays 23 = .ok (.iload_n 2, 1) := by decide +kernel
theorem dX9_layWays_24 : decode cX9_layWays 24 = .ok (.aload_n 0, 1) := by decide +kernel
theorem dX9_layWays_25 : decode cX9_layWays 25 = .ok (.getfield 303, 3) := by decide +kernel
theorem dX9_layWays_28 : decode cX9_layWays 28 = .ok (.if_icmp .ge 110, 3) := by decide +kernel
theorem dX9_layWays_31 : decode cX9_layWays 31 = .ok (.iconst 0, 1) := by decide +kernel
theorem dX9_layWays_32 : decode cX9_layWays 32 = .ok (.istore_n 3, 1) := by decide +kernel
theorem dX9_layWays_33 : decode cX9_layWays 33 = .ok (.iload_n 3, 1) := by decide +kernel
theorem dX9_layWays_34 : decode cX9_layWays 34 = .ok (.iconst 4, 1) := by decide +kernel
theorem dX9_layWays_35 : decode cX9_layWays 35 = .ok (.if_icmp .ge 97, 3) := by decide +kernel
theorem dX9_layWays_38 : decode cX9_layWays 38 = .ok (.aload_n 0, 1) := by decide +kernel
theorem dX9_layWays_39 : decode cX9_layWays 39 = .ok (.getfield 124, 3) := by decide +kernel
theorem dX9_layWays_42 : decode cX9_layWays 42 = .ok (.aload_n 0, 1) := by decide +kernel
theorem dX9_layWays_43 : decode cX9_layWays 43 = .ok (.getfield 312, 3) := by decide +kernel
theorem dX9_layWays_46 : decode cX9_layWays 46 = .ok (.iload_n 1, 1) := by decide +kernel
theorem dX9_layWays_47 : decode cX9_layWays 47 = .ok (.iastore, 1) := by decide +kernel
theorem dX9_layWays_48 : decode cX9_layWays 48 = .ok (.aload_n 0, 1) := by decide +kernel
theorem dX9_layWays_49 : decode cX9_layWays 49 = .ok (.getfield 127, 3) := by decide +kernel
theorem dX9_layWays_52 : decode cX9_layWays 52 = .ok (.aload_n 0, 1) := by decide +kernel
theorem dX9_layWays_53 : decode cX9_layWays 53 = .ok (.getfield 312, 3) := by decide +kernel
theorem dX9_layWays_56 : decode cX9_layWays 56 = .ok (.iload_n 2, 1) := by decide +kernel
theorem dX9_layWays_57 : decode cX9_layWays 57 = .ok (.iastore, 1) := by decide +kernel
theorem dX9_layWays_58 : decode cX9_layWays 58 = .ok (.aload_n 0, 1) := by decide +kernel
theorem dX9_layWays_59 : decode cX9_layWays 59 = .ok (.getfield 130, 3) := by decide +kernel
theorem dX9_layWays_62 : decode cX9_layWays 62 = .ok (.aload_n 0, 1) := by decide +kernel
theorem dX9_layWays_63 : decode cX9_layWays 63 = .ok (.getfield 312, 3) := by decide +kernel
theorem dX9_layWays_66 : decode cX9_layWays 66 = .ok (.iload_n 3, 1) := by decide +kernel
theorem dX9_layWays_67 : decode cX9_layWays 67 = .ok (.iastore, 1) := by decide +kernel
theorem dX9_layWays_68 : decode cX9_layWays 68 = .ok (.iconst 0, 1) := by decide +kernel
theorem dX9_layWays_69 : decode cX9_layWays 69 = .ok (.istore 4, 2) := by decide +kernel
theorem dX9_layWays_71 : decode cX9_layWays 71 = .ok (.iload 4, 2) := by decide +kernel
theorem dX9_layWays_73 : decode cX9_layWays 73 = .ok (.aload_n 0, 1) := by decide +kernel
theorem dX9_layWays_74 : decode cX9_layWays 74 = .ok (.getfield 300, 3) := by decide +kernel
theorem dX9_layWays_77 : decode cX9_layWays 77 = .ok (.if_icmp .ge 39, 3) := by decide +kernel
theorem dX9_layWays_80 : decode cX9_layWays 80 = .ok (.aload_n 0, 1) := by decide +kernel
theorem dX9_layWays_81 : decode cX9_layWays 81 = .ok (.getfield 133, 3) := by decide +kernel
theorem dX9_layWays_84 : decode cX9_layWays 84 = .ok (.bipush 13, 2) := by decide +kernel
theorem dX9_layWays_86 : decode cX9_layWays 86 = .ok (.iload 4, 2) := by decide +kernel
theorem dX9_layWays_88 : decode cX9_layWays 88 = .ok (.imul, 1) := by decide +kernel
theorem dX9_layWays_89 : decode cX9_layWays 89 = .ok (.aload_n 0, 1) := by decide +kernel
theorem dX9_layWays_90 : decode cX9_layWays 90 = .ok (.getfield 312, 3) := by decide +kernel
theorem dX9_layWays_93 : decode cX9_layWays 93 = .ok (.iadd, 1) := by decide +kernel
theorem dX9_layWays_94 : decode cX9_layWays 94 = .ok (.aload_n 0, 1) := by decide +kernel
theorem dX9_layWays_95 : decode cX9_layWays 95 = .ok (.aload_n 0, 1) := by decide +kernel
theorem dX9_layWays_96 : decode cX9_layWays 96 = .ok (.getfield 79, 3) := by decide +kernel
theorem dX9_layWays_99 : decode cX9_layWays 99 = .ok (.iload 4, 2) := by decide +kernel
theorem dX9_layWays_101 : decode cX9_layWays 101 = .ok (.iaload, 1) := by decide +kernel
theorem dX9_layWays_102 : decode cX9_layWays 102 = .ok (.aload_n 0, 1) := by decide +kernel
theorem dX9_layWays_103 : decode cX9_layWays 103 = .ok (.getfield 312, 3) := by decide +kernel
theorem dX9_layWays_106 : decode cX9_layWays 106 = .ok (.invokevirtual 315, 3) := by decide +kernel
theorem dX9_layWays_109 : decode cX9_layWays 109 = .ok (.bastore, 1) := by decide +kernel
theorem dX9_layWays_110 : decode cX9_layWays 110 = .ok (.iinc 4 1, 3) := by decide +kernel
theorem dX9_layWays_113 : decode cX9_layWays 113 = .ok (.goto (-42), 3) := by decide +kernel
theorem dX9_layWays_116 : decode cX9_layWays 116 = .ok (.aload_n 0, 1) := by decide +kernel
theorem dX9_layWays_117 : decode cX9_layWays 117 = .ok (.dup, 1) := by decide +kernel
theorem dX9_layWays_118 : decode cX9_layWays 118 = .ok (.getfield 312, 3) := by decide +kernel
theorem dX9_layWays_121 : decode cX9_layWays 121 = .ok (.iconst 1, 1) := by decide +kernel
theorem dX9_layWays_122 : decode cX9_layWays 122 = .ok (.iadd, 1) := by decide +kernel
theorem dX9_layWays_123 : decode cX9_layWays 123 = .ok (.putfield 312, 3) := by decide +kernel
theorem dX9_layWays_126 : decode cX9_layWays 126 = .ok (.iinc 3 1, 3) := by decide +kernel
theorem dX9_layWays_129 : decode cX9_layWays 129 = .ok (.goto (-96), 3) := by decide +kernel
theorem dX9_layWays_132 : decode cX9_layWays 132 = .ok (.iinc 2 1, 3) := by decide +kernel
theorem dX9_layWays_135 : decode cX9_layWays 135 = .ok (.goto (-112), 3) := by decide +kernel
theorem dX9_layWays_138 : decode cX9_layWays 138 = .ok (.iinc 1 1, 3) := by decide +kernel
theorem dX9_layWays_141 : decode cX9_layWays 141 = .ok (.goto (-130), 3) := by decide +kernel
theorem dX9_layWays_144 : decode cX9_layWays 144 = .ok (.return_, 1) := by decide +kernel
theorem dX9_layGiven_0 : decode cX9_layGiven 0 = .ok (.iload_n 1, 1) := by decide +kernel
theorem dX9_layGiven_1 : decode cX9_layGiven 1 = .ok (.istore_n 2, 1) := by decide +kernel
theorem dX9_layGiven_2 : decode cX9_layGiven 2 = .ok (.iconst 1, 1) := by decide +kernel
theorem dX9_layGiven_3 : decode cX9_layGiven 3 = .ok (.istore_n 3, 1) := by decide +kernel
theorem dX9_layGiven_4 : decode cX9_layGiven 4 = .ok (.aload_n 0, 1) := by decide +kernel
theorem dX9_layGiven_5 : decode cX9_layGiven 5 = .ok (.getfield 300, 3) := by decide +kernel
theorem dX9_layGiven_8 : decode cX9_layGiven 8 = .ok (.iconst 1, 1) := by decide +kernel
theorem dX9_layGiven_9 : decode cX9_layGiven 9 = .ok (.isub, 1) := by decide +kernel
theorem dX9_layGiven_10 : decode cX9_layGiven 10 = .ok (.istore 4, 2) := by decide +kernel
theorem dX9_layGiven_12 : decode cX9_layGiven 12 = .ok (.iload 4, 2) := by decide +kernel
theorem dX9_layGiven_14 : decode cX9_layGiven 14 = .ok (.ifCond .lt 78, 3) := by decide +kernel
theorem dX9_layGiven_17 : decode cX9_layGiven 17 = .ok (.aload_n 0, 1) := by decide +kernel
theorem dX9_layGiven_18 : decode cX9_layGiven 18 = .ok (.getfield 136, 3) := by decide +kernel
theorem dX9_layGiven_21 : decode cX9_layGiven 21 = .ok (.iload 4, 2) := by decide +kernel
theorem dX9_layGiven_23 : decode cX9_layGiven 23 = .ok (.iload_n 2, 1) := by decide +kernel
theorem dX9_layGiven_24 : decode cX9_layGiven 24 = .ok (.aload_n 0, 1) := by decide +kernel
theorem dX9_layGiven_25 : decode cX9_layGiven 25 = .ok (.getfield 312, 3) := by decide +kernel
theorem dX9_layGiven_28 : decode cX9_layGiven 28 = .ok (.iconst 1, 1) := by decide +kernel
theorem dX9_layGiven_29 : decode cX9_layGiven 29 = .ok (.iadd, 1) := by decide +kernel
theorem dX9_layGiven_30 : decode cX9_layGiven 30 = .ok (.irem, 1) := by decide +kernel
theorem dX9_layGiven_31 : decode cX9_layGiven 31 = .ok (.iastore, 1) := by decide +kernel
theorem dX9_layGiven_32 : decode cX9_layGiven 32 = .ok (.iload_n 2, 1) := by decide +kernel
theorem dX9_layGiven_33 : decode cX9_layGiven 33 = .ok (.aload_n 0, 1) := by decide +kernel
theorem dX9_layGiven_34 : decode cX9_layGiven 34 = .ok (.getfield 312, 3) := by decide +kernel
theorem dX9_layGiven_37 : decode cX9_layGiven 37 = .ok (.iconst 1, 1) := by decide +kernel
theorem dX9_layGiven_38 : decode cX9_layGiven 38 = .ok (.iadd, 1) := by decide +kernel
theorem dX9_layGiven_39 : decode cX9_layGiven 39 = .ok (.idiv, 1) := by decide +kernel
theorem dX9_layGiven_40 : decode cX9_layGiven 40 = .ok (.istore_n 2, 1) := by decide +kernel
theorem dX9_layGiven_41 : decode cX9_layGiven 41 = .ok (.iload_n 3, 1) := by decide +kernel
theorem dX9_layGiven_42 : decode cX9_layGiven 42 = .ok (.ifCond .eq 42, 3) := by decide +kernel
theorem dX9_layGiven_45 : decode cX9_layGiven 45 = .ok (.aload_n 0, 1) := by decide +kernel
theorem dX9_layGiven_46 : decode cX9_layGiven 46 = .ok (.getfield 136, 3) := by decide +kernel
theorem dX9_layGiven_49 : decode cX9_layGiven 49 = .ok (.iload 4, 2) := by decide +kernel
theorem dX9_layGiven_51 : decode cX9_layGiven 51 = .ok (.iaload, 1) := by decide +kernel
theorem dX9_layGiven_52 : decode cX9_layGiven 52 = .ok (.aload_n 0, 1) := by decide +kernel
theorem dX9_layGiven_53 : decode cX9_layGiven 53 = .ok (.getfield 312, 3) := by decide +kernel
theorem dX9_layGiven_56 : decode cX9_layGiven 56 = .ok (.if_icmp .eq 24, 3) := by decide +kernel
theorem dX9_layGiven_59 : decode cX9_layGiven 59 = .ok (.aload_n 0, 1) := by decide +kernel
theorem dX9_layGiven_60 : decode cX9_layGiven 60 = .ok (.getfield 133, 3) := by decide +kernel
theorem dX9_layGiven_63 : decode cX9_layGiven 63 = .ok (.bipush 13, 2) := by decide +kernel
theorem dX9_layGiven_65 : decode cX9_layGiven 65 = .ok (.iload 4, 2) := by decide +kernel
theorem dX9_layGiven_67 : decode cX9_layGiven 67 = .ok (.imul, 1) := by decide +kernel
theorem dX9_layGiven_68 : decode cX9_layGiven 68 = .ok (.aload_n 0, 1) := by decide +kernel
theorem dX9_layGiven_69 : decode cX9_layGiven 69 = .ok (.getfield 136, 3) := by decide +kernel
theorem dX9_layGiven_72 : decode cX9_layGiven 72 = .ok (.iload 4, 2) := by decide +kernel
theorem dX9_layGiven_74 : decode cX9_layGiven 74 = .ok (.iaload, 1) := by decide +kernel
theorem dX9_layGiven_75 : decode cX9_layGiven 75 = .ok (.iadd, 1) := by decide +kernel
theorem dX9_layGiven_76 : decode cX9_layGiven 76 = .ok (.baload, 1) := by decide +kernel
theorem dX9_layGiven_77 : decode cX9_layGiven 77 = .ok (.ifCond .eq 7, 3) := by decide +kernel
theorem dX9_layGiven_80 : decode cX9_layGiven 80 = .ok (.iconst 1, 1) := by decide +kernel
theorem dX9_layGiven_81 : decode cX9_layGiven 81 = .ok (.goto 4, 3) := by decide +kernel
theorem dX9_layGiven_84 : decode cX9_layGiven 84 = .ok (.iconst 0, 1) := by decide +kernel
theorem dX9_layGiven_85 : decode cX9_layGiven 85 = .ok (.istore_n 3, 1) := by decide +kernel
theorem dX9_layGiven_86 : decode cX9_layGiven 86 = .ok (.iinc 4 (-1), 3) := by decide +kernel
theorem dX9_layGiven_89 : decode cX9_layGiven 89 = .ok (.goto (-77), 3) := by decide +kernel
theorem dX9_layGiven_92 : decode cX9_layGiven 92 = .ok (.iload_n 3, 1) := by decide +kernel
theorem dX9_layGiven_93 : decode cX9_layGiven 93 = .ok (.ireturn, 1) := by decide +kernel
theorem dX9_bakedMany_0 : decode cX9_bakedMany 0 = .ok (.iconst 0, 1) := by decide +kernel
theorem dX9_bakedMany_1 : decode cX9_bakedMany 1 = .ok (.istore_n 1, 1) := by decide +kernel
theorem dX9_bakedMany_2 : decode cX9_bakedMany 2 = .ok (.iconst 0, 1) := by decide +kernel
theorem dX9_bakedMany_3 : decode cX9_bakedMany 3 = .ok (.istore_n 2, 1) := by decide +kernel
theorem dX9_bakedMany_4 : decode cX9_bakedMany 4 = .ok (.iload_n 2, 1) := by decide +kernel
theorem dX9_bakedMany_5 : decode cX9_bakedMany 5 = .ok (.aload_n 0, 1) := by decide +kernel
theorem dX9_bakedMany_6 : decode cX9_bakedMany 6 = .ok (.getfield 300, 3) := by decide +kernel
theorem dX9_bakedMany_9 : decode cX9_bakedMany 9 = .ok (.if_icmp .ge 30, 3) := by decide +kernel
theorem dX9_bakedMany_12 : decode cX9_bakedMany 12 = .ok (.iload_n 1, 1) := by decide +kernel
theorem dX9_bakedMany_13 : decode cX9_bakedMany 13 = .ok (.aload_n 0, 1) := by decide +kernel
theorem dX9_bakedMany_14 : decode cX9_bakedMany 14 = .ok (.getfield 136, 3) := by decide +kernel
theorem dX9_bakedMany_17 : decode cX9_bakedMany 17 = .ok (.iload_n 2, 1) := by decide +kernel
theorem dX9_bakedMany_18 : decode cX9_bakedMany 18 = .ok (.iaload, 1) := by decide +kernel
theorem dX9_bakedMany_19 : decode cX9_bakedMany 19 = .ok (.aload_n 0, 1) := by decide +kernel
theorem dX9_bakedMany_20 : decode cX9_bakedMany 20 = .ok (.getfield 312, 3) := by decide +kernel
theorem dX9_bakedMany_23 : decode cX9_bakedMany 23 = .ok (.if_icmp .ne 7, 3) := by decide +kernel
theorem dX9_bakedMany_26 : decode cX9_bakedMany 26 = .ok (.iconst 0, 1) := by decide +kernel
theorem dX9_bakedMany_27 : decode cX9_bakedMany 27 = .ok (.goto 4, 3) := by decide +kernel
theorem dX9_bakedMany_30 : decode cX9_bakedMany 30 = .ok (.iconst 1, 1) := by decide +kernel
theorem dX9_bakedMany_31 : decode cX9_bakedMany 31 = .ok (.iadd, 1) := by decide +kernel
theorem dX9_bakedMany_32 : decode cX9_bakedMany 32 = .ok (.istore_n 1, 1) := by decide +kernel
theorem dX9_bakedMany_33 : decode cX9_bakedMany 33 = .ok (.iinc 2 1, 3) := by decide +kernel
theorem dX9_bakedMany_36 : decode cX9_bakedMany 36 = .ok (.goto (-32), 3) := by decide +kernel
theorem dX9_bakedMany_39 : decode cX9_bakedMany 39 = .ok (.iload_n 1, 1) := by decide +kernel
theorem dX9_bakedMany_40 : decode cX9_bakedMany 40 = .ok (.ireturn, 1) := by decide +kernel
theorem dX9_keepsRoom_0 : decode cX9_keepsRoom 0 = .ok (.iconst 0, 1) := by decide +kernel
theorem dX9_keepsRoom_1 : decode cX9_keepsRoom 1 = .ok (.istore_n 1, 1) := by decide +kernel
theorem dX9_keepsRoom_2 : decode cX9_keepsRoom 2 = .ok (.iload_n 1, 1) := by decide +kernel
theorem dX9_keepsRoom_3 : decode cX9_keepsRoom 3 = .ok (.iconst 1, 1) := by decide +kernel
theorem dX9_keepsRoom_4 : decode cX9_keepsRoom 4 = .ok (.iadd, 1) := by decide +kernel
theorem dX9_keepsRoom_5 : decode cX9_keepsRoom 5 = .ok (.aload_n 0, 1) := by decide +kernel
theorem dX9_keepsRoom_6 : decode cX9_keepsRoom 6 = .ok (.getfield 303, 3) := by decide +kernel
theorem dX9_keepsRoom_9 : decode cX9_keepsRoom 9 = .ok (.if_icmp .ge 115, 3) := by decide +kernel
theorem dX9_keepsRoom_12 : decode cX9_keepsRoom 12 = .ok (.iconst 0, 1) := by decide +kernel
theorem dX9_keepsRoom_13 : decode cX9_keepsRoom 13 = .ok (.istore_n 2, 1) := by decide +kernel
theorem dX9_keepsRoom_14 : decode cX9_keepsRoom 14 = .ok (.iload_n 2, 1) := by decide +kernel
theorem dX9_keepsRoom_15 : decode cX9_keepsRoom 15 = .ok (.iconst 4, 1) := by decide +kernel
theorem dX9_keepsRoom_16 : decode cX9_keepsRoom 16 = .ok (.if_icmp .ge 102, 3) := by decide +kernel
theorem dX9_keepsRoom_19 : decode cX9_keepsRoom 19 = .ok (.aload_n 0, 1) := by decide +kernel
theorem dX9_keepsRoom_20 : decode cX9_keepsRoom 20 = .ok (.invokevirtual 263, 3) := by decide +kernel
theorem dX9_keepsRoom_23 : decode cX9_keepsRoom 23 = .ok (.iconst 0, 1) := by decide +kernel
theorem dX9_keepsRoom_24 : decode cX9_keepsRoom 24 = .ok (.istore_n 3, 1) := by decide +kernel
theorem dX9_keepsRoom_25 : decode cX9_keepsRoom 25 = .ok (.iload_n 3, 1) := by decide +kernel
theorem dX9_keepsRoom_26 : decode cX9_keepsRoom 26 = .ok (.aload_n 0, 1) := by decide +kernel
theorem dX9_keepsRoom_27 : decode cX9_keepsRoom 27 = .ok (.getfield 300, 3) := by decide +kernel
theorem dX9_keepsRoom_30 : decode cX9_keepsRoom 30 = .ok (.if_icmp .ge 69, 3) := by decide +kernel
theorem dX9_keepsRoom_33 : decode cX9_keepsRoom 33 = .ok (.aload_n 0, 1) := by decide +kernel
theorem dX9_keepsRoom_34 : decode cX9_keepsRoom 34 = .ok (.getfield 136, 3) := by decide +kernel
theorem dX9_keepsRoom_37 : decode cX9_keepsRoom 37 = .ok (.iload_n 3, 1) := by decide +kernel
theorem dX9_keepsRoom_38 : decode cX9_keepsRoom 38 = .ok (.iaload, 1) := by decide +kernel
theorem dX9_keepsRoom_39 : decode cX9_keepsRoom 39 = .ok (.istore 4, 2) := by decide +kernel
theorem dX9_keepsRoom_41 : decode cX9_keepsRoom 41 = .ok (.iload 4, 2) := by decide +kernel
theorem dX9_keepsRoom_43 : decode cX9_keepsRoom 43 = .ok (.aload_n 0, 1) := by decide +kernel
theorem dX9_keepsRoom_44 : decode cX9_keepsRoom 44 = .ok (.getfield 312, 3) := by decide +kernel
theorem dX9_keepsRoom_47 : decode cX9_keepsRoom 47 = .ok (.if_icmp .ge 46, 3) := by decide +kernel
theorem dX9_keepsRoom_50 : decode cX9_keepsRoom 50 = .ok (.aload_n 0, 1) := by decide +kernel
theorem dX9_keepsRoom_51 : decode cX9_keepsRoom 51 = .ok (.getfield 130, 3) := by decide +kernel
theorem dX9_keepsRoom_54 : decode cX9_keepsRoom 54 = .ok (.iload 4, 2) := by decide +kernel
theorem dX9_keepsRoom_56 : decode cX9_keepsRoom 56 = .ok (.iaload, 1) := by decide +kernel
theorem dX9_keepsRoom_57 : decode cX9_keepsRoom 57 = .ok (.iload_n 2, 1) := by decide +kernel
theorem dX9_keepsRoom_58 : decode cX9_keepsRoom 58 = .ok (.if_icmp .ne 35, 3) := by decide +kernel
theorem dX9_keepsRoom_61 : decode cX9_keepsRoom 61 = .ok (.aload_n 0, 1) := by decide +kernel
theorem dX9_keepsRoom_62 : decode cX9_keepsRoom 62 = .ok (.getfield 124, 3) := by decide +kernel
theorem dX9_keepsRoom_65 : decode cX9_keepsRoom 65 = .ok (.iload 4, 2) := by decide +kernel
theorem dX9_keepsRoom_67 : decode cX9_keepsRoom 67 = .ok (.iaload, 1) := by decide +kernel
theorem dX9_keepsRoom_68 : decode cX9_keepsRoom 68 = .ok (.iload_n 1, 1) := by decide +kernel
theorem dX9_keepsRoom_69 : decode cX9_keepsRoom 69 = .ok (.if_icmp .gt 24, 3) := by decide +kernel
theorem dX9_keepsRoom_72 : decode cX9_keepsRoom 72 = .ok (.aload_n 0, 1) := by decide +kernel
theorem dX9_keepsRoom_73 : decode cX9_keepsRoom 73 = .ok (.getfield 127, 3) := by decide +kernel
theorem dX9_keepsRoom_76 : decode cX9_keepsRoom 76 = .ok (.iload 4, 2) := by decide +kernel
theorem dX9_keepsRoom_78 : decode cX9_keepsRoom 78 = .ok (.iaload, 1) := by decide +kernel
theorem dX9_keepsRoom_79 : decode cX9_keepsRoom 79 = .ok (.iload_n 1, 1) := by decide +kernel
theorem dX9_keepsRoom_80 : decode cX9_keepsRoom 80 = .ok (.if_icmp .le 13, 3) := by decide +kernel
theorem dX9_keepsRoom_83 : decode cX9_keepsRoom 83 = .ok (.aload_n 0, 1) := by decide +kernel
theorem dX9_keepsRoom_84 : decode cX9_keepsRoom 84 = .ok (.aload_n 0, 1) := by decide +kernel
theorem dX9_keepsRoom_85 : decode cX9_keepsRoom 85 = .ok (.getfield 79, 3) := by decide +kernel
theorem dX9_keepsRoom_88 : decode cX9_keepsRoom 88 = .ok (.iload_n 3, 1) := by decide +kernel
theorem dX9_keepsRoom_89 : decode cX9_keepsRoom 89 = .ok (.iaload, 1) := by decide +kernel
theorem dX9_keepsRoom_90 : decode cX9_keepsRoom 90 = .ok (.invokevirtual 266, 3) := by decide +kernel
theorem dX9_keepsRoom_93 : decode cX9_keepsRoom 93 = .ok (.iinc 3 1, 3) := by decide +kernel
theorem dX9_keepsRoom_96 : decode cX9_keepsRoom 96 = .ok (.goto (-71), 3) := by decide +kernel
theorem dX9_keepsRoom_99 : decode cX9_keepsRoom 99 = .ok (.aload_n 0, 1) := by decide +kernel
theorem dX9_keepsRoom_100 : decode cX9_keepsRoom 100 = .ok (.invokevirtual 274, 3) := by decide +kernel
theorem dX9_keepsRoom_103 : decode cX9_keepsRoom 103 = .ok (.iload_n 2, 1) := by decide +kernel
theorem dX9_keepsRoom_104 : decode cX9_keepsRoom 104 = .ok (.invokestatic 278, 3) := by decide +kernel
theorem dX9_keepsRoom_107 : decode cX9_keepsRoom 107 = .ok (.if_icmp .le 5, 3) := by decide +kernel
theorem dX9_keepsRoom_110 : decode cX9_keepsRoom 110 = .ok (.iconst 0, 1) := by decide +kernel
theorem dX9_keepsRoom_111 : decode cX9_keepsRoom 111 = .ok (.ireturn, 1) := by decide +kernel
theorem dX9_keepsRoom_112 : decode cX9_keepsRoom 112 = .ok (.iinc 2 1, 3) := by decide +kernel
theorem dX9_keepsRoom_115 : decode cX9_keepsRoom 115 = .ok (.goto (-101), 3) := by decide +kernel
theorem dX9_keepsRoom_118 : decode cX9_keepsRoom 118 = .ok (.iinc 1 1, 3) := by decide +kernel
theorem dX9_keepsRoom_121 : decode cX9_keepsRoom 121 = .ok (.goto (-119), 3) := by decide +kernel
theorem dX9_keepsRoom_124 : decode cX9_keepsRoom 124 = .ok (.iconst 1, 1) := by decide +kernel
theorem dX9_keepsRoom_125 : decode cX9_keepsRoom 125 = .ok (.ireturn, 1) := by decide +kernel
theorem dX9_findPlan_0 : decode cX9_findPlan 0 = .ok (.aload_n 0, 1) := by decide +kernel
theorem dX9_findPlan_1 : decode cX9_findPlan 1 = .ok (.invokevirtual 318, 3) := by decide +kernel
theorem dX9_findPlan_4 : decode cX9_findPlan 4 = .ok (.iconst 1, 1) := by decide +kernel
theorem dX9_findPlan_5 : decode cX9_findPlan 5 = .ok (.istore_n 1, 1) := by decide +kernel
theorem dX9_findPlan_6 : decode cX9_findPlan 6 = .ok (.iconst 0, 1) := by decide +kernel
theorem dX9_findPlan_7 : decode cX9_findPlan 7 = .ok (.istore_n 2, 1) := by decide +kernel
theorem dX9_findPlan_8 : decode cX9_findPlan 8 = .ok (.iload_n 2, 1) := by decide +kernel
theorem dX9_findPlan_9 : decode cX9_findPlan 9 = .ok (.aload_n 0, 1) := by decide +kernel
theorem dX9_findPlan_10 : decode cX9_findPlan 10 = .ok (.getfield 300, 3) := by decide +kernel
theorem dX9_findPlan_13 : decode cX9_findPlan 13 = .ok (.if_icmp .ge 18, 3) := by decide +kernel
theorem dX9_findPlan_16 : decode cX9_findPlan 16 = .ok (.iload_n 1, 1) := by decide +kernel
theorem dX9_findPlan_17 : decode cX9_findPlan 17 = .ok (.aload_n 0, 1) := by decide +kernel
theorem dX9_findPlan_18 : decode cX9_findPlan 18 = .ok (.getfield 312, 3) := by decide +kernel
theorem dX9_findPlan_21 : decode cX9_findPlan 21 = .ok (.iconst 1, 1) := by decide +kernel
theorem dX9_findPlan_22 : decode cX9_findPlan 22 = .ok (.iadd, 1) := by decide +kernel
theorem dX9_findPlan_23 : decode cX9_findPlan 23 = .ok (.imul, 1) := by decide +kernel
theorem dX9_findPlan_24 : decode cX9_findPlan 24 = .ok (.istore_n 1, 1) := by decide +kernel
theorem dX9_findPlan_25 : decode cX9_findPlan 25 = .ok (.iinc 2 1, 3) := by decide +kernel
theorem dX9_findPlan_28 : decode cX9_findPlan 28 = .ok (.goto (-20), 3) := by decide +kernel
theorem dX9_findPlan_31 : decode cX9_findPlan 31 = .ok (.iconst (-1), 1) := by decide +kernel
theorem dX9_findPlan_32 : decode cX9_findPlan 32 = .ok (.istore_n 2, 1) := by decide +kernel
theorem dX9_findPlan_33 : decode cX9_findPlan 33 = .ok (.iconst 0, 1) := by decide +kernel
theorem dX9_findPlan_34 : decode cX9_findPlan 34 = .ok (.istore_n 3, 1) := by decide +kernel
theorem dX9_findPlan_35 : decode cX9_findPlan 35 = .ok (.iload_n 3, 1) := by decide +kernel
theorem dX9_findPlan_36 : decode cX9_findPlan 36 = .ok (.iload_n 1, 1) := by decide +kernel
theorem dX9_findPlan_37 : decode cX9_findPlan 37 = .ok (.if_icmp .ge 42, 3) := by decide +kernel
theorem dX9_findPlan_40 : decode cX9_findPlan 40 = .ok (.aload_n 0, 1) := by decide +kernel
theorem dX9_findPlan_41 : decode cX9_findPlan 41 = .ok (.iload_n 3, 1) := by decide +kernel
theorem dX9_findPlan_42 : decode cX9_findPlan 42 = .ok (.invokevirtual 321, 3) := by decide +kernel
theorem dX9_findPlan_45 : decode cX9_findPlan 45 = .ok (.ifCond .eq 28, 3) := by decide +kernel
theorem dX9_findPlan_48 : decode cX9_findPlan 48 = .ok (.aload_n 0, 1) := by decide +kernel
theorem dX9_findPlan_49 : decode cX9_findPlan 49 = .ok (.invokevirtual 324, 3) := by decide +kernel
theorem dX9_findPlan_52 : decode cX9_findPlan 52 = .ok (.iload_n 2, 1) := by decide +kernel
theorem dX9_findPlan_53 : decode cX9_findPlan 53 = .ok (.if_icmp .le 20, 3) := by decide +kernel
theorem dX9_findPlan_56 : decode cX9_findPlan 56 = .ok (.aload_n 0, 1) := by decide +kernel
theorem dX9_findPlan_57 : decode cX9_findPlan 57 = .ok (.invokevirtual 327, 3) := by decide +kernel
theorem dX9_findPlan_60 : decode cX9_findPlan 60 = .ok (.ifCond .eq 13, 3) := by decide +kernel
theorem dX9_findPlan_63 : decode cX9_findPlan 63 = .ok (.aload_n 0, 1) := by decide +kernel
theorem dX9_findPlan_64 : decode cX9_findPlan 64 = .ok (.invokevirtual 324, 3) := by decide +kernel
theorem dX9_findPlan_67 : decode cX9_findPlan 67 = .ok (.istore_n 2, 1) := by decide +kernel
theorem dX9_findPlan_68 : decode cX9_findPlan 68 = .ok (.aload_n 0, 1) := by decide +kernel
theorem dX9_findPlan_69 : decode cX9_findPlan 69 = .ok (.iload_n 3, 1) := by decide +kernel
theorem dX9_findPlan_70 : decode cX9_findPlan 70 = .ok (.putfield 331, 3) := by decide +kernel
theorem dX9_findPlan_73 : decode cX9_findPlan 73 = .ok (.iinc 3 1, 3) := by decide +kernel
theorem dX9_findPlan_76 : decode cX9_findPlan 76 = .ok (.goto (-41), 3) := by decide +kernel
theorem dX9_findPlan_79 : decode cX9_findPlan 79 = .ok (.iload_n 2, 1) := by decide +kernel
theorem dX9_findPlan_80 : decode cX9_findPlan 80 = .ok (.ireturn, 1) := by decide +kernel
theorem dX9_plan_0 : decode cX9_plan 0 = .ok (.aload_n 0, 1) := by decide +kernel
theorem dX9_plan_1 : decode cX9_plan 1 = .ok (.invokevirtual 284, 3) := by decide +kernel
theorem dX9_plan_4 : decode cX9_plan 4 = .ok (.ifCond .le 8, 3) := by decide +kernel
theorem dX9_plan_7 : decode cX9_plan 7 = .ok (.bipush (-3), 2) := by decide +kernel
theorem dX9_plan_9 : decode cX9_plan 9 = .ok (.goto 7, 3) := by decide +kernel
theorem dX9_plan_12 : decode cX9_plan 12 = .ok (.aload_n 0, 1) := by decide +kernel
theorem dX9_plan_13 : decode cX9_plan 13 = .ok (.invokevirtual 334, 3) := by decide +kernel
theorem dX9_plan_16 : decode cX9_plan 16 = .ok (.ireturn, 1) := by decide +kernel
theorem dX9_planned_0 : decode cX9_planned 0 = .ok (.iload_n 1, 1) := by decide +kernel
theorem dX9_planned_1 : decode cX9_planned 1 = .ok (.iconst 0, 1) := by decide +kernel
theorem dX9_planned_2 : decode cX9_planned 2 = .ok (.aload_n 0, 1) := by decide +kernel
theorem dX9_planned_3 : decode cX9_planned 3 = .ok (.getfield 300, 3) := by decide +kernel
theorem dX9_planned_6 : decode cX9_planned 6 = .ok (.iconst 1, 1) := by decide +kernel
theorem dX9_planned_7 : decode cX9_planned 7 = .ok (.isub, 1) := by decide +kernel
theorem dX9_planned_8 : decode cX9_planned 8 = .ok (.invokestatic 148, 3) := by decide +kernel
theorem dX9_planned_11 : decode cX9_planned 11 = .ok (.ifCond .eq 12, 3) := by decide +kernel
theorem dX9_planned_14 : decode cX9_planned 14 = .ok (.iload_n 2, 1) := by decide +kernel
theorem dX9_planned_15 : decode cX9_planned 15 = .ok (.iconst 0, 1) := by decide +kernel
theorem dX9_planned_16 : decode cX9_planned 16 = .ok (.iconst 2, 1) := by decide +kernel
theorem dX9_planned_17 : decode cX9_planned 17 = .ok (.invokestatic 148, 3) := by decide +kernel
theorem dX9_planned_20 : decode cX9_planned 20 = .ok (.ifCond .ne 6, 3) := by decide +kernel
theorem dX9_planned_23 : decode cX9_planned 23 = .ok (.bipush (-2), 2) := by decide +kernel
theorem dX9_planned_25 : decode cX9_planned 25 = .ok (.ireturn, 1) := by decide +kernel
theorem dX9_planned_26 : decode cX9_planned 26 = .ok (.aload_n 0, 1) := by decide +kernel
theorem dX9_planned_27 : decode cX9_planned 27 = .ok (.invokevirtual 284, 3) := by decide +kernel
theorem dX9_planned_30 : decode cX9_planned 30 = .ok (.ifCond .le 6, 3) := by decide +kernel
theorem dX9_planned_33 : decode cX9_planned 33 = .ok (.bipush (-3), 2) := by decide +kernel
theorem dX9_planned_35 : decode cX9_planned 35 = .ok (.ireturn, 1) := by decide +kernel
theorem dX9_planned_36 : decode cX9_planned 36 = .ok (.aload_n 0, 1) := by decide +kernel
theorem dX9_planned_37 : decode cX9_planned 37 = .ok (.invokevirtual 334, 3) := by decide +kernel
theorem dX9_planned_40 : decode cX9_planned 40 = .ok (.pop, 1) := by decide +kernel
theorem dX9_planned_41 : decode cX9_planned 41 = .ok (.aload_n 0, 1) := by decide +kernel
theorem dX9_planned_42 : decode cX9_planned 42 = .ok (.aload_n 0, 1) := by decide +kernel
theorem dX9_planned_43 : decode cX9_planned 43 = .ok (.getfield 331, 3) := by decide +kernel
theorem dX9_planned_46 : decode cX9_planned 46 = .ok (.invokevirtual 321, 3) := by decide +kernel
theorem dX9_planned_49 : decode cX9_planned 49 = .ok (.pop, 1) := by decide +kernel
theorem dX9_planned_50 : decode cX9_planned 50 = .ok (.aload_n 0, 1) := by decide +kernel
theorem dX9_planned_51 : decode cX9_planned 51 = .ok (.getfield 136, 3) := by decide +kernel
theorem dX9_planned_54 : decode cX9_planned 54 = .ok (.iload_n 1, 1) := by decide +kernel
theorem dX9_planned_55 : decode cX9_planned 55 = .ok (.iaload, 1) := by decide +kernel
theorem dX9_planned_56 : decode cX9_planned 56 = .ok (.istore_n 3, 1) := by decide +kernel
theorem dX9_planned_57 : decode cX9_planned 57 = .ok (.iload_n 3, 1) := by decide +kernel
theorem dX9_planned_58 : decode cX9_planned 58 = .ok (.aload_n 0, 1) := by decide +kernel
theorem dX9_planned_59 : decode cX9_planned 59 = .ok (.getfield 312, 3) := by decide +kernel
theorem dX9_planned_62 : decode cX9_planned 62 = .ok (.if_icmp .ne 5, 3) := by decide +kernel
theorem dX9_planned_65 : decode cX9_planned 65 = .ok (.iconst (-1), 1) := by decide +kernel
theorem dX9_planned_66 : decode cX9_planned 66 = .ok (.ireturn, 1) := by decide +kernel
theorem dX9_planned_67 : decode cX9_planned 67 = .ok (.iload_n 2, 1) := by decide +kernel
theorem dX9_planned_68 : decode cX9_planned 68 = .ok (.ifCond .ne 12, 3) := by decide +kernel
theorem dX9_planned_71 : decode cX9_planned 71 = .ok (.aload_n 0, 1) := by decide +kernel
theorem dX9_planned_72 : decode cX9_planned 72 = .ok (.getfield 130, 3) := by decide +kernel
theorem dX9_planned_75 : decode cX9_planned 75 = .ok (.iload_n 3, 1) := by decide +kernel
theorem dX9_planned_76 : decode cX9_planned 76 = .ok (.iaload, 1) := by decide +kernel
theorem dX9_planned_77 : decode cX9_planned 77 = .ok (.goto 28, 3) := by decide +kernel
theorem dX9_planned_80 : decode cX9_planned 80 = .ok (.aload_n 0, 1) := by decide +kernel
theorem dX9_planned_81 : decode cX9_planned 81 = .ok (.getfield 82, 3) := by decide +kernel
theorem dX9_planned_84 : decode cX9_planned 84 = .ok (.iload_n 2, 1) := by decide +kernel
theorem dX9_planned_85 : decode cX9_planned 85 = .ok (.iconst 1, 1) := by decide +kernel
theorem dX9_planned_86 : decode cX9_planned 86 = .ok (.if_icmp .ne 12, 3) := by decide +kernel
theorem dX9_planned_89 : decode cX9_planned 89 = .ok (.aload_n 0, 1) := by decide +kernel
theorem dX9_planned_90 : decode cX9_planned 90 = .ok (.getfield 124, 3) := by decide +kernel
theorem dX9_planned_93 : decode cX9_planned 93 = .ok (.iload_n 3, 1) := by decide +kernel
theorem dX9_planned_94 : decode cX9_planned 94 = .ok (.iaload, 1) := by decide +kernel
theorem dX9_planned_95 : decode cX9_planned 95 = .ok (.goto 9, 3) := by decide +kernel
theorem dX9_planned_98 : decode cX9_planned 98 = .ok (.aload_n 0, 1) := by decide +kernel
theorem dX9_planned_99 : decode cX9_planned 99 = .ok (.getfield 127, 3) := by decide +kernel
theorem dX9_planned_102 : decode cX9_planned 102 = .ok (.iload_n 3, 1) := by decide +kernel
theorem dX9_planned_103 : decode cX9_planned 103 = .ok (.iaload, 1) := by decide +kernel
theorem dX9_planned_104 : decode cX9_planned 104 = .ok (.iaload, 1) := by decide +kernel
theorem dX9_planned_105 : decode cX9_planned 105 = .ok (.ireturn, 1) := by decide +kernel
theorem dX9_last_0 : decode cX9_last 0 = .ok (.iload_n 1, 1) := by decide +kernel
theorem dX9_last_1 : decode cX9_last 1 = .ok (.iconst 0, 1) := by decide +kernel
theorem dX9_last_2 : decode cX9_last 2 = .ok (.iconst 1, 1) := by decide +kernel
theorem dX9_last_3 : decode cX9_last 3 = .ok (.invokestatic 148, 3) := by decide +kernel
theorem dX9_last_6 : decode cX9_last 6 = .ok (.ifCond .ne 6, 3) := by decide +kernel
theorem dX9_last_9 : decode cX9_last 9 = .ok (.bipush (-2), 2) := by decide +kernel
theorem dX9_last_11 : decode cX9_last 11 = .ok (.ireturn, 1) := by decide +kernel
theorem dX9_last_12 : decode cX9_last 12 = .ok (.aload_n 0, 1) := by decide +kernel
theorem dX9_last_13 : decode cX9_last 13 = .ok (.invokevirtual 284, 3) := by decide +kernel
theorem dX9_last_16 : decode cX9_last 16 = .ok (.ifCond .le 6, 3) := by decide +kernel
theorem dX9_last_19 : decode cX9_last 19 = .ok (.bipush (-3), 2) := by decide +kernel
theorem dX9_last_21 : decode cX9_last 21 = .ok (.ireturn, 1) := by decide +kernel
theorem dX9_last_22 : decode cX9_last 22 = .ok (.aload_n 0, 1) := by decide +kernel
theorem dX9_last_23 : decode cX9_last 23 = .ok (.getfield 303, 3) := by decide +kernel
theorem dX9_last_26 : decode cX9_last 26 = .ok (.iconst 3, 1) := by decide +kernel
theorem dX9_last_27 : decode cX9_last 27 = .ok (.if_icmp .ne 6, 3) := by decide +kernel
theorem dX9_last_30 : decode cX9_last 30 = .ok (.bipush (-4), 2) := by decide +kernel
theorem dX9_last_32 : decode cX9_last 32 = .ok (.ireturn, 1) := by decide +kernel
theorem dX9_last_33 : decode cX9_last 33 = .ok (.iconst (-1), 1) := by decide +kernel
theorem dX9_last_34 : decode cX9_last 34 = .ok (.istore_n 2, 1) := by decide +kernel
theorem dX9_last_35 : decode cX9_last 35 = .ok (.iconst (-1), 1) := by decide +kernel
theorem dX9_last_36 : decode cX9_last 36 = .ok (.istore_n 3, 1) := by decide +kernel
theorem dX9_last_37 : decode cX9_last 37 = .ok (.aload_n 0, 1) := by decide +kernel
theorem dX9_last_38 : decode cX9_last 38 = .ok (.getfield 303, 3) := by decide +kernel
theorem dX9_last_41 : decode cX9_last 41 = .ok (.ifCond .ne 7, 3) := by decide +kernel
theorem dX9_last_44 : decode cX9_last 44 = .ok (.iconst 0, 1) := by decide +kernel
theorem dX9_last_45 : decode cX9_last 45 = .ok (.goto 16, 3) := by decide +kernel
theorem dX9_last_48 : decode cX9_last 48 = .ok (.aload_n 0, 1) := by decide +kernel
theorem dX9_last_49 : decode cX9_last 49 = .ok (.getfield 82, 3) := by decide +kernel
theorem dX9_last_52 : decode cX9_last 52 = .ok (.aload_n 0, 1) := by decide +kernel
theorem dX9_last_53 : decode cX9_last 53 = .ok (.getfield 303, 3) := by decide +kernel
theorem dX9_last_56 : decode cX9_last 56 = .ok (.iconst 1, 1) := by decide +kernel
theorem dX9_last_57 : decode cX9_last 57 = .ok (.isub, 1) := by decide +kernel
theorem dX9_last_58 : decode cX9_last 58 = .ok (.iaload, 1) := by decide +kernel
theorem dX9_last_59 : decode cX9_last 59 = .ok (.iconst 1, 1) := by decide +kernel
theorem dX9_last_60 : decode cX9_last 60 = .ok (.iadd, 1) := by decide +kernel
theorem dX9_last_61 : decode cX9_last 61 = .ok (.istore 4, 2) := by decide +kernel
theorem dX9_last_63 : decode cX9_last 63 = .ok (.iload 4, 2) := by decide +kernel
theorem dX9_last_65 : decode cX9_last 65 = .ok (.istore 5, 2) := by decide +kernel
theorem dX9_last_67 : decode cX9_last 67 = .ok (.iload 5, 2) := by decide +kernel
theorem dX9_last_69 : decode cX9_last 69 = .ok (.bipush 40, 2) := by decide +kernel
theorem dX9_last_71 : decode cX9_last 71 = .ok (.if_icmp .gt 72, 3) := by decide +kernel
theorem dX9_last_74 : decode cX9_last 74 = .ok (.aload_n 0, 1) := by decide +kernel
theorem dX9_last_75 : decode cX9_last 75 = .ok (.getfield 82, 3) := by decide +kernel
theorem dX9_last_78 : decode cX9_last 78 = .ok (.aload_n 0, 1) := by decide +kernel
theorem dX9_last_79 : decode cX9_last 79 = .ok (.getfield 303, 3) := by decide +kernel
theorem dX9_last_82 : decode cX9_last 82 = .ok (.iload 5, 2) := by decide +kernel
theorem dX9_last_84 : decode cX9_last 84 = .ok (.iastore, 1) := by decide +kernel
theorem dX9_last_85 : decode cX9_last 85 = .ok (.aload_n 0, 1) := by decide +kernel
theorem dX9_last_86 : decode cX9_last 86 = .ok (.dup, 1) := by decide +kernel
theorem dX9_last_87 : decode cX9_last 87 = .ok (.getfield 303, 3) := by decide +kernel
theorem dX9_last_90 : decode cX9_last 90 = .ok (.iconst 1, 1) := by decide +kernel
theorem dX9_last_91 : decode cX9_last 91 = .ok (.iadd, 1) := by decide +kernel
theorem dX9_last_92 : decode cX9_last 92 = .ok (.putfield 303, 3) := by decide +kernel
theorem dX9_last_95 : decode cX9_last 95 = .ok (.aload_n 0, 1) := by decide +kernel
theorem dX9_last_96 : decode cX9_last 96 = .ok (.invokevirtual 334, 3) := by decide +kernel
theorem dX9_last_99 : decode cX9_last 99 = .ok (.istore 6, 2) := by decide +kernel
theorem dX9_last_101 : decode cX9_last 101 = .ok (.aload_n 0, 1) := by decide +kernel
theorem dX9_last_102 : decode cX9_last 102 = .ok (.dup, 1) := by decide +kernel
theorem dX9_last_103 : decode cX9_last 103 = .ok (.getfield 303, 3) := by decide +kernel
theorem dX9_last_106 : decode cX9_last 106 = .ok (.iconst 1, 1) := by decide +kernel
theorem dX9_last_107 : decode cX9_last 107 = .ok (.isub, 1) := by decide +kernel
theorem dX9_last_108 : decode cX9_last 108 = .ok (.putfield 303, 3) := by decide +kernel
theorem dX9_last_111 : decode cX9_last 111 = .ok (.iload 6, 2) := by decide +kernel
theorem dX9_last_113 : decode cX9_last 113 = .ok (.iload_n 2, 1) := by decide +kernel
theorem dX9_last_114 : decode cX9_last 114 = .ok (.if_icmp .le 8, 3) := by decide +kernel
theorem dX9_last_117 : decode cX9_last 117 = .ok (.iload 5, 2) := by decide +kernel
theorem dX9_last_119 : decode cX9_last 119 = .ok (.goto 4, 3) := by decide +kernel
theorem dX9_last_122 : decode cX9_last 122 = .ok (.iload_n 3, 1) := by decide +kernel
theorem dX9_last_123 : decode cX9_last 123 = .ok (.istore_n 3, 1) := by decide +kernel
theorem dX9_last_124 : decode cX9_last 124 = .ok (.iload 6, 2) := by decide +kernel
theorem dX9_last_126 : decode cX9_last 126 = .ok (.iload_n 2, 1) := by decide +kernel
theorem dX9_last_127 : decode cX9_last 127 = .ok (.if_icmp .le 8, 3) := by decide +kernel
theorem dX9_last_130 : decode cX9_last 130 = .ok (.iload 6, 2) := by decide +kernel
theorem dX9_last_132 : decode cX9_last 132 = .ok (.goto 4, 3) := by decide +kernel
theorem dX9_last_135 : decode cX9_last 135 = .ok (.iload_n 2, 1) := by decide +kernel
theorem dX9_last_136 : decode cX9_last 136 = .ok (.istore_n 2, 1) := by decide +kernel
theorem dX9_last_137 : decode cX9_last 137 = .ok (.iinc 5 1, 3) := by decide +kernel
theorem dX9_last_140 : decode cX9_last 140 = .ok (.goto (-73), 3) := by decide +kernel
theorem dX9_last_143 : decode cX9_last 143 = .ok (.iload_n 1, 1) := by decide +kernel
theorem dX9_last_144 : decode cX9_last 144 = .ok (.ifCond .ne 7, 3) := by decide +kernel
theorem dX9_last_147 : decode cX9_last 147 = .ok (.iload_n 3, 1) := by decide +kernel
theorem dX9_last_148 : decode cX9_last 148 = .ok (.goto 4, 3) := by decide +kernel
theorem dX9_last_151 : decode cX9_last 151 = .ok (.iload_n 2, 1) := by decide +kernel
theorem dX9_last_152 : decode cX9_last 152 = .ok (.ireturn, 1) := by decide +kernel
theorem dX9_wood_0 : decode cX9_wood 0 = .ok (.iload_n 1, 1) := by decide +kernel
theorem dX9_wood_1 : decode cX9_wood 1 = .ok (.iconst 0, 1) := by decide +kernel
theorem dX9_wood_2 : decode cX9_wood 2 = .ok (.sipush 2000, 3) := by decide +kernel
theorem dX9_wood_5 : decode cX9_wood 5 = .ok (.invokestatic 148, 3) := by decide +kernel
theorem dX9_wood_8 : decode cX9_wood 8 = .ok (.ifCond .eq 30, 3) := by decide +kernel
theorem dX9_wood_11 : decode cX9_wood 11 = .ok (.iload_n 2, 1) := by decide +kernel
theorem dX9_wood_12 : decode cX9_wood 12 = .ok (.invokestatic 152, 3) := by decide +kernel
theorem dX9_wood_15 : decode cX9_wood 15 = .ok (.ifCond .eq 23, 3) := by decide +kernel
theorem dX9_wood_18 : decode cX9_wood 18 = .ok (.iload_n 3, 1) := by decide +kernel
theorem dX9_wood_19 : decode cX9_wood 19 = .ok (.iconst 0, 1) := by decide +kernel
theorem dX9_wood_20 : decode cX9_wood 20 = .ok (.bipush 40, 2) := by decide +kernel
theorem dX9_wood_22 : decode cX9_wood 22 = .ok (.invokestatic 148, 3) := by decide +kernel
theorem dX9_wood_25 : decode cX9_wood 25 = .ok (.ifCond .eq 13, 3) := by decide +kernel
theorem dX9_wood_28 : decode cX9_wood 28 = .ok (.iload 4, 2) := by decide +kernel
theorem dX9_wood_30 : decode cX9_wood 30 = .ok (.iload 5, 2) := by decide +kernel
theorem dX9_wood_32 : decode cX9_wood 32 = .ok (.invokestatic 159, 3) := by decide +kernel
theorem dX9_wood_35 : decode cX9_wood 35 = .ok (.ifCond .ne 6, 3) := by decide +kernel
theorem dX9_wood_38 : decode cX9_wood 38 = .ok (.bipush (-2), 2) := by decide +kernel
theorem dX9_wood_40 : decode cX9_wood 40 = .ok (.ireturn, 1) := by decide +kernel
theorem dX9_wood_41 : decode cX9_wood 41 = .ok (.aload_n 0, 1) := by decide +kernel
theorem dX9_wood_42 : decode cX9_wood 42 = .ok (.invokevirtual 284, 3) := by decide +kernel
theorem dX9_wood_45 : decode cX9_wood 45 = .ok (.ifCond .le 6, 3) := by decide +kernel
theorem dX9_wood_48 : decode cX9_wood 48 = .ok (.bipush (-3), 2) := by decide +kernel
theorem dX9_wood_50 : decode cX9_wood 50 = .ok (.ireturn, 1) := by decide +kernel
theorem dX9_wood_51 : decode cX9_wood 51 = .ok (.iconst 1, 1) := by decide +kernel
theorem dX9_wood_52 : decode cX9_wood 52 = .ok (.istore 6, 2) := by decide +kernel
theorem dX9_wood_54 : decode cX9_wood 54 = .ok (.iload 6, 2) := by decide +kernel
theorem dX9_wood_56 : decode cX9_wood 56 = .ok (.bipush 30, 2) := by decide +kernel
theorem dX9_wood_58 : decode cX9_wood 58 = .ok (.if_icmp .gt 111, 3) := by decide +kernel
theorem dX9_wood_61 : decode cX9_wood 61 = .ok (.aload_n 0, 1) := by decide +kernel
theorem dX9_wood_62 : decode cX9_wood 62 = .ok (.invokevirtual 212, 3) := by decide +kernel
theorem dX9_wood_65 : decode cX9_wood 65 = .ok (.iconst 0, 1) := by decide +kernel
theorem dX9_wood_66 : decode cX9_wood 66 = .ok (.istore 7, 2) := by decide +kernel
theorem dX9_wood_68 : decode cX9_wood 68 = .ok (.iload 7, 2) := by decide +kernel
theorem dX9_wood_70 : decode cX9_wood 70 = .ok (.aload_n 0, 1) := by decide +kernel
theorem dX9_wood_71 : decode cX9_wood 71 = .ok (.getfield 163, 3) := by decide +kernel
theorem dX9_wood_74 : decode cX9_wood 74 = .ok (.iload 6, 2) := by decide +kernel
theorem dX9_wood_76 : decode cX9_wood 76 = .ok (.iadd, 1) := by decide +kernel
theorem dX9_wood_77 : decode cX9_wood 77 = .ok (.iload_n 3, 1) := by decide +kernel
theorem dX9_wood_78 : decode cX9_wood 78 = .ok (.iadd, 1) := by decide +kernel
theorem dX9_wood_79 : decode cX9_wood 79 = .ok (.if_icmp .ge 70, 3) := by decide +kernel
theorem dX9_wood_82 : decode cX9_wood 82 = .ok (.iload 7, 2) := by decide +kernel
theorem dX9_wood_84 : decode cX9_wood 84 = .ok (.aload_n 0, 1) := by decide +kernel
theorem dX9_wood_85 : decode cX9_wood 85 = .ok (.getfield 163, 3) := by decide +kernel
theorem dX9_wood_88 : decode cX9_wood 88 = .ok (.if_icmp .ge 23, 3) := by decide +kernel
theorem dX9_wood_91 : decode cX9_wood 91 = .ok (.aload_n 0, 1) := by decide +kernel
theorem dX9_wood_92 : decode cX9_wood 92 = .ok (.getfield 24, 3) := by decide +kernel
theorem dX9_wood_95 : decode cX9_wood 95 = .ok (.iload 7, 2) := by decide +kernel
theorem dX9_wood_97 : decode cX9_wood 97 = .ok (.iaload, 1) := by decide +kernel
theorem dX9_wood_98 : decode cX9_wood 98 = .ok (.aload_n 0, 1) := by decide +kernel
theorem dX9_wood_99 : decode cX9_wood 99 = .ok (.getfield 27, 3) := by decide +kernel
theorem dX9_wood_102 : decode cX9_wood 102 = .ok (.iload 7, 2) := by decide +kernel
theorem dX9_wood_104 : decode cX9_wood 104 = .ok (.iaload, 1) := by decide +kernel
theorem dX9_wood_105 : decode cX9_wood 105 = .ok (.invokestatic 215, 3) := by decide +kernel
theorem dX9_wood_108 : decode cX9_wood 108 = .ok (.goto 26, 3) := by decide +kernel
theorem dX9_wood_111 : decode cX9_wood 111 = .ok (.iload 7, 2) := by decide +kernel
theorem dX9_wood_113 : decode cX9_wood 113 = .ok (.aload_n 0, 1) := by decide +kernel
theorem dX9_wood_114 : decode cX9_wood 114 = .ok (.getfield 163, 3) := by decide +kernel
theorem dX9_wood_117 : decode cX9_wood 117 = .ok (.iload 6, 2) := by decide +kernel
theorem dX9_wood_119 : decode cX9_wood 119 = .ok (.iadd, 1) := by decide +kernel
theorem dX9_wood_120 : decode cX9_wood 120 = .ok (.if_icmp .ge 13, 3) := by decide +kernel
theorem dX9_wood_123 : decode cX9_wood 123 = .ok (.iload 4, 2) := by decide +kernel
theorem dX9_wood_125 : decode cX9_wood 125 = .ok (.iload 5, 2) := by decide +kernel
theorem dX9_wood_127 : decode cX9_wood 127 = .ok (.invokestatic 215, 3) := by decide +kernel
theorem dX9_wood_130 : decode cX9_wood 130 = .ok (.goto 4, 3) := by decide +kernel
theorem dX9_wood_133 : decode cX9_wood 133 = .ok (.lconst 0, 1) := by decide +kernel
theorem dX9_wood_134 : decode cX9_wood 134 = .ok (.lstore 8, 2) := by decide +kernel
theorem dX9_wood_136 : decode cX9_wood 136 = .ok (.aload_n 0, 1) := by decide +kernel
theorem dX9_wood_137 : decode cX9_wood 137 = .ok (.lload 8, 2) := by decide +kernel
theorem dX9_wood_139 : decode cX9_wood 139 = .ok (.iconst 0, 1) := by decide +kernel
theorem dX9_wood_140 : decode cX9_wood 140 = .ok (.invokevirtual 226, 3) := by decide +kernel
theorem dX9_wood_143 : decode cX9_wood 143 = .ok (.iinc 7 1, 3) := by decide +kernel
theorem dX9_wood_146 : decode cX9_wood 146 = .ok (.goto (-78), 3) := by decide +kernel
theorem dX9_wood_149 : decode cX9_wood 149 = .ok (.aload_n 0, 1) := by decide +kernel
theorem dX9_wood_150 : decode cX9_wood 150 = .ok (.iload_n 2, 1) := by decide +kernel
theorem dX9_wood_151 : decode cX9_wood 151 = .ok (.invokevirtual 204, 3) := by decide +kernel
theorem dX9_wood_154 : decode cX9_wood 154 = .ok (.iload_n 1, 1) := by decide +kernel
theorem dX9_wood_155 : decode cX9_wood 155 = .ok (.i2l, 1) := by decide +kernel
theorem dX9_wood_156 : decode cX9_wood 156 = .ok (.lcmp, 1) := by decide +kernel
theorem dX9_wood_157 : decode cX9_wood 157 = .ok (.ifCond .lt 6, 3) := by decide +kernel
theorem dX9_wood_160 : decode cX9_wood 160 = .ok (.iload 6, 2) := by decide +kernel
theorem dX9_wood_162 : decode cX9_wood 162 = .ok (.ireturn, 1) := by decide +kernel
theorem dX9_wood_163 : decode cX9_wood 163 = .ok (.iinc 6 1, 3) := by decide +kernel
theorem dX9_wood_166 : decode cX9_wood 166 = .ok (.goto (-112), 3) := by decide +kernel
theorem dX9_wood_169 : decode cX9_wood 169 = .ok (.iconst (-1), 1) := by decide +kernel
theorem dX9_wood_170 : decode cX9_wood 170 = .ok (.ireturn, 1) := by decide +kernel
theorem dX9_households_0 : decode cX9_households 0 = .ok (.iload_n 1, 1) := by decide +kernel
theorem dX9_households_1 : decode cX9_households 1 = .ok (.iconst 2, 1) := by decide +kernel
theorem dX9_households_2 : decode cX9_households 2 = .ok (.bipush 8, 2) := by decide +kernel
theorem dX9_households_4 : decode cX9_households 4 = .ok (.invokestatic 148, 3) := by decide +kernel
theorem dX9_households_7 : decode cX9_households 7 = .ok (.ifCond .ne 6, 3) := by decide +kernel
theorem dX9_households_10 : decode cX9_households 10 = .ok (.bipush (-2), 2) := by decide +kernel
theorem dX9_households_12 : decode cX9_households 12 = .ok (.ireturn, 1) := by decide +kernel
theorem dX9_households_13 : decode cX9_households 13 = .ok (.aload_n 0, 1) := by decide +kernel
theorem dX9_households_14 : decode cX9_households 14 = .ok (.getfield 85, 3) := by decide +kernel
theorem dX9_households_17 : decode cX9_households 17 = .ok (.istore_n 2, 1) := by decide +kernel
theorem dX9_households_18 : decode cX9_households 18 = .ok (.aload_n 0, 1) := by decide +kernel
theorem dX9_households_19 : decode cX9_households 19 = .ok (.iload_n 1, 1) := by decide +kernel
theorem dX9_households_20 : decode cX9_households 20 = .ok (.putfield 85, 3) := by decide +kernel
theorem dX9_households_23 : decode cX9_households 23 = .ok (.aload_n 0, 1) := by decide +kernel
theorem dX9_households_24 : decode cX9_households 24 = .ok (.iconst 0, 1) := by decide +kernel
theorem dX9_households_25 : decode cX9_households 25 = .ok (.putfield 337, 3) := by decide +kernel
theorem dX9_households_28 : decode cX9_households 28 = .ok (.iload_n 2, 1) := by decide +kernel
theorem dX9_households_29 : decode cX9_households 29 = .ok (.ireturn, 1) := by decide +kernel
theorem dX9_custom_0 : decode cX9_custom 0 = .ok (.iload_n 1, 1) := by decide +kernel
theorem dX9_custom_1 : decode cX9_custom 1 = .ok (.iconst 0, 1) := by decide +kernel
theorem dX9_custom_2 : decode cX9_custom 2 = .ok (.iconst 1, 1) := by decide +kernel
theorem dX9_custom_3 : decode cX9_custom 3 = .ok (.invokestatic 148, 3) := by decide +kernel
theorem dX9_custom_6 : decode cX9_custom 6 = .ok (.ifCond .eq 7, 3) := by decide +kernel
theorem dX9_custom_9 : decode cX9_custom 9 = .ok (.iload_n 2, 1) := by decide +kernel
theorem dX9_custom_10 : decode cX9_custom 10 = .ok (.ifCond .ge 6, 3) := by decide +kernel
theorem dX9_custom_13 : decode cX9_custom 13 = .ok (.bipush (-2), 2) := by decide +kernel
theorem dX9_custom_15 : decode cX9_custom 15 = .ok (.ireturn, 1) := by decide +kernel
theorem dX9_custom_16 : decode cX9_custom 16 = .ok (.aload_n 0, 1) := by decide +kernel
theorem dX9_custom_17 : decode cX9_custom 17 = .ok (.iload_n 1, 1) := by decide +kernel
theorem dX9_custom_18 : decode cX9_custom 18 = .ok (.putfield 340, 3) := by decide +kernel
theorem dX9_custom_21 : decode cX9_custom 21 = .ok (.aload_n 0, 1) := by decide +kernel
theorem dX9_custom_22 : decode cX9_custom 22 = .ok (.iload_n 2, 1) := by decide +kernel
theorem dX9_custom_23 : decode cX9_custom 23 = .ok (.putfield 343, 3) := by decide +kernel
theorem dX9_custom_26 : decode cX9_custom 26 = .ok (.iconst 1, 1) := by decide +kernel
theorem dX9_custom_27 : decode cX9_custom 27 = .ok (.ireturn, 1) := by decide +kernel
theorem dX9_isWeek_0 : decode cX9_isWeek 0 = .ok (.iload_n 0, 1) := by decide +kernel
theorem dX9_isWeek_1 : decode cX9_isWeek 1 = .ok (.iconst 0, 1) := by decide +kernel
theorem dX9_isWeek_2 : decode cX9_isWeek 2 = .ok (.bipush 60, 2) := by decide +kernel
theorem dX9_isWeek_4 : decode cX9_isWeek 4 = .ok (.invokestatic 148, 3) := by decide +kernel
theorem dX9_isWeek_7 : decode cX9_isWeek 7 = .ok (.ireturn, 1) := by decide +kernel
theorem dX9_isHouse_0 : decode cX9_isHouse 0 = .ok (.iload_n 1, 1) := by decide +kernel
theorem dX9_isHouse_1 : decode cX9_isHouse 1 = .ok (.iconst 0, 1) := by decide +kernel
theorem dX9_isHouse_2 : decode cX9_isHouse 2 = .ok (.aload_n 0, 1) := by decide +kernel
theorem dX9_isHouse_3 : decode cX9_isHouse 3 = .ok (.getfield 85, 3) := by decide +kernel
theorem dX9_isHouse_6 : decode cX9_isHouse 6 = .ok (.iconst 1, 1) := by decide +kernel
theorem dX9_isHouse_7 : decode cX9_isHouse 7 = .ok (.isub, 1) := by decide +kernel
theorem dX9_isHouse_8 : decode cX9_isHouse 8 = .ok (.invokestatic 148, 3) := by decide +kernel
theorem dX9_isHouse_11 : decode cX9_isHouse 11 = .ok (.ireturn, 1) := by decide +kernel
theorem dX9_told_0 : decode cX9_told 0 = .ok (.iload_n 1, 1) := by decide +kernel
theorem dX9_told_1 : decode cX9_told 1 = .ok (.invokestatic 346, 3) := by decide +kernel
theorem dX9_told_4 : decode cX9_told 4 = .ok (.ifCond .eq 24, 3) := by decide +kernel
theorem dX9_told_7 : decode cX9_told 7 = .ok (.aload_n 0, 1) := by decide +kernel
theorem dX9_told_8 : decode cX9_told 8 = .ok (.iload_n 2, 1) := by decide +kernel
theorem dX9_told_9 : decode cX9_told 9 = .ok (.invokevirtual 349, 3) := by decide +kernel
theorem dX9_told_12 : decode cX9_told 12 = .ok (.ifCond .eq 16, 3) := by decide +kernel
theorem dX9_told_15 : decode cX9_told 15 = .ok (.aload_n 0, 1) := by decide +kernel
theorem dX9_told_16 : decode cX9_told 16 = .ok (.iload_n 3, 1) := by decide +kernel
theorem dX9_told_17 : decode cX9_told 17 = .ok (.invokevirtual 349, 3) := by decide +kernel
theorem dX9_told_20 : decode cX9_told 20 = .ok (.ifCond .eq 8, 3) := by decide +kernel
theorem dX9_told_23 : decode cX9_told 23 = .ok (.iload_n 2, 1) := by decide +kernel
theorem dX9_told_24 : decode cX9_told 24 = .ok (.iload_n 3, 1) := by decide +kernel
theorem dX9_told_25 : decode cX9_told 25 = .ok (.if_icmp .ne 6, 3) := by decide +kernel
theorem dX9_told_28 : decode cX9_told 28 = .ok (.bipush (-2), 2) := by decide +kernel
theorem dX9_told_30 : decode cX9_told 30 = .ok (.ireturn, 1) := by decide +kernel
theorem dX9_told_31 : decode cX9_told 31 = .ok (.aload_n 0, 1) := by decide +kernel
theorem dX9_told_32 : decode cX9_told 32 = .ok (.getfield 337, 3) := by decide +kernel
theorem dX9_told_35 : decode cX9_told 35 = .ok (.bipush 30, 2) := by decide +kernel
theorem dX9_told_37 : decode cX9_told 37 = .ok (.if_icmp .ne 6, 3) := by decide +kernel
theorem dX9_told_40 : decode cX9_told 40 = .ok (.bipush (-4), 2) := by decide +kernel
theorem dX9_told_42 : decode cX9_told 42 = .ok (.ireturn, 1) := by decide +kernel
theorem dX9_told_43 : decode cX9_told 43 = .ok (.aload_n 0, 1) := by decide +kernel
theorem dX9_told_44 : decode cX9_told 44 = .ok (.getfield 91, 3) := by decide +kernel
theorem dX9_told_47 : decode cX9_told 47 = .ok (.aload_n 0, 1) := by decide +kernel
theorem dX9_told_48 : decode cX9_told 48 = .ok (.getfield 337, 3) := by decide +kernel
theorem dX9_told_51 : decode cX9_told 51 = .ok (.iload_n 1, 1) := by decide +kernel
theorem dX9_told_52 : decode cX9_told 52 = .ok (.iastore, 1) := by decide +kernel
theorem dX9_told_53 : decode cX9_told 53 = .ok (.aload_n 0, 1) := by decide +kernel
theorem dX9_told_54 : decode cX9_told 54 = .ok (.getfield 94, 3) := by decide +kernel
theorem dX9_told_57 : decode cX9_told 57 = .ok (.aload_n 0, 1) := by decide +kernel
theorem dX9_told_58 : decode cX9_told 58 = .ok (.getfield 337, 3) := by decide +kernel
theorem dX9_told_61 : decode cX9_told 61 = .ok (.iload_n 2, 1) := by decide +kernel
theorem dX9_told_62 : decode cX9_told 62 = .ok (.iastore, 1) := by decide +kernel
theorem dX9_told_63 : decode cX9_told 63 = .ok (.aload_n 0, 1) := by decide +kernel
theorem dX9_told_64 : decode cX9_told 64 = .ok (.getfield 97, 3) := by decide +kernel
theorem dX9_told_67 : decode cX9_told 67 = .ok (.aload_n 0, 1) := by decide +kernel
theorem dX9_told_68 : decode cX9_told 68 = .ok (.getfield 337, 3) := by decide +kernel
theorem dX9_told_71 : decode cX9_told 71 = .ok (.iload_n 3, 1) := by decide +kernel
theorem dX9_told_72 : decode cX9_told 72 = .ok (.iastore, 1) := by decide +kernel
theorem dX9_told_73 : decode cX9_told 73 = .ok (.aload_n 0, 1) := by decide +kernel
theorem dX9_told_74 : decode cX9_told 74 = .ok (.getfield 100, 3) := by decide +kernel
theorem dX9_told_77 : decode cX9_told 77 = .ok (.aload_n 0, 1) := by decide +kernel
theorem dX9_told_78 : decode cX9_told 78 = .ok (.getfield 337, 3) := by decide +kernel
theorem dX9_told_81 : decode cX9_told 81 = .ok (.iload 4, 2) := by decide +kernel
theorem dX9_told_83 : decode cX9_told 83 = .ok (.bastore, 1) := by decide +kernel
theorem dX9_told_84 : decode cX9_told 84 = .ok (.aload_n 0, 1) := by decide +kernel
theorem dX9_told_85 : decode cX9_told 85 = .ok (.dup, 1) := by decide +kernel
theorem dX9_told_86 : decode cX9_told 86 = .ok (.getfield 337, 3) := by decide +kernel
theorem dX9_told_89 : decode cX9_told 89 = .ok (.iconst 1, 1) := by decide +kernel
theorem dX9_told_90 : decode cX9_told 90 = .ok (.iadd, 1) := by decide +kernel
theorem dX9_told_91 : decode cX9_told 91 = .ok (.putfield 337, 3) := by decide +kernel
theorem dX9_told_94 : decode cX9_told 94 = .ok (.iconst 1, 1) := by decide +kernel
theorem dX9_told_95 : decode cX9_told 95 = .ok (.ireturn, 1) := by decide +kernel
theorem dX9_slots_0 : decode cX9_slots 0 = .ok (.iload_n 1, 1) := by decide +kernel
theorem dX9_slots_1 : decode cX9_slots 1 = .ok (.iconst 1, 1) := by decide +kernel
theorem dX9_slots_2 : decode cX9_slots 2 = .ok (.bipush 8, 2) := by decide +kernel
theorem dX9_slots_4 : decode cX9_slots 4 = .ok (.invokestatic 148, 3) := by decide +kernel
theorem dX9_slots_7 : decode cX9_slots 7 = .ok (.ifCond .ne 6, 3) := by decide +kernel
theorem dX9_slots_10 : decode cX9_slots 10 = .ok (.bipush (-2), 2) := by decide +kernel
theorem dX9_slots_12 : decode cX9_slots 12 = .ok (.ireturn, 1) := by decide +kernel
theorem dX9_slots_13 : decode cX9_slots 13 = .ok (.aload_n 0, 1) := by decide +kernel
theorem dX9_slots_14 : decode cX9_slots 14 = .ok (.getfield 88, 3) := by decide +kernel
theorem dX9_slots_17 : decode cX9_slots 17 = .ok (.istore_n 2, 1) := by decide +kernel
theorem dX9_slots_18 : decode cX9_slots 18 = .ok (.aload_n 0, 1) := by decide +kernel
theorem dX9_slots_19 : decode cX9_slots 19 = .ok (.iload_n 1, 1) := by decide +kernel
theorem dX9_slots_20 : decode cX9_slots 20 = .ok (.putfield 88, 3) := by decide +kernel
theorem dX9_slots_23 : decode cX9_slots 23 = .ok (.iload_n 2, 1) := by decide +kernel
theorem dX9_slots_24 : decode cX9_slots 24 = .ok (.ireturn, 1) := by decide +kernel
theorem dX9_placeOf_0 : decode cX9_placeOf 0 = .ok (.iconst 0, 1) := by decide +kernel
theorem dX9_placeOf_1 : decode cX9_placeOf 1 = .ok (.istore_n 2, 1) := by decide +kernel
theorem dX9_placeOf_2 : decode cX9_placeOf 2 = .ok (.aload_n 0, 1) := by decide +kernel
theorem dX9_placeOf_3 : decode cX9_placeOf 3 = .ok (.getfield 139, 3) := by decide +kernel
theorem dX9_placeOf_6 : decode cX9_placeOf 6 = .ok (.iload_n 2, 1) := by decide +kernel
theorem dX9_placeOf_7 : decode cX9_placeOf 7 = .ok (.iaload, 1) := by decide +kernel
theorem dX9_placeOf_8 : decode cX9_placeOf 8 = .ok (.iload_n 1, 1) := by decide +kernel
theorem dX9_placeOf_9 : decode cX9_placeOf 9 = .ok (.if_icmp .eq 9, 3) := by decide +kernel
theorem dX9_placeOf_12 : decode cX9_placeOf 12 = .ok (.iinc 2 1, 3) := by decide +kernel
theorem dX9_placeOf_15 : decode cX9_placeOf 15 = .ok (.goto (-13), 3) := by decide +kernel
theorem dX9_placeOf_18 : decode cX9_placeOf 18 = .ok (.iload_n 2, 1) := by decide +kernel
theorem dX9_placeOf_19 : decode cX9_placeOf 19 = .ok (.ireturn, 1) := by decide +kernel
theorem dX9_change_0 : decode cX9_change 0 = .ok (.aload_n 0, 1) := by decide +kernel
theorem dX9_change_1 : decode cX9_change 1 = .ok (.getfield 139, 3) := by decide +kernel
theorem dX9_change_4 : decode cX9_change 4 = .ok (.iload_n 1, 1) := by decide +kernel
theorem dX9_change_5 : decode cX9_change 5 = .ok (.iaload, 1) := by decide +kernel
theorem dX9_change_6 : decode cX9_change 6 = .ok (.istore_n 3, 1) := by decide +kernel
theorem dX9_change_7 : decode cX9_change 7 = .ok (.aload_n 0, 1) := by decide +kernel
theorem dX9_change_8 : decode cX9_change 8 = .ok (.getfield 139, 3) := by decide +kernel
theorem dX9_change_11 : decode cX9_change 11 = .ok (.iload_n 1, 1) := by decide +kernel
theorem dX9_change_12 : decode cX9_change 12 = .ok (.aload_n 0, 1) := by decide +kernel
theorem dX9_change_13 : decode cX9_change 13 = .ok (.getfield 139, 3) := by decide +kernel
theorem dX9_change_16 : decode cX9_change 16 = .ok (.iload_n 2, 1) := by decide +kernel
theorem dX9_change_17 : decode cX9_change 17 = .ok (.iaload, 1) := by decide +kernel
theorem dX9_change_18 : decode cX9_change 18 = .ok (.iastore, 1) := by decide +kernel
theorem dX9_change_19 : decode cX9_change 19 = .ok (.aload_n 0, 1) := by decide +kernel
theorem dX9_change_20 : decode cX9_change 20 = .ok (.getfield 139, 3) := by decide +kernel
theorem dX9_change_23 : decode cX9_change 23 = .ok (.iload_n 2, 1) := by decide +kernel
theorem dX9_change_24 : decode cX9_change 24 = .ok (.iload_n 3, 1) := by decide +kernel
theorem dX9_change_25 : decode cX9_change 25 = .ok (.iastore, 1) := by decide +kernel
theorem dX9_change_26 : decode cX9_change 26 = .ok (.return_, 1) := by decide +kernel
theorem dX9_give_0 : decode cX9_give 0 = .ok (.aload_n 0, 1) := by decide +kernel
theorem dX9_give_1 : decode cX9_give 1 = .ok (.iload_n 1, 1) := by decide +kernel
theorem dX9_give_2 : decode cX9_give 2 = .ok (.invokevirtual 352, 3) := by decide +kernel
theorem dX9_give_5 : decode cX9_give 5 = .ok (.istore_n 3, 1) := by decide +kernel
theorem dX9_give_6 : decode cX9_give 6 = .ok (.aload_n 0, 1) := by decide +kernel
theorem dX9_give_7 : decode cX9_give 7 = .ok (.iload_n 2, 1) := by decide +kernel
theorem dX9_give_8 : decode cX9_give 8 = .ok (.invokevirtual 352, 3) := by decide +kernel
theorem dX9_give_11 : decode cX9_give 11 = .ok (.istore 4, 2) := by decide +kernel
theorem dX9_give_13 : decode cX9_give 13 = .ok (.iload 4, 2) := by decide +kernel
theorem dX9_give_15 : decode cX9_give 15 = .ok (.istore 5, 2) := by decide +kernel
theorem dX9_give_17 : decode cX9_give 17 = .ok (.iload 5, 2) := by decide +kernel
theorem dX9_give_19 : decode cX9_give 19 = .ok (.iconst 1, 1) := by decide +kernel
theorem dX9_give_20 : decode cX9_give 20 = .ok (.iadd, 1) := by decide +kernel
theorem dX9_give_21 : decode cX9_give 21 = .ok (.aload_n 0, 1) := by decide +kernel
theorem dX9_give_22 : decode cX9_give 22 = .ok (.getfield 85, 3) := by decide +kernel
theorem dX9_give_25 : decode cX9_give 25 = .ok (.if_icmp .ge 25, 3) := by decide +kernel
theorem dX9_give_28 : decode cX9_give 28 = .ok (.aload_n 0, 1) := by decide +kernel
theorem dX9_give_29 : decode cX9_give 29 = .ok (.getfield 139, 3) := by decide +kernel
theorem dX9_give_32 : decode cX9_give 32 = .ok (.iload 5, 2) := by decide +kernel
theorem dX9_give_34 : decode cX9_give 34 = .ok (.aload_n 0, 1) := by decide +kernel
theorem dX9_give_35 : decode cX9_give 35 = .ok (.getfield 139, 3) := by decide +kernel
theorem dX9_give_38 : decode cX9_give 38 = .ok (.iload 5, 2) := by decide +kernel
theorem dX9_give_40 : decode cX9_give 40 = .ok (.iconst 1, 1) := by decide +kernel
theorem dX9_give_41 : decode cX9_give 41 = .ok (.iadd, 1) := by decide +kernel
theorem dX9_give_42 : decode cX9_give 42 = .ok (.iaload, 1) := by decide +kernel
theorem dX9_give_43 : decode cX9_give 43 = .ok (.iastore, 1) := by decide +kernel
theorem dX9_give_44 : decode cX9_give 44 = .ok (.iinc 5 1, 3) := by decide +kernel
theorem dX9_give_47 : decode cX9_give 47 = .ok (.goto (-30), 3) := by decide +kernel
theorem dX9_give_50 : decode cX9_give 50 = .ok (.aload_n 0, 1) := by decide +kernel
theorem dX9_give_51 : decode cX9_give 51 = .ok (.getfield 85, 3) := by decide +kernel
theorem dX9_give_54 : decode cX9_give 54 = .ok (.iconst 1, 1) := by decide +kernel
theorem dX9_give_55 : decode cX9_give 55 = .ok (.isub, 1) := by decide +kernel
theorem dX9_give_56 : decode cX9_give 56 = .ok (.istore 5, 2) := by decide +kernel
theorem dX9_give_58 : decode cX9_give 58 = .ok (.iload 5, 2) := by decide +kernel
theorem dX9_give_60 : decode cX9_give 60 = .ok (.iload_n 3, 1) := by decide +kernel
theorem dX9_give_61 : decode cX9_give 61 = .ok (.if_icmp .le 25, 3) := by decide +kernel
theorem dX9_give_64 : decode cX9_give 64 = .ok (.aload_n 0, 1) := by decide +kernel
theorem dX9_give_65 : decode cX9_give 65 = .ok (.getfield 139, 3) := by decide +kernel
theorem dX9_give_68 : decode cX9_give 68 = .ok (.iload 5, 2) := by decide +kernel
theorem dX9_give_70 : decode cX9_give 70 = .ok (.aload_n 0, 1) := by decide +kernel
theorem dX9_give_71 : decode cX9_give 71 = .ok (.getfield 139, 3) := by decide +kernel
theorem dX9_give_74 : decode cX9_give 74 = .ok (.iload 5, 2) := by decide +kernel
theorem dX9_give_76 : decode cX9_give 76 = .ok (.iconst 1, 1) := by decide +kernel
theorem dX9_give_77 : decode cX9_give 77 = .ok (.isub, 1) := by decide +kernel
theorem dX9_give_78 : decode cX9_give 78 = .ok (.iaload, 1) := by decide +kernel
theorem dX9_give_79 : decode cX9_give 79 = .ok (.iastore, 1) := by decide +kernel
theorem dX9_give_80 : decode cX9_give 80 = .ok (.iinc 5 (-1), 3) := by decide +kernel
theorem dX9_give_83 : decode cX9_give 83 = .ok (.goto (-25), 3) := by decide +kernel
theorem dX9_give_86 : decode cX9_give 86 = .ok (.aload_n 0, 1) := by decide +kernel
theorem dX9_give_87 : decode cX9_give 87 = .ok (.getfield 139, 3) := by decide +kernel
theorem dX9_give_90 : decode cX9_give 90 = .ok (.iload_n 3, 1) := by decide +kernel
theorem dX9_give_91 : decode cX9_give 91 = .ok (.iload_n 2, 1) := by decide +kernel
theorem dX9_give_92 : decode cX9_give 92 = .ok (.iastore, 1) := by decide +kernel
theorem dX9_give_93 : decode cX9_give 93 = .ok (.return_, 1) := by decide +kernel
theorem dX9_layRow_0 : decode cX9_layRow 0 = .ok (.iconst 0, 1) := by decide +kernel
theorem dX9_layRow_1 : decode cX9_layRow 1 = .ok (.istore_n 2, 1) := by decide +kernel
theorem dX9_layRow_2 : decode cX9_layRow 2 = .ok (.iload_n 2, 1) := by decide +kernel
theorem dX9_layRow_3 : decode cX9_layRow 3 = .ok (.aload_n 0, 1) := by decide +kernel
theorem dX9_layRow_4 : decode cX9_layRow 4 = .ok (.getfield 85, 3) := by decide +kernel
theorem dX9_layRow_7 : decode cX9_layRow 7 = .ok (.if_icmp .ge 34, 3) := by decide +kernel
theorem dX9_layRow_10 : decode cX9_layRow 10 = .ok (.aload_n 0, 1) := by decide +kernel
theorem dX9_layRow_11 : decode cX9_layRow 11 = .ok (.getfield 139, 3) := by decide +kernel
theorem dX9_layRow_14 : decode cX9_layRow 14 = .ok (.iload_n 2, 1) := by decide +kernel
theorem dX9_layRow_15 : decode cX9_layRow 15 = .ok (.aload_n 0, 1) := by decide +kernel
theorem dX9_layRow_16 : decode cX9_layRow 16 = .ok (.getfield 340, 3) := by decide +kernel
theorem dX9_layRow_19 : decode cX9_layRow 19 = .ok (.ifCond .ne 14, 3) := by decide +kernel
theorem dX9_layRow_22 : decode cX9_layRow 22 = .ok (.iload_n 1, 1) := by decide +kernel
theorem dX9_layRow_23 : decode cX9_layRow 23 = .ok (.iload_n 2, 1) := by decide +kernel
theorem dX9_layRow_24 : decode cX9_layRow 24 = .ok (.iadd, 1) := by decide +kernel
theorem dX9_layRow_25 : decode cX9_layRow 25 = .ok (.aload_n 0, 1) := by decide +kernel
theorem dX9_layRow_26 : decode cX9_layRow 26 = .ok (.getfield 85, 3) := by decide +kernel
theorem dX9_layRow_29 : decode cX9_layRow 29 = .ok (.irem, 1) := by decide +kernel
theorem dX9_layRow_30 : decode cX9_layRow 30 = .ok (.goto 4, 3) := by decide +kernel
theorem dX9_layRow_33 : decode cX9_layRow 33 = .ok (.iload_n 2, 1) := by decide +kernel
theorem dX9_layRow_34 : decode cX9_layRow 34 = .ok (.iastore, 1) := by decide +kernel
theorem dX9_layRow_35 : decode cX9_layRow 35 = .ok (.iinc 2 1, 3) := by decide +kernel
theorem dX9_layRow_38 : decode cX9_layRow 38 = .ok (.goto (-36), 3) := by decide +kernel
theorem dX9_layRow_41 : decode cX9_layRow 41 = .ok (.aload_n 0, 1) := by decide +kernel
theorem dX9_layRow_42 : decode cX9_layRow 42 = .ok (.getfield 343, 3) := by decide +kernel
theorem dX9_layRow_45 : decode cX9_layRow 45 = .ok (.i2l, 1) := by decide +kernel
theorem dX9_layRow_46 : decode cX9_layRow 46 = .ok (.iload_n 1, 1) := by decide +kernel
theorem dX9_layRow_47 : decode cX9_layRow 47 = .ok (.i2l, 1) := by decide +kernel
theorem dX9_layRow_48 : decode cX9_layRow 48 = .ok (.ladd, 1) := by decide +kernel
theorem dX9_layRow_49 : decode cX9_layRow 49 = .ok (.ldc2_w 355, 3) := by decide +kernel
theorem dX9_layRow_52 : decode cX9_layRow 52 = .ok (.lrem, 1) := by decide +kernel
theorem dX9_layRow_53 : decode cX9_layRow 53 = .ok (.lstore_n 2, 1) := by decide +kernel
theorem dX9_layRow_54 : decode cX9_layRow 54 = .ok (.aload_n 0, 1) := by decide +kernel
theorem dX9_layRow_55 : decode cX9_layRow 55 = .ok (.getfield 85, 3) := by decide +kernel
theorem dX9_layRow_58 : decode cX9_layRow 58 = .ok (.iconst 1, 1) := by decide +kernel
theorem dX9_layRow_59 : decode cX9_layRow 59 = .ok (.isub, 1) := by decide +kernel
theorem dX9_layRow_60 : decode cX9_layRow 60 = .ok (.istore 4, 2) := by decide +kernel
theorem dX9_layRow_62 : decode cX9_layRow 62 = .ok (.iload 4, 2) := by decide +kernel
theorem dX9_layRow_64 : decode cX9_layRow 64 = .ok (.iconst 1, 1) := by decide +kernel
theorem dX9_layRow_65 : decode cX9_layRow 65 = .ok (.if_icmp .lt 49, 3) := by decide +kernel
theorem dX9_layRow_68 : decode cX9_layRow 68 = .ok (.aload_n 0, 1) := by decide +kernel
theorem dX9_layRow_69 : decode cX9_layRow 69 = .ok (.getfield 340, 3) := by decide +kernel
theorem dX9_layRow_72 : decode cX9_layRow 72 = .ok (.iconst 1, 1) := by decide +kernel
theorem dX9_layRow_73 : decode cX9_layRow 73 = .ok (.if_icmp .ne 41, 3) := by decide +kernel
theorem dX9_layRow_76 : decode cX9_layRow 76 = .ok (.ldc2_w 357, 3) := by decide +kernel
theorem dX9_layRow_79 : decode cX9_layRow 79 = .ok (.lload_n 2, 1) := by decide +kernel
theorem dX9_layRow_80 : decode cX9_layRow 80 = .ok (.lmul, 1) := by decide +kernel
theorem dX9_layRow_81 : decode cX9_layRow 81 = .ok (.ldc2_w 359, 3) := by decide +kernel
theorem dX9_layRow_84 : decode cX9_layRow 84 = .ok (.ladd, 1) := by decide +kernel
theorem dX9_layRow_85 : decode cX9_layRow 85 = .ok (.ldc2_w 355, 3) := by decide +kernel
theorem dX9_layRow_88 : decode cX9_layRow 88 = .ok (.lrem, 1) := by decide +kernel
theorem dX9_layRow_89 : decode cX9_layRow 89 = .ok (.lstore_n 2, 1) := by decide +kernel
theorem dX9_layRow_90 : decode cX9_layRow 90 = .ok (.aload_n 0, 1) := by decide +kernel
theorem dX9_layRow_91 : decode cX9_layRow 91 = .ok (.iload 4, 2) := by decide +kernel
theorem dX9_layRow_93 : decode cX9_layRow 93 = .ok (.lload_n 2, 1) := by decide +kernel
theorem dX9_layRow_94 : decode cX9_layRow 94 = .ok (.ldc2_w 361, 3) := by decide +kernel
theorem dX9_layRow_97 : decode cX9_layRow 97 = .ok (.ldiv, 1) := by decide +kernel
theorem dX9_layRow_98 : decode cX9_layRow 98 = .ok (.iload 4, 2) := by decide +kernel
theorem dX9_layRow_100 : decode cX9_layRow 100 = .ok (.iconst 1, 1) := by decide +kernel
theorem dX9_layRow_101 : decode cX9_layRow 101 = .ok (.iadd, 1) := by decide +kernel
theorem dX9_layRow_102 : decode cX9_layRow 102 = .ok (.i2l, 1) := by decide +kernel
theorem dX9_layRow_103 : decode cX9_layRow 103 = .ok (.lrem, 1) := by decide +kernel
theorem dX9_layRow_104 : decode cX9_layRow 104 = .ok (.l2i, 1) := by decide +kernel
theorem dX9_layRow_105 : decode cX9_layRow 105 = .ok (.invokevirtual 363, 3) := by decide +kernel
theorem dX9_layRow_108 : decode cX9_layRow 108 = .ok (.iinc 4 (-1), 3) := by decide +kernel
theorem dX9_layRow_111 : decode cX9_layRow 111 = .ok (.goto (-49), 3) := by decide +kernel
theorem dX9_layRow_114 : decode cX9_layRow 114 = .ok (.iconst 0, 1) := by decide +kernel
theorem dX9_layRow_115 : decode cX9_layRow 115 = .ok (.istore 4, 2) := by decide +kernel
theorem dX9_layRow_117 : decode cX9_layRow 117 = .ok (.iload 4, 2) := by decide +kernel
theorem dX9_layRow_119 : decode cX9_layRow 119 = .ok (.aload_n 0, 1) := by decide +kernel
theorem dX9_layRow_120 : decode cX9_layRow 120 = .ok (.getfield 337, 3) := by decide +kernel
theorem dX9_layRow_123 : decode cX9_layRow 123 = .ok (.if_icmp .ge 77, 3) := by decide +kernel
theorem dX9_layRow_126 : decode cX9_layRow 126 = .ok (.aload_n 0, 1) := by decide +kernel
theorem dX9_layRow_127 : decode cX9_layRow 127 = .ok (.getfield 91, 3) := by decide +kernel
theorem dX9_layRow_130 : decode cX9_layRow 130 = .ok (.iload 4, 2) := by decide +kernel
theorem dX9_layRow_132 : decode cX9_layRow 132 = .ok (.iaload, 1) := by decide +kernel
theorem dX9_layRow_133 : decode cX9_layRow 133 = .ok (.iload_n 1, 1) := by decide +kernel
theorem dX9_layRow_134 : decode cX9_layRow 134 = .ok (.if_icmp .ne 60, 3) := by decide +kernel
theorem dX9_layRow_137 : decode cX9_layRow 137 = .ok (.aload_n 0, 1) := by decide +kernel
theorem dX9_layRow_138 : decode cX9_layRow 138 = .ok (.getfield 100, 3) := by decide +kernel
theorem dX9_layRow_141 : decode cX9_layRow 141 = .ok (.iload 4, 2) := by decide +kernel
theorem dX9_layRow_143 : decode cX9_layRow 143 = .ok (.baload, 1) := by decide +kernel
theorem dX9_layRow_144 : decode cX9_layRow 144 = .ok (.ifCond .eq 24, 3) := by decide +kernel
theorem dX9_layRow_147 : decode cX9_layRow 147 = .ok (.aload_n 0, 1) := by decide +kernel
theorem dX9_layRow_148 : decode cX9_layRow 148 = .ok (.aload_n 0, 1) := by decide +kernel
theorem dX9_layRow_149 : decode cX9_layRow 149 = .ok (.getfield 94, 3) := by decide +kernel
theorem dX9_layRow_152 : decode cX9_layRow 152 = .ok (.iload 4, 2) := by decide +kernel
theorem dX9_layRow_154 : decode cX9_layRow 154 = .ok (.iaload, 1) := by decide +kernel
theorem dX9_layRow_155 : decode cX9_layRow 155 = .ok (.aload_n 0, 1) := by decide +kernel
theorem dX9_layRow_156 : decode cX9_layRow 156 = .ok (.getfield 97, 3) := by decide +kernel
theorem dX9_layRow_159 : decode cX9_layRow 159 = .ok (.iload 4, 2) := by decide +kernel
theorem dX9_layRow_161 : decode cX9_layRow 161 = .ok (.iaload, 1) := by decide +kernel
theorem dX9_layRow_162 : decode cX9_layRow 162 = .ok (.invokevirtual 366, 3) := by decide +kernel
theorem dX9_layRow_165 : decode cX9_layRow 165 = .ok (.goto 29, 3) := by decide +kernel
theorem dX9_layRow_168 : decode cX9_layRow 168 = .ok (.aload_n 0, 1) := by decide +kernel
theorem dX9_layRow_169 : decode cX9_layRow 169 = .ok (.aload_n 0, 1) := by decide +kernel
theorem dX9_layRow_170 : decode cX9_layRow 170 = .ok (.aload_n 0, 1) := by decide +kernel
theorem dX9_layRow_171 : decode cX9_layRow 171 = .ok (.getfield 94, 3) := by decide +kernel
theorem dX9_layRow_174 : decode cX9_layRow 174 = .ok (.iload 4, 2) := by decide +kernel
theorem dX9_layRow_176 : decode cX9_layRow 176 = .ok (.iaload, 1) := by decide +kernel
theorem dX9_layRow_177 : decode cX9_layRow 177 = .ok (.invokevirtual 352, 3) := by decide +kernel
theorem dX9_layRow_180 : decode cX9_layRow 180 = .ok (.aload_n 0, 1) := by decide +kernel
theorem dX9_layRow_181 : decode cX9_layRow 181 = .ok (.aload_n 0, 1) := by decide +kernel
theorem dX9_layRow_182 : decode cX9_layRow 182 = .ok (.getfield 97, 3) := by decide +kernel
theorem dX9_layRow_185 : decode cX9_layRow 185 = .ok (.iload 4, 2) := by decide +kernel
theorem dX9_layRow_187 : decode cX9_layRow 187 = .ok (.iaload, 1) := by decide +kernel
theorem dX9_layRow_188 : decode cX9_layRow 188 = .ok (.invokevirtual 352, 3) := by decide +kernel
theorem dX9_layRow_191 : decode cX9_layRow 191 = .ok (.invokevirtual 363, 3) := by decide +kernel
theorem dX9_layRow_194 : decode cX9_layRow 194 = .ok (.iinc 4 1, 3) := by decide +kernel
theorem dX9_layRow_197 : decode cX9_layRow 197 = .ok (.goto (-80), 3) := by decide +kernel
theorem dX9_layRow_200 : decode cX9_layRow 200 = .ok (.return_, 1) := by decide +kernel
theorem dX9_at_0 : decode cX9_at 0 = .ok (.iload_n 1, 1) := by decide +kernel
theorem dX9_at_1 : decode cX9_at 1 = .ok (.invokestatic 346, 3) := by decide +kernel
theorem dX9_at_4 : decode cX9_at 4 = .ok (.ifCond .eq 17, 3) := by decide +kernel
theorem dX9_at_7 : decode cX9_at 7 = .ok (.iload_n 2, 1) := by decide +kernel
theorem dX9_at_8 : decode cX9_at 8 = .ok (.iconst 0, 1) := by decide +kernel
theorem dX9_at_9 : decode cX9_at 9 = .ok (.aload_n 0, 1) := by decide +kernel
theorem dX9_at_10 : decode cX9_at 10 = .ok (.getfield 85, 3) := by decide +kernel
theorem dX9_at_13 : decode cX9_at 13 = .ok (.iconst 1, 1) := by decide +kernel
theorem dX9_at_14 : decode cX9_at 14 = .ok (.isub, 1) := by decide +kernel
theorem dX9_at_15 : decode cX9_at 15 = .ok (.invokestatic 148, 3) := by decide +kernel
theorem dX9_at_18 : decode cX9_at 18 = .ok (.ifCond .ne 6, 3) := by decide +kernel
theorem dX9_at_21 : decode cX9_at 21 = .ok (.bipush (-2), 2) := by decide +kernel
theorem dX9_at_23 : decode cX9_at 23 = .ok (.ireturn, 1) := by decide +kernel
theorem dX9_at_24 : decode cX9_at 24 = .ok (.aload_n 0, 1) := by decide +kernel
theorem dX9_at_25 : decode cX9_at 25 = .ok (.iload_n 1, 1) := by decide +kernel
theorem dX9_at_26 : decode cX9_at 26 = .ok (.invokevirtual 369, 3) := by decide +kernel
theorem dX9_at_29 : decode cX9_at 29 = .ok (.aload_n 0, 1) := by decide +kernel
theorem dX9_at_30 : decode cX9_at 30 = .ok (.getfield 139, 3) := by decide +kernel
theorem dX9_at_33 : decode cX9_at 33 = .ok (.iload_n 2, 1) := by decide +kernel
theorem dX9_at_34 : decode cX9_at 34 = .ok (.iaload, 1) := by decide +kernel
theorem dX9_at_35 : decode cX9_at 35 = .ok (.ireturn, 1) := by decide +kernel
theorem dX9_waits_0 : decode cX9_waits 0 = .ok (.aload_n 0, 1) := by decide +kernel
theorem dX9_waits_1 : decode cX9_waits 1 = .ok (.iload_n 1, 1) := by decide +kernel
theorem dX9_waits_2 : decode cX9_waits 2 = .ok (.invokevirtual 349, 3) := by decide +kernel
theorem dX9_waits_5 : decode cX9_waits 5 = .ok (.ifCond .eq 32, 3) := by decide +kernel
theorem dX9_waits_8 : decode cX9_waits 8 = .ok (.iload_n 2, 1) := by decide +kernel
theorem dX9_waits_9 : decode cX9_waits 9 = .ok (.invokestatic 346, 3) := by decide +kernel
theorem dX9_waits_12 : decode cX9_waits 12 = .ok (.ifCond .eq 25, 3) := by decide +kernel
theorem dX9_waits_15 : decode cX9_waits 15 = .ok (.iload_n 3, 1) := by decide +kernel
theorem dX9_waits_16 : decode cX9_waits 16 = .ok (.invokestatic 346, 3) := by decide +kernel
theorem dX9_waits_19 : decode cX9_waits 19 = .ok (.ifCond .eq 18, 3) := by decide +kernel
theorem dX9_waits_22 : decode cX9_waits 22 = .ok (.iload_n 2, 1) := by decide +kernel
theorem dX9_waits_23 : decode cX9_waits 23 = .ok (.iload_n 3, 1) := by decide +kernel
theorem dX9_waits_24 : decode cX9_waits 24 = .ok (.if_icmp .gt 13, 3) := by decide +kernel
theorem dX9_waits_27 : decode cX9_waits 27 = .ok (.iload 4, 2) := by decide +kernel
theorem dX9_waits_29 : decode cX9_waits 29 = .ok (.iconst 0, 1) := by decide +kernel
theorem dX9_waits_30 : decode cX9_waits 30 = .ok (.iconst 1, 1) := by decide +kernel
theorem dX9_waits_31 : decode cX9_waits 31 = .ok (.invokestatic 148, 3) := by decide +kernel
theorem dX9_waits_34 : decode cX9_waits 34 = .ok (.ifCond .ne 6, 3) := by decide +kernel
theorem dX9_waits_37 : decode cX9_waits 37 = .ok (.bipush (-2), 2) := by decide +kernel
theorem dX9_waits_39 : decode cX9_waits 39 = .ok (.ireturn, 1) := by decide +kernel
theorem dX9_waits_40 : decode cX9_waits 40 = .ok (.iconst 0, 1) := by decide +kernel
theorem dX9_waits_41 : decode cX9_waits 41 = .ok (.istore 5, 2) := by decide +kernel
theorem dX9_waits_43 : decode cX9_waits 43 = .ok (.iconst (-1), 1) := by decide +kernel
theorem dX9_waits_44 : decode cX9_waits 44 = .ok (.istore 6, 2) := by decide +kernel
theorem dX9_waits_46 : decode cX9_waits 46 = .ok (.iload_n 2, 1) := by decide +kernel
theorem dX9_waits_47 : decode cX9_waits 47 = .ok (.istore 7, 2) := by decide +kernel
theorem dX9_waits_49 : decode cX9_waits 49 = .ok (.iload 7, 2) := by decide +kernel
theorem dX9_waits_51 : decode cX9_waits 51 = .ok (.iload_n 3, 1) := by decide +kernel
theorem dX9_waits_52 : decode cX9_waits 52 = .ok (.if_icmp .gt 62, 3) := by decide +kernel
theorem dX9_waits_55 : decode cX9_waits 55 = .ok (.aload_n 0, 1) := by decide +kernel
theorem dX9_waits_56 : decode cX9_waits 56 = .ok (.iload 7, 2) := by decide +kernel
theorem dX9_waits_58 : decode cX9_waits 58 = .ok (.invokevirtual 369, 3) := by decide +kernel
theorem dX9_waits_61 : decode cX9_waits 61 = .ok (.iload 5, 2) := by decide +kernel
theorem dX9_waits_63 : decode cX9_waits 63 = .ok (.aload_n 0, 1) := by decide +kernel
theorem dX9_waits_64 : decode cX9_waits 64 = .ok (.iload_n 1, 1) := by decide +kernel
theorem dX9_waits_65 : decode cX9_waits 65 = .ok (.invokevirtual 352, 3) := by decide +kernel
theorem dX9_waits_68 : decode cX9_waits 68 = .ok (.aload_n 0, 1) := by decide +kernel
theorem dX9_waits_69 : decode cX9_waits 69 = .ok (.getfield 88, 3) := by decide +kernel
theorem dX9_waits_72 : decode cX9_waits 72 = .ok (.if_icmp .lt 7, 3) := by decide +kernel
theorem dX9_waits_75 : decode cX9_waits 75 = .ok (.iconst 1, 1) := by decide +kernel
theorem dX9_waits_76 : decode cX9_waits 76 = .ok (.goto 4, 3) := by decide +kernel
theorem dX9_waits_79 : decode cX9_waits 79 = .ok (.iconst 0, 1) := by decide +kernel
theorem dX9_waits_80 : decode cX9_waits 80 = .ok (.iadd, 1) := by decide +kernel
theorem dX9_waits_81 : decode cX9_waits 81 = .ok (.istore 5, 2) := by decide +kernel
theorem dX9_waits_83 : decode cX9_waits 83 = .ok (.iload 6, 2) := by decide +kernel
theorem dX9_waits_85 : decode cX9_waits 85 = .ok (.iconst (-1), 1) := by decide +kernel
theorem dX9_waits_86 : decode cX9_waits 86 = .ok (.if_icmp .ne 18, 3) := by decide +kernel
theorem dX9_waits_89 : decode cX9_waits 89 = .ok (.aload_n 0, 1) := by decide +kernel
theorem dX9_waits_90 : decode cX9_waits 90 = .ok (.getfield 139, 3) := by decide +kernel
theorem dX9_waits_93 : decode cX9_waits 93 = .ok (.iconst 0, 1) := by decide +kernel
theorem dX9_waits_94 : decode cX9_waits 94 = .ok (.iaload, 1) := by decide +kernel
theorem dX9_waits_95 : decode cX9_waits 95 = .ok (.iload_n 1, 1) := by decide +kernel
theorem dX9_waits_96 : decode cX9_waits 96 = .ok (.if_icmp .ne 8, 3) := by decide +kernel
theorem dX9_waits_99 : decode cX9_waits 99 = .ok (.iload 7, 2) := by decide +kernel
theorem dX9_waits_101 : decode cX9_waits 101 = .ok (.goto 5, 3) := by decide +kernel
theorem dX9_waits_104 : decode cX9_waits 104 = .ok (.iload 6, 2) := by decide +kernel
theorem dX9_waits_106 : decode cX9_waits 106 = .ok (.istore 6, 2) := by decide +kernel
theorem dX9_waits_108 : decode cX9_waits 108 = .ok (.iinc 7 1, 3) := by decide +kernel
theorem dX9_waits_111 : decode cX9_waits 111 = .ok (.goto (-62), 3) := by decide +kernel
theorem dX9_waits_114 : decode cX9_waits 114 = .ok (.iload 4, 2) := by decide +kernel
theorem dX9_waits_116 : decode cX9_waits 116 = .ok (.ifCond .ne 8, 3) := by decide +kernel
theorem dX9_waits_119 : decode cX9_waits 119 = .ok (.iload 5, 2) := by decide +kernel
theorem dX9_waits_121 : decode cX9_waits 121 = .ok (.goto 5, 3) := by decide +kernel
theorem dX9_waits_124 : decode cX9_waits 124 = .ok (.iload 6, 2) := by decide +kernel
theorem dX9_waits_126 : decode cX9_waits 126 = .ok (.ireturn, 1) := by decide +kernel
theorem dX9_note_0 : decode cX9_note 0 = .ok (.iload_n 1, 1) := by decide +kernel
theorem dX9_note_1 : decode cX9_note 1 = .ok (.invokestatic 346, 3) := by decide +kernel
theorem dX9_note_4 : decode cX9_note 4 = .ok (.ifCond .eq 19, 3) := by decide +kernel
theorem dX9_note_7 : decode cX9_note 7 = .ok (.iload_n 2, 1) := by decide +kernel
theorem dX9_note_8 : decode cX9_note 8 = .ok (.invokestatic 152, 3) := by decide +kernel
theorem dX9_note_11 : decode cX9_note 11 = .ok (.ifCond .eq 12, 3) := by decide +kernel
theorem dX9_note_14 : decode cX9_note 14 = .ok (.iload_n 3, 1) := by decide +kernel
theorem dX9_note_15 : decode cX9_note 15 = .ok (.iconst 0, 1) := by decide +kernel
theorem dX9_note_16 : decode cX9_note 16 = .ok (.iconst 3, 1) := by decide +kernel
theorem dX9_note_17 : decode cX9_note 17 = .ok (.invokestatic 148, 3) := by decide +kernel
theorem dX9_note_20 : decode cX9_note 20 = .ok (.ifCond .ne 6, 3) := by decide +kernel
theorem dX9_note_23 : decode cX9_note 23 = .ok (.bipush (-2), 2) := by decide +kernel
theorem dX9_note_25 : decode cX9_note 25 = .ok (.ireturn, 1) := by decide +kernel
theorem dX9_note_26 : decode cX9_note 26 = .ok (.aload_n 0, 1) := by decide +kernel
theorem dX9_note_27 : decode cX9_note 27 = .ok (.getfield 103, 3) := by decide +kernel
theorem dX9_note_30 : decode cX9_note 30 = .ok (.iconst 4, 1) := by decide +kernel
theorem dX9_note_31 : decode cX9_note 31 = .ok (.iload_n 1, 1) := by decide +kernel
theorem dX9_note_32 : decode cX9_note 32 = .ok (.imul, 1) := by decide +kernel
theorem dX9_note_33 : decode cX9_note 33 = .ok (.iload_n 2, 1) := by decide +kernel
theorem dX9_note_34 : decode cX9_note 34 = .ok (.iadd, 1) := by decide +kernel
theorem dX9_note_35 : decode cX9_note 35 = .ok (.iaload, 1) := by decide +kernel
theorem dX9_note_36 : decode cX9_note 36 = .ok (.istore 4, 2) := by decide +kernel
theorem dX9_note_38 : decode cX9_note 38 = .ok (.aload_n 0, 1) := by decide +kernel
theorem dX9_note_39 : decode cX9_note 39 = .ok (.getfield 103, 3) := by decide +kernel
theorem dX9_note_42 : decode cX9_note 42 = .ok (.iconst 4, 1) := by decide +kernel
theorem dX9_note_43 : decode cX9_note 43 = .ok (.iload_n 1, 1) := by decide +kernel
theorem dX9_note_44 : decode cX9_note 44 = .ok (.imul, 1) := by decide +kernel
theorem dX9_note_45 : decode cX9_note 45 = .ok (.iload_n 2, 1) := by decide +kernel
theorem dX9_note_46 : decode cX9_note 46 = .ok (.iadd, 1) := by decide +kernel
theorem dX9_note_47 : decode cX9_note 47 = .ok (.iload_n 3, 1) := by decide +kernel
theorem dX9_note_48 : decode cX9_note 48 = .ok (.iastore, 1) := by decide +kernel
theorem dX9_note_49 : decode cX9_note 49 = .ok (.iload 4, 2) := by decide +kernel
theorem dX9_note_51 : decode cX9_note 51 = .ok (.ireturn, 1) := by decide +kernel
theorem dX9_notesOf_0 : decode cX9_notesOf 0 = .ok (.iconst 0, 1) := by decide +kernel
theorem dX9_notesOf_1 : decode cX9_notesOf 1 = .ok (.istore_n 2, 1) := by decide +kernel
theorem dX9_notesOf_2 : decode cX9_notesOf 2 = .ok (.iconst 0, 1) := by decide +kernel
theorem dX9_notesOf_3 : decode cX9_notesOf 3 = .ok (.istore_n 3, 1) := by decide +kernel
theorem dX9_notesOf_4 : decode cX9_notesOf 4 = .ok (.iload_n 3, 1) := by decide +kernel
theorem dX9_notesOf_5 : decode cX9_notesOf 5 = .ok (.iconst 4, 1) := by decide +kernel
theorem dX9_notesOf_6 : decode cX9_notesOf 6 = .ok (.if_icmp .ge 30, 3) := by decide +kernel
theorem dX9_notesOf_9 : decode cX9_notesOf 9 = .ok (.iload_n 2, 1) := by decide +kernel
theorem dX9_notesOf_10 : decode cX9_notesOf 10 = .ok (.aload_n 0, 1) := by decide +kernel
theorem dX9_notesOf_11 : decode cX9_notesOf 11 = .ok (.getfield 103, 3) := by decide +kernel
theorem dX9_notesOf_14 : decode cX9_notesOf 14 = .ok (.iconst 4, 1) := by decide +kernel
theorem dX9_notesOf_15 : decode cX9_notesOf 15 = .ok (.iload_n 1, 1) := by decide +kernel
theorem dX9_notesOf_16 : decode cX9_notesOf 16 = .ok (.imul, 1) := by decide +kernel
theorem dX9_notesOf_17 : decode cX9_notesOf 17 = .ok (.iload_n 3, 1) := by decide +kernel
theorem dX9_notesOf_18 : decode cX9_notesOf 18 = .ok (.iadd, 1) := by decide +kernel
theorem dX9_notesOf_19 : decode cX9_notesOf 19 = .ok (.iaload, 1) := by decide +kernel
theorem dX9_notesOf_20 : decode cX9_notesOf 20 = .ok (.ifCond .le 7, 3) := by decide +kernel
theorem dX9_notesOf_23 : decode cX9_notesOf 23 = .ok (.iconst 1, 1) := by decide +kernel
theorem dX9_notesOf_24 : decode cX9_notesOf 24 = .ok (.goto 4, 3) := by decide +kernel
theorem dX9_notesOf_27 : decode cX9_notesOf 27 = .ok (.iconst 0, 1) := by decide +kernel
theorem dX9_notesOf_28 : decode cX9_notesOf 28 = .ok (.iadd, 1) := by decide +kernel
theorem dX9_notesOf_29 : decode cX9_notesOf 29 = .ok (.istore_n 2, 1) := by decide +kernel
theorem dX9_notesOf_30 : decode cX9_notesOf 30 = .ok (.iinc 3 1, 3) := by decide +kernel
theorem dX9_notesOf_33 : decode cX9_notesOf 33 = .ok (.goto (-29), 3) := by decide +kernel
theorem dX9_notesOf_36 : decode cX9_notesOf 36 = .ok (.iload_n 2, 1) := by decide +kernel
theorem dX9_notesOf_37 : decode cX9_notesOf 37 = .ok (.ireturn, 1) := by decide +kernel
theorem dX9_lose_0 : decode cX9_lose 0 = .ok (.iload_n 1, 1) := by decide +kernel
theorem dX9_lose_1 : decode cX9_lose 1 = .ok (.invokestatic 346, 3) := by decide +kernel
theorem dX9_lose_4 : decode cX9_lose 4 = .ok (.ifCond .ne 6, 3) := by decide +kernel
theorem dX9_lose_7 : decode cX9_lose 7 = .ok (.bipush (-2), 2) := by decide +kernel
theorem dX9_lose_9 : decode cX9_lose 9 = .ok (.ireturn, 1) := by decide +kernel
theorem dX9_lose_10 : decode cX9_lose 10 = .ok (.aload_n 0, 1) := by decide +kernel
theorem dX9_lose_11 : decode cX9_lose 11 = .ok (.iload_n 1, 1) := by decide +kernel
theorem dX9_lose_12 : decode cX9_lose 12 = .ok (.invokevirtual 372, 3) := by decide +kernel
theorem dX9_lose_15 : decode cX9_lose 15 = .ok (.istore_n 2, 1) := by decide +kernel
theorem dX9_lose_16 : decode cX9_lose 16 = .ok (.iconst 0, 1) := by decide +kernel
theorem dX9_lose_17 : decode cX9_lose 17 = .ok (.istore_n 3, 1) := by decide +kernel
theorem dX9_lose_18 : decode cX9_lose 18 = .ok (.iload_n 3, 1) := by decide +kernel
theorem dX9_lose_19 : decode cX9_lose 19 = .ok (.iconst 4, 1) := by decide +kernel
theorem dX9_lose_20 : decode cX9_lose 20 = .ok (.if_icmp .ge 20, 3) := by decide +kernel
theorem dX9_lose_23 : decode cX9_lose 23 = .ok (.aload_n 0, 1) := by decide +kernel
theorem dX9_lose_24 : decode cX9_lose 24 = .ok (.getfield 103, 3) := by decide +kernel
theorem dX9_lose_27 : decode cX9_lose 27 = .ok (.iconst 4, 1) := by decide +kernel
theorem dX9_lose_28 : decode cX9_lose 28 = .ok (.iload_n 1, 1) := by decide +kernel
theorem dX9_lose_29 : decode cX9_lose 29 = .ok (.imul, 1) := by decide +kernel
theorem dX9_lose_30 : decode cX9_lose 30 = .ok (.iload_n 3, 1) := by decide +kernel
theorem dX9_lose_31 : decode cX9_lose 31 = .ok (.iadd, 1) := by decide +kernel
theorem dX9_lose_32 : decode cX9_lose 32 = .ok (.iconst 0, 1) := by decide +kernel
theorem dX9_lose_33 : decode cX9_lose 33 = .ok (.iastore, 1) := by decide +kernel
theorem dX9_lose_34 : decode cX9_lose 34 = .ok (.iinc 3 1, 3) := by decide +kernel
theorem dX9_lose_37 : decode cX9_lose 37 = .ok (.goto (-19), 3) := by decide +kernel
theorem dX9_lose_40 : decode cX9_lose 40 = .ok (.iload_n 2, 1) := by decide +kernel
theorem dX9_lose_41 : decode cX9_lose 41 = .ok (.ireturn, 1) := by decide +kernel
theorem dX9_bricks_0 : decode cX9_bricks 0 = .ok (.iload_n 1, 1) := by decide +kernel
theorem dX9_bricks_1 : decode cX9_bricks 1 = .ok (.invokestatic 152, 3) := by decide +kernel
theorem dX9_bricks_4 : decode cX9_bricks 4 = .ok (.ifCond .eq 10, 3) := by decide +kernel
theorem dX9_bricks_7 : decode cX9_bricks 7 = .ok (.iload_n 2, 1) := by decide +kernel
theorem dX9_bricks_8 : decode cX9_bricks 8 = .ok (.invokestatic 346, 3) := by decide +kernel
theorem dX9_bricks_11 : decode cX9_bricks 11 = .ok (.ifCond .ne 6, 3) := by decide +kernel
theorem dX9_bricks_14 : decode cX9_bricks 14 = .ok (.bipush (-2), 2) := by decide +kernel
theorem dX9_bricks_16 : decode cX9_bricks 16 = .ok (.ireturn, 1) := by decide +kernel
theorem dX9_bricks_17 : decode cX9_bricks 17 = .ok (.aload_n 0, 1) := by decide +kernel
theorem dX9_bricks_18 : decode cX9_bricks 18 = .ok (.getfield 375, 3) := by decide +kernel
theorem dX9_bricks_21 : decode cX9_bricks 21 = .ok (.bipush 10, 2) := by decide +kernel
theorem dX9_bricks_23 : decode cX9_bricks 23 = .ok (.if_icmp .ne 6, 3) := by decide +kernel
theorem dX9_bricks_26 : decode cX9_bricks 26 = .ok (.bipush (-4), 2) := by decide +kernel
theorem dX9_bricks_28 : decode cX9_bricks 28 = .ok (.ireturn, 1) := by decide +kernel
theorem dX9_bricks_29 : decode cX9_bricks 29 = .ok (.aload_n 0, 1) := by decide +kernel
theorem dX9_bricks_30 : decode cX9_bricks 30 = .ok (.getfield 106, 3) := by decide +kernel
theorem dX9_bricks_33 : decode cX9_bricks 33 = .ok (.aload_n 0, 1) := by decide +kernel
theorem dX9_bricks_34 : decode cX9_bricks 34 = .ok (.getfield 375, 3) := by decide +kernel
theorem dX9_bricks_37 : decode cX9_bricks 37 = .ok (.iload_n 1, 1) := by decide +kernel
theorem dX9_bricks_38 : decode cX9_bricks 38 = .ok (.iastore, 1) := by decide +kernel
theorem dX9_bricks_39 : decode cX9_bricks 39 = .ok (.aload_n 0, 1) := by decide +kernel
theorem dX9_bricks_40 : decode cX9_bricks 40 = .ok (.getfield 109, 3) := by decide +kernel
theorem dX9_bricks_43 : decode cX9_bricks 43 = .ok (.aload_n 0, 1) := by decide +kernel
theorem dX9_bricks_44 : decode cX9_bricks 44 = .ok (.getfield 375, 3) := by decide +kernel
theorem dX9_bricks_47 : decode cX9_bricks 47 = .ok (.iload_n 2, 1) := by decide +kernel
theorem dX9_bricks_48 : decode cX9_bricks 48 = .ok (.iastore, 1) := by decide +kernel
theorem dX9_bricks_49 : decode cX9_bricks 49 = .ok (.aload_n 0, 1) := by decide +kernel
theorem dX9_bricks_50 : decode cX9_bricks 50 = .ok (.dup, 1) := by decide +kernel
theorem dX9_bricks_51 : decode cX9_bricks 51 = .ok (.getfield 375, 3) := by decide +kernel
theorem dX9_bricks_54 : decode cX9_bricks 54 = .ok (.iconst 1, 1) := by decide +kernel
theorem dX9_bricks_55 : decode cX9_bricks 55 = .ok (.iadd, 1) := by decide +kernel
theorem dX9_bricks_56 : decode cX9_bricks 56 = .ok (.putfield 375, 3) := by decide +kernel
theorem dX9_bricks_59 : decode cX9_bricks 59 = .ok (.aload_n 0, 1) := by decide +kernel
theorem dX9_bricks_60 : decode cX9_bricks 60 = .ok (.getfield 375, 3) := by decide +kernel
theorem dX9_bricks_63 : decode cX9_bricks 63 = .ok (.ireturn, 1) := by decide +kernel
theorem dX9_renewed_0 : decode cX9_renewed 0 = .ok (.bipush 61, 2) := by decide +kernel
theorem dX9_renewed_2 : decode cX9_renewed 2 = .ok (.istore_n 3, 1) := by decide +kernel
theorem dX9_renewed_3 : decode cX9_renewed 3 = .ok (.iconst 0, 1) := by decide +kernel
theorem dX9_renewed_4 : decode cX9_renewed 4 = .ok (.istore 4, 2) := by decide +kernel
theorem dX9_renewed_6 : decode cX9_renewed 6 = .ok (.iload 4, 2) := by decide +kernel
theorem dX9_renewed_8 : decode cX9_renewed 8 = .ok (.aload_n 0, 1) := by decide +kernel
theorem dX9_renewed_9 : decode cX9_renewed 9 = .ok (.getfield 375, 3) := by decide +kernel
theorem dX9_renewed_12 : decode cX9_renewed 12 = .ok (.if_icmp .ge 54, 3) := by decide +kernel
theorem dX9_renewed_15 : decode cX9_renewed 15 = .ok (.aload_n 0, 1) := by decide +kernel
theorem dX9_renewed_16 : decode cX9_renewed 16 = .ok (.getfield 106, 3) := by decide +kernel
theorem dX9_renewed_19 : decode cX9_renewed 19 = .ok (.iload 4, 2) := by decide +kernel
theorem dX9_renewed_21 : decode cX9_renewed 21 = .ok (.iaload, 1) := by decide +kernel
theorem dX9_renewed_22 : decode cX9_renewed 22 = .ok (.iload_n 1, 1) := by decide +kernel
theorem dX9_renewed_23 : decode cX9_renewed 23 = .ok (.if_icmp .ne 35, 3) := by decide +kernel
theorem dX9_renewed_26 : decode cX9_renewed 26 = .ok (.aload_n 0, 1) := by decide +kernel
theorem dX9_renewed_27 : decode cX9_renewed 27 = .ok (.getfield 109, 3) := by decide +kernel
theorem dX9_renewed_30 : decode cX9_renewed 30 = .ok (.iload 4, 2) := by decide +kernel
theorem dX9_renewed_32 : decode cX9_renewed 32 = .ok (.iaload, 1) := by decide +kernel
theorem dX9_renewed_33 : decode cX9_renewed 33 = .ok (.iload_n 2, 1) := by decide +kernel
theorem dX9_renewed_34 : decode cX9_renewed 34 = .ok (.if_icmp .le 24, 3) := by decide +kernel
theorem dX9_renewed_37 : decode cX9_renewed 37 = .ok (.aload_n 0, 1) := by decide +kernel
theorem dX9_renewed_38 : decode cX9_renewed 38 = .ok (.getfield 109, 3) := by decide +kernel
theorem dX9_renewed_41 : decode cX9_renewed 41 = .ok (.iload 4, 2) := by decide +kernel
theorem dX9_renewed_43 : decode cX9_renewed 43 = .ok (.iaload, 1) := by decide +kernel
theorem dX9_renewed_44 : decode cX9_renewed 44 = .ok (.iload_n 3, 1) := by decide +kernel
theorem dX9_renewed_45 : decode cX9_renewed 45 = .ok (.if_icmp .ge 13, 3) := by decide +kernel
theorem dX9_renewed_48 : decode cX9_renewed 48 = .ok (.aload_n 0, 1) := by decide +kernel
theorem dX9_renewed_49 : decode cX9_renewed 49 = .ok (.getfield 109, 3) := by decide +kernel
theorem dX9_renewed_52 : decode cX9_renewed 52 = .ok (.iload 4, 2) := by decide +kernel
theorem dX9_renewed_54 : decode cX9_renewed 54 = .ok (.iaload, 1) := by decide +kernel
theorem dX9_renewed_55 : decode cX9_renewed 55 = .ok (.goto 4, 3) := by decide +kernel
theorem dX9_renewed_58 : decode cX9_renewed 58 = .ok (.iload_n 3, 1) := by decide +kernel
theorem dX9_renewed_59 : decode cX9_renewed 59 = .ok (.istore_n 3, 1) := by decide +kernel
theorem dX9_renewed_60 : decode cX9_renewed 60 = .ok (.iinc 4 1, 3) := by decide +kernel
theorem dX9_renewed_63 : decode cX9_renewed 63 = .ok (.goto (-57), 3) := by decide +kernel
theorem dX9_renewed_66 : decode cX9_renewed 66 = .ok (.iload_n 3, 1) := by decide +kernel
theorem dX9_renewed_67 : decode cX9_renewed 67 = .ok (.ireturn, 1) := by decide +kernel
theorem dX9_explained_0 : decode cX9_explained 0 = .ok (.iconst 0, 1) := by decide +kernel
theorem dX9_explained_1 : decode cX9_explained 1 = .ok (.istore 4, 2) := by decide +kernel
theorem dX9_explained_3 : decode cX9_explained 3 = .ok (.aload_n 0, 1) := by decide +kernel
theorem dX9_explained_4 : decode cX9_explained 4 = .ok (.iload_n 2, 1) := by decide +kernel
theorem dX9_explained_5 : decode cX9_explained 5 = .ok (.iload_n 3, 1) := by decide +kernel
theorem dX9_explained_6 : decode cX9_explained 6 = .ok (.invokevirtual 378, 3) := by decide +kernel
theorem dX9_explained_9 : decode cX9_explained 9 = .ok (.istore 5, 2) := by decide +kernel
theorem dX9_explained_11 : decode cX9_explained 11 = .ok (.iconst 0, 1) := by decide +kernel
theorem dX9_explained_12 : decode cX9_explained 12 = .ok (.istore 6, 2) := by decide +kernel
theorem dX9_explained_14 : decode cX9_explained 14 = .ok (.iload 6, 2) := by decide +kernel
theorem dX9_explained_16 : decode cX9_explained 16 = .ok (.bipush 61, 2) := by decide +kernel
theorem dX9_explained_18 : decode cX9_explained 18 = .ok (.if_icmp .ge 102, 3) := by decide +kernel
theorem dX9_explained_21 : decode cX9_explained 21 = .ok (.iconst 0, 1) := by decide +kernel
theorem dX9_explained_22 : decode cX9_explained 22 = .ok (.istore 7, 2) := by decide +kernel
theorem dX9_explained_24 : decode cX9_explained 24 = .ok (.iload 7, 2) := by decide +kernel
theorem dX9_explained_26 : decode cX9_explained 26 = .ok (.iconst 4, 1) := by decide +kernel
theorem dX9_explained_27 : decode cX9_explained 27 = .ok (.if_icmp .ge 87, 3) := by decide +kernel
theorem dX9_explained_30 : decode cX9_explained 30 = .ok (.iload_n 1, 1) := by decide +kernel
theorem dX9_explained_31 : decode cX9_explained 31 = .ok (.ifCond .le 26, 3) := by decide +kernel
theorem dX9_explained_34 : decode cX9_explained 34 = .ok (.iload 7, 2) := by decide +kernel
theorem dX9_explained_36 : decode cX9_explained 36 = .ok (.iload_n 2, 1) := by decide +kernel
theorem dX9_explained_37 : decode cX9_explained 37 = .ok (.if_icmp .ne 20, 3) := by decide +kernel
theorem dX9_explained_40 : decode cX9_explained 40 = .ok (.iload 6, 2) := by decide +kernel
theorem dX9_explained_42 : decode cX9_explained 42 = .ok (.iload_n 3, 1) := by decide +kernel
theorem dX9_explained_43 : decode cX9_explained 43 = .ok (.if_icmp .lt 14, 3) := by decide +kernel
theorem dX9_explained_46 : decode cX9_explained 46 = .ok (.iload 6, 2) := by decide +kernel
theorem dX9_explained_48 : decode cX9_explained 48 = .ok (.iload 5, 2) := by decide +kernel
theorem dX9_explained_50 : decode cX9_explained 50 = .ok (.if_icmp .ge 7, 3) := by decide +kernel
theorem dX9_explained_53 : decode cX9_explained 53 = .ok (.iconst 1, 1) := by decide +kernel
theorem dX9_explained_54 : decode cX9_explained 54 = .ok (.goto 4, 3) := by decide +kernel
theorem dX9_explained_57 : decode cX9_explained 57 = .ok (.iconst 0, 1) := by decide +kernel
theorem dX9_explained_58 : decode cX9_explained 58 = .ok (.istore 8, 2) := by decide +kernel
theorem dX9_explained_60 : decode cX9_explained 60 = .ok (.iload 8, 2) := by decide +kernel
theorem dX9_explained_62 : decode cX9_explained 62 = .ok (.ifCond .ne 7, 3) := by decide +kernel
theorem dX9_explained_65 : decode cX9_explained 65 = .ok (.iconst 1, 1) := by decide +kernel
theorem dX9_explained_66 : decode cX9_explained 66 = .ok (.goto 13, 3) := by decide +kernel
theorem dX9_explained_69 : decode cX9_explained 69 = .ok (.iload_n 1, 1) := by decide +kernel
theorem dX9_explained_70 : decode cX9_explained 70 = .ok (.iconst 1, 1) := by decide +kernel
theorem dX9_explained_71 : decode cX9_explained 71 = .ok (.if_icmp .ne 7, 3) := by decide +kernel
theorem dX9_explained_74 : decode cX9_explained 74 = .ok (.iconst 3, 1) := by decide +kernel
theorem dX9_explained_75 : decode cX9_explained 75 = .ok (.goto 4, 3) := by decide +kernel
theorem dX9_explained_78 : decode cX9_explained 78 = .ok (.iconst 2, 1) := by decide +kernel
theorem dX9_explained_79 : decode cX9_explained 79 = .ok (.istore 9, 2) := by decide +kernel
theorem dX9_explained_81 : decode cX9_explained 81 = .ok (.iload 4, 2) := by decide +kernel
theorem dX9_explained_83 : decode cX9_explained 83 = .ok (.aload_n 0, 1) := by decide +kernel
theorem dX9_explained_84 : decode cX9_explained 84 = .ok (.getfield 103, 3) := by decide +kernel
theorem dX9_explained_87 : decode cX9_explained 87 = .ok (.iconst 4, 1) := by decide +kernel
theorem dX9_explained_88 : decode cX9_explained 88 = .ok (.iload 6, 2) := by decide +kernel
theorem dX9_explained_90 : decode cX9_explained 90 = .ok (.imul, 1) := by decide +kernel
theorem dX9_explained_91 : decode cX9_explained 91 = .ok (.iload 7, 2) := by decide +kernel
theorem dX9_explained_93 : decode cX9_explained 93 = .ok (.iadd, 1) := by decide +kernel
theorem dX9_explained_94 : decode cX9_explained 94 = .ok (.iaload, 1) := by decide +kernel
theorem dX9_explained_95 : decode cX9_explained 95 = .ok (.iload 9, 2) := by decide +kernel
theorem dX9_explained_97 : decode cX9_explained 97 = .ok (.if_icmp .ne 7, 3) := by decide +kernel
theorem dX9_explained_100 : decode cX9_explained 100 = .ok (.iconst 1, 1) := by decide +kernel
theorem dX9_explained_101 : decode cX9_explained 101 = .ok (.goto 4, 3) := by decide +kernel
theorem dX9_explained_104 : decode cX9_explained 104 = .ok (.iconst 0, 1) := by decide +kernel
theorem dX9_explained_105 : decode cX9_explained 105 = .ok (.iadd, 1) := by decide +kernel
theorem dX9_explained_106 : decode cX9_explained 106 = .ok (.istore 4, 2) := by decide +kernel
theorem dX9_explained_108 : decode cX9_explained 108 = .ok (.iinc 7 1, 3) := by decide +kernel
theorem dX9_explained_111 : decode cX9_explained 111 = .ok (.goto (-87), 3) := by decide +kernel
theorem dX9_explained_114 : decode cX9_explained 114 = .ok (.iinc 6 1, 3) := by decide +kernel
theorem dX9_explained_117 : decode cX9_explained 117 = .ok (.goto (-103), 3) := by decide +kernel
theorem dX9_explained_120 : decode cX9_explained 120 = .ok (.iload 4, 2) := by decide +kernel
theorem dX9_explained_122 : decode cX9_explained 122 = .ok (.ireturn, 1) := by decide +kernel
theorem dX9_best_0 : decode cX9_best 0 = .ok (.iload_n 1, 1) := by decide +kernel
theorem dX9_best_1 : decode cX9_best 1 = .ok (.iconst 0, 1) := by decide +kernel
theorem dX9_best_2 : decode cX9_best 2 = .ok (.iconst 3, 1) := by decide +kernel
theorem dX9_best_3 : decode cX9_best 3 = .ok (.invokestatic 148, 3) := by decide +kernel
theorem dX9_best_6 : decode cX9_best 6 = .ok (.ifCond .ne 6, 3) := by decide +kernel
theorem dX9_best_9 : decode cX9_best 9 = .ok (.bipush (-2), 2) := by decide +kernel
theorem dX9_best_11 : decode cX9_best 11 = .ok (.ireturn, 1) := by decide +kernel
theorem dX9_best_12 : decode cX9_best 12 = .ok (.iconst 0, 1) := by decide +kernel
theorem dX9_best_13 : decode cX9_best 13 = .ok (.istore_n 2, 1) := by decide +kernel
theorem dX9_best_14 : decode cX9_best 14 = .ok (.iconst (-1), 1) := by decide +kernel
theorem dX9_best_15 : decode cX9_best 15 = .ok (.istore_n 3, 1) := by decide +kernel
theorem dX9_best_16 : decode cX9_best 16 = .ok (.iconst (-1), 1) := by decide +kernel
theorem dX9_best_17 : decode cX9_best 17 = .ok (.istore 4, 2) := by decide +kernel
theorem dX9_best_19 : decode cX9_best 19 = .ok (.aload_n 0, 1) := by decide +kernel
theorem dX9_best_20 : decode cX9_best 20 = .ok (.iconst 0, 1) := by decide +kernel
theorem dX9_best_21 : decode cX9_best 21 = .ok (.iconst 0, 1) := by decide +kernel
theorem dX9_best_22 : decode cX9_best 22 = .ok (.iconst 0, 1) := by decide +kernel
theorem dX9_best_23 : decode cX9_best 23 = .ok (.invokevirtual 381, 3) := by decide +kernel
theorem dX9_best_26 : decode cX9_best 26 = .ok (.istore 5, 2) := by decide +kernel
theorem dX9_best_28 : decode cX9_best 28 = .ok (.iconst 1, 1) := by decide +kernel
theorem dX9_best_29 : decode cX9_best 29 = .ok (.istore 6, 2) := by decide +kernel
theorem dX9_best_31 : decode cX9_best 31 = .ok (.iload 6, 2) := by decide +kernel
theorem dX9_best_33 : decode cX9_best 33 = .ok (.iconst 2, 1) := by decide +kernel
theorem dX9_best_34 : decode cX9_best 34 = .ok (.if_icmp .gt 73, 3) := by decide +kernel
theorem dX9_best_37 : decode cX9_best 37 = .ok (.iconst 0, 1) := by decide +kernel
theorem dX9_best_38 : decode cX9_best 38 = .ok (.istore 7, 2) := by decide +kernel
theorem dX9_best_40 : decode cX9_best 40 = .ok (.iload 7, 2) := by decide +kernel
theorem dX9_best_42 : decode cX9_best 42 = .ok (.iconst 4, 1) := by decide +kernel
theorem dX9_best_43 : decode cX9_best 43 = .ok (.if_icmp .ge 58, 3) := by decide +kernel
theorem dX9_best_46 : decode cX9_best 46 = .ok (.iconst 0, 1) := by decide +kernel
theorem dX9_best_47 : decode cX9_best 47 = .ok (.istore 8, 2) := by decide +kernel
theorem dX9_best_49 : decode cX9_best 49 = .ok (.iload 8, 2) := by decide +kernel
theorem dX9_best_51 : decode cX9_best 51 = .ok (.bipush 61, 2) := by decide +kernel
theorem dX9_best_53 : decode cX9_best 53 = .ok (.if_icmp .ge 42, 3) := by decide +kernel
theorem dX9_best_56 : decode cX9_best 56 = .ok (.aload_n 0, 1) := by decide +kernel
theorem dX9_best_57 : decode cX9_best 57 = .ok (.iload 6, 2) := by decide +kernel
theorem dX9_best_59 : decode cX9_best 59 = .ok (.iload 7, 2) := by decide +kernel
theorem dX9_best_61 : decode cX9_best 61 = .ok (.iload 8, 2) := by decide +kernel
theorem dX9_best_63 : decode cX9_best 63 = .ok (.invokevirtual 381, 3) := by decide +kernel
theorem dX9_best_66 : decode cX9_best 66 = .ok (.istore 9, 2) := by decide +kernel
theorem dX9_best_68 : decode cX9_best 68 = .ok (.iload 9, 2) := by decide +kernel
theorem dX9_best_70 : decode cX9_best 70 = .ok (.iload 5, 2) := by decide +kernel
theorem dX9_best_72 : decode cX9_best 72 = .ok (.if_icmp .le 17, 3) := by decide +kernel
theorem dX9_best_75 : decode cX9_best 75 = .ok (.iload 9, 2) := by decide +kernel
theorem dX9_best_77 : decode cX9_best 77 = .ok (.istore 5, 2) := by decide +kernel
theorem dX9_best_79 : decode cX9_best 79 = .ok (.iload 6, 2) := by decide +kernel
theorem dX9_best_81 : decode cX9_best 81 = .ok (.istore_n 2, 1) := by decide +kernel
theorem dX9_best_82 : decode cX9_best 82 = .ok (.iload 7, 2) := by decide +kernel
theorem dX9_best_84 : decode cX9_best 84 = .ok (.istore_n 3, 1) := by decide +kernel
theorem dX9_best_85 : decode cX9_best 85 = .ok (.iload 8, 2) := by decide +kernel
theorem dX9_best_87 : decode cX9_best 87 = .ok (.istore 4, 2) := by decide +kernel
theorem dX9_best_89 : decode cX9_best 89 = .ok (.iinc 8 1, 3) := by decide +kernel
theorem dX9_best_92 : decode cX9_best 92 = .ok (.goto (-43), 3) := by decide +kernel
theorem dX9_best_95 : decode cX9_best 95 = .ok (.iinc 7 1, 3) := by decide +kernel
theorem dX9_best_98 : decode cX9_best 98 = .ok (.goto (-58), 3) := by decide +kernel
theorem dX9_best_101 : decode cX9_best 101 = .ok (.iinc 6 1, 3) := by decide +kernel
theorem dX9_best_104 : decode cX9_best 104 = .ok (.goto (-73), 3) := by decide +kernel
theorem dX9_best_107 : decode cX9_best 107 = .ok (.iload_n 1, 1) := by decide +kernel
theorem dX9_best_108 : decode cX9_best 108 = .ok (.ifCond .ne 7, 3) := by decide +kernel
theorem dX9_best_111 : decode cX9_best 111 = .ok (.iload_n 2, 1) := by decide +kernel
theorem dX9_best_112 : decode cX9_best 112 = .ok (.goto 24, 3) := by decide +kernel
theorem dX9_best_115 : decode cX9_best 115 = .ok (.iload_n 1, 1) := by decide +kernel
theorem dX9_best_116 : decode cX9_best 116 = .ok (.iconst 1, 1) := by decide +kernel
theorem dX9_best_117 : decode cX9_best 117 = .ok (.if_icmp .ne 7, 3) := by decide +kernel
theorem dX9_best_120 : decode cX9_best 120 = .ok (.iload_n 3, 1) := by decide +kernel
theorem dX9_best_121 : decode cX9_best 121 = .ok (.goto 15, 3) := by decide +kernel
theorem dX9_best_124 : decode cX9_best 124 = .ok (.iload_n 1, 1) := by decide +kernel
theorem dX9_best_125 : decode cX9_best 125 = .ok (.iconst 2, 1) := by decide +kernel
theorem dX9_best_126 : decode cX9_best 126 = .ok (.if_icmp .ne 8, 3) := by decide +kernel
theorem dX9_best_129 : decode cX9_best 129 = .ok (.iload 4, 2) := by decide +kernel
theorem dX9_best_131 : decode cX9_best 131 = .ok (.goto 5, 3) := by decide +kernel
theorem dX9_best_134 : decode cX9_best 134 = .ok (.iload 5, 2) := by decide +kernel
theorem dX9_best_136 : decode cX9_best 136 = .ok (.ireturn, 1) := by decide +kernel
theorem dX9_explains_0 : decode cX9_explains 0 = .ok (.iload_n 1, 1) := by decide +kernel
theorem dX9_explains_1 : decode cX9_explains 1 = .ok (.iconst 0, 1) := by decide +kernel
theorem dX9_explains_2 : decode cX9_explains 2 = .ok (.iconst 2, 1) := by decide +kernel
theorem dX9_explains_3 : decode cX9_explains 3 = .ok (.invokestatic 148, 3) := by decide +kernel
theorem dX9_explains_6 : decode cX9_explains 6 = .ok (.ifCond .eq 29, 3) := by decide +kernel
theorem dX9_explains_9 : decode cX9_explains 9 = .ok (.iload_n 2, 1) := by decide +kernel
theorem dX9_explains_10 : decode cX9_explains 10 = .ok (.invokestatic 152, 3) := by decide +kernel
theorem dX9_explains_13 : decode cX9_explains 13 = .ok (.ifCond .eq 22, 3) := by decide +kernel
theorem dX9_explains_16 : decode cX9_explains 16 = .ok (.iload_n 3, 1) := by decide +kernel
theorem dX9_explains_17 : decode cX9_explains 17 = .ok (.invokestatic 346, 3) := by decide +kernel
theorem dX9_explains_20 : decode cX9_explains 20 = .ok (.ifCond .eq 15, 3) := by decide +kernel
theorem dX9_explains_23 : decode cX9_explains 23 = .ok (.iload_n 1, 1) := by decide +kernel
theorem dX9_explains_24 : decode cX9_explains 24 = .ok (.ifCond .ne 14, 3) := by decide +kernel
theorem dX9_explains_27 : decode cX9_explains 27 = .ok (.iload_n 2, 1) := by decide +kernel
theorem dX9_explains_28 : decode cX9_explains 28 = .ok (.ifCond .ne 7, 3) := by decide +kernel
theorem dX9_explains_31 : decode cX9_explains 31 = .ok (.iload_n 3, 1) := by decide +kernel
theorem dX9_explains_32 : decode cX9_explains 32 = .ok (.ifCond .eq 6, 3) := by decide +kernel
theorem dX9_explains_35 : decode cX9_explains 35 = .ok (.bipush (-2), 2) := by decide +kernel
theorem dX9_explains_37 : decode cX9_explains 37 = .ok (.ireturn, 1) := by decide +kernel
theorem dX9_explains_38 : decode cX9_explains 38 = .ok (.aload_n 0, 1) := by decide +kernel
theorem dX9_explains_39 : decode cX9_explains 39 = .ok (.iload_n 1, 1) := by decide +kernel
theorem dX9_explains_40 : decode cX9_explains 40 = .ok (.iload_n 2, 1) := by decide +kernel
theorem dX9_explains_41 : decode cX9_explains 41 = .ok (.iload_n 3, 1) := by decide +kernel
theorem dX9_explains_42 : decode cX9_explains 42 = .ok (.invokevirtual 381, 3) := by decide +kernel
theorem dX9_explains_45 : decode cX9_explains 45 = .ok (.ireturn, 1) := by decide +kernel
theorem dX9_count_0 : decode cX9_count 0 = .ok (.iconst 0, 1) := by decide +kernel
theorem dX9_count_1 : decode cX9_count 1 = .ok (.istore_n 2, 1) := by decide +kernel
theorem dX9_count_2 : decode cX9_count 2 = .ok (.iload_n 1, 1) := by decide +kernel
theorem dX9_count_3 : decode cX9_count 3 = .ok (.tableswitch 113 0 8 #[49, 54, 59, 64, 69, 74, 79, 84, 108], 49) := by decide +kernel
theorem dX9_count_52 : decode cX9_count 52 = .ok (.aload_n 0, 1) := by decide +kernel
theorem dX9_count_53 : decode cX9_count 53 = .ok (.getfield 163, 3) := by decide +kernel
theorem dX9_count_56 : decode cX9_count 56 = .ok (.ireturn, 1) := by decide +kernel
theorem dX9_count_57 : decode cX9_count 57 = .ok (.aload_n 0, 1) := by decide +kernel
theorem dX9_count_58 : decode cX9_count 58 = .ok (.invokevirtual 284, 3) := by decide +kernel
theorem dX9_count_61 : decode cX9_count 61 = .ok (.ireturn, 1) := by decide +kernel
theorem dX9_count_62 : decode cX9_count 62 = .ok (.aload_n 0, 1) := by decide +kernel
theorem dX9_count_63 : decode cX9_count 63 = .ok (.getfield 245, 3) := by decide +kernel
theorem dX9_count_66 : decode cX9_count 66 = .ok (.ireturn, 1) := by decide +kernel
theorem dX9_count_67 : decode cX9_count 67 = .ok (.aload_n 0, 1) := by decide +kernel
theorem dX9_count_68 : decode cX9_count 68 = .ok (.getfield 300, 3) := by decide +kernel
theorem dX9_count_71 : decode cX9_count 71 = .ok (.ireturn, 1) := by decide +kernel
theorem dX9_count_72 : decode cX9_count 72 = .ok (.aload_n 0, 1) := by decide +kernel
theorem dX9_count_73 : decode cX9_count 73 = .ok (.getfield 303, 3) := by decide +kernel
theorem dX9_count_76 : decode cX9_count 76 = .ok (.ireturn, 1) := by decide +kernel
theorem dX9_count_77 : decode cX9_count 77 = .ok (.aload_n 0, 1) := by decide +kernel
theorem dX9_count_78 : decode cX9_count 78 = .ok (.getfield 238, 3) := by decide +kernel
theorem dX9_count_81 : decode cX9_count 81 = .ok (.ireturn, 1) := by decide +kernel
theorem dX9_count_82 : decode cX9_count 82 = .ok (.aload_n 0, 1) := by decide +kernel
theorem dX9_count_83 : decode cX9_count 83 = .ok (.getfield 297, 3) := by decide +kernel
theorem dX9_count_86 : decode cX9_count 86 = .ok (.ireturn, 1) := by decide +kernel
theorem dX9_count_87 : decode cX9_count 87 = .ok (.iconst 0, 1) := by decide +kernel
theorem dX9_count_88 : decode cX9_count 88 = .ok (.istore_n 3, 1) := by decide +kernel
theorem dX9_count_89 : decode cX9_count 89 = .ok (.iload_n 3, 1) := by decide +kernel
theorem dX9_count_90 : decode cX9_count 90 = .ok (.bipush 61, 2) := by decide +kernel
theorem dX9_count_92 : decode cX9_count 92 = .ok (.if_icmp .ge 17, 3) := by decide +kernel
theorem dX9_count_95 : decode cX9_count 95 = .ok (.iload_n 2, 1) := by decide +kernel
theorem dX9_count_96 : decode cX9_count 96 = .ok (.aload_n 0, 1) := by decide +kernel
theorem dX9_count_97 : decode cX9_count 97 = .ok (.iload_n 3, 1) := by decide +kernel
theorem dX9_count_98 : decode cX9_count 98 = .ok (.invokevirtual 372, 3) := by decide +kernel
theorem dX9_count_101 : decode cX9_count 101 = .ok (.iadd, 1) := by decide +kernel
theorem dX9_count_102 : decode cX9_count 102 = .ok (.istore_n 2, 1) := by decide +kernel
theorem dX9_count_103 : decode cX9_count 103 = .ok (.iinc 3 1, 3) := by decide +kernel
theorem dX9_count_106 : decode cX9_count 106 = .ok (.goto (-17), 3) := by decide +kernel
theorem dX9_count_109 : decode cX9_count 109 = .ok (.iload_n 2, 1) := by decide +kernel
theorem dX9_count_110 : decode cX9_count 110 = .ok (.ireturn, 1) := by decide +kernel
theorem dX9_count_111 : decode cX9_count 111 = .ok (.aload_n 0, 1) := by decide +kernel
theorem dX9_count_112 : decode cX9_count 112 = .ok (.getfield 337, 3) := by decide +kernel
theorem dX9_count_115 : decode cX9_count 115 = .ok (.ireturn, 1) := by decide +kernel
theorem dX9_count_116 : decode cX9_count 116 = .ok (.bipush (-2), 2) := by decide +kernel
theorem dX9_count_118 : decode cX9_count 118 = .ok (.ireturn, 1) := by decide +kernel
theorem dJ9_max_7cf53_0 : decode cJ9_max_7cf53 0 = .ok (.iload_n 0, 1) := by decide +kernel
theorem dJ9_max_7cf53_1 : decode cJ9_max_7cf53 1 = .ok (.iload_n 1, 1) := by decide +kernel
theorem dJ9_max_7cf53_2 : decode cJ9_max_7cf53 2 = .ok (.if_icmp .lt 7, 3) := by decide +kernel
theorem dJ9_max_7cf53_5 : decode cJ9_max_7cf53 5 = .ok (.iload_n 0, 1) := by decide +kernel
theorem dJ9_max_7cf53_6 : decode cJ9_max_7cf53 6 = .ok (.goto 4, 3) := by decide +kernel
theorem dJ9_max_7cf53_9 : decode cJ9_max_7cf53 9 = .ok (.iload_n 1, 1) := by decide +kernel
theorem dJ9_max_7cf53_10 : decode cJ9_max_7cf53 10 = .ok (.ireturn, 1) := by decide +kernel
theorem dJ9_max_f86c9_0 : decode cJ9_max_f86c9 0 = .ok (.lload_n 0, 1) := by decide +kernel
theorem dJ9_max_f86c9_1 : decode cJ9_max_f86c9 1 = .ok (.lload_n 2, 1) := by decide +kernel
theorem dJ9_max_f86c9_2 : decode cJ9_max_f86c9 2 = .ok (.lcmp, 1) := by decide +kernel
theorem dJ9_max_f86c9_3 : decode cJ9_max_f86c9 3 = .ok (.ifCond .lt 7, 3) := by decide +kernel
theorem dJ9_max_f86c9_6 : decode cJ9_max_f86c9 6 = .ok (.lload_n 0, 1) := by decide +kernel
theorem dJ9_max_f86c9_7 : decode cJ9_max_f86c9 7 = .ok (.goto 4, 3) := by decide +kernel
theorem dJ9_max_f86c9_10 : decode cJ9_max_f86c9 10 = .ok (.lload_n 2, 1) := by decide +kernel
theorem dJ9_max_f86c9_11 : decode cJ9_max_f86c9 11 = .ok (.lreturn, 1) := by decide +kernel
theorem dJ9_min_7cf53_0 : decode cJ9_min_7cf53 0 = .ok (.iload_n 0, 1) := by decide +kernel
theorem dJ9_min_7cf53_1 : decode cJ9_min_7cf53 1 = .ok (.iload_n 1, 1) := by decide +kernel
theorem dJ9_min_7cf53_2 : decode cJ9_min_7cf53 2 = .ok (.if_icmp .gt 7, 3) := by decide +kernel
theorem dJ9_min_7cf53_5 : decode cJ9_min_7cf53 5 = .ok (.iload_n 0, 1) := by decide +kernel
theorem dJ9_min_7cf53_6 : decode cJ9_min_7cf53 6 = .ok (.goto 4, 3) := by decide +kernel
theorem dJ9_min_7cf53_9 : decode cJ9_min_7cf53 9 = .ok (.iload_n 1, 1) := by decide +kernel
theorem dJ9_min_7cf53_10 : decode cJ9_min_7cf53 10 = .ok (.ireturn, 1) := by decide +kernel
theorem dJ9_min_f86c9_0 : decode cJ9_min_f86c9 0 = .ok (.lload_n 0, 1) := by decide +kernel
theorem dJ9_min_f86c9_1 : decode cJ9_min_f86c9 1 = .ok (.lload_n 2, 1) := by decide +kernel
theorem dJ9_min_f86c9_2 : decode cJ9_min_f86c9 2 = .ok (.lcmp, 1) := by decide +kernel
theorem dJ9_min_f86c9_3 : decode cJ9_min_f86c9 3 = .ok (.ifCond .gt 7, 3) := by decide +kernel
theorem dJ9_min_f86c9_6 : decode cJ9_min_f86c9 6 = .ok (.lload_n 0, 1) := by decide +kernel
theorem dJ9_min_f86c9_7 : decode cJ9_min_f86c9 7 = .ok (.goto 4, 3) := by decide +kernel
theorem dJ9_min_f86c9_10 : decode cJ9_min_f86c9 10 = .ok (.lload_n 2, 1) := by decide +kernel
theorem dJ9_min_f86c9_11 : decode cJ9_min_f86c9 11 = .ok (.lreturn, 1) := by decide +kernel
