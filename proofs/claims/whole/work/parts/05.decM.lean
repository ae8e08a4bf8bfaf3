theorem dX4_init_0 : decode cX4_init 0 = .ok (.aload_n 0, 1) := by decide +kernel
theorem dX4_init_1 : decode cX4_init 1 = .ok (.invokespecial 1, 3) := by decide +kernel
theorem dX4_init_4 : decode cX4_init 4 = .ok (.aload_n 0, 1) := by decide +kernel
theorem dX4_init_5 : decode cX4_init 5 = .ok (.sipush 1152, 3) := by decide +kernel
theorem dX4_init_8 : decode cX4_init 8 = .ok (.newarray .long, 2) := by decide +kernel
theorem dX4_init_10 : decode cX4_init 10 = .ok (.putfield 7, 3) := by decide +kernel
theorem dX4_init_13 : decode cX4_init 13 = .ok (.aload_n 0, 1) := by decide +kernel
theorem dX4_init_14 : decode cX4_init 14 = .ok (.sipush 1152, 3) := by decide +kernel
theorem dX4_init_17 : decode cX4_init 17 = .ok (.newarray .boolean, 2) := by decide +kernel
theorem dX4_init_19 : decode cX4_init 19 = .ok (.putfield 13, 3) := by decide +kernel
theorem dX4_init_22 : decode cX4_init 22 = .ok (.aload_n 0, 1) := by decide +kernel
theorem dX4_init_23 : decode cX4_init 23 = .ok (.bipush 6, 2) := by decide +kernel
theorem dX4_init_25 : decode cX4_init 25 = .ok (.newarray .int, 2) := by decide +kernel
theorem dX4_init_27 : decode cX4_init 27 = .ok (.putfield 17, 3) := by decide +kernel
theorem dX4_init_30 : decode cX4_init 30 = .ok (.aload_n 0, 1) := by decide +kernel
theorem dX4_init_31 : decode cX4_init 31 = .ok (.sipush 1536, 3) := by decide +kernel
theorem dX4_init_34 : decode cX4_init 34 = .ok (.newarray .boolean, 2) := by decide +kernel
theorem dX4_init_36 : decode cX4_init 36 = .ok (.putfield 21, 3) := by decide +kernel
theorem dX4_init_39 : decode cX4_init 39 = .ok (.aload_n 0, 1) := by decide +kernel
theorem dX4_init_40 : decode cX4_init 40 = .ok (.sipush 192, 3) := by decide +kernel
theorem dX4_init_43 : decode cX4_init 43 = .ok (.newarray .boolean, 2) := by decide +kernel
theorem dX4_init_45 : decode cX4_init 45 = .ok (.putfield 24, 3) := by decide +kernel
theorem dX4_init_48 : decode cX4_init 48 = .ok (.aload_n 0, 1) := by decide +kernel
theorem dX4_init_49 : decode cX4_init 49 = .ok (.sipush 192, 3) := by decide +kernel
theorem dX4_init_52 : decode cX4_init 52 = .ok (.newarray .long, 2) := by decide +kernel
theorem dX4_init_54 : decode cX4_init 54 = .ok (.putfield 27, 3) := by decide +kernel
theorem dX4_init_57 : decode cX4_init 57 = .ok (.aload_n 0, 1) := by decide +kernel
theorem dX4_init_58 : decode cX4_init 58 = .ok (.bipush 6, 2) := by decide +kernel
theorem dX4_init_60 : decode cX4_init 60 = .ok (.newarray .long, 2) := by decide +kernel
theorem dX4_init_62 : decode cX4_init 62 = .ok (.putfield 30, 3) := by decide +kernel
theorem dX4_init_65 : decode cX4_init 65 = .ok (.aload_n 0, 1) := by decide +kernel
theorem dX4_init_66 : decode cX4_init 66 = .ok (.sipush 192, 3) := by decide +kernel
theorem dX4_init_69 : decode cX4_init 69 = .ok (.newarray .long, 2) := by decide +kernel
theorem dX4_init_71 : decode cX4_init 71 = .ok (.putfield 33, 3) := by decide +kernel
theorem dX4_init_74 : decode cX4_init 74 = .ok (.aload_n 0, 1) := by decide +kernel
theorem dX4_init_75 : decode cX4_init 75 = .ok (.sipush 192, 3) := by decide +kernel
theorem dX4_init_78 : decode cX4_init 78 = .ok (.newarray .boolean, 2) := by decide +kernel
theorem dX4_init_80 : decode cX4_init 80 = .ok (.putfield 36, 3) := by decide +kernel
theorem dX4_init_83 : decode cX4_init 83 = .ok (.aload_n 0, 1) := by decide +kernel
theorem dX4_init_84 : decode cX4_init 84 = .ok (.sipush 192, 3) := by decide +kernel
theorem dX4_init_87 : decode cX4_init 87 = .ok (.newarray .int, 2) := by decide +kernel
theorem dX4_init_89 : decode cX4_init 89 = .ok (.putfield 39, 3) := by decide +kernel
theorem dX4_init_92 : decode cX4_init 92 = .ok (.aload_n 0, 1) := by decide +kernel
theorem dX4_init_93 : decode cX4_init 93 = .ok (.sipush 192, 3) := by decide +kernel
theorem dX4_init_96 : decode cX4_init 96 = .ok (.newarray .long, 2) := by decide +kernel
theorem dX4_init_98 : decode cX4_init 98 = .ok (.putfield 42, 3) := by decide +kernel
theorem dX4_init_101 : decode cX4_init 101 = .ok (.aload_n 0, 1) := by decide +kernel
theorem dX4_init_102 : decode cX4_init 102 = .ok (.sipush 192, 3) := by decide +kernel
theorem dX4_init_105 : decode cX4_init 105 = .ok (.newarray .boolean, 2) := by decide +kernel
theorem dX4_init_107 : decode cX4_init 107 = .ok (.putfield 45, 3) := by decide +kernel
theorem dX4_init_110 : decode cX4_init 110 = .ok (.aload_n 0, 1) := by decide +kernel
theorem dX4_init_111 : decode cX4_init 111 = .ok (.sipush 2304, 3) := by decide +kernel
theorem dX4_init_114 : decode cX4_init 114 = .ok (.newarray .long, 2) := by decide +kernel
theorem dX4_init_116 : decode cX4_init 116 = .ok (.putfield 48, 3) := by decide +kernel
theorem dX4_init_119 : decode cX4_init 119 = .ok (.aload_n 0, 1) := by decide +kernel
theorem dX4_init_120 : decode cX4_init 120 = .ok (.sipush 2304, 3) := by decide +kernel
theorem dX4_init_123 : decode cX4_init 123 = .ok (.newarray .boolean, 2) := by decide +kernel
theorem dX4_init_125 : decode cX4_init 125 = .ok (.putfield 51, 3) := by decide +kernel
theorem dX4_init_128 : decode cX4_init 128 = .ok (.aload_n 0, 1) := by decide +kernel
theorem dX4_init_129 : decode cX4_init 129 = .ok (.sipush 3072, 3) := by decide +kernel
theorem dX4_init_132 : decode cX4_init 132 = .ok (.newarray .boolean, 2) := by decide +kernel
theorem dX4_init_134 : decode cX4_init 134 = .ok (.putfield 54, 3) := by decide +kernel
theorem dX4_init_137 : decode cX4_init 137 = .ok (.aload_n 0, 1) := by decide +kernel
theorem dX4_init_138 : decode cX4_init 138 = .ok (.bipush 12, 2) := by decide +kernel
theorem dX4_init_140 : decode cX4_init 140 = .ok (.newarray .int, 2) := by decide +kernel
theorem dX4_init_142 : decode cX4_init 142 = .ok (.putfield 57, 3) := by decide +kernel
theorem dX4_init_145 : decode cX4_init 145 = .ok (.aload_n 0, 1) := by decide +kernel
theorem dX4_init_146 : decode cX4_init 146 = .ok (.iconst 2, 1) := by decide +kernel
theorem dX4_init_147 : decode cX4_init 147 = .ok (.newarray .int, 2) := by decide +kernel
theorem dX4_init_149 : decode cX4_init 149 = .ok (.putfield 60, 3) := by decide +kernel
theorem dX4_init_152 : decode cX4_init 152 = .ok (.aload_n 0, 1) := by decide +kernel
theorem dX4_init_153 : decode cX4_init 153 = .ok (.iconst 2, 1) := by decide +kernel
theorem dX4_init_154 : decode cX4_init 154 = .ok (.newarray .int, 2) := by decide +kernel
theorem dX4_init_156 : decode cX4_init 156 = .ok (.putfield 63, 3) := by decide +kernel
theorem dX4_init_159 : decode cX4_init 159 = .ok (.aload_n 0, 1) := by decide +kernel
theorem dX4_init_160 : decode cX4_init 160 = .ok (.iconst 2, 1) := by decide +kernel
theorem dX4_init_161 : decode cX4_init 161 = .ok (.newarray .boolean, 2) := by decide +kernel
theorem dX4_init_163 : decode cX4_init 163 = .ok (.putfield 66, 3) := by decide +kernel
theorem dX4_init_166 : decode cX4_init 166 = .ok (.return_, 1) := by decide +kernel
theorem dX4_thrown_0 : decode cX4_thrown 0 = .ok (.aload_n 0, 1) := by decide +kernel
theorem dX4_thrown_1 : decode cX4_thrown 1 = .ok (.getfield 69, 3) := by decide +kernel
theorem dX4_thrown_4 : decode cX4_thrown 4 = .ok (.ireturn, 1) := by decide +kernel
theorem dX4_isIn_0 : decode cX4_isIn 0 = .ok (.lload_n 0, 1) := by decide +kernel
theorem dX4_isIn_1 : decode cX4_isIn 1 = .ok (.lload_n 2, 1) := by decide +kernel
theorem dX4_isIn_2 : decode cX4_isIn 2 = .ok (.lcmp, 1) := by decide +kernel
theorem dX4_isIn_3 : decode cX4_isIn 3 = .ok (.ifCond .lt 14, 3) := by decide +kernel
theorem dX4_isIn_6 : decode cX4_isIn 6 = .ok (.lload_n 0, 1) := by decide +kernel
theorem dX4_isIn_7 : decode cX4_isIn 7 = .ok (.lload 4, 2) := by decide +kernel
theorem dX4_isIn_9 : decode cX4_isIn 9 = .ok (.lcmp, 1) := by decide +kernel
theorem dX4_isIn_10 : decode cX4_isIn 10 = .ok (.ifCond .gt 7, 3) := by decide +kernel
theorem dX4_isIn_13 : decode cX4_isIn 13 = .ok (.iconst 1, 1) := by decide +kernel
theorem dX4_isIn_14 : decode cX4_isIn 14 = .ok (.goto 4, 3) := by decide +kernel
theorem dX4_isIn_17 : decode cX4_isIn 17 = .ok (.iconst 0, 1) := by decide +kernel
theorem dX4_isIn_18 : decode cX4_isIn 18 = .ok (.ireturn, 1) := by decide +kernel
theorem dX4_flag_0 : decode cX4_flag 0 = .ok (.iload_n 0, 1) := by decide +kernel
theorem dX4_flag_1 : decode cX4_flag 1 = .ok (.ifCond .eq 7, 3) := by decide +kernel
theorem dX4_flag_4 : decode cX4_flag 4 = .ok (.iconst 1, 1) := by decide +kernel
theorem dX4_flag_5 : decode cX4_flag 5 = .ok (.goto 4, 3) := by decide +kernel
theorem dX4_flag_8 : decode cX4_flag 8 = .ok (.iconst 0, 1) := by decide +kernel
theorem dX4_flag_9 : decode cX4_flag 9 = .ok (.ireturn, 1) := by decide +kernel
theorem dX4_fails_0 : decode cX4_fails 0 = .ok (.aload_n 0, 1) := by decide +kernel
theorem dX4_fails_1 : decode cX4_fails 1 = .ok (.iload_n 1, 1) := by decide +kernel
theorem dX4_fails_2 : decode cX4_fails 2 = .ok (.putfield 69, 3) := by decide +kernel
theorem dX4_fails_5 : decode cX4_fails 5 = .ok (.iconst 0, 1) := by decide +kernel
theorem dX4_fails_6 : decode cX4_fails 6 = .ok (.ireturn, 1) := by decide +kernel
theorem dX4_isColumn_0 : decode cX4_isColumn 0 = .ok (.iload_n 1, 1) := by decide +kernel
theorem dX4_isColumn_1 : decode cX4_isColumn 1 = .ok (.i2l, 1) := by decide +kernel
theorem dX4_isColumn_2 : decode cX4_isColumn 2 = .ok (.lconst 0, 1) := by decide +kernel
theorem dX4_isColumn_3 : decode cX4_isColumn 3 = .ok (.aload_n 0, 1) := by decide +kernel
theorem dX4_isColumn_4 : decode cX4_isColumn 4 = .ok (.getfield 73, 3) := by decide +kernel
theorem dX4_isColumn_7 : decode cX4_isColumn 7 = .ok (.iconst 1, 1) := by decide +kernel
theorem dX4_isColumn_8 : decode cX4_isColumn 8 = .ok (.isub, 1) := by decide +kernel
theorem dX4_isColumn_9 : decode cX4_isColumn 9 = .ok (.i2l, 1) := by decide +kernel
theorem dX4_isColumn_10 : decode cX4_isColumn 10 = .ok (.invokestatic 76, 3) := by decide +kernel
theorem dX4_isColumn_13 : decode cX4_isColumn 13 = .ok (.ireturn, 1) := by decide +kernel
theorem dX4_isRow_0 : decode cX4_isRow 0 = .ok (.iload_n 1, 1) := by decide +kernel
theorem dX4_isRow_1 : decode cX4_isRow 1 = .ok (.i2l, 1) := by decide +kernel
theorem dX4_isRow_2 : decode cX4_isRow 2 = .ok (.lconst 0, 1) := by decide +kernel
theorem dX4_isRow_3 : decode cX4_isRow 3 = .ok (.aload_n 0, 1) := by decide +kernel
theorem dX4_isRow_4 : decode cX4_isRow 4 = .ok (.getfield 80, 3) := by decide +kernel
theorem dX4_isRow_7 : decode cX4_isRow 7 = .ok (.iconst 1, 1) := by decide +kernel
theorem dX4_isRow_8 : decode cX4_isRow 8 = .ok (.isub, 1) := by decide +kernel
theorem dX4_isRow_9 : decode cX4_isRow 9 = .ok (.i2l, 1) := by decide +kernel
theorem dX4_isRow_10 : decode cX4_isRow 10 = .ok (.invokestatic 76, 3) := by decide +kernel
theorem dX4_isRow_13 : decode cX4_isRow 13 = .ok (.ireturn, 1) := by decide +kernel
theorem dX4_isMask_0 : decode cX4_isMask 0 = .ok (.iload_n 0, 1) := by decide +kernel
theorem dX4_isMask_1 : decode cX4_isMask 1 = .ok (.i2l, 1) := by decide +kernel
theorem dX4_isMask_2 : decode cX4_isMask 2 = .ok (.lconst 0, 1) := by decide +kernel
theorem dX4_isMask_3 : decode cX4_isMask 3 = .ok (.ldc2_w 83, 3) := by decide +kernel
theorem dX4_isMask_6 : decode cX4_isMask 6 = .ok (.invokestatic 76, 3) := by decide +kernel
theorem dX4_isMask_9 : decode cX4_isMask 9 = .ok (.ireturn, 1) := by decide +kernel
theorem dX4_isWord_0 : decode cX4_isWord 0 = .ok (.iload_n 0, 1) := by decide +kernel
theorem dX4_isWord_1 : decode cX4_isWord 1 = .ok (.i2l, 1) := by decide +kernel
theorem dX4_isWord_2 : decode cX4_isWord 2 = .ok (.lconst 0, 1) := by decide +kernel
theorem dX4_isWord_3 : decode cX4_isWord 3 = .ok (.ldc2_w 85, 3) := by decide +kernel
theorem dX4_isWord_6 : decode cX4_isWord 6 = .ok (.invokestatic 76, 3) := by decide +kernel
theorem dX4_isWord_9 : decode cX4_isWord 9 = .ok (.ireturn, 1) := by decide +kernel
theorem dX4_areIn_0 : decode cX4_areIn 0 = .ok (.aload_n 0, 1) := by decide +kernel
theorem dX4_areIn_1 : decode cX4_areIn 1 = .ok (.iload_n 1, 1) := by decide +kernel
theorem dX4_areIn_2 : decode cX4_areIn 2 = .ok (.invokevirtual 87, 3) := by decide +kernel
theorem dX4_areIn_5 : decode cX4_areIn 5 = .ok (.ifCond .eq 14, 3) := by decide +kernel
theorem dX4_areIn_8 : decode cX4_areIn 8 = .ok (.iload_n 2, 1) := by decide +kernel
theorem dX4_areIn_9 : decode cX4_areIn 9 = .ok (.invokestatic 91, 3) := by decide +kernel
theorem dX4_areIn_12 : decode cX4_areIn 12 = .ok (.ifCond .eq 7, 3) := by decide +kernel
theorem dX4_areIn_15 : decode cX4_areIn 15 = .ok (.iconst 1, 1) := by decide +kernel
theorem dX4_areIn_16 : decode cX4_areIn 16 = .ok (.goto 4, 3) := by decide +kernel
theorem dX4_areIn_19 : decode cX4_areIn 19 = .ok (.iconst 0, 1) := by decide +kernel
theorem dX4_areIn_20 : decode cX4_areIn 20 = .ok (.ireturn, 1) := by decide +kernel
theorem dX4_at_0 : decode cX4_at 0 = .ok (.sipush 192, 3) := by decide +kernel
theorem dX4_at_3 : decode cX4_at 3 = .ok (.iload_n 0, 1) := by decide +kernel
theorem dX4_at_4 : decode cX4_at 4 = .ok (.imul, 1) := by decide +kernel
theorem dX4_at_5 : decode cX4_at 5 = .ok (.iload_n 1, 1) := by decide +kernel
theorem dX4_at_6 : decode cX4_at 6 = .ok (.iadd, 1) := by decide +kernel
theorem dX4_at_7 : decode cX4_at 7 = .ok (.ireturn, 1) := by decide +kernel
theorem dX4_hasUnder_0 : decode cX4_hasUnder 0 = .ok (.aload_n 0, 1) := by decide +kernel
theorem dX4_hasUnder_1 : decode cX4_hasUnder 1 = .ok (.getfield 21, 3) := by decide +kernel
theorem dX4_hasUnder_4 : decode cX4_hasUnder 4 = .ok (.iload_n 3, 1) := by decide +kernel
theorem dX4_hasUnder_5 : decode cX4_hasUnder 5 = .ok (.iload_n 2, 1) := by decide +kernel
theorem dX4_hasUnder_6 : decode cX4_hasUnder 6 = .ok (.invokestatic 94, 3) := by decide +kernel
theorem dX4_hasUnder_9 : decode cX4_hasUnder 9 = .ok (.baload, 1) := by decide +kernel
theorem dX4_hasUnder_10 : decode cX4_hasUnder 10 = .ok (.ifCond .eq 20, 3) := by decide +kernel
theorem dX4_hasUnder_13 : decode cX4_hasUnder 13 = .ok (.aload_n 0, 1) := by decide +kernel
theorem dX4_hasUnder_14 : decode cX4_hasUnder 14 = .ok (.getfield 13, 3) := by decide +kernel
theorem dX4_hasUnder_17 : decode cX4_hasUnder 17 = .ok (.iload_n 1, 1) := by decide +kernel
theorem dX4_hasUnder_18 : decode cX4_hasUnder 18 = .ok (.iload_n 2, 1) := by decide +kernel
theorem dX4_hasUnder_19 : decode cX4_hasUnder 19 = .ok (.invokestatic 94, 3) := by decide +kernel
theorem dX4_hasUnder_22 : decode cX4_hasUnder 22 = .ok (.baload, 1) := by decide +kernel
theorem dX4_hasUnder_23 : decode cX4_hasUnder 23 = .ok (.ifCond .eq 7, 3) := by decide +kernel
theorem dX4_hasUnder_26 : decode cX4_hasUnder 26 = .ok (.iconst 1, 1) := by decide +kernel
theorem dX4_hasUnder_27 : decode cX4_hasUnder 27 = .ok (.goto 4, 3) := by decide +kernel
theorem dX4_hasUnder_30 : decode cX4_hasUnder 30 = .ok (.iconst 0, 1) := by decide +kernel
theorem dX4_hasUnder_31 : decode cX4_hasUnder 31 = .ok (.ireturn, 1) := by decide +kernel
theorem dX4_most_0 : decode cX4_most 0 = .ok (.lconst 1, 1) := by decide +kernel
theorem dX4_most_1 : decode cX4_most 1 = .ok (.aload_n 0, 1) := by decide +kernel
theorem dX4_most_2 : decode cX4_most 2 = .ok (.getfield 17, 3) := by decide +kernel
theorem dX4_most_5 : decode cX4_most 5 = .ok (.iload_n 1, 1) := by decide +kernel
theorem dX4_most_6 : decode cX4_most 6 = .ok (.iaload, 1) := by decide +kernel
theorem dX4_most_7 : decode cX4_most 7 = .ok (.iconst 1, 1) := by decide +kernel
theorem dX4_most_8 : decode cX4_most 8 = .ok (.isub, 1) := by decide +kernel
theorem dX4_most_9 : decode cX4_most 9 = .ok (.lshl, 1) := by decide +kernel
theorem dX4_most_10 : decode cX4_most 10 = .ok (.lconst 1, 1) := by decide +kernel
theorem dX4_most_11 : decode cX4_most 11 = .ok (.lsub, 1) := by decide +kernel
theorem dX4_most_12 : decode cX4_most 12 = .ok (.lreturn, 1) := by decide +kernel
theorem dX4_fits_0 : decode cX4_fits 0 = .ok (.lload_n 2, 1) := by decide +kernel
theorem dX4_fits_1 : decode cX4_fits 1 = .ok (.aload_n 0, 1) := by decide +kernel
theorem dX4_fits_2 : decode cX4_fits 2 = .ok (.iload_n 1, 1) := by decide +kernel
theorem dX4_fits_3 : decode cX4_fits 3 = .ok (.invokevirtual 98, 3) := by decide +kernel
theorem dX4_fits_6 : decode cX4_fits 6 = .ok (.lneg, 1) := by decide +kernel
theorem dX4_fits_7 : decode cX4_fits 7 = .ok (.lconst 1, 1) := by decide +kernel
theorem dX4_fits_8 : decode cX4_fits 8 = .ok (.lsub, 1) := by decide +kernel
theorem dX4_fits_9 : decode cX4_fits 9 = .ok (.aload_n 0, 1) := by decide +kernel
theorem dX4_fits_10 : decode cX4_fits 10 = .ok (.iload_n 1, 1) := by decide +kernel
theorem dX4_fits_11 : decode cX4_fits 11 = .ok (.invokevirtual 98, 3) := by decide +kernel
theorem dX4_fits_14 : decode cX4_fits 14 = .ok (.invokestatic 76, 3) := by decide +kernel
theorem dX4_fits_17 : decode cX4_fits 17 = .ok (.ireturn, 1) := by decide +kernel
theorem dX4_tooGreat_0 : decode cX4_tooGreat 0 = .ok (.aload_n 0, 1) := by decide +kernel
theorem dX4_tooGreat_1 : decode cX4_tooGreat 1 = .ok (.dup, 1) := by decide +kernel
theorem dX4_tooGreat_2 : decode cX4_tooGreat 2 = .ok (.getfield 102, 3) := by decide +kernel
theorem dX4_tooGreat_5 : decode cX4_tooGreat 5 = .ok (.iconst 1, 1) := by decide +kernel
theorem dX4_tooGreat_6 : decode cX4_tooGreat 6 = .ok (.iadd, 1) := by decide +kernel
theorem dX4_tooGreat_7 : decode cX4_tooGreat 7 = .ok (.putfield 102, 3) := by decide +kernel
theorem dX4_tooGreat_10 : decode cX4_tooGreat 10 = .ok (.aload_n 0, 1) := by decide +kernel
theorem dX4_tooGreat_11 : decode cX4_tooGreat 11 = .ok (.iload_n 1, 1) := by decide +kernel
theorem dX4_tooGreat_12 : decode cX4_tooGreat 12 = .ok (.invokevirtual 105, 3) := by decide +kernel
theorem dX4_tooGreat_15 : decode cX4_tooGreat 15 = .ok (.ireturn, 1) := by decide +kernel
theorem dX4_column_0 : decode cX4_column 0 = .ok (.aload_n 0, 1) := by decide +kernel
theorem dX4_column_1 : decode cX4_column 1 = .ok (.iconst 0, 1) := by decide +kernel
theorem dX4_column_2 : decode cX4_column 2 = .ok (.putfield 69, 3) := by decide +kernel
theorem dX4_column_5 : decode cX4_column 5 = .ok (.iload_n 1, 1) := by decide +kernel
theorem dX4_column_6 : decode cX4_column 6 = .ok (.i2l, 1) := by decide +kernel
theorem dX4_column_7 : decode cX4_column 7 = .ok (.ldc2_w 85, 3) := by decide +kernel
theorem dX4_column_10 : decode cX4_column 10 = .ok (.ldc2_w 109, 3) := by decide +kernel
theorem dX4_column_13 : decode cX4_column 13 = .ok (.invokestatic 76, 3) := by decide +kernel
theorem dX4_column_16 : decode cX4_column 16 = .ok (.ifCond .ne 9, 3) := by decide +kernel
theorem dX4_column_19 : decode cX4_column 19 = .ok (.aload_n 0, 1) := by decide +kernel
theorem dX4_column_20 : decode cX4_column 20 = .ok (.iconst 1, 1) := by decide +kernel
theorem dX4_column_21 : decode cX4_column 21 = .ok (.invokevirtual 105, 3) := by decide +kernel
theorem dX4_column_24 : decode cX4_column 24 = .ok (.ireturn, 1) := by decide +kernel
theorem dX4_column_25 : decode cX4_column 25 = .ok (.aload_n 0, 1) := by decide +kernel
theorem dX4_column_26 : decode cX4_column 26 = .ok (.getfield 73, 3) := by decide +kernel
theorem dX4_column_29 : decode cX4_column 29 = .ok (.bipush 6, 2) := by decide +kernel
theorem dX4_column_31 : decode cX4_column 31 = .ok (.if_icmp .ne 9, 3) := by decide +kernel
theorem dX4_column_34 : decode cX4_column 34 = .ok (.aload_n 0, 1) := by decide +kernel
theorem dX4_column_35 : decode cX4_column 35 = .ok (.iconst 2, 1) := by decide +kernel
theorem dX4_column_36 : decode cX4_column 36 = .ok (.invokevirtual 105, 3) := by decide +kernel
theorem dX4_column_39 : decode cX4_column 39 = .ok (.ireturn, 1) := by decide +kernel
theorem dX4_column_40 : decode cX4_column 40 = .ok (.aload_n 0, 1) := by decide +kernel
theorem dX4_column_41 : decode cX4_column 41 = .ok (.getfield 17, 3) := by decide +kernel
theorem dX4_column_44 : decode cX4_column 44 = .ok (.aload_n 0, 1) := by decide +kernel
theorem dX4_column_45 : decode cX4_column 45 = .ok (.getfield 73, 3) := by decide +kernel
theorem dX4_column_48 : decode cX4_column 48 = .ok (.iload_n 1, 1) := by decide +kernel
theorem dX4_column_49 : decode cX4_column 49 = .ok (.iastore, 1) := by decide +kernel
theorem dX4_column_50 : decode cX4_column 50 = .ok (.iconst 0, 1) := by decide +kernel
theorem dX4_column_51 : decode cX4_column 51 = .ok (.istore_n 2, 1) := by decide +kernel
theorem dX4_column_52 : decode cX4_column 52 = .ok (.iload_n 2, 1) := by decide +kernel
theorem dX4_column_53 : decode cX4_column 53 = .ok (.sipush 192, 3) := by decide +kernel
theorem dX4_column_56 : decode cX4_column 56 = .ok (.if_icmp .ge 23, 3) := by decide +kernel
theorem dX4_column_59 : decode cX4_column 59 = .ok (.aload_n 0, 1) := by decide +kernel
theorem dX4_column_60 : decode cX4_column 60 = .ok (.getfield 13, 3) := by decide +kernel
theorem dX4_column_63 : decode cX4_column 63 = .ok (.aload_n 0, 1) := by decide +kernel
theorem dX4_column_64 : decode cX4_column 64 = .ok (.getfield 73, 3) := by decide +kernel
theorem dX4_column_67 : decode cX4_column 67 = .ok (.iload_n 2, 1) := by decide +kernel
theorem dX4_column_68 : decode cX4_column 68 = .ok (.invokestatic 94, 3) := by decide +kernel
theorem dX4_column_71 : decode cX4_column 71 = .ok (.iconst 0, 1) := by decide +kernel
theorem dX4_column_72 : decode cX4_column 72 = .ok (.bastore, 1) := by decide +kernel
theorem dX4_column_73 : decode cX4_column 73 = .ok (.iinc 2 1, 3) := by decide +kernel
theorem dX4_column_76 : decode cX4_column 76 = .ok (.goto (-24), 3) := by decide +kernel
theorem dX4_column_79 : decode cX4_column 79 = .ok (.aload_n 0, 1) := by decide +kernel
theorem dX4_column_80 : decode cX4_column 80 = .ok (.dup, 1) := by decide +kernel
theorem dX4_column_81 : decode cX4_column 81 = .ok (.getfield 73, 3) := by decide +kernel
theorem dX4_column_84 : decode cX4_column 84 = .ok (.iconst 1, 1) := by decide +kernel
theorem dX4_column_85 : decode cX4_column 85 = .ok (.iadd, 1) := by decide +kernel
theorem dX4_column_86 : decode cX4_column 86 = .ok (.putfield 73, 3) := by decide +kernel
theorem dX4_column_89 : decode cX4_column 89 = .ok (.aload_n 0, 1) := by decide +kernel
theorem dX4_column_90 : decode cX4_column 90 = .ok (.getfield 73, 3) := by decide +kernel
theorem dX4_column_93 : decode cX4_column 93 = .ok (.iconst 1, 1) := by decide +kernel
theorem dX4_column_94 : decode cX4_column 94 = .ok (.isub, 1) := by decide +kernel
theorem dX4_column_95 : decode cX4_column 95 = .ok (.ireturn, 1) := by decide +kernel
theorem dX4_drop_0 : decode cX4_drop 0 = .ok (.aload_n 0, 1) := by decide +kernel
theorem dX4_drop_1 : decode cX4_drop 1 = .ok (.iconst 0, 1) := by decide +kernel
theorem dX4_drop_2 : decode cX4_drop 2 = .ok (.putfield 69, 3) := by decide +kernel
theorem dX4_drop_5 : decode cX4_drop 5 = .ok (.aload_n 0, 1) := by decide +kernel
theorem dX4_drop_6 : decode cX4_drop 6 = .ok (.iload_n 1, 1) := by decide +kernel
theorem dX4_drop_7 : decode cX4_drop 7 = .ok (.invokevirtual 87, 3) := by decide +kernel
theorem dX4_drop_10 : decode cX4_drop 10 = .ok (.ifCond .ne 9, 3) := by decide +kernel
theorem dX4_drop_13 : decode cX4_drop 13 = .ok (.aload_n 0, 1) := by decide +kernel
theorem dX4_drop_14 : decode cX4_drop 14 = .ok (.iconst 1, 1) := by decide +kernel
theorem dX4_drop_15 : decode cX4_drop 15 = .ok (.invokevirtual 105, 3) := by decide +kernel
theorem dX4_drop_18 : decode cX4_drop 18 = .ok (.ireturn, 1) := by decide +kernel
theorem dX4_drop_19 : decode cX4_drop 19 = .ok (.aload_n 0, 1) := by decide +kernel
theorem dX4_drop_20 : decode cX4_drop 20 = .ok (.dup, 1) := by decide +kernel
theorem dX4_drop_21 : decode cX4_drop 21 = .ok (.getfield 73, 3) := by decide +kernel
theorem dX4_drop_24 : decode cX4_drop 24 = .ok (.iconst 1, 1) := by decide +kernel
theorem dX4_drop_25 : decode cX4_drop 25 = .ok (.isub, 1) := by decide +kernel
theorem dX4_drop_26 : decode cX4_drop 26 = .ok (.putfield 73, 3) := by decide +kernel
theorem dX4_drop_29 : decode cX4_drop 29 = .ok (.iload_n 1, 1) := by decide +kernel
theorem dX4_drop_30 : decode cX4_drop 30 = .ok (.istore_n 2, 1) := by decide +kernel
theorem dX4_drop_31 : decode cX4_drop 31 = .ok (.iload_n 2, 1) := by decide +kernel
theorem dX4_drop_32 : decode cX4_drop 32 = .ok (.aload_n 0, 1) := by decide +kernel
theorem dX4_drop_33 : decode cX4_drop 33 = .ok (.getfield 73, 3) := by decide +kernel
theorem dX4_drop_36 : decode cX4_drop 36 = .ok (.if_icmp .ge 82, 3) := by decide +kernel
theorem dX4_drop_39 : decode cX4_drop 39 = .ok (.aload_n 0, 1) := by decide +kernel
theorem dX4_drop_40 : decode cX4_drop 40 = .ok (.getfield 17, 3) := by decide +kernel
theorem dX4_drop_43 : decode cX4_drop 43 = .ok (.iload_n 2, 1) := by decide +kernel
theorem dX4_drop_44 : decode cX4_drop 44 = .ok (.aload_n 0, 1) := by decide +kernel
theorem dX4_drop_45 : decode cX4_drop 45 = .ok (.getfield 17, 3) := by decide +kernel
theorem dX4_drop_48 : decode cX4_drop 48 = .ok (.iload_n 2, 1) := by decide +kernel
theorem dX4_drop_49 : decode cX4_drop 49 = .ok (.iconst 1, 1) := by decide +kernel
theorem dX4_drop_50 : decode cX4_drop 50 = .ok (.iadd, 1) := by decide +kernel
theorem dX4_drop_51 : decode cX4_drop 51 = .ok (.iaload, 1) := by decide +kernel
theorem dX4_drop_52 : decode cX4_drop 52 = .ok (.iastore, 1) := by decide +kernel
theorem dX4_drop_53 : decode cX4_drop 53 = .ok (.iconst 0, 1) := by decide +kernel
theorem dX4_drop_54 : decode cX4_drop 54 = .ok (.istore_n 3, 1) := by decide +kernel
theorem dX4_drop_55 : decode cX4_drop 55 = .ok (.iload_n 3, 1) := by decide +kernel
theorem dX4_drop_56 : decode cX4_drop 56 = .ok (.sipush 192, 3) := by decide +kernel
theorem dX4_drop_59 : decode cX4_drop 59 = .ok (.if_icmp .ge 53, 3) := by decide +kernel
theorem dX4_drop_62 : decode cX4_drop 62 = .ok (.aload_n 0, 1) := by decide +kernel
theorem dX4_drop_63 : decode cX4_drop 63 = .ok (.getfield 7, 3) := by decide +kernel
theorem dX4_drop_66 : decode cX4_drop 66 = .ok (.iload_n 2, 1) := by decide +kernel
theorem dX4_drop_67 : decode cX4_drop 67 = .ok (.iload_n 3, 1) := by decide +kernel
theorem dX4_drop_68 : decode cX4_drop 68 = .ok (.invokestatic 94, 3) := by decide +kernel
theorem dX4_drop_71 : decode cX4_drop 71 = .ok (.aload_n 0, 1) := by decide +kernel
theorem dX4_drop_72 : decode cX4_drop 72 = .ok (.getfield 7, 3) := by decide +kernel
theorem dX4_drop_75 : decode cX4_drop 75 = .ok (.iload_n 2, 1) := by decide +kernel
theorem dX4_drop_76 : decode cX4_drop 76 = .ok (.iconst 1, 1) := by decide +kernel
theorem dX4_drop_77 : decode cX4_drop 77 = .ok (.iadd, 1) := by decide +kernel
theorem dX4_drop_78 : decode cX4_drop 78 = .ok (.iload_n 3, 1) := by decide +kernel
theorem dX4_drop_79 : decode cX4_drop 79 = .ok (.invokestatic 94, 3) := by decide +kernel
theorem dX4_drop_82 : decode cX4_drop 82 = .ok (.laload, 1) := by decide +kernel
theorem dX4_drop_83 : decode cX4_drop 83 = .ok (.lastore, 1) := by decide +kernel
theorem dX4_drop_84 : decode cX4_drop 84 = .ok (.aload_n 0, 1) := by decide +kernel
theorem dX4_drop_85 : decode cX4_drop 85 = .ok (.getfield 13, 3) := by decide +kernel
theorem dX4_drop_88 : decode cX4_drop 88 = .ok (.iload_n 2, 1) := by decide +kernel
theorem dX4_drop_89 : decode cX4_drop 89 = .ok (.iload_n 3, 1) := by decide +kernel
theorem dX4_drop_90 : decode cX4_drop 90 = .ok (.invokestatic 94, 3) := by decide +kernel
theorem dX4_drop_93 : decode cX4_drop 93 = .ok (.aload_n 0, 1) := by decide +kernel
theorem dX4_drop_94 : decode cX4_drop 94 = .ok (.getfield 13, 3) := by decide +kernel
theorem dX4_drop_97 : decode cX4_drop 97 = .ok (.iload_n 2, 1) := by decide +kernel
theorem dX4_drop_98 : decode cX4_drop 98 = .ok (.iconst 1, 1) := by decide +kernel
theorem dX4_drop_99 : decode cX4_drop 99 = .ok (.iadd, 1) := by decide +kernel
theorem dX4_drop_100 : decode cX4_drop 100 = .ok (.iload_n 3, 1) := by decide +kernel
theorem dX4_drop_101 : decode cX4_drop 101 = .ok (.invokestatic 94, 3) := by decide +kernel
theorem dX4_drop_104 : decode cX4_drop 104 = .ok (.baload, 1) := by decide +kernel
theorem dX4_drop_105 : decode cX4_drop 105 = .ok (.bastore, 1) := by decide +kernel
theorem dX4_drop_106 : decode cX4_drop 106 = .ok (.iinc 3 1, 3) := by decide +kernel
theorem dX4_drop_109 : decode cX4_drop 109 = .ok (.goto (-54), 3) := by decide +kernel
theorem dX4_drop_112 : decode cX4_drop 112 = .ok (.iinc 2 1, 3) := by decide +kernel
theorem dX4_drop_115 : decode cX4_drop 115 = .ok (.goto (-84), 3) := by decide +kernel
theorem dX4_drop_118 : decode cX4_drop 118 = .ok (.aload_n 0, 1) := by decide +kernel
theorem dX4_drop_119 : decode cX4_drop 119 = .ok (.getfield 73, 3) := by decide +kernel
theorem dX4_drop_122 : decode cX4_drop 122 = .ok (.ireturn, 1) := by decide +kernel
theorem dX4_rows_0 : decode cX4_rows 0 = .ok (.aload_n 0, 1) := by decide +kernel
theorem dX4_rows_1 : decode cX4_rows 1 = .ok (.iconst 0, 1) := by decide +kernel
theorem dX4_rows_2 : decode cX4_rows 2 = .ok (.putfield 69, 3) := by decide +kernel
theorem dX4_rows_5 : decode cX4_rows 5 = .ok (.iload_n 1, 1) := by decide +kernel
theorem dX4_rows_6 : decode cX4_rows 6 = .ok (.i2l, 1) := by decide +kernel
theorem dX4_rows_7 : decode cX4_rows 7 = .ok (.lconst 1, 1) := by decide +kernel
theorem dX4_rows_8 : decode cX4_rows 8 = .ok (.ldc2_w 111, 3) := by decide +kernel
theorem dX4_rows_11 : decode cX4_rows 11 = .ok (.invokestatic 76, 3) := by decide +kernel
theorem dX4_rows_14 : decode cX4_rows 14 = .ok (.ifCond .ne 9, 3) := by decide +kernel
theorem dX4_rows_17 : decode cX4_rows 17 = .ok (.aload_n 0, 1) := by decide +kernel
theorem dX4_rows_18 : decode cX4_rows 18 = .ok (.iconst 1, 1) := by decide +kernel
theorem dX4_rows_19 : decode cX4_rows 19 = .ok (.invokevirtual 105, 3) := by decide +kernel
theorem dX4_rows_22 : decode cX4_rows 22 = .ok (.ireturn, 1) := by decide +kernel
theorem dX4_rows_23 : decode cX4_rows 23 = .ok (.aload_n 0, 1) := by decide +kernel
theorem dX4_rows_24 : decode cX4_rows 24 = .ok (.getfield 80, 3) := by decide +kernel
theorem dX4_rows_27 : decode cX4_rows 27 = .ok (.iload_n 1, 1) := by decide +kernel
theorem dX4_rows_28 : decode cX4_rows 28 = .ok (.iadd, 1) := by decide +kernel
theorem dX4_rows_29 : decode cX4_rows 29 = .ok (.sipush 192, 3) := by decide +kernel
theorem dX4_rows_32 : decode cX4_rows 32 = .ok (.if_icmp .le 9, 3) := by decide +kernel
theorem dX4_rows_35 : decode cX4_rows 35 = .ok (.aload_n 0, 1) := by decide +kernel
theorem dX4_rows_36 : decode cX4_rows 36 = .ok (.iconst 2, 1) := by decide +kernel
theorem dX4_rows_37 : decode cX4_rows 37 = .ok (.invokevirtual 105, 3) := by decide +kernel
theorem dX4_rows_40 : decode cX4_rows 40 = .ok (.ireturn, 1) := by decide +kernel
theorem dX4_rows_41 : decode cX4_rows 41 = .ok (.aload_n 0, 1) := by decide +kernel
theorem dX4_rows_42 : decode cX4_rows 42 = .ok (.dup, 1) := by decide +kernel
theorem dX4_rows_43 : decode cX4_rows 43 = .ok (.getfield 80, 3) := by decide +kernel
theorem dX4_rows_46 : decode cX4_rows 46 = .ok (.iload_n 1, 1) := by decide +kernel
theorem dX4_rows_47 : decode cX4_rows 47 = .ok (.iadd, 1) := by decide +kernel
theorem dX4_rows_48 : decode cX4_rows 48 = .ok (.putfield 80, 3) := by decide +kernel
theorem dX4_rows_51 : decode cX4_rows 51 = .ok (.aload_n 0, 1) := by decide +kernel
theorem dX4_rows_52 : decode cX4_rows 52 = .ok (.getfield 80, 3) := by decide +kernel
theorem dX4_rows_55 : decode cX4_rows 55 = .ok (.ireturn, 1) := by decide +kernel
theorem dX4_set_0 : decode cX4_set 0 = .ok (.aload_n 0, 1) := by decide +kernel
theorem dX4_set_1 : decode cX4_set 1 = .ok (.iconst 0, 1) := by decide +kernel
theorem dX4_set_2 : decode cX4_set 2 = .ok (.putfield 69, 3) := by decide +kernel
theorem dX4_set_5 : decode cX4_set 5 = .ok (.aload_n 0, 1) := by decide +kernel
theorem dX4_set_6 : decode cX4_set 6 = .ok (.iload_n 1, 1) := by decide +kernel
theorem dX4_set_7 : decode cX4_set 7 = .ok (.invokevirtual 87, 3) := by decide +kernel
theorem dX4_set_10 : decode cX4_set 10 = .ok (.ifCond .eq 11, 3) := by decide +kernel
theorem dX4_set_13 : decode cX4_set 13 = .ok (.aload_n 0, 1) := by decide +kernel
theorem dX4_set_14 : decode cX4_set 14 = .ok (.iload_n 2, 1) := by decide +kernel
theorem dX4_set_15 : decode cX4_set 15 = .ok (.invokevirtual 113, 3) := by decide +kernel
theorem dX4_set_18 : decode cX4_set 18 = .ok (.ifCond .ne 9, 3) := by decide +kernel
theorem dX4_set_21 : decode cX4_set 21 = .ok (.aload_n 0, 1) := by decide +kernel
theorem dX4_set_22 : decode cX4_set 22 = .ok (.iconst 1, 1) := by decide +kernel
theorem dX4_set_23 : decode cX4_set 23 = .ok (.invokevirtual 105, 3) := by decide +kernel
theorem dX4_set_26 : decode cX4_set 26 = .ok (.ireturn, 1) := by decide +kernel
theorem dX4_set_27 : decode cX4_set 27 = .ok (.aload_n 0, 1) := by decide +kernel
theorem dX4_set_28 : decode cX4_set 28 = .ok (.iload_n 1, 1) := by decide +kernel
theorem dX4_set_29 : decode cX4_set 29 = .ok (.lload_n 3, 1) := by decide +kernel
theorem dX4_set_30 : decode cX4_set 30 = .ok (.invokevirtual 116, 3) := by decide +kernel
theorem dX4_set_33 : decode cX4_set 33 = .ok (.ifCond .ne 9, 3) := by decide +kernel
theorem dX4_set_36 : decode cX4_set 36 = .ok (.aload_n 0, 1) := by decide +kernel
theorem dX4_set_37 : decode cX4_set 37 = .ok (.iconst 2, 1) := by decide +kernel
theorem dX4_set_38 : decode cX4_set 38 = .ok (.invokevirtual 120, 3) := by decide +kernel
theorem dX4_set_41 : decode cX4_set 41 = .ok (.ireturn, 1) := by decide +kernel
theorem dX4_set_42 : decode cX4_set 42 = .ok (.iload_n 1, 1) := by decide +kernel
theorem dX4_set_43 : decode cX4_set 43 = .ok (.iload_n 2, 1) := by decide +kernel
theorem dX4_set_44 : decode cX4_set 44 = .ok (.invokestatic 94, 3) := by decide +kernel
theorem dX4_set_47 : decode cX4_set 47 = .ok (.istore 5, 2) := by decide +kernel
theorem dX4_set_49 : decode cX4_set 49 = .ok (.aload_n 0, 1) := by decide +kernel
theorem dX4_set_50 : decode cX4_set 50 = .ok (.getfield 13, 3) := by decide +kernel
theorem dX4_set_53 : decode cX4_set 53 = .ok (.iload 5, 2) := by decide +kernel
theorem dX4_set_55 : decode cX4_set 55 = .ok (.baload, 1) := by decide +kernel
theorem dX4_set_56 : decode cX4_set 56 = .ok (.ifCond .ne 7, 3) := by decide +kernel
theorem dX4_set_59 : decode cX4_set 59 = .ok (.iconst 1, 1) := by decide +kernel
theorem dX4_set_60 : decode cX4_set 60 = .ok (.goto 4, 3) := by decide +kernel
theorem dX4_set_63 : decode cX4_set 63 = .ok (.iconst 0, 1) := by decide +kernel
theorem dX4_set_64 : decode cX4_set 64 = .ok (.invokestatic 123, 3) := by decide +kernel
theorem dX4_set_67 : decode cX4_set 67 = .ok (.istore 6, 2) := by decide +kernel
theorem dX4_set_69 : decode cX4_set 69 = .ok (.aload_n 0, 1) := by decide +kernel
theorem dX4_set_70 : decode cX4_set 70 = .ok (.getfield 13, 3) := by decide +kernel
theorem dX4_set_73 : decode cX4_set 73 = .ok (.iload 5, 2) := by decide +kernel
theorem dX4_set_75 : decode cX4_set 75 = .ok (.iconst 1, 1) := by decide +kernel
theorem dX4_set_76 : decode cX4_set 76 = .ok (.bastore, 1) := by decide +kernel
theorem dX4_set_77 : decode cX4_set 77 = .ok (.aload_n 0, 1) := by decide +kernel
theorem dX4_set_78 : decode cX4_set 78 = .ok (.getfield 7, 3) := by decide +kernel
theorem dX4_set_81 : decode cX4_set 81 = .ok (.iload 5, 2) := by decide +kernel
theorem dX4_set_83 : decode cX4_set 83 = .ok (.lload_n 3, 1) := by decide +kernel
theorem dX4_set_84 : decode cX4_set 84 = .ok (.lastore, 1) := by decide +kernel
theorem dX4_set_85 : decode cX4_set 85 = .ok (.iload 6, 2) := by decide +kernel
theorem dX4_set_87 : decode cX4_set 87 = .ok (.ireturn, 1) := by decide +kernel
theorem dX4_clear_0 : decode cX4_clear 0 = .ok (.aload_n 0, 1) := by decide +kernel
theorem dX4_clear_1 : decode cX4_clear 1 = .ok (.iconst 0, 1) := by decide +kernel
theorem dX4_clear_2 : decode cX4_clear 2 = .ok (.putfield 69, 3) := by decide +kernel
theorem dX4_clear_5 : decode cX4_clear 5 = .ok (.aload_n 0, 1) := by decide +kernel
theorem dX4_clear_6 : decode cX4_clear 6 = .ok (.iload_n 1, 1) := by decide +kernel
theorem dX4_clear_7 : decode cX4_clear 7 = .ok (.invokevirtual 87, 3) := by decide +kernel
theorem dX4_clear_10 : decode cX4_clear 10 = .ok (.ifCond .eq 11, 3) := by decide +kernel
theorem dX4_clear_13 : decode cX4_clear 13 = .ok (.aload_n 0, 1) := by decide +kernel
theorem dX4_clear_14 : decode cX4_clear 14 = .ok (.iload_n 2, 1) := by decide +kernel
theorem dX4_clear_15 : decode cX4_clear 15 = .ok (.invokevirtual 113, 3) := by decide +kernel
theorem dX4_clear_18 : decode cX4_clear 18 = .ok (.ifCond .ne 9, 3) := by decide +kernel
theorem dX4_clear_21 : decode cX4_clear 21 = .ok (.aload_n 0, 1) := by decide +kernel
theorem dX4_clear_22 : decode cX4_clear 22 = .ok (.iconst 1, 1) := by decide +kernel
theorem dX4_clear_23 : decode cX4_clear 23 = .ok (.invokevirtual 105, 3) := by decide +kernel
theorem dX4_clear_26 : decode cX4_clear 26 = .ok (.ireturn, 1) := by decide +kernel
theorem dX4_clear_27 : decode cX4_clear 27 = .ok (.aload_n 0, 1) := by decide +kernel
theorem dX4_clear_28 : decode cX4_clear 28 = .ok (.getfield 13, 3) := by decide +kernel
theorem dX4_clear_31 : decode cX4_clear 31 = .ok (.iload_n 1, 1) := by decide +kernel
theorem dX4_clear_32 : decode cX4_clear 32 = .ok (.iload_n 2, 1) := by decide +kernel
theorem dX4_clear_33 : decode cX4_clear 33 = .ok (.invokestatic 94, 3) := by decide +kernel
theorem dX4_clear_36 : decode cX4_clear 36 = .ok (.baload, 1) := by decide +kernel
theorem dX4_clear_37 : decode cX4_clear 37 = .ok (.invokestatic 123, 3) := by decide +kernel
theorem dX4_clear_40 : decode cX4_clear 40 = .ok (.istore_n 3, 1) := by decide +kernel
theorem dX4_clear_41 : decode cX4_clear 41 = .ok (.aload_n 0, 1) := by decide +kernel
theorem dX4_clear_42 : decode cX4_clear 42 = .ok (.getfield 13, 3) := by decide +kernel
theorem dX4_clear_45 : decode cX4_clear 45 = .ok (.iload_n 1, 1) := by decide +kernel
theorem dX4_clear_46 : decode cX4_clear 46 = .ok (.iload_n 2, 1) := by decide +kernel
theorem dX4_clear_47 : decode cX4_clear 47 = .ok (.invokestatic 94, 3) := by decide +kernel
theorem dX4_clear_50 : decode cX4_clear 50 = .ok (.iconst 0, 1) := by decide +kernel
theorem dX4_clear_51 : decode cX4_clear 51 = .ok (.bastore, 1) := by decide +kernel
theorem dX4_clear_52 : decode cX4_clear 52 = .ok (.iload_n 3, 1) := by decide +kernel
theorem dX4_clear_53 : decode cX4_clear 53 = .ok (.ireturn, 1) := by decide +kernel
theorem dX4_get_0 : decode cX4_get 0 = .ok (.aload_n 0, 1) := by decide +kernel
theorem dX4_get_1 : decode cX4_get 1 = .ok (.iconst 0, 1) := by decide +kernel
theorem dX4_get_2 : decode cX4_get 2 = .ok (.putfield 69, 3) := by decide +kernel
theorem dX4_get_5 : decode cX4_get 5 = .ok (.aload_n 0, 1) := by decide +kernel
theorem dX4_get_6 : decode cX4_get 6 = .ok (.iload_n 1, 1) := by decide +kernel
theorem dX4_get_7 : decode cX4_get 7 = .ok (.invokevirtual 87, 3) := by decide +kernel
theorem dX4_get_10 : decode cX4_get 10 = .ok (.ifCond .eq 11, 3) := by decide +kernel
theorem dX4_get_13 : decode cX4_get 13 = .ok (.aload_n 0, 1) := by decide +kernel
theorem dX4_get_14 : decode cX4_get 14 = .ok (.iload_n 2, 1) := by decide +kernel
theorem dX4_get_15 : decode cX4_get 15 = .ok (.invokevirtual 113, 3) := by decide +kernel
theorem dX4_get_18 : decode cX4_get 18 = .ok (.ifCond .ne 10, 3) := by decide +kernel
theorem dX4_get_21 : decode cX4_get 21 = .ok (.aload_n 0, 1) := by decide +kernel
theorem dX4_get_22 : decode cX4_get 22 = .ok (.iconst 1, 1) := by decide +kernel
theorem dX4_get_23 : decode cX4_get 23 = .ok (.invokevirtual 105, 3) := by decide +kernel
theorem dX4_get_26 : decode cX4_get 26 = .ok (.i2l, 1) := by decide +kernel
theorem dX4_get_27 : decode cX4_get 27 = .ok (.lreturn, 1) := by decide +kernel
theorem dX4_get_28 : decode cX4_get 28 = .ok (.aload_n 0, 1) := by decide +kernel
theorem dX4_get_29 : decode cX4_get 29 = .ok (.getfield 13, 3) := by decide +kernel
theorem dX4_get_32 : decode cX4_get 32 = .ok (.iload_n 1, 1) := by decide +kernel
theorem dX4_get_33 : decode cX4_get 33 = .ok (.iload_n 2, 1) := by decide +kernel
theorem dX4_get_34 : decode cX4_get 34 = .ok (.invokestatic 94, 3) := by decide +kernel
theorem dX4_get_37 : decode cX4_get 37 = .ok (.baload, 1) := by decide +kernel
theorem dX4_get_38 : decode cX4_get 38 = .ok (.ifCond .eq 16, 3) := by decide +kernel
theorem dX4_get_41 : decode cX4_get 41 = .ok (.aload_n 0, 1) := by decide +kernel
theorem dX4_get_42 : decode cX4_get 42 = .ok (.getfield 7, 3) := by decide +kernel
theorem dX4_get_45 : decode cX4_get 45 = .ok (.iload_n 1, 1) := by decide +kernel
theorem dX4_get_46 : decode cX4_get 46 = .ok (.iload_n 2, 1) := by decide +kernel
theorem dX4_get_47 : decode cX4_get 47 = .ok (.invokestatic 94, 3) := by decide +kernel
theorem dX4_get_50 : decode cX4_get 50 = .ok (.laload, 1) := by decide +kernel
theorem dX4_get_51 : decode cX4_get 51 = .ok (.goto 6, 3) := by decide +kernel
theorem dX4_get_54 : decode cX4_get 54 = .ok (.ldc2_w 127, 3) := by decide +kernel
theorem dX4_get_57 : decode cX4_get 57 = .ok (.lreturn, 1) := by decide +kernel
theorem dX4_numbersOf_0 : decode cX4_numbersOf 0 = .ok (.iconst 0, 1) := by decide +kernel
theorem dX4_numbersOf_1 : decode cX4_numbersOf 1 = .ok (.istore_n 2, 1) := by decide +kernel
theorem dX4_numbersOf_2 : decode cX4_numbersOf 2 = .ok (.iconst 0, 1) := by decide +kernel
theorem dX4_numbersOf_3 : decode cX4_numbersOf 3 = .ok (.istore_n 3, 1) := by decide +kernel
theorem dX4_numbersOf_4 : decode cX4_numbersOf 4 = .ok (.iload_n 3, 1) := by decide +kernel
theorem dX4_numbersOf_5 : decode cX4_numbersOf 5 = .ok (.aload_n 0, 1) := by decide +kernel
theorem dX4_numbersOf_6 : decode cX4_numbersOf 6 = .ok (.getfield 80, 3) := by decide +kernel
theorem dX4_numbersOf_9 : decode cX4_numbersOf 9 = .ok (.if_icmp .ge 25, 3) := by decide +kernel
theorem dX4_numbersOf_12 : decode cX4_numbersOf 12 = .ok (.iload_n 2, 1) := by decide +kernel
theorem dX4_numbersOf_13 : decode cX4_numbersOf 13 = .ok (.aload_n 0, 1) := by decide +kernel
theorem dX4_numbersOf_14 : decode cX4_numbersOf 14 = .ok (.getfield 13, 3) := by decide +kernel
theorem dX4_numbersOf_17 : decode cX4_numbersOf 17 = .ok (.iload_n 1, 1) := by decide +kernel
theorem dX4_numbersOf_18 : decode cX4_numbersOf 18 = .ok (.iload_n 3, 1) := by decide +kernel
theorem dX4_numbersOf_19 : decode cX4_numbersOf 19 = .ok (.invokestatic 94, 3) := by decide +kernel
theorem dX4_numbersOf_22 : decode cX4_numbersOf 22 = .ok (.baload, 1) := by decide +kernel
theorem dX4_numbersOf_23 : decode cX4_numbersOf 23 = .ok (.invokestatic 123, 3) := by decide +kernel
theorem dX4_numbersOf_26 : decode cX4_numbersOf 26 = .ok (.iadd, 1) := by decide +kernel
theorem dX4_numbersOf_27 : decode cX4_numbersOf 27 = .ok (.istore_n 2, 1) := by decide +kernel
theorem dX4_numbersOf_28 : decode cX4_numbersOf 28 = .ok (.iinc 3 1, 3) := by decide +kernel
theorem dX4_numbersOf_31 : decode cX4_numbersOf 31 = .ok (.goto (-27), 3) := by decide +kernel
theorem dX4_numbersOf_34 : decode cX4_numbersOf 34 = .ok (.iload_n 2, 1) := by decide +kernel
theorem dX4_numbersOf_35 : decode cX4_numbersOf 35 = .ok (.ireturn, 1) := by decide +kernel
theorem dX4_numbers_0 : decode cX4_numbers 0 = .ok (.iconst 0, 1) := by decide +kernel
theorem dX4_numbers_1 : decode cX4_numbers 1 = .ok (.istore_n 1, 1) := by decide +kernel
theorem dX4_numbers_2 : decode cX4_numbers 2 = .ok (.iconst 0, 1) := by decide +kernel
theorem dX4_numbers_3 : decode cX4_numbers 3 = .ok (.istore_n 2, 1) := by decide +kernel
theorem dX4_numbers_4 : decode cX4_numbers 4 = .ok (.iload_n 2, 1) := by decide +kernel
theorem dX4_numbers_5 : decode cX4_numbers 5 = .ok (.aload_n 0, 1) := by decide +kernel
theorem dX4_numbers_6 : decode cX4_numbers 6 = .ok (.getfield 73, 3) := by decide +kernel
theorem dX4_numbers_9 : decode cX4_numbers 9 = .ok (.if_icmp .ge 17, 3) := by decide +kernel
theorem dX4_numbers_12 : decode cX4_numbers 12 = .ok (.iload_n 1, 1) := by decide +kernel
theorem dX4_numbers_13 : decode cX4_numbers 13 = .ok (.aload_n 0, 1) := by decide +kernel
theorem dX4_numbers_14 : decode cX4_numbers 14 = .ok (.iload_n 2, 1) := by decide +kernel
theorem dX4_numbers_15 : decode cX4_numbers 15 = .ok (.invokevirtual 129, 3) := by decide +kernel
theorem dX4_numbers_18 : decode cX4_numbers 18 = .ok (.iadd, 1) := by decide +kernel
theorem dX4_numbers_19 : decode cX4_numbers 19 = .ok (.istore_n 1, 1) := by decide +kernel
theorem dX4_numbers_20 : decode cX4_numbers 20 = .ok (.iinc 2 1, 3) := by decide +kernel
theorem dX4_numbers_23 : decode cX4_numbers 23 = .ok (.goto (-19), 3) := by decide +kernel
theorem dX4_numbers_26 : decode cX4_numbers 26 = .ok (.iload_n 1, 1) := by decide +kernel
theorem dX4_numbers_27 : decode cX4_numbers 27 = .ok (.ireturn, 1) := by decide +kernel
theorem dX4_widths_0 : decode cX4_widths 0 = .ok (.iconst 0, 1) := by decide +kernel
theorem dX4_widths_1 : decode cX4_widths 1 = .ok (.istore_n 1, 1) := by decide +kernel
theorem dX4_widths_2 : decode cX4_widths 2 = .ok (.iconst 0, 1) := by decide +kernel
theorem dX4_widths_3 : decode cX4_widths 3 = .ok (.istore_n 2, 1) := by decide +kernel
theorem dX4_widths_4 : decode cX4_widths 4 = .ok (.iload_n 2, 1) := by decide +kernel
theorem dX4_widths_5 : decode cX4_widths 5 = .ok (.aload_n 0, 1) := by decide +kernel
theorem dX4_widths_6 : decode cX4_widths 6 = .ok (.getfield 73, 3) := by decide +kernel
theorem dX4_widths_9 : decode cX4_widths 9 = .ok (.if_icmp .ge 18, 3) := by decide +kernel
theorem dX4_widths_12 : decode cX4_widths 12 = .ok (.iload_n 1, 1) := by decide +kernel
theorem dX4_widths_13 : decode cX4_widths 13 = .ok (.aload_n 0, 1) := by decide +kernel
theorem dX4_widths_14 : decode cX4_widths 14 = .ok (.getfield 17, 3) := by decide +kernel
theorem dX4_widths_17 : decode cX4_widths 17 = .ok (.iload_n 2, 1) := by decide +kernel
theorem dX4_widths_18 : decode cX4_widths 18 = .ok (.iaload, 1) := by decide +kernel
theorem dX4_widths_19 : decode cX4_widths 19 = .ok (.iadd, 1) := by decide +kernel
theorem dX4_widths_20 : decode cX4_widths 20 = .ok (.istore_n 1, 1) := by decide +kernel
theorem dX4_widths_21 : decode cX4_widths 21 = .ok (.iinc 2 1, 3) := by decide +kernel
theorem dX4_widths_24 : decode cX4_widths 24 = .ok (.goto (-20), 3) := by decide +kernel
theorem dX4_widths_27 : decode cX4_widths 27 = .ok (.iload_n 1, 1) := by decide +kernel
theorem dX4_widths_28 : decode cX4_widths 28 = .ok (.ireturn, 1) := by decide +kernel
theorem dX4_isBare_0 : decode cX4_isBare 0 = .ok (.iconst 0, 1) := by decide +kernel
theorem dX4_isBare_1 : decode cX4_isBare 1 = .ok (.istore_n 2, 1) := by decide +kernel
theorem dX4_isBare_2 : decode cX4_isBare 2 = .ok (.iload_n 2, 1) := by decide +kernel
theorem dX4_isBare_3 : decode cX4_isBare 3 = .ok (.aload_n 0, 1) := by decide +kernel
theorem dX4_isBare_4 : decode cX4_isBare 4 = .ok (.getfield 73, 3) := by decide +kernel
theorem dX4_isBare_7 : decode cX4_isBare 7 = .ok (.if_icmp .ge 24, 3) := by decide +kernel
theorem dX4_isBare_10 : decode cX4_isBare 10 = .ok (.aload_n 0, 1) := by decide +kernel
theorem dX4_isBare_11 : decode cX4_isBare 11 = .ok (.getfield 13, 3) := by decide +kernel
theorem dX4_isBare_14 : decode cX4_isBare 14 = .ok (.iload_n 2, 1) := by decide +kernel
theorem dX4_isBare_15 : decode cX4_isBare 15 = .ok (.iload_n 1, 1) := by decide +kernel
theorem dX4_isBare_16 : decode cX4_isBare 16 = .ok (.invokestatic 94, 3) := by decide +kernel
theorem dX4_isBare_19 : decode cX4_isBare 19 = .ok (.baload, 1) := by decide +kernel
theorem dX4_isBare_20 : decode cX4_isBare 20 = .ok (.ifCond .eq 5, 3) := by decide +kernel
theorem dX4_isBare_23 : decode cX4_isBare 23 = .ok (.iconst 0, 1) := by decide +kernel
theorem dX4_isBare_24 : decode cX4_isBare 24 = .ok (.ireturn, 1) := by decide +kernel
theorem dX4_isBare_25 : decode cX4_isBare 25 = .ok (.iinc 2 1, 3) := by decide +kernel
theorem dX4_isBare_28 : decode cX4_isBare 28 = .ok (.goto (-26), 3) := by decide +kernel
theorem dX4_isBare_31 : decode cX4_isBare 31 = .ok (.iconst 1, 1) := by decide +kernel
theorem dX4_isBare_32 : decode cX4_isBare 32 = .ok (.ireturn, 1) := by decide +kernel
theorem dX4_bare_0 : decode cX4_bare 0 = .ok (.iconst 0, 1) := by decide +kernel
theorem dX4_bare_1 : decode cX4_bare 1 = .ok (.istore_n 1, 1) := by decide +kernel
theorem dX4_bare_2 : decode cX4_bare 2 = .ok (.iconst 0, 1) := by decide +kernel
theorem dX4_bare_3 : decode cX4_bare 3 = .ok (.istore_n 2, 1) := by decide +kernel
theorem dX4_bare_4 : decode cX4_bare 4 = .ok (.iload_n 2, 1) := by decide +kernel
theorem dX4_bare_5 : decode cX4_bare 5 = .ok (.aload_n 0, 1) := by decide +kernel
theorem dX4_bare_6 : decode cX4_bare 6 = .ok (.getfield 80, 3) := by decide +kernel
theorem dX4_bare_9 : decode cX4_bare 9 = .ok (.if_icmp .ge 20, 3) := by decide +kernel
theorem dX4_bare_12 : decode cX4_bare 12 = .ok (.iload_n 1, 1) := by decide +kernel
theorem dX4_bare_13 : decode cX4_bare 13 = .ok (.aload_n 0, 1) := by decide +kernel
theorem dX4_bare_14 : decode cX4_bare 14 = .ok (.iload_n 2, 1) := by decide +kernel
theorem dX4_bare_15 : decode cX4_bare 15 = .ok (.invokevirtual 132, 3) := by decide +kernel
theorem dX4_bare_18 : decode cX4_bare 18 = .ok (.invokestatic 123, 3) := by decide +kernel
theorem dX4_bare_21 : decode cX4_bare 21 = .ok (.iadd, 1) := by decide +kernel
theorem dX4_bare_22 : decode cX4_bare 22 = .ok (.istore_n 1, 1) := by decide +kernel
theorem dX4_bare_23 : decode cX4_bare 23 = .ok (.iinc 2 1, 3) := by decide +kernel
theorem dX4_bare_26 : decode cX4_bare 26 = .ok (.goto (-22), 3) := by decide +kernel
theorem dX4_bare_29 : decode cX4_bare 29 = .ok (.iload_n 1, 1) := by decide +kernel
theorem dX4_bare_30 : decode cX4_bare 30 = .ok (.ireturn, 1) := by decide +kernel
theorem dX4_has_0 : decode cX4_has 0 = .ok (.aload_n 0, 1) := by decide +kernel
theorem dX4_has_1 : decode cX4_has 1 = .ok (.iconst 0, 1) := by decide +kernel
theorem dX4_has_2 : decode cX4_has 2 = .ok (.putfield 69, 3) := by decide +kernel
theorem dX4_has_5 : decode cX4_has 5 = .ok (.iload_n 1, 1) := by decide +kernel
theorem dX4_has_6 : decode cX4_has 6 = .ok (.tableswitch 87 0 6 #[42, 47, 52, 57, 72, 77, 82], 42) := by decide +kernel
theorem dX4_has_48 : decode cX4_has 48 = .ok (.aload_n 0, 1) := by decide +kernel
theorem dX4_has_49 : decode cX4_has 49 = .ok (.getfield 80, 3) := by decide +kernel
theorem dX4_has_52 : decode cX4_has 52 = .ok (.ireturn, 1) := by decide +kernel
theorem dX4_has_53 : decode cX4_has 53 = .ok (.aload_n 0, 1) := by decide +kernel
theorem dX4_has_54 : decode cX4_has 54 = .ok (.getfield 73, 3) := by decide +kernel
theorem dX4_has_57 : decode cX4_has 57 = .ok (.ireturn, 1) := by decide +kernel
theorem dX4_has_58 : decode cX4_has 58 = .ok (.aload_n 0, 1) := by decide +kernel
theorem dX4_has_59 : decode cX4_has 59 = .ok (.invokevirtual 135, 3) := by decide +kernel
theorem dX4_has_62 : decode cX4_has 62 = .ok (.ireturn, 1) := by decide +kernel
theorem dX4_has_63 : decode cX4_has 63 = .ok (.aload_n 0, 1) := by decide +kernel
theorem dX4_has_64 : decode cX4_has 64 = .ok (.getfield 80, 3) := by decide +kernel
theorem dX4_has_67 : decode cX4_has 67 = .ok (.aload_n 0, 1) := by decide +kernel
theorem dX4_has_68 : decode cX4_has 68 = .ok (.getfield 73, 3) := by decide +kernel
theorem dX4_has_71 : decode cX4_has 71 = .ok (.imul, 1) := by decide +kernel
theorem dX4_has_72 : decode cX4_has 72 = .ok (.aload_n 0, 1) := by decide +kernel
theorem dX4_has_73 : decode cX4_has 73 = .ok (.invokevirtual 135, 3) := by decide +kernel
theorem dX4_has_76 : decode cX4_has 76 = .ok (.isub, 1) := by decide +kernel
theorem dX4_has_77 : decode cX4_has 77 = .ok (.ireturn, 1) := by decide +kernel
theorem dX4_has_78 : decode cX4_has 78 = .ok (.aload_n 0, 1) := by decide +kernel
theorem dX4_has_79 : decode cX4_has 79 = .ok (.invokevirtual 139, 3) := by decide +kernel
theorem dX4_has_82 : decode cX4_has 82 = .ok (.ireturn, 1) := by decide +kernel
theorem dX4_has_83 : decode cX4_has 83 = .ok (.aload_n 0, 1) := by decide +kernel
theorem dX4_has_84 : decode cX4_has 84 = .ok (.invokevirtual 142, 3) := by decide +kernel
theorem dX4_has_87 : decode cX4_has 87 = .ok (.ireturn, 1) := by decide +kernel
theorem dX4_has_88 : decode cX4_has 88 = .ok (.aload_n 0, 1) := by decide +kernel
theorem dX4_has_89 : decode cX4_has 89 = .ok (.getfield 102, 3) := by decide +kernel
theorem dX4_has_92 : decode cX4_has 92 = .ok (.ireturn, 1) := by decide +kernel
theorem dX4_has_93 : decode cX4_has 93 = .ok (.iconst (-1), 1) := by decide +kernel
theorem dX4_has_94 : decode cX4_has 94 = .ok (.ireturn, 1) := by decide +kernel
theorem dX4_widthOf_0 : decode cX4_widthOf 0 = .ok (.iconst 2, 1) := by decide +kernel
theorem dX4_widthOf_1 : decode cX4_widthOf 1 = .ok (.istore_n 2, 1) := by decide +kernel
theorem dX4_widthOf_2 : decode cX4_widthOf 2 = .ok (.lload_n 0, 1) := by decide +kernel
theorem dX4_widthOf_3 : decode cX4_widthOf 3 = .ok (.lconst 1, 1) := by decide +kernel
theorem dX4_widthOf_4 : decode cX4_widthOf 4 = .ok (.iload_n 2, 1) := by decide +kernel
theorem dX4_widthOf_5 : decode cX4_widthOf 5 = .ok (.iconst 1, 1) := by decide +kernel
theorem dX4_widthOf_6 : decode cX4_widthOf 6 = .ok (.isub, 1) := by decide +kernel
theorem dX4_widthOf_7 : decode cX4_widthOf 7 = .ok (.lshl, 1) := by decide +kernel
theorem dX4_widthOf_8 : decode cX4_widthOf 8 = .ok (.lneg, 1) := by decide +kernel
theorem dX4_widthOf_9 : decode cX4_widthOf 9 = .ok (.lconst 1, 1) := by decide +kernel
theorem dX4_widthOf_10 : decode cX4_widthOf 10 = .ok (.iload_n 2, 1) := by decide +kernel
theorem dX4_widthOf_11 : decode cX4_widthOf 11 = .ok (.iconst 1, 1) := by decide +kernel
theorem dX4_widthOf_12 : decode cX4_widthOf 12 = .ok (.isub, 1) := by decide +kernel
theorem dX4_widthOf_13 : decode cX4_widthOf 13 = .ok (.lshl, 1) := by decide +kernel
theorem dX4_widthOf_14 : decode cX4_widthOf 14 = .ok (.lconst 1, 1) := by decide +kernel
theorem dX4_widthOf_15 : decode cX4_widthOf 15 = .ok (.lsub, 1) := by decide +kernel
theorem dX4_widthOf_16 : decode cX4_widthOf 16 = .ok (.invokestatic 76, 3) := by decide +kernel
theorem dX4_widthOf_19 : decode cX4_widthOf 19 = .ok (.ifCond .ne 9, 3) := by decide +kernel
theorem dX4_widthOf_22 : decode cX4_widthOf 22 = .ok (.iinc 2 1, 3) := by decide +kernel
theorem dX4_widthOf_25 : decode cX4_widthOf 25 = .ok (.goto (-23), 3) := by decide +kernel
theorem dX4_widthOf_28 : decode cX4_widthOf 28 = .ok (.iload_n 2, 1) := by decide +kernel
theorem dX4_widthOf_29 : decode cX4_widthOf 29 = .ok (.ireturn, 1) := by decide +kernel
theorem dX4_leastWidth_0 : decode cX4_leastWidth 0 = .ok (.iconst 2, 1) := by decide +kernel
theorem dX4_leastWidth_1 : decode cX4_leastWidth 1 = .ok (.istore_n 2, 1) := by decide +kernel
theorem dX4_leastWidth_2 : decode cX4_leastWidth 2 = .ok (.iconst 0, 1) := by decide +kernel
theorem dX4_leastWidth_3 : decode cX4_leastWidth 3 = .ok (.istore_n 3, 1) := by decide +kernel
theorem dX4_leastWidth_4 : decode cX4_leastWidth 4 = .ok (.iload_n 3, 1) := by decide +kernel
theorem dX4_leastWidth_5 : decode cX4_leastWidth 5 = .ok (.aload_n 0, 1) := by decide +kernel
theorem dX4_leastWidth_6 : decode cX4_leastWidth 6 = .ok (.getfield 80, 3) := by decide +kernel
theorem dX4_leastWidth_9 : decode cX4_leastWidth 9 = .ok (.if_icmp .ge 53, 3) := by decide +kernel
theorem dX4_leastWidth_12 : decode cX4_leastWidth 12 = .ok (.aload_n 0, 1) := by decide +kernel
theorem dX4_leastWidth_13 : decode cX4_leastWidth 13 = .ok (.getfield 13, 3) := by decide +kernel
theorem dX4_leastWidth_16 : decode cX4_leastWidth 16 = .ok (.iload_n 1, 1) := by decide +kernel
theorem dX4_leastWidth_17 : decode cX4_leastWidth 17 = .ok (.iload_n 3, 1) := by decide +kernel
theorem dX4_leastWidth_18 : decode cX4_leastWidth 18 = .ok (.invokestatic 94, 3) := by decide +kernel
theorem dX4_leastWidth_21 : decode cX4_leastWidth 21 = .ok (.baload, 1) := by decide +kernel
theorem dX4_leastWidth_22 : decode cX4_leastWidth 22 = .ok (.ifCond .eq 34, 3) := by decide +kernel
theorem dX4_leastWidth_25 : decode cX4_leastWidth 25 = .ok (.aload_n 0, 1) := by decide +kernel
theorem dX4_leastWidth_26 : decode cX4_leastWidth 26 = .ok (.getfield 7, 3) := by decide +kernel
theorem dX4_leastWidth_29 : decode cX4_leastWidth 29 = .ok (.iload_n 1, 1) := by decide +kernel
theorem dX4_leastWidth_30 : decode cX4_leastWidth 30 = .ok (.iload_n 3, 1) := by decide +kernel
theorem dX4_leastWidth_31 : decode cX4_leastWidth 31 = .ok (.invokestatic 94, 3) := by decide +kernel
theorem dX4_leastWidth_34 : decode cX4_leastWidth 34 = .ok (.laload, 1) := by decide +kernel
theorem dX4_leastWidth_35 : decode cX4_leastWidth 35 = .ok (.invokestatic 145, 3) := by decide +kernel
theorem dX4_leastWidth_38 : decode cX4_leastWidth 38 = .ok (.iload_n 2, 1) := by decide +kernel
theorem dX4_leastWidth_39 : decode cX4_leastWidth 39 = .ok (.if_icmp .le 17, 3) := by decide +kernel
theorem dX4_leastWidth_42 : decode cX4_leastWidth 42 = .ok (.aload_n 0, 1) := by decide +kernel
theorem dX4_leastWidth_43 : decode cX4_leastWidth 43 = .ok (.getfield 7, 3) := by decide +kernel
theorem dX4_leastWidth_46 : decode cX4_leastWidth 46 = .ok (.iload_n 1, 1) := by decide +kernel
theorem dX4_leastWidth_47 : decode cX4_leastWidth 47 = .ok (.iload_n 3, 1) := by decide +kernel
theorem dX4_leastWidth_48 : decode cX4_leastWidth 48 = .ok (.invokestatic 94, 3) := by decide +kernel
theorem dX4_leastWidth_51 : decode cX4_leastWidth 51 = .ok (.laload, 1) := by decide +kernel
theorem dX4_leastWidth_52 : decode cX4_leastWidth 52 = .ok (.invokestatic 145, 3) := by decide +kernel
theorem dX4_leastWidth_55 : decode cX4_leastWidth 55 = .ok (.istore_n 2, 1) := by decide +kernel
theorem dX4_leastWidth_56 : decode cX4_leastWidth 56 = .ok (.iinc 3 1, 3) := by decide +kernel
theorem dX4_leastWidth_59 : decode cX4_leastWidth 59 = .ok (.goto (-55), 3) := by decide +kernel
theorem dX4_leastWidth_62 : decode cX4_leastWidth 62 = .ok (.iload_n 2, 1) := by decide +kernel
theorem dX4_leastWidth_63 : decode cX4_leastWidth 63 = .ok (.ireturn, 1) := by decide +kernel
theorem dX4_width_0 : decode cX4_width 0 = .ok (.aload_n 0, 1) := by decide +kernel
theorem dX4_width_1 : decode cX4_width 1 = .ok (.iconst 0, 1) := by decide +kernel
theorem dX4_width_2 : decode cX4_width 2 = .ok (.putfield 69, 3) := by decide +kernel
theorem dX4_width_5 : decode cX4_width 5 = .ok (.aload_n 0, 1) := by decide +kernel
theorem dX4_width_6 : decode cX4_width 6 = .ok (.iload_n 1, 1) := by decide +kernel
theorem dX4_width_7 : decode cX4_width 7 = .ok (.invokevirtual 87, 3) := by decide +kernel
theorem dX4_width_10 : decode cX4_width 10 = .ok (.ifCond .ne 9, 3) := by decide +kernel
theorem dX4_width_13 : decode cX4_width 13 = .ok (.aload_n 0, 1) := by decide +kernel
theorem dX4_width_14 : decode cX4_width 14 = .ok (.iconst 1, 1) := by decide +kernel
theorem dX4_width_15 : decode cX4_width 15 = .ok (.invokevirtual 105, 3) := by decide +kernel
theorem dX4_width_18 : decode cX4_width 18 = .ok (.ireturn, 1) := by decide +kernel
theorem dX4_width_19 : decode cX4_width 19 = .ok (.iload_n 2, 1) := by decide +kernel
theorem dX4_width_20 : decode cX4_width 20 = .ok (.i2l, 1) := by decide +kernel
theorem dX4_width_21 : decode cX4_width 21 = .ok (.lconst 0, 1) := by decide +kernel
theorem dX4_width_22 : decode cX4_width 22 = .ok (.ldc2_w 85, 3) := by decide +kernel
theorem dX4_width_25 : decode cX4_width 25 = .ok (.invokestatic 76, 3) := by decide +kernel
theorem dX4_width_28 : decode cX4_width 28 = .ok (.ifCond .ne 9, 3) := by decide +kernel
theorem dX4_width_31 : decode cX4_width 31 = .ok (.aload_n 0, 1) := by decide +kernel
theorem dX4_width_32 : decode cX4_width 32 = .ok (.iconst 2, 1) := by decide +kernel
theorem dX4_width_33 : decode cX4_width 33 = .ok (.invokevirtual 105, 3) := by decide +kernel
theorem dX4_width_36 : decode cX4_width 36 = .ok (.ireturn, 1) := by decide +kernel
theorem dX4_width_37 : decode cX4_width 37 = .ok (.iload_n 2, 1) := by decide +kernel
theorem dX4_width_38 : decode cX4_width 38 = .ok (.ifCond .ne 12, 3) := by decide +kernel
theorem dX4_width_41 : decode cX4_width 41 = .ok (.aload_n 0, 1) := by decide +kernel
theorem dX4_width_42 : decode cX4_width 42 = .ok (.getfield 17, 3) := by decide +kernel
theorem dX4_width_45 : decode cX4_width 45 = .ok (.iload_n 1, 1) := by decide +kernel
theorem dX4_width_46 : decode cX4_width 46 = .ok (.iaload, 1) := by decide +kernel
theorem dX4_width_47 : decode cX4_width 47 = .ok (.goto 21, 3) := by decide +kernel
theorem dX4_width_50 : decode cX4_width 50 = .ok (.iload_n 2, 1) := by decide +kernel
theorem dX4_width_51 : decode cX4_width 51 = .ok (.iconst 1, 1) := by decide +kernel
theorem dX4_width_52 : decode cX4_width 52 = .ok (.if_icmp .ne 11, 3) := by decide +kernel
theorem dX4_width_55 : decode cX4_width 55 = .ok (.aload_n 0, 1) := by decide +kernel
theorem dX4_width_56 : decode cX4_width 56 = .ok (.iload_n 1, 1) := by decide +kernel
theorem dX4_width_57 : decode cX4_width 57 = .ok (.invokevirtual 129, 3) := by decide +kernel
theorem dX4_width_60 : decode cX4_width 60 = .ok (.goto 8, 3) := by decide +kernel
theorem dX4_width_63 : decode cX4_width 63 = .ok (.aload_n 0, 1) := by decide +kernel
theorem dX4_width_64 : decode cX4_width 64 = .ok (.iload_n 1, 1) := by decide +kernel
theorem dX4_width_65 : decode cX4_width 65 = .ok (.invokevirtual 149, 3) := by decide +kernel
theorem dX4_width_68 : decode cX4_width 68 = .ok (.ireturn, 1) := by decide +kernel
theorem dX4_slice_0 : decode cX4_slice 0 = .ok (.aload_n 0, 1) := by decide +kernel
theorem dX4_slice_1 : decode cX4_slice 1 = .ok (.iconst 0, 1) := by decide +kernel
theorem dX4_slice_2 : decode cX4_slice 2 = .ok (.putfield 69, 3) := by decide +kernel
theorem dX4_slice_5 : decode cX4_slice 5 = .ok (.aload_n 0, 1) := by decide +kernel
theorem dX4_slice_6 : decode cX4_slice 6 = .ok (.iload_n 1, 1) := by decide +kernel
theorem dX4_slice_7 : decode cX4_slice 7 = .ok (.invokevirtual 87, 3) := by decide +kernel
theorem dX4_slice_10 : decode cX4_slice 10 = .ok (.ifCond .eq 28, 3) := by decide +kernel
theorem dX4_slice_13 : decode cX4_slice 13 = .ok (.iload_n 3, 1) := by decide +kernel
theorem dX4_slice_14 : decode cX4_slice 14 = .ok (.invokestatic 152, 3) := by decide +kernel
theorem dX4_slice_17 : decode cX4_slice 17 = .ok (.ifCond .eq 21, 3) := by decide +kernel
theorem dX4_slice_20 : decode cX4_slice 20 = .ok (.iload_n 2, 1) := by decide +kernel
theorem dX4_slice_21 : decode cX4_slice 21 = .ok (.i2l, 1) := by decide +kernel
theorem dX4_slice_22 : decode cX4_slice 22 = .ok (.lconst 0, 1) := by decide +kernel
theorem dX4_slice_23 : decode cX4_slice 23 = .ok (.aload_n 0, 1) := by decide +kernel
theorem dX4_slice_24 : decode cX4_slice 24 = .ok (.getfield 17, 3) := by decide +kernel
theorem dX4_slice_27 : decode cX4_slice 27 = .ok (.iload_n 1, 1) := by decide +kernel
theorem dX4_slice_28 : decode cX4_slice 28 = .ok (.iaload, 1) := by decide +kernel
theorem dX4_slice_29 : decode cX4_slice 29 = .ok (.iconst 1, 1) := by decide +kernel
theorem dX4_slice_30 : decode cX4_slice 30 = .ok (.isub, 1) := by decide +kernel
theorem dX4_slice_31 : decode cX4_slice 31 = .ok (.i2l, 1) := by decide +kernel
theorem dX4_slice_32 : decode cX4_slice 32 = .ok (.invokestatic 76, 3) := by decide +kernel
theorem dX4_slice_35 : decode cX4_slice 35 = .ok (.ifCond .ne 10, 3) := by decide +kernel
theorem dX4_slice_38 : decode cX4_slice 38 = .ok (.aload_n 0, 1) := by decide +kernel
theorem dX4_slice_39 : decode cX4_slice 39 = .ok (.iconst 1, 1) := by decide +kernel
theorem dX4_slice_40 : decode cX4_slice 40 = .ok (.invokevirtual 105, 3) := by decide +kernel
theorem dX4_slice_43 : decode cX4_slice 43 = .ok (.i2l, 1) := by decide +kernel
theorem dX4_slice_44 : decode cX4_slice 44 = .ok (.lreturn, 1) := by decide +kernel
theorem dX4_slice_45 : decode cX4_slice 45 = .ok (.lconst 0, 1) := by decide +kernel
theorem dX4_slice_46 : decode cX4_slice 46 = .ok (.lstore 4, 2) := by decide +kernel
theorem dX4_slice_48 : decode cX4_slice 48 = .ok (.iconst 0, 1) := by decide +kernel
theorem dX4_slice_49 : decode cX4_slice 49 = .ok (.istore 6, 2) := by decide +kernel
theorem dX4_slice_51 : decode cX4_slice 51 = .ok (.iload 6, 2) := by decide +kernel
theorem dX4_slice_53 : decode cX4_slice 53 = .ok (.bipush 64, 2) := by decide +kernel
theorem dX4_slice_55 : decode cX4_slice 55 = .ok (.if_icmp .ge 64, 3) := by decide +kernel
theorem dX4_slice_58 : decode cX4_slice 58 = .ok (.bipush 64, 2) := by decide +kernel
theorem dX4_slice_60 : decode cX4_slice 60 = .ok (.iload_n 3, 1) := by decide +kernel
theorem dX4_slice_61 : decode cX4_slice 61 = .ok (.imul, 1) := by decide +kernel
theorem dX4_slice_62 : decode cX4_slice 62 = .ok (.iload 6, 2) := by decide +kernel
theorem dX4_slice_64 : decode cX4_slice 64 = .ok (.iadd, 1) := by decide +kernel
theorem dX4_slice_65 : decode cX4_slice 65 = .ok (.istore 7, 2) := by decide +kernel
theorem dX4_slice_67 : decode cX4_slice 67 = .ok (.iload 7, 2) := by decide +kernel
theorem dX4_slice_69 : decode cX4_slice 69 = .ok (.aload_n 0, 1) := by decide +kernel
theorem dX4_slice_70 : decode cX4_slice 70 = .ok (.getfield 80, 3) := by decide +kernel
theorem dX4_slice_73 : decode cX4_slice 73 = .ok (.if_icmp .ge 40, 3) := by decide +kernel
theorem dX4_slice_76 : decode cX4_slice 76 = .ok (.aload_n 0, 1) := by decide +kernel
theorem dX4_slice_77 : decode cX4_slice 77 = .ok (.getfield 13, 3) := by decide +kernel
theorem dX4_slice_80 : decode cX4_slice 80 = .ok (.iload_n 1, 1) := by decide +kernel
theorem dX4_slice_81 : decode cX4_slice 81 = .ok (.iload 7, 2) := by decide +kernel
theorem dX4_slice_83 : decode cX4_slice 83 = .ok (.invokestatic 94, 3) := by decide +kernel
theorem dX4_slice_86 : decode cX4_slice 86 = .ok (.baload, 1) := by decide +kernel
theorem dX4_slice_87 : decode cX4_slice 87 = .ok (.ifCond .eq 26, 3) := by decide +kernel
theorem dX4_slice_90 : decode cX4_slice 90 = .ok (.lload 4, 2) := by decide +kernel
theorem dX4_slice_92 : decode cX4_slice 92 = .ok (.aload_n 0, 1) := by decide +kernel
theorem dX4_slice_93 : decode cX4_slice 93 = .ok (.getfield 7, 3) := by decide +kernel
theorem dX4_slice_96 : decode cX4_slice 96 = .ok (.iload_n 1, 1) := by decide +kernel
theorem dX4_slice_97 : decode cX4_slice 97 = .ok (.iload 7, 2) := by decide +kernel
theorem dX4_slice_99 : decode cX4_slice 99 = .ok (.invokestatic 94, 3) := by decide +kernel
theorem dX4_slice_102 : decode cX4_slice 102 = .ok (.laload, 1) := by decide +kernel
theorem dX4_slice_103 : decode cX4_slice 103 = .ok (.iload_n 2, 1) := by decide +kernel
theorem dX4_slice_104 : decode cX4_slice 104 = .ok (.lshr, 1) := by decide +kernel
theorem dX4_slice_105 : decode cX4_slice 105 = .ok (.lconst 1, 1) := by decide +kernel
theorem dX4_slice_106 : decode cX4_slice 106 = .ok (.land, 1) := by decide +kernel
theorem dX4_slice_107 : decode cX4_slice 107 = .ok (.iload 6, 2) := by decide +kernel
theorem dX4_slice_109 : decode cX4_slice 109 = .ok (.lshl, 1) := by decide +kernel
theorem dX4_slice_110 : decode cX4_slice 110 = .ok (.lor, 1) := by decide +kernel
theorem dX4_slice_111 : decode cX4_slice 111 = .ok (.lstore 4, 2) := by decide +kernel
theorem dX4_slice_113 : decode cX4_slice 113 = .ok (.iinc 6 1, 3) := by decide +kernel
theorem dX4_slice_116 : decode cX4_slice 116 = .ok (.goto (-65), 3) := by decide +kernel
theorem dX4_slice_119 : decode cX4_slice 119 = .ok (.lload 4, 2) := by decide +kernel
theorem dX4_slice_121 : decode cX4_slice 121 = .ok (.lreturn, 1) := by decide +kernel
theorem dX4_becomes_0 : decode cX4_becomes 0 = .ok (.iconst 0, 1) := by decide +kernel
theorem dX4_becomes_1 : decode cX4_becomes 1 = .ok (.istore_n 2, 1) := by decide +kernel
theorem dX4_becomes_2 : decode cX4_becomes 2 = .ok (.iconst 0, 1) := by decide +kernel
theorem dX4_becomes_3 : decode cX4_becomes 3 = .ok (.istore_n 3, 1) := by decide +kernel
theorem dX4_becomes_4 : decode cX4_becomes 4 = .ok (.iload_n 3, 1) := by decide +kernel
theorem dX4_becomes_5 : decode cX4_becomes 5 = .ok (.sipush 192, 3) := by decide +kernel
theorem dX4_becomes_8 : decode cX4_becomes 8 = .ok (.if_icmp .ge 57, 3) := by decide +kernel
theorem dX4_becomes_11 : decode cX4_becomes 11 = .ok (.aload_n 0, 1) := by decide +kernel
theorem dX4_becomes_12 : decode cX4_becomes 12 = .ok (.getfield 21, 3) := by decide +kernel
theorem dX4_becomes_15 : decode cX4_becomes 15 = .ok (.iload_n 1, 1) := by decide +kernel
theorem dX4_becomes_16 : decode cX4_becomes 16 = .ok (.iload_n 3, 1) := by decide +kernel
theorem dX4_becomes_17 : decode cX4_becomes 17 = .ok (.invokestatic 94, 3) := by decide +kernel
theorem dX4_becomes_20 : decode cX4_becomes 20 = .ok (.iload_n 3, 1) := by decide +kernel
theorem dX4_becomes_21 : decode cX4_becomes 21 = .ok (.aload_n 0, 1) := by decide +kernel
theorem dX4_becomes_22 : decode cX4_becomes 22 = .ok (.getfield 80, 3) := by decide +kernel
theorem dX4_becomes_25 : decode cX4_becomes 25 = .ok (.if_icmp .ge 16, 3) := by decide +kernel
theorem dX4_becomes_28 : decode cX4_becomes 28 = .ok (.aload_n 0, 1) := by decide +kernel
theorem dX4_becomes_29 : decode cX4_becomes 29 = .ok (.getfield 24, 3) := by decide +kernel
theorem dX4_becomes_32 : decode cX4_becomes 32 = .ok (.iload_n 3, 1) := by decide +kernel
theorem dX4_becomes_33 : decode cX4_becomes 33 = .ok (.baload, 1) := by decide +kernel
theorem dX4_becomes_34 : decode cX4_becomes 34 = .ok (.ifCond .eq 7, 3) := by decide +kernel
theorem dX4_becomes_37 : decode cX4_becomes 37 = .ok (.iconst 1, 1) := by decide +kernel
theorem dX4_becomes_38 : decode cX4_becomes 38 = .ok (.goto 4, 3) := by decide +kernel
theorem dX4_becomes_41 : decode cX4_becomes 41 = .ok (.iconst 0, 1) := by decide +kernel
theorem dX4_becomes_42 : decode cX4_becomes 42 = .ok (.bastore, 1) := by decide +kernel
theorem dX4_becomes_43 : decode cX4_becomes 43 = .ok (.iload_n 2, 1) := by decide +kernel
theorem dX4_becomes_44 : decode cX4_becomes 44 = .ok (.aload_n 0, 1) := by decide +kernel
theorem dX4_becomes_45 : decode cX4_becomes 45 = .ok (.getfield 21, 3) := by decide +kernel
theorem dX4_becomes_48 : decode cX4_becomes 48 = .ok (.iload_n 1, 1) := by decide +kernel
theorem dX4_becomes_49 : decode cX4_becomes 49 = .ok (.iload_n 3, 1) := by decide +kernel
theorem dX4_becomes_50 : decode cX4_becomes 50 = .ok (.invokestatic 94, 3) := by decide +kernel
theorem dX4_becomes_53 : decode cX4_becomes 53 = .ok (.baload, 1) := by decide +kernel
theorem dX4_becomes_54 : decode cX4_becomes 54 = .ok (.invokestatic 123, 3) := by decide +kernel
theorem dX4_becomes_57 : decode cX4_becomes 57 = .ok (.iadd, 1) := by decide +kernel
theorem dX4_becomes_58 : decode cX4_becomes 58 = .ok (.istore_n 2, 1) := by decide +kernel
theorem dX4_becomes_59 : decode cX4_becomes 59 = .ok (.iinc 3 1, 3) := by decide +kernel
theorem dX4_becomes_62 : decode cX4_becomes 62 = .ok (.goto (-58), 3) := by decide +kernel
theorem dX4_becomes_65 : decode cX4_becomes 65 = .ok (.iload_n 2, 1) := by decide +kernel
theorem dX4_becomes_66 : decode cX4_becomes 66 = .ok (.ireturn, 1) := by decide +kernel
theorem dX4_laysNone_0 : decode cX4_laysNone 0 = .ok (.iconst 0, 1) := by decide +kernel
theorem dX4_laysNone_1 : decode cX4_laysNone 1 = .ok (.istore_n 1, 1) := by decide +kernel
theorem dX4_laysNone_2 : decode cX4_laysNone 2 = .ok (.iload_n 1, 1) := by decide +kernel
theorem dX4_laysNone_3 : decode cX4_laysNone 3 = .ok (.sipush 192, 3) := by decide +kernel
theorem dX4_laysNone_6 : decode cX4_laysNone 6 = .ok (.if_icmp .ge 16, 3) := by decide +kernel
theorem dX4_laysNone_9 : decode cX4_laysNone 9 = .ok (.aload_n 0, 1) := by decide +kernel
theorem dX4_laysNone_10 : decode cX4_laysNone 10 = .ok (.getfield 24, 3) := by decide +kernel
theorem dX4_laysNone_13 : decode cX4_laysNone 13 = .ok (.iload_n 1, 1) := by decide +kernel
theorem dX4_laysNone_14 : decode cX4_laysNone 14 = .ok (.iconst 0, 1) := by decide +kernel
theorem dX4_laysNone_15 : decode cX4_laysNone 15 = .ok (.bastore, 1) := by decide +kernel
theorem dX4_laysNone_16 : decode cX4_laysNone 16 = .ok (.iinc 1 1, 3) := by decide +kernel
theorem dX4_laysNone_19 : decode cX4_laysNone 19 = .ok (.goto (-17), 3) := by decide +kernel
theorem dX4_laysNone_22 : decode cX4_laysNone 22 = .ok (.return_, 1) := by decide +kernel
theorem dX4_canMask_0 : decode cX4_canMask 0 = .ok (.iload_n 1, 1) := by decide +kernel
theorem dX4_canMask_1 : decode cX4_canMask 1 = .ok (.tableswitch 91 0 3 #[31, 31, 33, 68], 31) := by decide +kernel
theorem dX4_canMask_32 : decode cX4_canMask 32 = .ok (.iconst 1, 1) := by decide +kernel
theorem dX4_canMask_33 : decode cX4_canMask 33 = .ok (.ireturn, 1) := by decide +kernel
theorem dX4_canMask_34 : decode cX4_canMask 34 = .ok (.iload_n 2, 1) := by decide +kernel
theorem dX4_canMask_35 : decode cX4_canMask 35 = .ok (.i2l, 1) := by decide +kernel
theorem dX4_canMask_36 : decode cX4_canMask 36 = .ok (.lconst 0, 1) := by decide +kernel
theorem dX4_canMask_37 : decode cX4_canMask 37 = .ok (.aload_n 0, 1) := by decide +kernel
theorem dX4_canMask_38 : decode cX4_canMask 38 = .ok (.getfield 80, 3) := by decide +kernel
theorem dX4_canMask_41 : decode cX4_canMask 41 = .ok (.i2l, 1) := by decide +kernel
theorem dX4_canMask_42 : decode cX4_canMask 42 = .ok (.invokestatic 76, 3) := by decide +kernel
theorem dX4_canMask_45 : decode cX4_canMask 45 = .ok (.ifCond .eq 22, 3) := by decide +kernel
theorem dX4_canMask_48 : decode cX4_canMask 48 = .ok (.iload_n 3, 1) := by decide +kernel
theorem dX4_canMask_49 : decode cX4_canMask 49 = .ok (.i2l, 1) := by decide +kernel
theorem dX4_canMask_50 : decode cX4_canMask 50 = .ok (.iload_n 2, 1) := by decide +kernel
theorem dX4_canMask_51 : decode cX4_canMask 51 = .ok (.i2l, 1) := by decide +kernel
theorem dX4_canMask_52 : decode cX4_canMask 52 = .ok (.aload_n 0, 1) := by decide +kernel
theorem dX4_canMask_53 : decode cX4_canMask 53 = .ok (.getfield 80, 3) := by decide +kernel
theorem dX4_canMask_56 : decode cX4_canMask 56 = .ok (.i2l, 1) := by decide +kernel
theorem dX4_canMask_57 : decode cX4_canMask 57 = .ok (.invokestatic 76, 3) := by decide +kernel
theorem dX4_canMask_60 : decode cX4_canMask 60 = .ok (.ifCond .eq 7, 3) := by decide +kernel
theorem dX4_canMask_63 : decode cX4_canMask 63 = .ok (.iconst 1, 1) := by decide +kernel
theorem dX4_canMask_64 : decode cX4_canMask 64 = .ok (.goto 4, 3) := by decide +kernel
theorem dX4_canMask_67 : decode cX4_canMask 67 = .ok (.iconst 0, 1) := by decide +kernel
theorem dX4_canMask_68 : decode cX4_canMask 68 = .ok (.ireturn, 1) := by decide +kernel
theorem dX4_canMask_69 : decode cX4_canMask 69 = .ok (.iload_n 2, 1) := by decide +kernel
theorem dX4_canMask_70 : decode cX4_canMask 70 = .ok (.ifCond .le 20, 3) := by decide +kernel
theorem dX4_canMask_73 : decode cX4_canMask 73 = .ok (.iload_n 3, 1) := by decide +kernel
theorem dX4_canMask_74 : decode cX4_canMask 74 = .ok (.i2l, 1) := by decide +kernel
theorem dX4_canMask_75 : decode cX4_canMask 75 = .ok (.lconst 0, 1) := by decide +kernel
theorem dX4_canMask_76 : decode cX4_canMask 76 = .ok (.iload_n 2, 1) := by decide +kernel
theorem dX4_canMask_77 : decode cX4_canMask 77 = .ok (.iconst 1, 1) := by decide +kernel
theorem dX4_canMask_78 : decode cX4_canMask 78 = .ok (.isub, 1) := by decide +kernel
theorem dX4_canMask_79 : decode cX4_canMask 79 = .ok (.i2l, 1) := by decide +kernel
theorem dX4_canMask_80 : decode cX4_canMask 80 = .ok (.invokestatic 76, 3) := by decide +kernel
theorem dX4_canMask_83 : decode cX4_canMask 83 = .ok (.ifCond .eq 7, 3) := by decide +kernel
theorem dX4_canMask_86 : decode cX4_canMask 86 = .ok (.iconst 1, 1) := by decide +kernel
theorem dX4_canMask_87 : decode cX4_canMask 87 = .ok (.goto 4, 3) := by decide +kernel
theorem dX4_canMask_90 : decode cX4_canMask 90 = .ok (.iconst 0, 1) := by decide +kernel
theorem dX4_canMask_91 : decode cX4_canMask 91 = .ok (.ireturn, 1) := by decide +kernel
theorem dX4_canMask_92 : decode cX4_canMask 92 = .ok (.iconst 0, 1) := by decide +kernel
theorem dX4_canMask_93 : decode cX4_canMask 93 = .ok (.ireturn, 1) := by decide +kernel
theorem dX4_mask_0 : decode cX4_mask 0 = .ok (.aload_n 0, 1) := by decide +kernel
theorem dX4_mask_1 : decode cX4_mask 1 = .ok (.iconst 0, 1) := by decide +kernel
theorem dX4_mask_2 : decode cX4_mask 2 = .ok (.putfield 69, 3) := by decide +kernel
theorem dX4_mask_5 : decode cX4_mask 5 = .ok (.iload_n 1, 1) := by decide +kernel
theorem dX4_mask_6 : decode cX4_mask 6 = .ok (.invokestatic 91, 3) := by decide +kernel
theorem dX4_mask_9 : decode cX4_mask 9 = .ok (.ifCond .ne 9, 3) := by decide +kernel
theorem dX4_mask_12 : decode cX4_mask 12 = .ok (.aload_n 0, 1) := by decide +kernel
theorem dX4_mask_13 : decode cX4_mask 13 = .ok (.iconst 1, 1) := by decide +kernel
theorem dX4_mask_14 : decode cX4_mask 14 = .ok (.invokevirtual 105, 3) := by decide +kernel
theorem dX4_mask_17 : decode cX4_mask 17 = .ok (.ireturn, 1) := by decide +kernel
theorem dX4_mask_18 : decode cX4_mask 18 = .ok (.aload_n 0, 1) := by decide +kernel
theorem dX4_mask_19 : decode cX4_mask 19 = .ok (.iload_n 2, 1) := by decide +kernel
theorem dX4_mask_20 : decode cX4_mask 20 = .ok (.iload_n 3, 1) := by decide +kernel
theorem dX4_mask_21 : decode cX4_mask 21 = .ok (.iload 4, 2) := by decide +kernel
theorem dX4_mask_23 : decode cX4_mask 23 = .ok (.invokevirtual 155, 3) := by decide +kernel
theorem dX4_mask_26 : decode cX4_mask 26 = .ok (.ifCond .ne 9, 3) := by decide +kernel
theorem dX4_mask_29 : decode cX4_mask 29 = .ok (.aload_n 0, 1) := by decide +kernel
theorem dX4_mask_30 : decode cX4_mask 30 = .ok (.iconst 2, 1) := by decide +kernel
theorem dX4_mask_31 : decode cX4_mask 31 = .ok (.invokevirtual 105, 3) := by decide +kernel
theorem dX4_mask_34 : decode cX4_mask 34 = .ok (.ireturn, 1) := by decide +kernel
theorem dX4_mask_35 : decode cX4_mask 35 = .ok (.iconst 0, 1) := by decide +kernel
theorem dX4_mask_36 : decode cX4_mask 36 = .ok (.istore 5, 2) := by decide +kernel
theorem dX4_mask_38 : decode cX4_mask 38 = .ok (.iload 5, 2) := by decide +kernel
theorem dX4_mask_40 : decode cX4_mask 40 = .ok (.sipush 192, 3) := by decide +kernel
theorem dX4_mask_43 : decode cX4_mask 43 = .ok (.if_icmp .ge 68, 3) := by decide +kernel
theorem dX4_mask_46 : decode cX4_mask 46 = .ok (.aload_n 0, 1) := by decide +kernel
theorem dX4_mask_47 : decode cX4_mask 47 = .ok (.getfield 24, 3) := by decide +kernel
theorem dX4_mask_50 : decode cX4_mask 50 = .ok (.iload 5, 2) := by decide +kernel
theorem dX4_mask_52 : decode cX4_mask 52 = .ok (.iload_n 2, 1) := by decide +kernel
theorem dX4_mask_53 : decode cX4_mask 53 = .ok (.ifCond .eq 46, 3) := by decide +kernel
theorem dX4_mask_56 : decode cX4_mask 56 = .ok (.iload_n 2, 1) := by decide +kernel
theorem dX4_mask_57 : decode cX4_mask 57 = .ok (.iconst 2, 1) := by decide +kernel
theorem dX4_mask_58 : decode cX4_mask 58 = .ok (.if_icmp .ne 19, 3) := by decide +kernel
theorem dX4_mask_61 : decode cX4_mask 61 = .ok (.iload 5, 2) := by decide +kernel
theorem dX4_mask_63 : decode cX4_mask 63 = .ok (.i2l, 1) := by decide +kernel
theorem dX4_mask_64 : decode cX4_mask 64 = .ok (.iload_n 3, 1) := by decide +kernel
theorem dX4_mask_65 : decode cX4_mask 65 = .ok (.i2l, 1) := by decide +kernel
theorem dX4_mask_66 : decode cX4_mask 66 = .ok (.iload 4, 2) := by decide +kernel
theorem dX4_mask_68 : decode cX4_mask 68 = .ok (.iconst 1, 1) := by decide +kernel
theorem dX4_mask_69 : decode cX4_mask 69 = .ok (.isub, 1) := by decide +kernel
theorem dX4_mask_70 : decode cX4_mask 70 = .ok (.i2l, 1) := by decide +kernel
theorem dX4_mask_71 : decode cX4_mask 71 = .ok (.invokestatic 76, 3) := by decide +kernel
theorem dX4_mask_74 : decode cX4_mask 74 = .ok (.ifCond .ne 25, 3) := by decide +kernel
theorem dX4_mask_77 : decode cX4_mask 77 = .ok (.iload_n 2, 1) := by decide +kernel
theorem dX4_mask_78 : decode cX4_mask 78 = .ok (.iconst 3, 1) := by decide +kernel
theorem dX4_mask_79 : decode cX4_mask 79 = .ok (.if_icmp .ne 24, 3) := by decide +kernel
theorem dX4_mask_82 : decode cX4_mask 82 = .ok (.iload 5, 2) := by decide +kernel
theorem dX4_mask_84 : decode cX4_mask 84 = .ok (.iload 4, 2) := by decide +kernel
theorem dX4_mask_86 : decode cX4_mask 86 = .ok (.if_icmp .lt 17, 3) := by decide +kernel
theorem dX4_mask_89 : decode cX4_mask 89 = .ok (.iload 5, 2) := by decide +kernel
theorem dX4_mask_91 : decode cX4_mask 91 = .ok (.iload 4, 2) := by decide +kernel
theorem dX4_mask_93 : decode cX4_mask 93 = .ok (.isub, 1) := by decide +kernel
theorem dX4_mask_94 : decode cX4_mask 94 = .ok (.iload_n 3, 1) := by decide +kernel
theorem dX4_mask_95 : decode cX4_mask 95 = .ok (.irem, 1) := by decide +kernel
theorem dX4_mask_96 : decode cX4_mask 96 = .ok (.ifCond .ne 7, 3) := by decide +kernel
theorem dX4_mask_99 : decode cX4_mask 99 = .ok (.iconst 1, 1) := by decide +kernel
theorem dX4_mask_100 : decode cX4_mask 100 = .ok (.goto 4, 3) := by decide +kernel
theorem dX4_mask_103 : decode cX4_mask 103 = .ok (.iconst 0, 1) := by decide +kernel
theorem dX4_mask_104 : decode cX4_mask 104 = .ok (.bastore, 1) := by decide +kernel
theorem dX4_mask_105 : decode cX4_mask 105 = .ok (.iinc 5 1, 3) := by decide +kernel
theorem dX4_mask_108 : decode cX4_mask 108 = .ok (.goto (-70), 3) := by decide +kernel
theorem dX4_mask_111 : decode cX4_mask 111 = .ok (.aload_n 0, 1) := by decide +kernel
theorem dX4_mask_112 : decode cX4_mask 112 = .ok (.iload_n 1, 1) := by decide +kernel
theorem dX4_mask_113 : decode cX4_mask 113 = .ok (.invokevirtual 159, 3) := by decide +kernel
theorem dX4_mask_116 : decode cX4_mask 116 = .ok (.ireturn, 1) := by decide +kernel
theorem dX4_bits_0 : decode cX4_bits 0 = .ok (.aload_n 0, 1) := by decide +kernel
theorem dX4_bits_1 : decode cX4_bits 1 = .ok (.iconst 0, 1) := by decide +kernel
theorem dX4_bits_2 : decode cX4_bits 2 = .ok (.putfield 69, 3) := by decide +kernel
theorem dX4_bits_5 : decode cX4_bits 5 = .ok (.iload_n 1, 1) := by decide +kernel
theorem dX4_bits_6 : decode cX4_bits 6 = .ok (.invokestatic 91, 3) := by decide +kernel
theorem dX4_bits_9 : decode cX4_bits 9 = .ok (.ifCond .eq 10, 3) := by decide +kernel
theorem dX4_bits_12 : decode cX4_bits 12 = .ok (.iload_n 2, 1) := by decide +kernel
theorem dX4_bits_13 : decode cX4_bits 13 = .ok (.invokestatic 152, 3) := by decide +kernel
theorem dX4_bits_16 : decode cX4_bits 16 = .ok (.ifCond .ne 9, 3) := by decide +kernel
theorem dX4_bits_19 : decode cX4_bits 19 = .ok (.aload_n 0, 1) := by decide +kernel
theorem dX4_bits_20 : decode cX4_bits 20 = .ok (.iconst 1, 1) := by decide +kernel
theorem dX4_bits_21 : decode cX4_bits 21 = .ok (.invokevirtual 105, 3) := by decide +kernel
theorem dX4_bits_24 : decode cX4_bits 24 = .ok (.ireturn, 1) := by decide +kernel
theorem dX4_bits_25 : decode cX4_bits 25 = .ok (.iconst 0, 1) := by decide +kernel
theorem dX4_bits_26 : decode cX4_bits 26 = .ok (.istore 5, 2) := by decide +kernel
theorem dX4_bits_28 : decode cX4_bits 28 = .ok (.iload 5, 2) := by decide +kernel
theorem dX4_bits_30 : decode cX4_bits 30 = .ok (.sipush 192, 3) := by decide +kernel
theorem dX4_bits_33 : decode cX4_bits 33 = .ok (.if_icmp .ge 58, 3) := by decide +kernel
theorem dX4_bits_36 : decode cX4_bits 36 = .ok (.aload_n 0, 1) := by decide +kernel
theorem dX4_bits_37 : decode cX4_bits 37 = .ok (.getfield 24, 3) := by decide +kernel
theorem dX4_bits_40 : decode cX4_bits 40 = .ok (.iload 5, 2) := by decide +kernel
theorem dX4_bits_42 : decode cX4_bits 42 = .ok (.iload 5, 2) := by decide +kernel
theorem dX4_bits_44 : decode cX4_bits 44 = .ok (.bipush 64, 2) := by decide +kernel
theorem dX4_bits_46 : decode cX4_bits 46 = .ok (.idiv, 1) := by decide +kernel
theorem dX4_bits_47 : decode cX4_bits 47 = .ok (.iload_n 2, 1) := by decide +kernel
theorem dX4_bits_48 : decode cX4_bits 48 = .ok (.if_icmp .ne 25, 3) := by decide +kernel
theorem dX4_bits_51 : decode cX4_bits 51 = .ok (.lload_n 3, 1) := by decide +kernel
theorem dX4_bits_52 : decode cX4_bits 52 = .ok (.iload 5, 2) := by decide +kernel
theorem dX4_bits_54 : decode cX4_bits 54 = .ok (.bipush 64, 2) := by decide +kernel
theorem dX4_bits_56 : decode cX4_bits 56 = .ok (.irem, 1) := by decide +kernel
theorem dX4_bits_57 : decode cX4_bits 57 = .ok (.lshr, 1) := by decide +kernel
theorem dX4_bits_58 : decode cX4_bits 58 = .ok (.lconst 1, 1) := by decide +kernel
theorem dX4_bits_59 : decode cX4_bits 59 = .ok (.land, 1) := by decide +kernel
theorem dX4_bits_60 : decode cX4_bits 60 = .ok (.lconst 1, 1) := by decide +kernel
theorem dX4_bits_61 : decode cX4_bits 61 = .ok (.lcmp, 1) := by decide +kernel
theorem dX4_bits_62 : decode cX4_bits 62 = .ok (.ifCond .ne 7, 3) := by decide +kernel
theorem dX4_bits_65 : decode cX4_bits 65 = .ok (.iconst 1, 1) := by decide +kernel
theorem dX4_bits_66 : decode cX4_bits 66 = .ok (.goto 18, 3) := by decide +kernel
theorem dX4_bits_69 : decode cX4_bits 69 = .ok (.iconst 0, 1) := by decide +kernel
theorem dX4_bits_70 : decode cX4_bits 70 = .ok (.goto 14, 3) := by decide +kernel
theorem dX4_bits_73 : decode cX4_bits 73 = .ok (.aload_n 0, 1) := by decide +kernel
theorem dX4_bits_74 : decode cX4_bits 74 = .ok (.getfield 21, 3) := by decide +kernel
theorem dX4_bits_77 : decode cX4_bits 77 = .ok (.iload_n 1, 1) := by decide +kernel
theorem dX4_bits_78 : decode cX4_bits 78 = .ok (.iload 5, 2) := by decide +kernel
theorem dX4_bits_80 : decode cX4_bits 80 = .ok (.invokestatic 94, 3) := by decide +kernel
theorem dX4_bits_83 : decode cX4_bits 83 = .ok (.baload, 1) := by decide +kernel
theorem dX4_bits_84 : decode cX4_bits 84 = .ok (.bastore, 1) := by decide +kernel
theorem dX4_bits_85 : decode cX4_bits 85 = .ok (.iinc 5 1, 3) := by decide +kernel
theorem dX4_bits_88 : decode cX4_bits 88 = .ok (.goto (-60), 3) := by decide +kernel
theorem dX4_bits_91 : decode cX4_bits 91 = .ok (.aload_n 0, 1) := by decide +kernel
theorem dX4_bits_92 : decode cX4_bits 92 = .ok (.iload_n 1, 1) := by decide +kernel
theorem dX4_bits_93 : decode cX4_bits 93 = .ok (.invokevirtual 159, 3) := by decide +kernel
theorem dX4_bits_96 : decode cX4_bits 96 = .ok (.ireturn, 1) := by decide +kernel
theorem dX4_join_0 : decode cX4_join 0 = .ok (.aload_n 0, 1) := by decide +kernel
theorem dX4_join_1 : decode cX4_join 1 = .ok (.iconst 0, 1) := by decide +kernel
theorem dX4_join_2 : decode cX4_join 2 = .ok (.putfield 69, 3) := by decide +kernel
theorem dX4_join_5 : decode cX4_join 5 = .ok (.iload_n 1, 1) := by decide +kernel
theorem dX4_join_6 : decode cX4_join 6 = .ok (.invokestatic 91, 3) := by decide +kernel
theorem dX4_join_9 : decode cX4_join 9 = .ok (.ifCond .eq 17, 3) := by decide +kernel
theorem dX4_join_12 : decode cX4_join 12 = .ok (.iload_n 2, 1) := by decide +kernel
theorem dX4_join_13 : decode cX4_join 13 = .ok (.invokestatic 91, 3) := by decide +kernel
theorem dX4_join_16 : decode cX4_join 16 = .ok (.ifCond .eq 10, 3) := by decide +kernel
theorem dX4_join_19 : decode cX4_join 19 = .ok (.iload_n 3, 1) := by decide +kernel
theorem dX4_join_20 : decode cX4_join 20 = .ok (.invokestatic 91, 3) := by decide +kernel
theorem dX4_join_23 : decode cX4_join 23 = .ok (.ifCond .ne 9, 3) := by decide +kernel
theorem dX4_join_26 : decode cX4_join 26 = .ok (.aload_n 0, 1) := by decide +kernel
theorem dX4_join_27 : decode cX4_join 27 = .ok (.iconst 1, 1) := by decide +kernel
theorem dX4_join_28 : decode cX4_join 28 = .ok (.invokevirtual 105, 3) := by decide +kernel
theorem dX4_join_31 : decode cX4_join 31 = .ok (.ireturn, 1) := by decide +kernel
theorem dX4_join_32 : decode cX4_join 32 = .ok (.iload 4, 2) := by decide +kernel
theorem dX4_join_34 : decode cX4_join 34 = .ok (.i2l, 1) := by decide +kernel
theorem dX4_join_35 : decode cX4_join 35 = .ok (.lconst 0, 1) := by decide +kernel
theorem dX4_join_36 : decode cX4_join 36 = .ok (.ldc2_w 162, 3) := by decide +kernel
theorem dX4_join_39 : decode cX4_join 39 = .ok (.invokestatic 76, 3) := by decide +kernel
theorem dX4_join_42 : decode cX4_join 42 = .ok (.ifCond .ne 9, 3) := by decide +kernel
theorem dX4_join_45 : decode cX4_join 45 = .ok (.aload_n 0, 1) := by decide +kernel
theorem dX4_join_46 : decode cX4_join 46 = .ok (.iconst 2, 1) := by decide +kernel
theorem dX4_join_47 : decode cX4_join 47 = .ok (.invokevirtual 105, 3) := by decide +kernel
theorem dX4_join_50 : decode cX4_join 50 = .ok (.ireturn, 1) := by decide +kernel
theorem dX4_join_51 : decode cX4_join 51 = .ok (.iconst 0, 1) := by decide +kernel
theorem dX4_join_52 : decode cX4_join 52 = .ok (.istore 5, 2) := by decide +kernel
theorem dX4_join_54 : decode cX4_join 54 = .ok (.iload 5, 2) := by decide +kernel
theorem dX4_join_56 : decode cX4_join 56 = .ok (.sipush 192, 3) := by decide +kernel
theorem dX4_join_59 : decode cX4_join 59 = .ok (.if_icmp .ge 125, 3) := by decide +kernel
theorem dX4_join_62 : decode cX4_join 62 = .ok (.aload_n 0, 1) := by decide +kernel
theorem dX4_join_63 : decode cX4_join 63 = .ok (.getfield 21, 3) := by decide +kernel
theorem dX4_join_66 : decode cX4_join 66 = .ok (.iload_n 2, 1) := by decide +kernel
theorem dX4_join_67 : decode cX4_join 67 = .ok (.iload 5, 2) := by decide +kernel
theorem dX4_join_69 : decode cX4_join 69 = .ok (.invokestatic 94, 3) := by decide +kernel
theorem dX4_join_72 : decode cX4_join 72 = .ok (.baload, 1) := by decide +kernel
theorem dX4_join_73 : decode cX4_join 73 = .ok (.istore 6, 2) := by decide +kernel
theorem dX4_join_75 : decode cX4_join 75 = .ok (.aload_n 0, 1) := by decide +kernel
theorem dX4_join_76 : decode cX4_join 76 = .ok (.getfield 21, 3) := by decide +kernel
theorem dX4_join_79 : decode cX4_join 79 = .ok (.iload_n 3, 1) := by decide +kernel
theorem dX4_join_80 : decode cX4_join 80 = .ok (.iload 5, 2) := by decide +kernel
theorem dX4_join_82 : decode cX4_join 82 = .ok (.invokestatic 94, 3) := by decide +kernel
theorem dX4_join_85 : decode cX4_join 85 = .ok (.baload, 1) := by decide +kernel
theorem dX4_join_86 : decode cX4_join 86 = .ok (.istore 7, 2) := by decide +kernel
theorem dX4_join_88 : decode cX4_join 88 = .ok (.aload_n 0, 1) := by decide +kernel
theorem dX4_join_89 : decode cX4_join 89 = .ok (.getfield 24, 3) := by decide +kernel
theorem dX4_join_92 : decode cX4_join 92 = .ok (.iload 5, 2) := by decide +kernel
theorem dX4_join_94 : decode cX4_join 94 = .ok (.iload 4, 2) := by decide +kernel
theorem dX4_join_96 : decode cX4_join 96 = .ok (.ifCond .ne 21, 3) := by decide +kernel
theorem dX4_join_99 : decode cX4_join 99 = .ok (.iload 6, 2) := by decide +kernel
theorem dX4_join_101 : decode cX4_join 101 = .ok (.ifCond .eq 12, 3) := by decide +kernel
theorem dX4_join_104 : decode cX4_join 104 = .ok (.iload 7, 2) := by decide +kernel
theorem dX4_join_106 : decode cX4_join 106 = .ok (.ifCond .eq 7, 3) := by decide +kernel
theorem dX4_join_109 : decode cX4_join 109 = .ok (.iconst 1, 1) := by decide +kernel
theorem dX4_join_110 : decode cX4_join 110 = .ok (.goto 67, 3) := by decide +kernel
theorem dX4_join_113 : decode cX4_join 113 = .ok (.iconst 0, 1) := by decide +kernel
theorem dX4_join_114 : decode cX4_join 114 = .ok (.goto 63, 3) := by decide +kernel
theorem dX4_join_117 : decode cX4_join 117 = .ok (.iload 4, 2) := by decide +kernel
theorem dX4_join_119 : decode cX4_join 119 = .ok (.iconst 1, 1) := by decide +kernel
theorem dX4_join_120 : decode cX4_join 120 = .ok (.if_icmp .ne 21, 3) := by decide +kernel
theorem dX4_join_123 : decode cX4_join 123 = .ok (.iload 6, 2) := by decide +kernel
theorem dX4_join_125 : decode cX4_join 125 = .ok (.ifCond .ne 8, 3) := by decide +kernel
theorem dX4_join_128 : decode cX4_join 128 = .ok (.iload 7, 2) := by decide +kernel
theorem dX4_join_130 : decode cX4_join 130 = .ok (.ifCond .eq 7, 3) := by decide +kernel
theorem dX4_join_133 : decode cX4_join 133 = .ok (.iconst 1, 1) := by decide +kernel
theorem dX4_join_134 : decode cX4_join 134 = .ok (.goto 43, 3) := by decide +kernel
theorem dX4_join_137 : decode cX4_join 137 = .ok (.iconst 0, 1) := by decide +kernel
theorem dX4_join_138 : decode cX4_join 138 = .ok (.goto 39, 3) := by decide +kernel
theorem dX4_join_141 : decode cX4_join 141 = .ok (.iload 4, 2) := by decide +kernel
theorem dX4_join_143 : decode cX4_join 143 = .ok (.iconst 2, 1) := by decide +kernel
theorem dX4_join_144 : decode cX4_join 144 = .ok (.if_icmp .ne 18, 3) := by decide +kernel
theorem dX4_join_147 : decode cX4_join 147 = .ok (.iload 6, 2) := by decide +kernel
theorem dX4_join_149 : decode cX4_join 149 = .ok (.iload 7, 2) := by decide +kernel
theorem dX4_join_151 : decode cX4_join 151 = .ok (.if_icmp .eq 7, 3) := by decide +kernel
theorem dX4_join_154 : decode cX4_join 154 = .ok (.iconst 1, 1) := by decide +kernel
theorem dX4_join_155 : decode cX4_join 155 = .ok (.goto 22, 3) := by decide +kernel
theorem dX4_join_158 : decode cX4_join 158 = .ok (.iconst 0, 1) := by decide +kernel
theorem dX4_join_159 : decode cX4_join 159 = .ok (.goto 18, 3) := by decide +kernel
theorem dX4_join_162 : decode cX4_join 162 = .ok (.iload 6, 2) := by decide +kernel
theorem dX4_join_164 : decode cX4_join 164 = .ok (.ifCond .eq 12, 3) := by decide +kernel
theorem dX4_join_167 : decode cX4_join 167 = .ok (.iload 7, 2) := by decide +kernel
theorem dX4_join_169 : decode cX4_join 169 = .ok (.ifCond .ne 7, 3) := by decide +kernel
theorem dX4_join_172 : decode cX4_join 172 = .ok (.iconst 1, 1) := by decide +kernel
theorem dX4_join_173 : decode cX4_join 173 = .ok (.goto 4, 3) := by decide +kernel
theorem dX4_join_176 : decode cX4_join 176 = .ok (.iconst 0, 1) := by decide +kernel
theorem dX4_join_177 : decode cX4_join 177 = .ok (.bastore, 1) := by decide +kernel
theorem dX4_join_178 : decode cX4_join 178 = .ok (.iinc 5 1, 3) := by decide +kernel
theorem dX4_join_181 : decode cX4_join 181 = .ok (.goto (-127), 3) := by decide +kernel
theorem dX4_join_184 : decode cX4_join 184 = .ok (.aload_n 0, 1) := by decide +kernel
theorem dX4_join_185 : decode cX4_join 185 = .ok (.iload_n 1, 1) := by decide +kernel
theorem dX4_join_186 : decode cX4_join 186 = .ok (.invokevirtual 159, 3) := by decide +kernel
theorem dX4_join_189 : decode cX4_join 189 = .ok (.ireturn, 1) := by decide +kernel
theorem dX4_turn_0 : decode cX4_turn 0 = .ok (.aload_n 0, 1) := by decide +kernel
theorem dX4_turn_1 : decode cX4_turn 1 = .ok (.iconst 0, 1) := by decide +kernel
theorem dX4_turn_2 : decode cX4_turn 2 = .ok (.putfield 69, 3) := by decide +kernel
theorem dX4_turn_5 : decode cX4_turn 5 = .ok (.iload_n 1, 1) := by decide +kernel
theorem dX4_turn_6 : decode cX4_turn 6 = .ok (.invokestatic 91, 3) := by decide +kernel
theorem dX4_turn_9 : decode cX4_turn 9 = .ok (.ifCond .eq 10, 3) := by decide +kernel
theorem dX4_turn_12 : decode cX4_turn 12 = .ok (.iload_n 2, 1) := by decide +kernel
theorem dX4_turn_13 : decode cX4_turn 13 = .ok (.invokestatic 91, 3) := by decide +kernel
theorem dX4_turn_16 : decode cX4_turn 16 = .ok (.ifCond .ne 9, 3) := by decide +kernel
theorem dX4_turn_19 : decode cX4_turn 19 = .ok (.aload_n 0, 1) := by decide +kernel
theorem dX4_turn_20 : decode cX4_turn 20 = .ok (.iconst 1, 1) := by decide +kernel
theorem dX4_turn_21 : decode cX4_turn 21 = .ok (.invokevirtual 105, 3) := by decide +kernel
theorem dX4_turn_24 : decode cX4_turn 24 = .ok (.ireturn, 1) := by decide +kernel
theorem dX4_turn_25 : decode cX4_turn 25 = .ok (.iconst 0, 1) := by decide +kernel
theorem dX4_turn_26 : decode cX4_turn 26 = .ok (.istore_n 3, 1) := by decide +kernel
theorem dX4_turn_27 : decode cX4_turn 27 = .ok (.iload_n 3, 1) := by decide +kernel
theorem dX4_turn_28 : decode cX4_turn 28 = .ok (.sipush 192, 3) := by decide +kernel
theorem dX4_turn_31 : decode cX4_turn 31 = .ok (.if_icmp .ge 33, 3) := by decide +kernel
theorem dX4_turn_34 : decode cX4_turn 34 = .ok (.aload_n 0, 1) := by decide +kernel
theorem dX4_turn_35 : decode cX4_turn 35 = .ok (.getfield 24, 3) := by decide +kernel
theorem dX4_turn_38 : decode cX4_turn 38 = .ok (.iload_n 3, 1) := by decide +kernel
theorem dX4_turn_39 : decode cX4_turn 39 = .ok (.aload_n 0, 1) := by decide +kernel
theorem dX4_turn_40 : decode cX4_turn 40 = .ok (.getfield 21, 3) := by decide +kernel
theorem dX4_turn_43 : decode cX4_turn 43 = .ok (.iload_n 2, 1) := by decide +kernel
theorem dX4_turn_44 : decode cX4_turn 44 = .ok (.iload_n 3, 1) := by decide +kernel
theorem dX4_turn_45 : decode cX4_turn 45 = .ok (.invokestatic 94, 3) := by decide +kernel
theorem dX4_turn_48 : decode cX4_turn 48 = .ok (.baload, 1) := by decide +kernel
theorem dX4_turn_49 : decode cX4_turn 49 = .ok (.ifCond .ne 7, 3) := by decide +kernel
theorem dX4_turn_52 : decode cX4_turn 52 = .ok (.iconst 1, 1) := by decide +kernel
theorem dX4_turn_53 : decode cX4_turn 53 = .ok (.goto 4, 3) := by decide +kernel
theorem dX4_turn_56 : decode cX4_turn 56 = .ok (.iconst 0, 1) := by decide +kernel
theorem dX4_turn_57 : decode cX4_turn 57 = .ok (.bastore, 1) := by decide +kernel
theorem dX4_turn_58 : decode cX4_turn 58 = .ok (.iinc 3 1, 3) := by decide +kernel
theorem dX4_turn_61 : decode cX4_turn 61 = .ok (.goto (-34), 3) := by decide +kernel
theorem dX4_turn_64 : decode cX4_turn 64 = .ok (.aload_n 0, 1) := by decide +kernel
theorem dX4_turn_65 : decode cX4_turn 65 = .ok (.iload_n 1, 1) := by decide +kernel
theorem dX4_turn_66 : decode cX4_turn 66 = .ok (.invokevirtual 159, 3) := by decide +kernel
theorem dX4_turn_69 : decode cX4_turn 69 = .ok (.ireturn, 1) := by decide +kernel
theorem dX4_isSo_0 : decode cX4_isSo 0 = .ok (.iload_n 2, 1) := by decide +kernel
theorem dX4_isSo_1 : decode cX4_isSo 1 = .ok (.tableswitch 95 0 4 #[35, 47, 59, 71, 83], 35) := by decide +kernel
theorem dX4_isSo_36 : decode cX4_isSo 36 = .ok (.lload_n 0, 1) := by decide +kernel
theorem dX4_isSo_37 : decode cX4_isSo 37 = .ok (.lload_n 3, 1) := by decide +kernel
theorem dX4_isSo_38 : decode cX4_isSo 38 = .ok (.lcmp, 1) := by decide +kernel
theorem dX4_isSo_39 : decode cX4_isSo 39 = .ok (.ifCond .ge 7, 3) := by decide +kernel
theorem dX4_isSo_42 : decode cX4_isSo 42 = .ok (.iconst 1, 1) := by decide +kernel
theorem dX4_isSo_43 : decode cX4_isSo 43 = .ok (.goto 4, 3) := by decide +kernel
theorem dX4_isSo_46 : decode cX4_isSo 46 = .ok (.iconst 0, 1) := by decide +kernel
theorem dX4_isSo_47 : decode cX4_isSo 47 = .ok (.ireturn, 1) := by decide +kernel
theorem dX4_isSo_48 : decode cX4_isSo 48 = .ok (.lload_n 0, 1) := by decide +kernel
theorem dX4_isSo_49 : decode cX4_isSo 49 = .ok (.lload_n 3, 1) := by decide +kernel
theorem dX4_isSo_50 : decode cX4_isSo 50 = .ok (.lcmp, 1) := by decide +kernel
theorem dX4_isSo_51 : decode cX4_isSo 51 = .ok (.ifCond .gt 7, 3) := by decide +kernel
theorem dX4_isSo_54 : decode cX4_isSo 54 = .ok (.iconst 1, 1) := by decide +kernel
theorem dX4_isSo_55 : decode cX4_isSo 55 = .ok (.goto 4, 3) := by decide +kernel
theorem dX4_isSo_58 : decode cX4_isSo 58 = .ok (.iconst 0, 1) := by decide +kernel
theorem dX4_isSo_59 : decode cX4_isSo 59 = .ok (.ireturn, 1) := by decide +kernel
theorem dX4_isSo_60 : decode cX4_isSo 60 = .ok (.lload_n 0, 1) := by decide +kernel
theorem dX4_isSo_61 : decode cX4_isSo 61 = .ok (.lload_n 3, 1) := by decide +kernel
theorem dX4_isSo_62 : decode cX4_isSo 62 = .ok (.lcmp, 1) := by decide +kernel
theorem dX4_isSo_63 : decode cX4_isSo 63 = .ok (.ifCond .ne 7, 3) := by decide +kernel
theorem dX4_isSo_66 : decode cX4_isSo 66 = .ok (.iconst 1, 1) := by decide +kernel
theorem dX4_isSo_67 : decode cX4_isSo 67 = .ok (.goto 4, 3) := by decide +kernel
theorem dX4_isSo_70 : decode cX4_isSo 70 = .ok (.iconst 0, 1) := by decide +kernel
theorem dX4_isSo_71 : decode cX4_isSo 71 = .ok (.ireturn, 1) := by decide +kernel
theorem dX4_isSo_72 : decode cX4_isSo 72 = .ok (.lload_n 0, 1) := by decide +kernel
theorem dX4_isSo_73 : decode cX4_isSo 73 = .ok (.lload_n 3, 1) := by decide +kernel
theorem dX4_isSo_74 : decode cX4_isSo 74 = .ok (.lcmp, 1) := by decide +kernel
theorem dX4_isSo_75 : decode cX4_isSo 75 = .ok (.ifCond .eq 7, 3) := by decide +kernel
theorem dX4_isSo_78 : decode cX4_isSo 78 = .ok (.iconst 1, 1) := by decide +kernel
theorem dX4_isSo_79 : decode cX4_isSo 79 = .ok (.goto 4, 3) := by decide +kernel
theorem dX4_isSo_82 : decode cX4_isSo 82 = .ok (.iconst 0, 1) := by decide +kernel
theorem dX4_isSo_83 : decode cX4_isSo 83 = .ok (.ireturn, 1) := by decide +kernel
theorem dX4_isSo_84 : decode cX4_isSo 84 = .ok (.lload_n 0, 1) := by decide +kernel
theorem dX4_isSo_85 : decode cX4_isSo 85 = .ok (.lload_n 3, 1) := by decide +kernel
theorem dX4_isSo_86 : decode cX4_isSo 86 = .ok (.lcmp, 1) := by decide +kernel
theorem dX4_isSo_87 : decode cX4_isSo 87 = .ok (.ifCond .lt 7, 3) := by decide +kernel
theorem dX4_isSo_90 : decode cX4_isSo 90 = .ok (.iconst 1, 1) := by decide +kernel
theorem dX4_isSo_91 : decode cX4_isSo 91 = .ok (.goto 4, 3) := by decide +kernel
theorem dX4_isSo_94 : decode cX4_isSo 94 = .ok (.iconst 0, 1) := by decide +kernel
theorem dX4_isSo_95 : decode cX4_isSo 95 = .ok (.ireturn, 1) := by decide +kernel
theorem dX4_isSo_96 : decode cX4_isSo 96 = .ok (.lload_n 0, 1) := by decide +kernel
theorem dX4_isSo_97 : decode cX4_isSo 97 = .ok (.lload_n 3, 1) := by decide +kernel
theorem dX4_isSo_98 : decode cX4_isSo 98 = .ok (.lcmp, 1) := by decide +kernel
theorem dX4_isSo_99 : decode cX4_isSo 99 = .ok (.ifCond .le 7, 3) := by decide +kernel
theorem dX4_isSo_102 : decode cX4_isSo 102 = .ok (.iconst 1, 1) := by decide +kernel
theorem dX4_isSo_103 : decode cX4_isSo 103 = .ok (.goto 4, 3) := by decide +kernel
theorem dX4_isSo_106 : decode cX4_isSo 106 = .ok (.iconst 0, 1) := by decide +kernel
theorem dX4_isSo_107 : decode cX4_isSo 107 = .ok (.ireturn, 1) := by decide +kernel
theorem dX4_compare_0 : decode cX4_compare 0 = .ok (.aload_n 0, 1) := by decide +kernel
theorem dX4_compare_1 : decode cX4_compare 1 = .ok (.iconst 0, 1) := by decide +kernel
theorem dX4_compare_2 : decode cX4_compare 2 = .ok (.putfield 69, 3) := by decide +kernel
theorem dX4_compare_5 : decode cX4_compare 5 = .ok (.iload_n 1, 1) := by decide +kernel
theorem dX4_compare_6 : decode cX4_compare 6 = .ok (.invokestatic 91, 3) := by decide +kernel
theorem dX4_compare_9 : decode cX4_compare 9 = .ok (.ifCond .eq 13, 3) := by decide +kernel
theorem dX4_compare_12 : decode cX4_compare 12 = .ok (.aload_n 0, 1) := by decide +kernel
theorem dX4_compare_13 : decode cX4_compare 13 = .ok (.iload_n 2, 1) := by decide +kernel
theorem dX4_compare_14 : decode cX4_compare 14 = .ok (.iload 6, 2) := by decide +kernel
theorem dX4_compare_16 : decode cX4_compare 16 = .ok (.invokevirtual 164, 3) := by decide +kernel
theorem dX4_compare_19 : decode cX4_compare 19 = .ok (.ifCond .ne 9, 3) := by decide +kernel
theorem dX4_compare_22 : decode cX4_compare 22 = .ok (.aload_n 0, 1) := by decide +kernel
theorem dX4_compare_23 : decode cX4_compare 23 = .ok (.iconst 1, 1) := by decide +kernel
theorem dX4_compare_24 : decode cX4_compare 24 = .ok (.invokevirtual 105, 3) := by decide +kernel
theorem dX4_compare_27 : decode cX4_compare 27 = .ok (.ireturn, 1) := by decide +kernel
theorem dX4_compare_28 : decode cX4_compare 28 = .ok (.iload_n 3, 1) := by decide +kernel
theorem dX4_compare_29 : decode cX4_compare 29 = .ok (.i2l, 1) := by decide +kernel
theorem dX4_compare_30 : decode cX4_compare 30 = .ok (.lconst 0, 1) := by decide +kernel
theorem dX4_compare_31 : decode cX4_compare 31 = .ok (.ldc2_w 168, 3) := by decide +kernel
theorem dX4_compare_34 : decode cX4_compare 34 = .ok (.invokestatic 76, 3) := by decide +kernel
theorem dX4_compare_37 : decode cX4_compare 37 = .ok (.ifCond .ne 9, 3) := by decide +kernel
theorem dX4_compare_40 : decode cX4_compare 40 = .ok (.aload_n 0, 1) := by decide +kernel
theorem dX4_compare_41 : decode cX4_compare 41 = .ok (.iconst 2, 1) := by decide +kernel
theorem dX4_compare_42 : decode cX4_compare 42 = .ok (.invokevirtual 105, 3) := by decide +kernel
theorem dX4_compare_45 : decode cX4_compare 45 = .ok (.ireturn, 1) := by decide +kernel
theorem dX4_compare_46 : decode cX4_compare 46 = .ok (.iconst 0, 1) := by decide +kernel
theorem dX4_compare_47 : decode cX4_compare 47 = .ok (.istore 7, 2) := by decide +kernel
theorem dX4_compare_49 : decode cX4_compare 49 = .ok (.iload 7, 2) := by decide +kernel
theorem dX4_compare_51 : decode cX4_compare 51 = .ok (.sipush 192, 3) := by decide +kernel
theorem dX4_compare_54 : decode cX4_compare 54 = .ok (.if_icmp .ge 53, 3) := by decide +kernel
theorem dX4_compare_57 : decode cX4_compare 57 = .ok (.aload_n 0, 1) := by decide +kernel
theorem dX4_compare_58 : decode cX4_compare 58 = .ok (.getfield 24, 3) := by decide +kernel
theorem dX4_compare_61 : decode cX4_compare 61 = .ok (.iload 7, 2) := by decide +kernel
theorem dX4_compare_63 : decode cX4_compare 63 = .ok (.aload_n 0, 1) := by decide +kernel
theorem dX4_compare_64 : decode cX4_compare 64 = .ok (.iload_n 2, 1) := by decide +kernel
theorem dX4_compare_65 : decode cX4_compare 65 = .ok (.iload 7, 2) := by decide +kernel
theorem dX4_compare_67 : decode cX4_compare 67 = .ok (.iload 6, 2) := by decide +kernel
theorem dX4_compare_69 : decode cX4_compare 69 = .ok (.invokevirtual 170, 3) := by decide +kernel
theorem dX4_compare_72 : decode cX4_compare 72 = .ok (.ifCond .eq 27, 3) := by decide +kernel
theorem dX4_compare_75 : decode cX4_compare 75 = .ok (.aload_n 0, 1) := by decide +kernel
theorem dX4_compare_76 : decode cX4_compare 76 = .ok (.getfield 7, 3) := by decide +kernel
theorem dX4_compare_79 : decode cX4_compare 79 = .ok (.iload_n 2, 1) := by decide +kernel
theorem dX4_compare_80 : decode cX4_compare 80 = .ok (.iload 7, 2) := by decide +kernel
theorem dX4_compare_82 : decode cX4_compare 82 = .ok (.invokestatic 94, 3) := by decide +kernel
theorem dX4_compare_85 : decode cX4_compare 85 = .ok (.laload, 1) := by decide +kernel
theorem dX4_compare_86 : decode cX4_compare 86 = .ok (.iload_n 3, 1) := by decide +kernel
theorem dX4_compare_87 : decode cX4_compare 87 = .ok (.lload 4, 2) := by decide +kernel
theorem dX4_compare_89 : decode cX4_compare 89 = .ok (.invokestatic 173, 3) := by decide +kernel
theorem dX4_compare_92 : decode cX4_compare 92 = .ok (.ifCond .eq 7, 3) := by decide +kernel
theorem dX4_compare_95 : decode cX4_compare 95 = .ok (.iconst 1, 1) := by decide +kernel
theorem dX4_compare_96 : decode cX4_compare 96 = .ok (.goto 4, 3) := by decide +kernel
theorem dX4_compare_99 : decode cX4_compare 99 = .ok (.iconst 0, 1) := by decide +kernel
theorem dX4_compare_100 : decode cX4_compare 100 = .ok (.bastore, 1) := by decide +kernel
theorem dX4_compare_101 : decode cX4_compare 101 = .ok (.iinc 7 1, 3) := by decide +kernel
theorem dX4_compare_104 : decode cX4_compare 104 = .ok (.goto (-55), 3) := by decide +kernel
theorem dX4_compare_107 : decode cX4_compare 107 = .ok (.aload_n 0, 1) := by decide +kernel
theorem dX4_compare_108 : decode cX4_compare 108 = .ok (.iload_n 1, 1) := by decide +kernel
theorem dX4_compare_109 : decode cX4_compare 109 = .ok (.invokevirtual 159, 3) := by decide +kernel
theorem dX4_compare_112 : decode cX4_compare 112 = .ok (.ireturn, 1) := by decide +kernel
theorem dX4_against_0 : decode cX4_against 0 = .ok (.aload_n 0, 1) := by decide +kernel
theorem dX4_against_1 : decode cX4_against 1 = .ok (.iconst 0, 1) := by decide +kernel
theorem dX4_against_2 : decode cX4_against 2 = .ok (.putfield 69, 3) := by decide +kernel
theorem dX4_against_5 : decode cX4_against 5 = .ok (.iload_n 1, 1) := by decide +kernel
theorem dX4_against_6 : decode cX4_against 6 = .ok (.invokestatic 91, 3) := by decide +kernel
theorem dX4_against_9 : decode cX4_against 9 = .ok (.ifCond .eq 21, 3) := by decide +kernel
theorem dX4_against_12 : decode cX4_against 12 = .ok (.aload_n 0, 1) := by decide +kernel
theorem dX4_against_13 : decode cX4_against 13 = .ok (.iload_n 2, 1) := by decide +kernel
theorem dX4_against_14 : decode cX4_against 14 = .ok (.iload 5, 2) := by decide +kernel
theorem dX4_against_16 : decode cX4_against 16 = .ok (.invokevirtual 164, 3) := by decide +kernel
theorem dX4_against_19 : decode cX4_against 19 = .ok (.ifCond .eq 11, 3) := by decide +kernel
theorem dX4_against_22 : decode cX4_against 22 = .ok (.aload_n 0, 1) := by decide +kernel
theorem dX4_against_23 : decode cX4_against 23 = .ok (.iload_n 3, 1) := by decide +kernel
theorem dX4_against_24 : decode cX4_against 24 = .ok (.invokevirtual 87, 3) := by decide +kernel
theorem dX4_against_27 : decode cX4_against 27 = .ok (.ifCond .ne 9, 3) := by decide +kernel
theorem dX4_against_30 : decode cX4_against 30 = .ok (.aload_n 0, 1) := by decide +kernel
theorem dX4_against_31 : decode cX4_against 31 = .ok (.iconst 1, 1) := by decide +kernel
theorem dX4_against_32 : decode cX4_against 32 = .ok (.invokevirtual 105, 3) := by decide +kernel
theorem dX4_against_35 : decode cX4_against 35 = .ok (.ireturn, 1) := by decide +kernel
theorem dX4_against_36 : decode cX4_against 36 = .ok (.iload 4, 2) := by decide +kernel
theorem dX4_against_38 : decode cX4_against 38 = .ok (.i2l, 1) := by decide +kernel
theorem dX4_against_39 : decode cX4_against 39 = .ok (.lconst 0, 1) := by decide +kernel
theorem dX4_against_40 : decode cX4_against 40 = .ok (.ldc2_w 168, 3) := by decide +kernel
theorem dX4_against_43 : decode cX4_against 43 = .ok (.invokestatic 76, 3) := by decide +kernel
theorem dX4_against_46 : decode cX4_against 46 = .ok (.ifCond .ne 9, 3) := by decide +kernel
theorem dX4_against_49 : decode cX4_against 49 = .ok (.aload_n 0, 1) := by decide +kernel
theorem dX4_against_50 : decode cX4_against 50 = .ok (.iconst 2, 1) := by decide +kernel
theorem dX4_against_51 : decode cX4_against 51 = .ok (.invokevirtual 105, 3) := by decide +kernel
theorem dX4_against_54 : decode cX4_against 54 = .ok (.ireturn, 1) := by decide +kernel
theorem dX4_against_55 : decode cX4_against 55 = .ok (.iconst 0, 1) := by decide +kernel
theorem dX4_against_56 : decode cX4_against 56 = .ok (.istore 6, 2) := by decide +kernel
theorem dX4_against_58 : decode cX4_against 58 = .ok (.iload 6, 2) := by decide +kernel
theorem dX4_against_60 : decode cX4_against 60 = .ok (.sipush 192, 3) := by decide +kernel
theorem dX4_against_63 : decode cX4_against 63 = .ok (.if_icmp .ge 77, 3) := by decide +kernel
theorem dX4_against_66 : decode cX4_against 66 = .ok (.aload_n 0, 1) := by decide +kernel
theorem dX4_against_67 : decode cX4_against 67 = .ok (.getfield 24, 3) := by decide +kernel
theorem dX4_against_70 : decode cX4_against 70 = .ok (.iload 6, 2) := by decide +kernel
theorem dX4_against_72 : decode cX4_against 72 = .ok (.aload_n 0, 1) := by decide +kernel
theorem dX4_against_73 : decode cX4_against 73 = .ok (.iload_n 2, 1) := by decide +kernel
theorem dX4_against_74 : decode cX4_against 74 = .ok (.iload 6, 2) := by decide +kernel
theorem dX4_against_76 : decode cX4_against 76 = .ok (.iload 5, 2) := by decide +kernel
theorem dX4_against_78 : decode cX4_against 78 = .ok (.invokevirtual 170, 3) := by decide +kernel
theorem dX4_against_81 : decode cX4_against 81 = .ok (.ifCond .eq 51, 3) := by decide +kernel
theorem dX4_against_84 : decode cX4_against 84 = .ok (.aload_n 0, 1) := by decide +kernel
theorem dX4_against_85 : decode cX4_against 85 = .ok (.getfield 13, 3) := by decide +kernel
theorem dX4_against_88 : decode cX4_against 88 = .ok (.iload_n 3, 1) := by decide +kernel
theorem dX4_against_89 : decode cX4_against 89 = .ok (.iload 6, 2) := by decide +kernel
theorem dX4_against_91 : decode cX4_against 91 = .ok (.invokestatic 94, 3) := by decide +kernel
theorem dX4_against_94 : decode cX4_against 94 = .ok (.baload, 1) := by decide +kernel
theorem dX4_against_95 : decode cX4_against 95 = .ok (.ifCond .eq 37, 3) := by decide +kernel
theorem dX4_against_98 : decode cX4_against 98 = .ok (.aload_n 0, 1) := by decide +kernel
theorem dX4_against_99 : decode cX4_against 99 = .ok (.getfield 7, 3) := by decide +kernel
theorem dX4_against_102 : decode cX4_against 102 = .ok (.iload_n 2, 1) := by decide +kernel
theorem dX4_against_103 : decode cX4_against 103 = .ok (.iload 6, 2) := by decide +kernel
theorem dX4_against_105 : decode cX4_against 105 = .ok (.invokestatic 94, 3) := by decide +kernel
theorem dX4_against_108 : decode cX4_against 108 = .ok (.laload, 1) := by decide +kernel
theorem dX4_against_109 : decode cX4_against 109 = .ok (.iload 4, 2) := by decide +kernel
theorem dX4_against_111 : decode cX4_against 111 = .ok (.aload_n 0, 1) := by decide +kernel
theorem dX4_against_112 : decode cX4_against 112 = .ok (.getfield 7, 3) := by decide +kernel
theorem dX4_against_115 : decode cX4_against 115 = .ok (.iload_n 3, 1) := by decide +kernel
theorem dX4_against_116 : decode cX4_against 116 = .ok (.iload 6, 2) := by decide +kernel
theorem dX4_against_118 : decode cX4_against 118 = .ok (.invokestatic 94, 3) := by decide +kernel
theorem dX4_against_121 : decode cX4_against 121 = .ok (.laload, 1) := by decide +kernel
theorem dX4_against_122 : decode cX4_against 122 = .ok (.invokestatic 173, 3) := by decide +kernel
theorem dX4_against_125 : decode cX4_against 125 = .ok (.ifCond .eq 7, 3) := by decide +kernel
theorem dX4_against_128 : decode cX4_against 128 = .ok (.iconst 1, 1) := by decide +kernel
theorem dX4_against_129 : decode cX4_against 129 = .ok (.goto 4, 3) := by decide +kernel
theorem dX4_against_132 : decode cX4_against 132 = .ok (.iconst 0, 1) := by decide +kernel
theorem dX4_against_133 : decode cX4_against 133 = .ok (.bastore, 1) := by decide +kernel
theorem dX4_against_134 : decode cX4_against 134 = .ok (.iinc 6 1, 3) := by decide +kernel
theorem dX4_against_137 : decode cX4_against 137 = .ok (.goto (-79), 3) := by decide +kernel
theorem dX4_against_140 : decode cX4_against 140 = .ok (.aload_n 0, 1) := by decide +kernel
theorem dX4_against_141 : decode cX4_against 141 = .ok (.iload_n 1, 1) := by decide +kernel
theorem dX4_against_142 : decode cX4_against 142 = .ok (.invokevirtual 159, 3) := by decide +kernel
theorem dX4_against_145 : decode cX4_against 145 = .ok (.ireturn, 1) := by decide +kernel
theorem dX4_empty_0 : decode cX4_empty 0 = .ok (.aload_n 0, 1) := by decide +kernel
theorem dX4_empty_1 : decode cX4_empty 1 = .ok (.iconst 0, 1) := by decide +kernel
theorem dX4_empty_2 : decode cX4_empty 2 = .ok (.putfield 69, 3) := by decide +kernel
theorem dX4_empty_5 : decode cX4_empty 5 = .ok (.iload_n 1, 1) := by decide +kernel
theorem dX4_empty_6 : decode cX4_empty 6 = .ok (.invokestatic 91, 3) := by decide +kernel
theorem dX4_empty_9 : decode cX4_empty 9 = .ok (.ifCond .eq 12, 3) := by decide +kernel
theorem dX4_empty_12 : decode cX4_empty 12 = .ok (.aload_n 0, 1) := by decide +kernel
theorem dX4_empty_13 : decode cX4_empty 13 = .ok (.iload_n 2, 1) := by decide +kernel
theorem dX4_empty_14 : decode cX4_empty 14 = .ok (.iload_n 3, 1) := by decide +kernel
theorem dX4_empty_15 : decode cX4_empty 15 = .ok (.invokevirtual 164, 3) := by decide +kernel
theorem dX4_empty_18 : decode cX4_empty 18 = .ok (.ifCond .ne 9, 3) := by decide +kernel
theorem dX4_empty_21 : decode cX4_empty 21 = .ok (.aload_n 0, 1) := by decide +kernel
theorem dX4_empty_22 : decode cX4_empty 22 = .ok (.iconst 1, 1) := by decide +kernel
theorem dX4_empty_23 : decode cX4_empty 23 = .ok (.invokevirtual 105, 3) := by decide +kernel
theorem dX4_empty_26 : decode cX4_empty 26 = .ok (.ireturn, 1) := by decide +kernel
theorem dX4_empty_27 : decode cX4_empty 27 = .ok (.iconst 0, 1) := by decide +kernel
theorem dX4_empty_28 : decode cX4_empty 28 = .ok (.istore 4, 2) := by decide +kernel
theorem dX4_empty_30 : decode cX4_empty 30 = .ok (.iload 4, 2) := by decide +kernel
theorem dX4_empty_32 : decode cX4_empty 32 = .ok (.sipush 192, 3) := by decide +kernel
theorem dX4_empty_35 : decode cX4_empty 35 = .ok (.if_icmp .ge 49, 3) := by decide +kernel
theorem dX4_empty_38 : decode cX4_empty 38 = .ok (.aload_n 0, 1) := by decide +kernel
theorem dX4_empty_39 : decode cX4_empty 39 = .ok (.getfield 24, 3) := by decide +kernel
theorem dX4_empty_42 : decode cX4_empty 42 = .ok (.iload 4, 2) := by decide +kernel
theorem dX4_empty_44 : decode cX4_empty 44 = .ok (.aload_n 0, 1) := by decide +kernel
theorem dX4_empty_45 : decode cX4_empty 45 = .ok (.getfield 21, 3) := by decide +kernel
theorem dX4_empty_48 : decode cX4_empty 48 = .ok (.iload_n 3, 1) := by decide +kernel
theorem dX4_empty_49 : decode cX4_empty 49 = .ok (.iload 4, 2) := by decide +kernel
theorem dX4_empty_51 : decode cX4_empty 51 = .ok (.invokestatic 94, 3) := by decide +kernel
theorem dX4_empty_54 : decode cX4_empty 54 = .ok (.baload, 1) := by decide +kernel
theorem dX4_empty_55 : decode cX4_empty 55 = .ok (.ifCond .eq 21, 3) := by decide +kernel
theorem dX4_empty_58 : decode cX4_empty 58 = .ok (.aload_n 0, 1) := by decide +kernel
theorem dX4_empty_59 : decode cX4_empty 59 = .ok (.getfield 13, 3) := by decide +kernel
theorem dX4_empty_62 : decode cX4_empty 62 = .ok (.iload_n 2, 1) := by decide +kernel
theorem dX4_empty_63 : decode cX4_empty 63 = .ok (.iload 4, 2) := by decide +kernel
theorem dX4_empty_65 : decode cX4_empty 65 = .ok (.invokestatic 94, 3) := by decide +kernel
theorem dX4_empty_68 : decode cX4_empty 68 = .ok (.baload, 1) := by decide +kernel
theorem dX4_empty_69 : decode cX4_empty 69 = .ok (.ifCond .ne 7, 3) := by decide +kernel
theorem dX4_empty_72 : decode cX4_empty 72 = .ok (.iconst 1, 1) := by decide +kernel
theorem dX4_empty_73 : decode cX4_empty 73 = .ok (.goto 4, 3) := by decide +kernel
theorem dX4_empty_76 : decode cX4_empty 76 = .ok (.iconst 0, 1) := by decide +kernel
theorem dX4_empty_77 : decode cX4_empty 77 = .ok (.bastore, 1) := by decide +kernel
theorem dX4_empty_78 : decode cX4_empty 78 = .ok (.iinc 4 1, 3) := by decide +kernel
theorem dX4_empty_81 : decode cX4_empty 81 = .ok (.goto (-51), 3) := by decide +kernel
theorem dX4_empty_84 : decode cX4_empty 84 = .ok (.aload_n 0, 1) := by decide +kernel
theorem dX4_empty_85 : decode cX4_empty 85 = .ok (.iload_n 1, 1) := by decide +kernel
theorem dX4_empty_86 : decode cX4_empty 86 = .ok (.invokevirtual 159, 3) := by decide +kernel
theorem dX4_empty_89 : decode cX4_empty 89 = .ok (.ireturn, 1) := by decide +kernel
theorem dX4_aheadOf_0 : decode cX4_aheadOf 0 = .ok (.iconst 0, 1) := by decide +kernel
theorem dX4_aheadOf_1 : decode cX4_aheadOf 1 = .ok (.istore 4, 2) := by decide +kernel
theorem dX4_aheadOf_3 : decode cX4_aheadOf 3 = .ok (.iconst 0, 1) := by decide +kernel
theorem dX4_aheadOf_4 : decode cX4_aheadOf 4 = .ok (.istore 5, 2) := by decide +kernel
theorem dX4_aheadOf_6 : decode cX4_aheadOf 6 = .ok (.iload 5, 2) := by decide +kernel
theorem dX4_aheadOf_8 : decode cX4_aheadOf 8 = .ok (.aload_n 0, 1) := by decide +kernel
theorem dX4_aheadOf_9 : decode cX4_aheadOf 9 = .ok (.getfield 80, 3) := by decide +kernel
theorem dX4_aheadOf_12 : decode cX4_aheadOf 12 = .ok (.if_icmp .ge 87, 3) := by decide +kernel
theorem dX4_aheadOf_15 : decode cX4_aheadOf 15 = .ok (.aload_n 0, 1) := by decide +kernel
theorem dX4_aheadOf_16 : decode cX4_aheadOf 16 = .ok (.iload_n 1, 1) := by decide +kernel
theorem dX4_aheadOf_17 : decode cX4_aheadOf 17 = .ok (.iload 5, 2) := by decide +kernel
theorem dX4_aheadOf_19 : decode cX4_aheadOf 19 = .ok (.iload_n 3, 1) := by decide +kernel
theorem dX4_aheadOf_20 : decode cX4_aheadOf 20 = .ok (.invokevirtual 170, 3) := by decide +kernel
theorem dX4_aheadOf_23 : decode cX4_aheadOf 23 = .ok (.ifCond .ne 6, 3) := by decide +kernel
theorem dX4_aheadOf_26 : decode cX4_aheadOf 26 = .ok (.goto 67, 3) := by decide +kernel
theorem dX4_aheadOf_29 : decode cX4_aheadOf 29 = .ok (.aload_n 0, 1) := by decide +kernel
theorem dX4_aheadOf_30 : decode cX4_aheadOf 30 = .ok (.getfield 7, 3) := by decide +kernel
theorem dX4_aheadOf_33 : decode cX4_aheadOf 33 = .ok (.iload_n 1, 1) := by decide +kernel
theorem dX4_aheadOf_34 : decode cX4_aheadOf 34 = .ok (.iload 5, 2) := by decide +kernel
theorem dX4_aheadOf_36 : decode cX4_aheadOf 36 = .ok (.invokestatic 94, 3) := by decide +kernel
theorem dX4_aheadOf_39 : decode cX4_aheadOf 39 = .ok (.laload, 1) := by decide +kernel
theorem dX4_aheadOf_40 : decode cX4_aheadOf 40 = .ok (.lstore 6, 2) := by decide +kernel
theorem dX4_aheadOf_42 : decode cX4_aheadOf 42 = .ok (.iload 4, 2) := by decide +kernel
theorem dX4_aheadOf_44 : decode cX4_aheadOf 44 = .ok (.lload 6, 2) := by decide +kernel
theorem dX4_aheadOf_46 : decode cX4_aheadOf 46 = .ok (.aload_n 0, 1) := by decide +kernel
theorem dX4_aheadOf_47 : decode cX4_aheadOf 47 = .ok (.getfield 7, 3) := by decide +kernel
theorem dX4_aheadOf_50 : decode cX4_aheadOf 50 = .ok (.iload_n 1, 1) := by decide +kernel
theorem dX4_aheadOf_51 : decode cX4_aheadOf 51 = .ok (.iload_n 2, 1) := by decide +kernel
theorem dX4_aheadOf_52 : decode cX4_aheadOf 52 = .ok (.invokestatic 94, 3) := by decide +kernel
theorem dX4_aheadOf_55 : decode cX4_aheadOf 55 = .ok (.laload, 1) := by decide +kernel
theorem dX4_aheadOf_56 : decode cX4_aheadOf 56 = .ok (.lcmp, 1) := by decide +kernel
theorem dX4_aheadOf_57 : decode cX4_aheadOf 57 = .ok (.ifCond .gt 25, 3) := by decide +kernel
theorem dX4_aheadOf_60 : decode cX4_aheadOf 60 = .ok (.lload 6, 2) := by decide +kernel
theorem dX4_aheadOf_62 : decode cX4_aheadOf 62 = .ok (.aload_n 0, 1) := by decide +kernel
theorem dX4_aheadOf_63 : decode cX4_aheadOf 63 = .ok (.getfield 7, 3) := by decide +kernel
theorem dX4_aheadOf_66 : decode cX4_aheadOf 66 = .ok (.iload_n 1, 1) := by decide +kernel
theorem dX4_aheadOf_67 : decode cX4_aheadOf 67 = .ok (.iload_n 2, 1) := by decide +kernel
theorem dX4_aheadOf_68 : decode cX4_aheadOf 68 = .ok (.invokestatic 94, 3) := by decide +kernel
theorem dX4_aheadOf_71 : decode cX4_aheadOf 71 = .ok (.laload, 1) := by decide +kernel
theorem dX4_aheadOf_72 : decode cX4_aheadOf 72 = .ok (.lcmp, 1) := by decide +kernel
theorem dX4_aheadOf_73 : decode cX4_aheadOf 73 = .ok (.ifCond .ne 13, 3) := by decide +kernel
theorem dX4_aheadOf_76 : decode cX4_aheadOf 76 = .ok (.iload 5, 2) := by decide +kernel
theorem dX4_aheadOf_78 : decode cX4_aheadOf 78 = .ok (.iload_n 2, 1) := by decide +kernel
theorem dX4_aheadOf_79 : decode cX4_aheadOf 79 = .ok (.if_icmp .ge 7, 3) := by decide +kernel
theorem dX4_aheadOf_82 : decode cX4_aheadOf 82 = .ok (.iconst 1, 1) := by decide +kernel
theorem dX4_aheadOf_83 : decode cX4_aheadOf 83 = .ok (.goto 4, 3) := by decide +kernel
theorem dX4_aheadOf_86 : decode cX4_aheadOf 86 = .ok (.iconst 0, 1) := by decide +kernel
theorem dX4_aheadOf_87 : decode cX4_aheadOf 87 = .ok (.invokestatic 123, 3) := by decide +kernel
theorem dX4_aheadOf_90 : decode cX4_aheadOf 90 = .ok (.iadd, 1) := by decide +kernel
theorem dX4_aheadOf_91 : decode cX4_aheadOf 91 = .ok (.istore 4, 2) := by decide +kernel
theorem dX4_aheadOf_93 : decode cX4_aheadOf 93 = .ok (.iinc 5 1, 3) := by decide +kernel
theorem dX4_aheadOf_96 : decode cX4_aheadOf 96 = .ok (.goto (-90), 3) := by decide +kernel
theorem dX4_aheadOf_99 : decode cX4_aheadOf 99 = .ok (.iload 4, 2) := by decide +kernel
theorem dX4_aheadOf_101 : decode cX4_aheadOf 101 = .ok (.ireturn, 1) := by decide +kernel
theorem dX4_top_0 : decode cX4_top 0 = .ok (.aload_n 0, 1) := by decide +kernel
theorem dX4_top_1 : decode cX4_top 1 = .ok (.iconst 0, 1) := by decide +kernel
theorem dX4_top_2 : decode cX4_top 2 = .ok (.putfield 69, 3) := by decide +kernel
theorem dX4_top_5 : decode cX4_top 5 = .ok (.iload_n 1, 1) := by decide +kernel
theorem dX4_top_6 : decode cX4_top 6 = .ok (.invokestatic 91, 3) := by decide +kernel
theorem dX4_top_9 : decode cX4_top 9 = .ok (.ifCond .eq 12, 3) := by decide +kernel
theorem dX4_top_12 : decode cX4_top 12 = .ok (.aload_n 0, 1) := by decide +kernel
theorem dX4_top_13 : decode cX4_top 13 = .ok (.iload_n 2, 1) := by decide +kernel
theorem dX4_top_14 : decode cX4_top 14 = .ok (.iload_n 3, 1) := by decide +kernel
theorem dX4_top_15 : decode cX4_top 15 = .ok (.invokevirtual 164, 3) := by decide +kernel
theorem dX4_top_18 : decode cX4_top 18 = .ok (.ifCond .ne 9, 3) := by decide +kernel
theorem dX4_top_21 : decode cX4_top 21 = .ok (.aload_n 0, 1) := by decide +kernel
theorem dX4_top_22 : decode cX4_top 22 = .ok (.iconst 1, 1) := by decide +kernel
theorem dX4_top_23 : decode cX4_top 23 = .ok (.invokevirtual 105, 3) := by decide +kernel
theorem dX4_top_26 : decode cX4_top 26 = .ok (.ireturn, 1) := by decide +kernel
theorem dX4_top_27 : decode cX4_top 27 = .ok (.iload 4, 2) := by decide +kernel
theorem dX4_top_29 : decode cX4_top 29 = .ok (.ifCond .ge 9, 3) := by decide +kernel
theorem dX4_top_32 : decode cX4_top 32 = .ok (.aload_n 0, 1) := by decide +kernel
theorem dX4_top_33 : decode cX4_top 33 = .ok (.iconst 2, 1) := by decide +kernel
theorem dX4_top_34 : decode cX4_top 34 = .ok (.invokevirtual 105, 3) := by decide +kernel
theorem dX4_top_37 : decode cX4_top 37 = .ok (.ireturn, 1) := by decide +kernel
theorem dX4_top_38 : decode cX4_top 38 = .ok (.aload_n 0, 1) := by decide +kernel
theorem dX4_top_39 : decode cX4_top 39 = .ok (.invokevirtual 177, 3) := by decide +kernel
theorem dX4_top_42 : decode cX4_top 42 = .ok (.iconst 0, 1) := by decide +kernel
theorem dX4_top_43 : decode cX4_top 43 = .ok (.istore 5, 2) := by decide +kernel
theorem dX4_top_45 : decode cX4_top 45 = .ok (.iload 5, 2) := by decide +kernel
theorem dX4_top_47 : decode cX4_top 47 = .ok (.aload_n 0, 1) := by decide +kernel
theorem dX4_top_48 : decode cX4_top 48 = .ok (.getfield 80, 3) := by decide +kernel
theorem dX4_top_51 : decode cX4_top 51 = .ok (.if_icmp .ge 45, 3) := by decide +kernel
theorem dX4_top_54 : decode cX4_top 54 = .ok (.aload_n 0, 1) := by decide +kernel
theorem dX4_top_55 : decode cX4_top 55 = .ok (.getfield 24, 3) := by decide +kernel
theorem dX4_top_58 : decode cX4_top 58 = .ok (.iload 5, 2) := by decide +kernel
theorem dX4_top_60 : decode cX4_top 60 = .ok (.aload_n 0, 1) := by decide +kernel
theorem dX4_top_61 : decode cX4_top 61 = .ok (.iload_n 2, 1) := by decide +kernel
theorem dX4_top_62 : decode cX4_top 62 = .ok (.iload 5, 2) := by decide +kernel
theorem dX4_top_64 : decode cX4_top 64 = .ok (.iload_n 3, 1) := by decide +kernel
theorem dX4_top_65 : decode cX4_top 65 = .ok (.invokevirtual 170, 3) := by decide +kernel
theorem dX4_top_68 : decode cX4_top 68 = .ok (.ifCond .eq 20, 3) := by decide +kernel
theorem dX4_top_71 : decode cX4_top 71 = .ok (.aload_n 0, 1) := by decide +kernel
theorem dX4_top_72 : decode cX4_top 72 = .ok (.iload_n 2, 1) := by decide +kernel
theorem dX4_top_73 : decode cX4_top 73 = .ok (.iload 5, 2) := by decide +kernel
theorem dX4_top_75 : decode cX4_top 75 = .ok (.iload_n 3, 1) := by decide +kernel
theorem dX4_top_76 : decode cX4_top 76 = .ok (.invokevirtual 180, 3) := by decide +kernel
theorem dX4_top_79 : decode cX4_top 79 = .ok (.iload 4, 2) := by decide +kernel
theorem dX4_top_81 : decode cX4_top 81 = .ok (.if_icmp .ge 7, 3) := by decide +kernel
theorem dX4_top_84 : decode cX4_top 84 = .ok (.iconst 1, 1) := by decide +kernel
theorem dX4_top_85 : decode cX4_top 85 = .ok (.goto 4, 3) := by decide +kernel
theorem dX4_top_88 : decode cX4_top 88 = .ok (.iconst 0, 1) := by decide +kernel
theorem dX4_top_89 : decode cX4_top 89 = .ok (.bastore, 1) := by decide +kernel
theorem dX4_top_90 : decode cX4_top 90 = .ok (.iinc 5 1, 3) := by decide +kernel
theorem dX4_top_93 : decode cX4_top 93 = .ok (.goto (-48), 3) := by decide +kernel
theorem dX4_top_96 : decode cX4_top 96 = .ok (.aload_n 0, 1) := by decide +kernel
theorem dX4_top_97 : decode cX4_top 97 = .ok (.iload_n 1, 1) := by decide +kernel
theorem dX4_top_98 : decode cX4_top 98 = .ok (.invokevirtual 159, 3) := by decide +kernel
theorem dX4_top_101 : decode cX4_top 101 = .ok (.ireturn, 1) := by decide +kernel
theorem dX4_field_0 : decode cX4_field 0 = .ok (.aload_n 0, 1) := by decide +kernel
theorem dX4_field_1 : decode cX4_field 1 = .ok (.iconst 0, 1) := by decide +kernel
theorem dX4_field_2 : decode cX4_field 2 = .ok (.putfield 69, 3) := by decide +kernel
theorem dX4_field_5 : decode cX4_field 5 = .ok (.iload_n 1, 1) := by decide +kernel
theorem dX4_field_6 : decode cX4_field 6 = .ok (.invokestatic 91, 3) := by decide +kernel
theorem dX4_field_9 : decode cX4_field 9 = .ok (.ifCond .eq 31, 3) := by decide +kernel
theorem dX4_field_12 : decode cX4_field 12 = .ok (.aload_n 0, 1) := by decide +kernel
theorem dX4_field_13 : decode cX4_field 13 = .ok (.iload_n 2, 1) := by decide +kernel
theorem dX4_field_14 : decode cX4_field 14 = .ok (.iload 6, 2) := by decide +kernel
theorem dX4_field_16 : decode cX4_field 16 = .ok (.invokevirtual 164, 3) := by decide +kernel
theorem dX4_field_19 : decode cX4_field 19 = .ok (.ifCond .eq 21, 3) := by decide +kernel
theorem dX4_field_22 : decode cX4_field 22 = .ok (.iload_n 3, 1) := by decide +kernel
theorem dX4_field_23 : decode cX4_field 23 = .ok (.i2l, 1) := by decide +kernel
theorem dX4_field_24 : decode cX4_field 24 = .ok (.lconst 0, 1) := by decide +kernel
theorem dX4_field_25 : decode cX4_field 25 = .ok (.aload_n 0, 1) := by decide +kernel
theorem dX4_field_26 : decode cX4_field 26 = .ok (.getfield 17, 3) := by decide +kernel
theorem dX4_field_29 : decode cX4_field 29 = .ok (.iload_n 2, 1) := by decide +kernel
theorem dX4_field_30 : decode cX4_field 30 = .ok (.iaload, 1) := by decide +kernel
theorem dX4_field_31 : decode cX4_field 31 = .ok (.iconst 1, 1) := by decide +kernel
theorem dX4_field_32 : decode cX4_field 32 = .ok (.isub, 1) := by decide +kernel
theorem dX4_field_33 : decode cX4_field 33 = .ok (.i2l, 1) := by decide +kernel
theorem dX4_field_34 : decode cX4_field 34 = .ok (.invokestatic 76, 3) := by decide +kernel
theorem dX4_field_37 : decode cX4_field 37 = .ok (.ifCond .ne 9, 3) := by decide +kernel
theorem dX4_field_40 : decode cX4_field 40 = .ok (.aload_n 0, 1) := by decide +kernel
theorem dX4_field_41 : decode cX4_field 41 = .ok (.iconst 1, 1) := by decide +kernel
theorem dX4_field_42 : decode cX4_field 42 = .ok (.invokevirtual 105, 3) := by decide +kernel
theorem dX4_field_45 : decode cX4_field 45 = .ok (.ireturn, 1) := by decide +kernel
theorem dX4_field_46 : decode cX4_field 46 = .ok (.iload 4, 2) := by decide +kernel
theorem dX4_field_48 : decode cX4_field 48 = .ok (.i2l, 1) := by decide +kernel
theorem dX4_field_49 : decode cX4_field 49 = .ok (.lconst 1, 1) := by decide +kernel
theorem dX4_field_50 : decode cX4_field 50 = .ok (.ldc2_w 184, 3) := by decide +kernel
theorem dX4_field_53 : decode cX4_field 53 = .ok (.invokestatic 76, 3) := by decide +kernel
theorem dX4_field_56 : decode cX4_field 56 = .ok (.ifCond .eq 33, 3) := by decide +kernel
theorem dX4_field_59 : decode cX4_field 59 = .ok (.iload_n 3, 1) := by decide +kernel
theorem dX4_field_60 : decode cX4_field 60 = .ok (.iload 4, 2) := by decide +kernel
theorem dX4_field_62 : decode cX4_field 62 = .ok (.iadd, 1) := by decide +kernel
theorem dX4_field_63 : decode cX4_field 63 = .ok (.aload_n 0, 1) := by decide +kernel
theorem dX4_field_64 : decode cX4_field 64 = .ok (.getfield 17, 3) := by decide +kernel
theorem dX4_field_67 : decode cX4_field 67 = .ok (.iload_n 2, 1) := by decide +kernel
theorem dX4_field_68 : decode cX4_field 68 = .ok (.iaload, 1) := by decide +kernel
theorem dX4_field_69 : decode cX4_field 69 = .ok (.if_icmp .gt 20, 3) := by decide +kernel
theorem dX4_field_72 : decode cX4_field 72 = .ok (.iload 5, 2) := by decide +kernel
theorem dX4_field_74 : decode cX4_field 74 = .ok (.i2l, 1) := by decide +kernel
theorem dX4_field_75 : decode cX4_field 75 = .ok (.lconst 0, 1) := by decide +kernel
theorem dX4_field_76 : decode cX4_field 76 = .ok (.iconst 1, 1) := by decide +kernel
theorem dX4_field_77 : decode cX4_field 77 = .ok (.iload 4, 2) := by decide +kernel
theorem dX4_field_79 : decode cX4_field 79 = .ok (.ishl, 1) := by decide +kernel
theorem dX4_field_80 : decode cX4_field 80 = .ok (.iconst 1, 1) := by decide +kernel
theorem dX4_field_81 : decode cX4_field 81 = .ok (.isub, 1) := by decide +kernel
theorem dX4_field_82 : decode cX4_field 82 = .ok (.i2l, 1) := by decide +kernel
theorem dX4_field_83 : decode cX4_field 83 = .ok (.invokestatic 76, 3) := by decide +kernel
theorem dX4_field_86 : decode cX4_field 86 = .ok (.ifCond .ne 9, 3) := by decide +kernel
theorem dX4_field_89 : decode cX4_field 89 = .ok (.aload_n 0, 1) := by decide +kernel
theorem dX4_field_90 : decode cX4_field 90 = .ok (.iconst 2, 1) := by decide +kernel
theorem dX4_field_91 : decode cX4_field 91 = .ok (.invokevirtual 105, 3) := by decide +kernel
theorem dX4_field_94 : decode cX4_field 94 = .ok (.ireturn, 1) := by decide +kernel
theorem dX4_field_95 : decode cX4_field 95 = .ok (.iconst 0, 1) := by decide +kernel
theorem dX4_field_96 : decode cX4_field 96 = .ok (.istore 7, 2) := by decide +kernel
theorem dX4_field_98 : decode cX4_field 98 = .ok (.iload 7, 2) := by decide +kernel
theorem dX4_field_100 : decode cX4_field 100 = .ok (.sipush 192, 3) := by decide +kernel
theorem dX4_field_103 : decode cX4_field 103 = .ok (.if_icmp .ge 60, 3) := by decide +kernel
theorem dX4_field_106 : decode cX4_field 106 = .ok (.aload_n 0, 1) := by decide +kernel
theorem dX4_field_107 : decode cX4_field 107 = .ok (.getfield 24, 3) := by decide +kernel
theorem dX4_field_110 : decode cX4_field 110 = .ok (.iload 7, 2) := by decide +kernel
theorem dX4_field_112 : decode cX4_field 112 = .ok (.aload_n 0, 1) := by decide +kernel
theorem dX4_field_113 : decode cX4_field 113 = .ok (.iload_n 2, 1) := by decide +kernel
theorem dX4_field_114 : decode cX4_field 114 = .ok (.iload 7, 2) := by decide +kernel
theorem dX4_field_116 : decode cX4_field 116 = .ok (.iload 6, 2) := by decide +kernel
theorem dX4_field_118 : decode cX4_field 118 = .ok (.invokevirtual 170, 3) := by decide +kernel
theorem dX4_field_121 : decode cX4_field 121 = .ok (.ifCond .eq 34, 3) := by decide +kernel
theorem dX4_field_124 : decode cX4_field 124 = .ok (.aload_n 0, 1) := by decide +kernel
theorem dX4_field_125 : decode cX4_field 125 = .ok (.getfield 7, 3) := by decide +kernel
theorem dX4_field_128 : decode cX4_field 128 = .ok (.iload_n 2, 1) := by decide +kernel
theorem dX4_field_129 : decode cX4_field 129 = .ok (.iload 7, 2) := by decide +kernel
theorem dX4_field_131 : decode cX4_field 131 = .ok (.invokestatic 94, 3) := by decide +kernel
theorem dX4_field_134 : decode cX4_field 134 = .ok (.laload, 1) := by decide +kernel
theorem dX4_field_135 : decode cX4_field 135 = .ok (.iload_n 3, 1) := by decide +kernel
theorem dX4_field_136 : decode cX4_field 136 = .ok (.lshr, 1) := by decide +kernel
theorem dX4_field_137 : decode cX4_field 137 = .ok (.lconst 1, 1) := by decide +kernel
theorem dX4_field_138 : decode cX4_field 138 = .ok (.iload 4, 2) := by decide +kernel
theorem dX4_field_140 : decode cX4_field 140 = .ok (.lshl, 1) := by decide +kernel
theorem dX4_field_141 : decode cX4_field 141 = .ok (.lconst 1, 1) := by decide +kernel
theorem dX4_field_142 : decode cX4_field 142 = .ok (.lsub, 1) := by decide +kernel
theorem dX4_field_143 : decode cX4_field 143 = .ok (.land, 1) := by decide +kernel
theorem dX4_field_144 : decode cX4_field 144 = .ok (.iload 5, 2) := by decide +kernel
theorem dX4_field_146 : decode cX4_field 146 = .ok (.i2l, 1) := by decide +kernel
theorem dX4_field_147 : decode cX4_field 147 = .ok (.lcmp, 1) := by decide +kernel
theorem dX4_field_148 : decode cX4_field 148 = .ok (.ifCond .ne 7, 3) := by decide +kernel
theorem dX4_field_151 : decode cX4_field 151 = .ok (.iconst 1, 1) := by decide +kernel
theorem dX4_field_152 : decode cX4_field 152 = .ok (.goto 4, 3) := by decide +kernel
theorem dX4_field_155 : decode cX4_field 155 = .ok (.iconst 0, 1) := by decide +kernel
theorem dX4_field_156 : decode cX4_field 156 = .ok (.bastore, 1) := by decide +kernel
theorem dX4_field_157 : decode cX4_field 157 = .ok (.iinc 7 1, 3) := by decide +kernel
theorem dX4_field_160 : decode cX4_field 160 = .ok (.goto (-62), 3) := by decide +kernel
theorem dX4_field_163 : decode cX4_field 163 = .ok (.aload_n 0, 1) := by decide +kernel
theorem dX4_field_164 : decode cX4_field 164 = .ok (.iload_n 1, 1) := by decide +kernel
theorem dX4_field_165 : decode cX4_field 165 = .ok (.invokevirtual 159, 3) := by decide +kernel
theorem dX4_field_168 : decode cX4_field 168 = .ok (.ireturn, 1) := by decide +kernel
theorem dX4_move_0 : decode cX4_move 0 = .ok (.aload_n 0, 1) := by decide +kernel
theorem dX4_move_1 : decode cX4_move 1 = .ok (.iconst 0, 1) := by decide +kernel
theorem dX4_move_2 : decode cX4_move 2 = .ok (.putfield 69, 3) := by decide +kernel
theorem dX4_move_5 : decode cX4_move 5 = .ok (.iload_n 1, 1) := by decide +kernel
theorem dX4_move_6 : decode cX4_move 6 = .ok (.invokestatic 91, 3) := by decide +kernel
theorem dX4_move_9 : decode cX4_move 9 = .ok (.ifCond .eq 10, 3) := by decide +kernel
theorem dX4_move_12 : decode cX4_move 12 = .ok (.iload_n 2, 1) := by decide +kernel
theorem dX4_move_13 : decode cX4_move 13 = .ok (.invokestatic 91, 3) := by decide +kernel
theorem dX4_move_16 : decode cX4_move 16 = .ok (.ifCond .ne 9, 3) := by decide +kernel
theorem dX4_move_19 : decode cX4_move 19 = .ok (.aload_n 0, 1) := by decide +kernel
theorem dX4_move_20 : decode cX4_move 20 = .ok (.iconst 1, 1) := by decide +kernel
theorem dX4_move_21 : decode cX4_move 21 = .ok (.invokevirtual 105, 3) := by decide +kernel
theorem dX4_move_24 : decode cX4_move 24 = .ok (.ireturn, 1) := by decide +kernel
theorem dX4_move_25 : decode cX4_move 25 = .ok (.iload_n 3, 1) := by decide +kernel
theorem dX4_move_26 : decode cX4_move 26 = .ok (.i2l, 1) := by decide +kernel
theorem dX4_move_27 : decode cX4_move 27 = .ok (.ldc2_w 186, 3) := by decide +kernel
theorem dX4_move_30 : decode cX4_move 30 = .ok (.ldc2_w 188, 3) := by decide +kernel
theorem dX4_move_33 : decode cX4_move 33 = .ok (.invokestatic 76, 3) := by decide +kernel
theorem dX4_move_36 : decode cX4_move 36 = .ok (.ifCond .ne 9, 3) := by decide +kernel
theorem dX4_move_39 : decode cX4_move 39 = .ok (.aload_n 0, 1) := by decide +kernel
theorem dX4_move_40 : decode cX4_move 40 = .ok (.iconst 2, 1) := by decide +kernel
theorem dX4_move_41 : decode cX4_move 41 = .ok (.invokevirtual 105, 3) := by decide +kernel
theorem dX4_move_44 : decode cX4_move 44 = .ok (.ireturn, 1) := by decide +kernel
theorem dX4_move_45 : decode cX4_move 45 = .ok (.iconst 0, 1) := by decide +kernel
theorem dX4_move_46 : decode cX4_move 46 = .ok (.istore 4, 2) := by decide +kernel
theorem dX4_move_48 : decode cX4_move 48 = .ok (.iload 4, 2) := by decide +kernel
theorem dX4_move_50 : decode cX4_move 50 = .ok (.sipush 192, 3) := by decide +kernel
theorem dX4_move_53 : decode cX4_move 53 = .ok (.if_icmp .ge 48, 3) := by decide +kernel
theorem dX4_move_56 : decode cX4_move 56 = .ok (.aload_n 0, 1) := by decide +kernel
theorem dX4_move_57 : decode cX4_move 57 = .ok (.getfield 24, 3) := by decide +kernel
theorem dX4_move_60 : decode cX4_move 60 = .ok (.iload 4, 2) := by decide +kernel
theorem dX4_move_62 : decode cX4_move 62 = .ok (.aload_n 0, 1) := by decide +kernel
theorem dX4_move_63 : decode cX4_move 63 = .ok (.iload 4, 2) := by decide +kernel
theorem dX4_move_65 : decode cX4_move 65 = .ok (.iload_n 3, 1) := by decide +kernel
theorem dX4_move_66 : decode cX4_move 66 = .ok (.isub, 1) := by decide +kernel
theorem dX4_move_67 : decode cX4_move 67 = .ok (.invokevirtual 113, 3) := by decide +kernel
theorem dX4_move_70 : decode cX4_move 70 = .ok (.ifCond .eq 23, 3) := by decide +kernel
theorem dX4_move_73 : decode cX4_move 73 = .ok (.aload_n 0, 1) := by decide +kernel
theorem dX4_move_74 : decode cX4_move 74 = .ok (.getfield 21, 3) := by decide +kernel
theorem dX4_move_77 : decode cX4_move 77 = .ok (.iload_n 2, 1) := by decide +kernel
theorem dX4_move_78 : decode cX4_move 78 = .ok (.iload 4, 2) := by decide +kernel
theorem dX4_move_80 : decode cX4_move 80 = .ok (.iload_n 3, 1) := by decide +kernel
theorem dX4_move_81 : decode cX4_move 81 = .ok (.isub, 1) := by decide +kernel
theorem dX4_move_82 : decode cX4_move 82 = .ok (.invokestatic 94, 3) := by decide +kernel
theorem dX4_move_85 : decode cX4_move 85 = .ok (.baload, 1) := by decide +kernel
theorem dX4_move_86 : decode cX4_move 86 = .ok (.ifCond .eq 7, 3) := by decide +kernel
theorem dX4_move_89 : decode cX4_move 89 = .ok (.iconst 1, 1) := by decide +kernel
theorem dX4_move_90 : decode cX4_move 90 = .ok (.goto 4, 3) := by decide +kernel
theorem dX4_move_93 : decode cX4_move 93 = .ok (.iconst 0, 1) := by decide +kernel
theorem dX4_move_94 : decode cX4_move 94 = .ok (.bastore, 1) := by decide +kernel
theorem dX4_move_95 : decode cX4_move 95 = .ok (.iinc 4 1, 3) := by decide +kernel
theorem dX4_move_98 : decode cX4_move 98 = .ok (.goto (-50), 3) := by decide +kernel
theorem dX4_move_101 : decode cX4_move 101 = .ok (.aload_n 0, 1) := by decide +kernel
theorem dX4_move_102 : decode cX4_move 102 = .ok (.iload_n 1, 1) := by decide +kernel
theorem dX4_move_103 : decode cX4_move 103 = .ok (.invokevirtual 159, 3) := by decide +kernel
theorem dX4_move_106 : decode cX4_move 106 = .ok (.ireturn, 1) := by decide +kernel
theorem dX4_areAlike_0 : decode cX4_areAlike 0 = .ok (.iconst 0, 1) := by decide +kernel
theorem dX4_areAlike_1 : decode cX4_areAlike 1 = .ok (.istore_n 3, 1) := by decide +kernel
theorem dX4_areAlike_2 : decode cX4_areAlike 2 = .ok (.iload_n 3, 1) := by decide +kernel
theorem dX4_areAlike_3 : decode cX4_areAlike 3 = .ok (.aload_n 0, 1) := by decide +kernel
theorem dX4_areAlike_4 : decode cX4_areAlike 4 = .ok (.getfield 73, 3) := by decide +kernel
theorem dX4_areAlike_7 : decode cX4_areAlike 7 = .ok (.if_icmp .ge 70, 3) := by decide +kernel
theorem dX4_areAlike_10 : decode cX4_areAlike 10 = .ok (.iload_n 3, 1) := by decide +kernel
theorem dX4_areAlike_11 : decode cX4_areAlike 11 = .ok (.iload_n 1, 1) := by decide +kernel
theorem dX4_areAlike_12 : decode cX4_areAlike 12 = .ok (.invokestatic 94, 3) := by decide +kernel
theorem dX4_areAlike_15 : decode cX4_areAlike 15 = .ok (.istore 4, 2) := by decide +kernel
theorem dX4_areAlike_17 : decode cX4_areAlike 17 = .ok (.iload_n 3, 1) := by decide +kernel
theorem dX4_areAlike_18 : decode cX4_areAlike 18 = .ok (.iload_n 2, 1) := by decide +kernel
theorem dX4_areAlike_19 : decode cX4_areAlike 19 = .ok (.invokestatic 94, 3) := by decide +kernel
theorem dX4_areAlike_22 : decode cX4_areAlike 22 = .ok (.istore 5, 2) := by decide +kernel
theorem dX4_areAlike_24 : decode cX4_areAlike 24 = .ok (.aload_n 0, 1) := by decide +kernel
theorem dX4_areAlike_25 : decode cX4_areAlike 25 = .ok (.getfield 13, 3) := by decide +kernel
theorem dX4_areAlike_28 : decode cX4_areAlike 28 = .ok (.iload 4, 2) := by decide +kernel
theorem dX4_areAlike_30 : decode cX4_areAlike 30 = .ok (.baload, 1) := by decide +kernel
theorem dX4_areAlike_31 : decode cX4_areAlike 31 = .ok (.aload_n 0, 1) := by decide +kernel
theorem dX4_areAlike_32 : decode cX4_areAlike 32 = .ok (.getfield 13, 3) := by decide +kernel
theorem dX4_areAlike_35 : decode cX4_areAlike 35 = .ok (.iload 5, 2) := by decide +kernel
theorem dX4_areAlike_37 : decode cX4_areAlike 37 = .ok (.baload, 1) := by decide +kernel
theorem dX4_areAlike_38 : decode cX4_areAlike 38 = .ok (.if_icmp .ne 31, 3) := by decide +kernel
theorem dX4_areAlike_41 : decode cX4_areAlike 41 = .ok (.aload_n 0, 1) := by decide +kernel
theorem dX4_areAlike_42 : decode cX4_areAlike 42 = .ok (.getfield 13, 3) := by decide +kernel
theorem dX4_areAlike_45 : decode cX4_areAlike 45 = .ok (.iload 4, 2) := by decide +kernel
theorem dX4_areAlike_47 : decode cX4_areAlike 47 = .ok (.baload, 1) := by decide +kernel
theorem dX4_areAlike_48 : decode cX4_areAlike 48 = .ok (.ifCond .eq 23, 3) := by decide +kernel
theorem dX4_areAlike_51 : decode cX4_areAlike 51 = .ok (.aload_n 0, 1) := by decide +kernel
theorem dX4_areAlike_52 : decode cX4_areAlike 52 = .ok (.getfield 7, 3) := by decide +kernel
theorem dX4_areAlike_55 : decode cX4_areAlike 55 = .ok (.iload 4, 2) := by decide +kernel
theorem dX4_areAlike_57 : decode cX4_areAlike 57 = .ok (.laload, 1) := by decide +kernel
theorem dX4_areAlike_58 : decode cX4_areAlike 58 = .ok (.aload_n 0, 1) := by decide +kernel
theorem dX4_areAlike_59 : decode cX4_areAlike 59 = .ok (.getfield 7, 3) := by decide +kernel
theorem dX4_areAlike_62 : decode cX4_areAlike 62 = .ok (.iload 5, 2) := by decide +kernel
theorem dX4_areAlike_64 : decode cX4_areAlike 64 = .ok (.laload, 1) := by decide +kernel
theorem dX4_areAlike_65 : decode cX4_areAlike 65 = .ok (.lcmp, 1) := by decide +kernel
theorem dX4_areAlike_66 : decode cX4_areAlike 66 = .ok (.ifCond .eq 5, 3) := by decide +kernel
theorem dX4_areAlike_69 : decode cX4_areAlike 69 = .ok (.iconst 0, 1) := by decide +kernel
theorem dX4_areAlike_70 : decode cX4_areAlike 70 = .ok (.ireturn, 1) := by decide +kernel
theorem dX4_areAlike_71 : decode cX4_areAlike 71 = .ok (.iinc 3 1, 3) := by decide +kernel
theorem dX4_areAlike_74 : decode cX4_areAlike 74 = .ok (.goto (-72), 3) := by decide +kernel
theorem dX4_areAlike_77 : decode cX4_areAlike 77 = .ok (.iconst 1, 1) := by decide +kernel
theorem dX4_areAlike_78 : decode cX4_areAlike 78 = .ok (.ireturn, 1) := by decide +kernel
theorem dX4_isFirst_0 : decode cX4_isFirst 0 = .ok (.iconst 0, 1) := by decide +kernel
theorem dX4_isFirst_1 : decode cX4_isFirst 1 = .ok (.istore_n 3, 1) := by decide +kernel
theorem dX4_isFirst_2 : decode cX4_isFirst 2 = .ok (.iload_n 3, 1) := by decide +kernel
theorem dX4_isFirst_3 : decode cX4_isFirst 3 = .ok (.iload_n 1, 1) := by decide +kernel
theorem dX4_isFirst_4 : decode cX4_isFirst 4 = .ok (.if_icmp .ge 33, 3) := by decide +kernel
theorem dX4_isFirst_7 : decode cX4_isFirst 7 = .ok (.aload_n 0, 1) := by decide +kernel
theorem dX4_isFirst_8 : decode cX4_isFirst 8 = .ok (.getfield 21, 3) := by decide +kernel
theorem dX4_isFirst_11 : decode cX4_isFirst 11 = .ok (.iload_n 2, 1) := by decide +kernel
theorem dX4_isFirst_12 : decode cX4_isFirst 12 = .ok (.iload_n 3, 1) := by decide +kernel
theorem dX4_isFirst_13 : decode cX4_isFirst 13 = .ok (.invokestatic 94, 3) := by decide +kernel
theorem dX4_isFirst_16 : decode cX4_isFirst 16 = .ok (.baload, 1) := by decide +kernel
theorem dX4_isFirst_17 : decode cX4_isFirst 17 = .ok (.ifCond .eq 14, 3) := by decide +kernel
theorem dX4_isFirst_20 : decode cX4_isFirst 20 = .ok (.aload_n 0, 1) := by decide +kernel
theorem dX4_isFirst_21 : decode cX4_isFirst 21 = .ok (.iload_n 3, 1) := by decide +kernel
theorem dX4_isFirst_22 : decode cX4_isFirst 22 = .ok (.iload_n 1, 1) := by decide +kernel
theorem dX4_isFirst_23 : decode cX4_isFirst 23 = .ok (.invokevirtual 190, 3) := by decide +kernel
theorem dX4_isFirst_26 : decode cX4_isFirst 26 = .ok (.ifCond .eq 5, 3) := by decide +kernel
theorem dX4_isFirst_29 : decode cX4_isFirst 29 = .ok (.iconst 0, 1) := by decide +kernel
theorem dX4_isFirst_30 : decode cX4_isFirst 30 = .ok (.ireturn, 1) := by decide +kernel
theorem dX4_isFirst_31 : decode cX4_isFirst 31 = .ok (.iinc 3 1, 3) := by decide +kernel
theorem dX4_isFirst_34 : decode cX4_isFirst 34 = .ok (.goto (-32), 3) := by decide +kernel
theorem dX4_isFirst_37 : decode cX4_isFirst 37 = .ok (.aload_n 0, 1) := by decide +kernel
theorem dX4_isFirst_38 : decode cX4_isFirst 38 = .ok (.getfield 21, 3) := by decide +kernel
theorem dX4_isFirst_41 : decode cX4_isFirst 41 = .ok (.iload_n 2, 1) := by decide +kernel
theorem dX4_isFirst_42 : decode cX4_isFirst 42 = .ok (.iload_n 1, 1) := by decide +kernel
theorem dX4_isFirst_43 : decode cX4_isFirst 43 = .ok (.invokestatic 94, 3) := by decide +kernel
theorem dX4_isFirst_46 : decode cX4_isFirst 46 = .ok (.baload, 1) := by decide +kernel
theorem dX4_isFirst_47 : decode cX4_isFirst 47 = .ok (.ireturn, 1) := by decide +kernel
theorem dX4_firsts_0 : decode cX4_firsts 0 = .ok (.aload_n 0, 1) := by decide +kernel
theorem dX4_firsts_1 : decode cX4_firsts 1 = .ok (.iconst 0, 1) := by decide +kernel
theorem dX4_firsts_2 : decode cX4_firsts 2 = .ok (.putfield 69, 3) := by decide +kernel
theorem dX4_firsts_5 : decode cX4_firsts 5 = .ok (.iload_n 1, 1) := by decide +kernel
theorem dX4_firsts_6 : decode cX4_firsts 6 = .ok (.invokestatic 91, 3) := by decide +kernel
theorem dX4_firsts_9 : decode cX4_firsts 9 = .ok (.ifCond .eq 10, 3) := by decide +kernel
theorem dX4_firsts_12 : decode cX4_firsts 12 = .ok (.iload_n 2, 1) := by decide +kernel
theorem dX4_firsts_13 : decode cX4_firsts 13 = .ok (.invokestatic 91, 3) := by decide +kernel
theorem dX4_firsts_16 : decode cX4_firsts 16 = .ok (.ifCond .ne 9, 3) := by decide +kernel
theorem dX4_firsts_19 : decode cX4_firsts 19 = .ok (.aload_n 0, 1) := by decide +kernel
theorem dX4_firsts_20 : decode cX4_firsts 20 = .ok (.iconst 1, 1) := by decide +kernel
theorem dX4_firsts_21 : decode cX4_firsts 21 = .ok (.invokevirtual 105, 3) := by decide +kernel
theorem dX4_firsts_24 : decode cX4_firsts 24 = .ok (.ireturn, 1) := by decide +kernel
theorem dX4_firsts_25 : decode cX4_firsts 25 = .ok (.aload_n 0, 1) := by decide +kernel
theorem dX4_firsts_26 : decode cX4_firsts 26 = .ok (.invokevirtual 177, 3) := by decide +kernel
theorem dX4_firsts_29 : decode cX4_firsts 29 = .ok (.iconst 0, 1) := by decide +kernel
theorem dX4_firsts_30 : decode cX4_firsts 30 = .ok (.istore_n 3, 1) := by decide +kernel
theorem dX4_firsts_31 : decode cX4_firsts 31 = .ok (.iload_n 3, 1) := by decide +kernel
theorem dX4_firsts_32 : decode cX4_firsts 32 = .ok (.aload_n 0, 1) := by decide +kernel
theorem dX4_firsts_33 : decode cX4_firsts 33 = .ok (.getfield 80, 3) := by decide +kernel
theorem dX4_firsts_36 : decode cX4_firsts 36 = .ok (.if_icmp .ge 21, 3) := by decide +kernel
theorem dX4_firsts_39 : decode cX4_firsts 39 = .ok (.aload_n 0, 1) := by decide +kernel
theorem dX4_firsts_40 : decode cX4_firsts 40 = .ok (.getfield 24, 3) := by decide +kernel
theorem dX4_firsts_43 : decode cX4_firsts 43 = .ok (.iload_n 3, 1) := by decide +kernel
theorem dX4_firsts_44 : decode cX4_firsts 44 = .ok (.aload_n 0, 1) := by decide +kernel
theorem dX4_firsts_45 : decode cX4_firsts 45 = .ok (.iload_n 3, 1) := by decide +kernel
theorem dX4_firsts_46 : decode cX4_firsts 46 = .ok (.iload_n 2, 1) := by decide +kernel
theorem dX4_firsts_47 : decode cX4_firsts 47 = .ok (.invokevirtual 193, 3) := by decide +kernel
theorem dX4_firsts_50 : decode cX4_firsts 50 = .ok (.bastore, 1) := by decide +kernel
theorem dX4_firsts_51 : decode cX4_firsts 51 = .ok (.iinc 3 1, 3) := by decide +kernel
theorem dX4_firsts_54 : decode cX4_firsts 54 = .ok (.goto (-23), 3) := by decide +kernel
theorem dX4_firsts_57 : decode cX4_firsts 57 = .ok (.aload_n 0, 1) := by decide +kernel
theorem dX4_firsts_58 : decode cX4_firsts 58 = .ok (.iload_n 1, 1) := by decide +kernel
theorem dX4_firsts_59 : decode cX4_firsts 59 = .ok (.invokevirtual 159, 3) := by decide +kernel
theorem dX4_firsts_62 : decode cX4_firsts 62 = .ok (.ireturn, 1) := by decide +kernel
theorem dX4_runs_0 : decode cX4_runs 0 = .ok (.aload_n 0, 1) := by decide +kernel
theorem dX4_runs_1 : decode cX4_runs 1 = .ok (.iconst 0, 1) := by decide +kernel
theorem dX4_runs_2 : decode cX4_runs 2 = .ok (.putfield 69, 3) := by decide +kernel
theorem dX4_runs_5 : decode cX4_runs 5 = .ok (.iload_n 1, 1) := by decide +kernel
theorem dX4_runs_6 : decode cX4_runs 6 = .ok (.invokestatic 91, 3) := by decide +kernel
theorem dX4_runs_9 : decode cX4_runs 9 = .ok (.ifCond .ne 9, 3) := by decide +kernel
theorem dX4_runs_12 : decode cX4_runs 12 = .ok (.aload_n 0, 1) := by decide +kernel
theorem dX4_runs_13 : decode cX4_runs 13 = .ok (.iconst 1, 1) := by decide +kernel
theorem dX4_runs_14 : decode cX4_runs 14 = .ok (.invokevirtual 105, 3) := by decide +kernel
theorem dX4_runs_17 : decode cX4_runs 17 = .ok (.ireturn, 1) := by decide +kernel
theorem dX4_runs_18 : decode cX4_runs 18 = .ok (.iload_n 2, 1) := by decide +kernel
theorem dX4_runs_19 : decode cX4_runs 19 = .ok (.i2l, 1) := by decide +kernel
theorem dX4_runs_20 : decode cX4_runs 20 = .ok (.lconst 0, 1) := by decide +kernel
theorem dX4_runs_21 : decode cX4_runs 21 = .ok (.ldc2_w 85, 3) := by decide +kernel
theorem dX4_runs_24 : decode cX4_runs 24 = .ok (.invokestatic 76, 3) := by decide +kernel
theorem dX4_runs_27 : decode cX4_runs 27 = .ok (.ifCond .ne 9, 3) := by decide +kernel
theorem dX4_runs_30 : decode cX4_runs 30 = .ok (.aload_n 0, 1) := by decide +kernel
theorem dX4_runs_31 : decode cX4_runs 31 = .ok (.iconst 2, 1) := by decide +kernel
theorem dX4_runs_32 : decode cX4_runs 32 = .ok (.invokevirtual 105, 3) := by decide +kernel
theorem dX4_runs_35 : decode cX4_runs 35 = .ok (.ireturn, 1) := by decide +kernel
theorem dX4_runs_36 : decode cX4_runs 36 = .ok (.iconst 0, 1) := by decide +kernel
theorem dX4_runs_37 : decode cX4_runs 37 = .ok (.istore_n 3, 1) := by decide +kernel
theorem dX4_runs_38 : decode cX4_runs 38 = .ok (.iconst 0, 1) := by decide +kernel
theorem dX4_runs_39 : decode cX4_runs 39 = .ok (.istore 4, 2) := by decide +kernel
theorem dX4_runs_41 : decode cX4_runs 41 = .ok (.iconst (-1), 1) := by decide +kernel
theorem dX4_runs_42 : decode cX4_runs 42 = .ok (.istore 5, 2) := by decide +kernel
theorem dX4_runs_44 : decode cX4_runs 44 = .ok (.iconst 0, 1) := by decide +kernel
theorem dX4_runs_45 : decode cX4_runs 45 = .ok (.istore 6, 2) := by decide +kernel
theorem dX4_runs_47 : decode cX4_runs 47 = .ok (.iconst 0, 1) := by decide +kernel
theorem dX4_runs_48 : decode cX4_runs 48 = .ok (.istore 7, 2) := by decide +kernel
theorem dX4_runs_50 : decode cX4_runs 50 = .ok (.iload 7, 2) := by decide +kernel
theorem dX4_runs_52 : decode cX4_runs 52 = .ok (.aload_n 0, 1) := by decide +kernel
theorem dX4_runs_53 : decode cX4_runs 53 = .ok (.getfield 80, 3) := by decide +kernel
theorem dX4_runs_56 : decode cX4_runs 56 = .ok (.if_icmp .ge 73, 3) := by decide +kernel
theorem dX4_runs_59 : decode cX4_runs 59 = .ok (.aload_n 0, 1) := by decide +kernel
theorem dX4_runs_60 : decode cX4_runs 60 = .ok (.getfield 21, 3) := by decide +kernel
theorem dX4_runs_63 : decode cX4_runs 63 = .ok (.iload_n 1, 1) := by decide +kernel
theorem dX4_runs_64 : decode cX4_runs 64 = .ok (.iload 7, 2) := by decide +kernel
theorem dX4_runs_66 : decode cX4_runs 66 = .ok (.invokestatic 94, 3) := by decide +kernel
theorem dX4_runs_69 : decode cX4_runs 69 = .ok (.baload, 1) := by decide +kernel
theorem dX4_runs_70 : decode cX4_runs 70 = .ok (.ifCond .eq 10, 3) := by decide +kernel
theorem dX4_runs_73 : decode cX4_runs 73 = .ok (.iload 6, 2) := by decide +kernel
theorem dX4_runs_75 : decode cX4_runs 75 = .ok (.iconst 1, 1) := by decide +kernel
theorem dX4_runs_76 : decode cX4_runs 76 = .ok (.iadd, 1) := by decide +kernel
theorem dX4_runs_77 : decode cX4_runs 77 = .ok (.goto 4, 3) := by decide +kernel
theorem dX4_runs_80 : decode cX4_runs 80 = .ok (.iconst 0, 1) := by decide +kernel
theorem dX4_runs_81 : decode cX4_runs 81 = .ok (.istore 6, 2) := by decide +kernel
theorem dX4_runs_83 : decode cX4_runs 83 = .ok (.iload_n 3, 1) := by decide +kernel
theorem dX4_runs_84 : decode cX4_runs 84 = .ok (.iload 6, 2) := by decide +kernel
theorem dX4_runs_86 : decode cX4_runs 86 = .ok (.iconst 1, 1) := by decide +kernel
theorem dX4_runs_87 : decode cX4_runs 87 = .ok (.if_icmp .ne 7, 3) := by decide +kernel
theorem dX4_runs_90 : decode cX4_runs 90 = .ok (.iconst 1, 1) := by decide +kernel
theorem dX4_runs_91 : decode cX4_runs 91 = .ok (.goto 4, 3) := by decide +kernel
theorem dX4_runs_94 : decode cX4_runs 94 = .ok (.iconst 0, 1) := by decide +kernel
theorem dX4_runs_95 : decode cX4_runs 95 = .ok (.invokestatic 123, 3) := by decide +kernel
theorem dX4_runs_98 : decode cX4_runs 98 = .ok (.iadd, 1) := by decide +kernel
theorem dX4_runs_99 : decode cX4_runs 99 = .ok (.istore_n 3, 1) := by decide +kernel
theorem dX4_runs_100 : decode cX4_runs 100 = .ok (.iload 6, 2) := by decide +kernel
theorem dX4_runs_102 : decode cX4_runs 102 = .ok (.iload 4, 2) := by decide +kernel
theorem dX4_runs_104 : decode cX4_runs 104 = .ok (.if_icmp .gt 6, 3) := by decide +kernel
theorem dX4_runs_107 : decode cX4_runs 107 = .ok (.goto 16, 3) := by decide +kernel
theorem dX4_runs_110 : decode cX4_runs 110 = .ok (.iload 6, 2) := by decide +kernel
theorem dX4_runs_112 : decode cX4_runs 112 = .ok (.istore 4, 2) := by decide +kernel
theorem dX4_runs_114 : decode cX4_runs 114 = .ok (.iload 7, 2) := by decide +kernel
theorem dX4_runs_116 : decode cX4_runs 116 = .ok (.iload 6, 2) := by decide +kernel
theorem dX4_runs_118 : decode cX4_runs 118 = .ok (.isub, 1) := by decide +kernel
theorem dX4_runs_119 : decode cX4_runs 119 = .ok (.iconst 1, 1) := by decide +kernel
theorem dX4_runs_120 : decode cX4_runs 120 = .ok (.iadd, 1) := by decide +kernel
theorem dX4_runs_121 : decode cX4_runs 121 = .ok (.istore 5, 2) := by decide +kernel
theorem dX4_runs_123 : decode cX4_runs 123 = .ok (.iinc 7 1, 3) := by decide +kernel
theorem dX4_runs_126 : decode cX4_runs 126 = .ok (.goto (-76), 3) := by decide +kernel
theorem dX4_runs_129 : decode cX4_runs 129 = .ok (.iload_n 2, 1) := by decide +kernel
theorem dX4_runs_130 : decode cX4_runs 130 = .ok (.ifCond .ne 7, 3) := by decide +kernel
theorem dX4_runs_133 : decode cX4_runs 133 = .ok (.iload_n 3, 1) := by decide +kernel
theorem dX4_runs_134 : decode cX4_runs 134 = .ok (.goto 15, 3) := by decide +kernel
theorem dX4_runs_137 : decode cX4_runs 137 = .ok (.iload_n 2, 1) := by decide +kernel
theorem dX4_runs_138 : decode cX4_runs 138 = .ok (.iconst 1, 1) := by decide +kernel
theorem dX4_runs_139 : decode cX4_runs 139 = .ok (.if_icmp .ne 8, 3) := by decide +kernel
theorem dX4_runs_142 : decode cX4_runs 142 = .ok (.iload 4, 2) := by decide +kernel
theorem dX4_runs_144 : decode cX4_runs 144 = .ok (.goto 5, 3) := by decide +kernel
theorem dX4_runs_147 : decode cX4_runs 147 = .ok (.iload 5, 2) := by decide +kernel
theorem dX4_runs_149 : decode cX4_runs 149 = .ok (.ireturn, 1) := by decide +kernel
theorem dX4_alike_0 : decode cX4_alike 0 = .ok (.aload_n 0, 1) := by decide +kernel
theorem dX4_alike_1 : decode cX4_alike 1 = .ok (.iconst 0, 1) := by decide +kernel
theorem dX4_alike_2 : decode cX4_alike 2 = .ok (.putfield 69, 3) := by decide +kernel
theorem dX4_alike_5 : decode cX4_alike 5 = .ok (.aload_n 0, 1) := by decide +kernel
theorem dX4_alike_6 : decode cX4_alike 6 = .ok (.iload_n 1, 1) := by decide +kernel
theorem dX4_alike_7 : decode cX4_alike 7 = .ok (.invokevirtual 113, 3) := by decide +kernel
theorem dX4_alike_10 : decode cX4_alike 10 = .ok (.ifCond .eq 11, 3) := by decide +kernel
theorem dX4_alike_13 : decode cX4_alike 13 = .ok (.aload_n 0, 1) := by decide +kernel
theorem dX4_alike_14 : decode cX4_alike 14 = .ok (.iload_n 2, 1) := by decide +kernel
theorem dX4_alike_15 : decode cX4_alike 15 = .ok (.invokevirtual 113, 3) := by decide +kernel
theorem dX4_alike_18 : decode cX4_alike 18 = .ok (.ifCond .ne 9, 3) := by decide +kernel
theorem dX4_alike_21 : decode cX4_alike 21 = .ok (.aload_n 0, 1) := by decide +kernel
theorem dX4_alike_22 : decode cX4_alike 22 = .ok (.iconst 1, 1) := by decide +kernel
theorem dX4_alike_23 : decode cX4_alike 23 = .ok (.invokevirtual 105, 3) := by decide +kernel
theorem dX4_alike_26 : decode cX4_alike 26 = .ok (.ireturn, 1) := by decide +kernel
theorem dX4_alike_27 : decode cX4_alike 27 = .ok (.aload_n 0, 1) := by decide +kernel
theorem dX4_alike_28 : decode cX4_alike 28 = .ok (.iload_n 1, 1) := by decide +kernel
theorem dX4_alike_29 : decode cX4_alike 29 = .ok (.iload_n 2, 1) := by decide +kernel
theorem dX4_alike_30 : decode cX4_alike 30 = .ok (.invokevirtual 190, 3) := by decide +kernel
theorem dX4_alike_33 : decode cX4_alike 33 = .ok (.invokestatic 123, 3) := by decide +kernel
theorem dX4_alike_36 : decode cX4_alike 36 = .ok (.ireturn, 1) := by decide +kernel
theorem dX4_row_0 : decode cX4_row 0 = .ok (.aload_n 0, 1) := by decide +kernel
theorem dX4_row_1 : decode cX4_row 1 = .ok (.iconst 0, 1) := by decide +kernel
theorem dX4_row_2 : decode cX4_row 2 = .ok (.putfield 69, 3) := by decide +kernel
theorem dX4_row_5 : decode cX4_row 5 = .ok (.iload_n 1, 1) := by decide +kernel
theorem dX4_row_6 : decode cX4_row 6 = .ok (.invokestatic 91, 3) := by decide +kernel
theorem dX4_row_9 : decode cX4_row 9 = .ok (.ifCond .ne 9, 3) := by decide +kernel
theorem dX4_row_12 : decode cX4_row 12 = .ok (.aload_n 0, 1) := by decide +kernel
theorem dX4_row_13 : decode cX4_row 13 = .ok (.iconst 1, 1) := by decide +kernel
theorem dX4_row_14 : decode cX4_row 14 = .ok (.invokevirtual 105, 3) := by decide +kernel
theorem dX4_row_17 : decode cX4_row 17 = .ok (.ireturn, 1) := by decide +kernel
theorem dX4_row_18 : decode cX4_row 18 = .ok (.iconst 0, 1) := by decide +kernel
theorem dX4_row_19 : decode cX4_row 19 = .ok (.istore_n 3, 1) := by decide +kernel
theorem dX4_row_20 : decode cX4_row 20 = .ok (.iconst 0, 1) := by decide +kernel
theorem dX4_row_21 : decode cX4_row 21 = .ok (.istore 4, 2) := by decide +kernel
theorem dX4_row_23 : decode cX4_row 23 = .ok (.iload 4, 2) := by decide +kernel
theorem dX4_row_25 : decode cX4_row 25 = .ok (.aload_n 0, 1) := by decide +kernel
theorem dX4_row_26 : decode cX4_row 26 = .ok (.getfield 80, 3) := by decide +kernel
theorem dX4_row_29 : decode cX4_row 29 = .ok (.if_icmp .ge 37, 3) := by decide +kernel
theorem dX4_row_32 : decode cX4_row 32 = .ok (.aload_n 0, 1) := by decide +kernel
theorem dX4_row_33 : decode cX4_row 33 = .ok (.getfield 21, 3) := by decide +kernel
theorem dX4_row_36 : decode cX4_row 36 = .ok (.iload_n 1, 1) := by decide +kernel
theorem dX4_row_37 : decode cX4_row 37 = .ok (.iload 4, 2) := by decide +kernel
theorem dX4_row_39 : decode cX4_row 39 = .ok (.invokestatic 94, 3) := by decide +kernel
theorem dX4_row_42 : decode cX4_row 42 = .ok (.baload, 1) := by decide +kernel
theorem dX4_row_43 : decode cX4_row 43 = .ok (.ifCond .ne 6, 3) := by decide +kernel
theorem dX4_row_46 : decode cX4_row 46 = .ok (.goto 14, 3) := by decide +kernel
theorem dX4_row_49 : decode cX4_row 49 = .ok (.iload_n 3, 1) := by decide +kernel
theorem dX4_row_50 : decode cX4_row 50 = .ok (.iload_n 2, 1) := by decide +kernel
theorem dX4_row_51 : decode cX4_row 51 = .ok (.if_icmp .ne 6, 3) := by decide +kernel
theorem dX4_row_54 : decode cX4_row 54 = .ok (.iload 4, 2) := by decide +kernel
theorem dX4_row_56 : decode cX4_row 56 = .ok (.ireturn, 1) := by decide +kernel
theorem dX4_row_57 : decode cX4_row 57 = .ok (.iinc 3 1, 3) := by decide +kernel
theorem dX4_row_60 : decode cX4_row 60 = .ok (.iinc 4 1, 3) := by decide +kernel
theorem dX4_row_63 : decode cX4_row 63 = .ok (.goto (-40), 3) := by decide +kernel
theorem dX4_row_66 : decode cX4_row 66 = .ok (.iload_n 2, 1) := by decide +kernel
theorem dX4_row_67 : decode cX4_row 67 = .ok (.iconst (-1), 1) := by decide +kernel
theorem dX4_row_68 : decode cX4_row 68 = .ok (.if_icmp .ne 7, 3) := by decide +kernel
theorem dX4_row_71 : decode cX4_row 71 = .ok (.iload_n 3, 1) := by decide +kernel
theorem dX4_row_72 : decode cX4_row 72 = .ok (.goto 4, 3) := by decide +kernel
theorem dX4_row_75 : decode cX4_row 75 = .ok (.iconst (-1), 1) := by decide +kernel
theorem dX4_row_76 : decode cX4_row 76 = .ok (.ireturn, 1) := by decide +kernel
theorem dX4_word_0 : decode cX4_word 0 = .ok (.aload_n 0, 1) := by decide +kernel
theorem dX4_word_1 : decode cX4_word 1 = .ok (.iconst 0, 1) := by decide +kernel
theorem dX4_word_2 : decode cX4_word 2 = .ok (.putfield 69, 3) := by decide +kernel
theorem dX4_word_5 : decode cX4_word 5 = .ok (.iload_n 1, 1) := by decide +kernel
theorem dX4_word_6 : decode cX4_word 6 = .ok (.invokestatic 91, 3) := by decide +kernel
theorem dX4_word_9 : decode cX4_word 9 = .ok (.ifCond .eq 10, 3) := by decide +kernel
theorem dX4_word_12 : decode cX4_word 12 = .ok (.iload_n 2, 1) := by decide +kernel
theorem dX4_word_13 : decode cX4_word 13 = .ok (.invokestatic 152, 3) := by decide +kernel
theorem dX4_word_16 : decode cX4_word 16 = .ok (.ifCond .ne 10, 3) := by decide +kernel
theorem dX4_word_19 : decode cX4_word 19 = .ok (.aload_n 0, 1) := by decide +kernel
theorem dX4_word_20 : decode cX4_word 20 = .ok (.iconst 1, 1) := by decide +kernel
theorem dX4_word_21 : decode cX4_word 21 = .ok (.invokevirtual 105, 3) := by decide +kernel
theorem dX4_word_24 : decode cX4_word 24 = .ok (.i2l, 1) := by decide +kernel
theorem dX4_word_25 : decode cX4_word 25 = .ok (.lreturn, 1) := by decide +kernel
theorem dX4_word_26 : decode cX4_word 26 = .ok (.lconst 0, 1) := by decide +kernel
theorem dX4_word_27 : decode cX4_word 27 = .ok (.lstore_n 3, 1) := by decide +kernel
theorem dX4_word_28 : decode cX4_word 28 = .ok (.iconst 0, 1) := by decide +kernel
theorem dX4_word_29 : decode cX4_word 29 = .ok (.istore 5, 2) := by decide +kernel
theorem dX4_word_31 : decode cX4_word 31 = .ok (.iload 5, 2) := by decide +kernel
theorem dX4_word_33 : decode cX4_word 33 = .ok (.bipush 64, 2) := by decide +kernel
theorem dX4_word_35 : decode cX4_word 35 = .ok (.if_icmp .ge 35, 3) := by decide +kernel
theorem dX4_word_38 : decode cX4_word 38 = .ok (.aload_n 0, 1) := by decide +kernel
theorem dX4_word_39 : decode cX4_word 39 = .ok (.getfield 21, 3) := by decide +kernel
theorem dX4_word_42 : decode cX4_word 42 = .ok (.iload_n 1, 1) := by decide +kernel
theorem dX4_word_43 : decode cX4_word 43 = .ok (.bipush 64, 2) := by decide +kernel
theorem dX4_word_45 : decode cX4_word 45 = .ok (.iload_n 2, 1) := by decide +kernel
theorem dX4_word_46 : decode cX4_word 46 = .ok (.imul, 1) := by decide +kernel
theorem dX4_word_47 : decode cX4_word 47 = .ok (.iload 5, 2) := by decide +kernel
theorem dX4_word_49 : decode cX4_word 49 = .ok (.iadd, 1) := by decide +kernel
theorem dX4_word_50 : decode cX4_word 50 = .ok (.invokestatic 94, 3) := by decide +kernel
theorem dX4_word_53 : decode cX4_word 53 = .ok (.baload, 1) := by decide +kernel
theorem dX4_word_54 : decode cX4_word 54 = .ok (.ifCond .eq 10, 3) := by decide +kernel
theorem dX4_word_57 : decode cX4_word 57 = .ok (.lload_n 3, 1) := by decide +kernel
theorem dX4_word_58 : decode cX4_word 58 = .ok (.lconst 1, 1) := by decide +kernel
theorem dX4_word_59 : decode cX4_word 59 = .ok (.iload 5, 2) := by decide +kernel
theorem dX4_word_61 : decode cX4_word 61 = .ok (.lshl, 1) := by decide +kernel
theorem dX4_word_62 : decode cX4_word 62 = .ok (.lor, 1) := by decide +kernel
theorem dX4_word_63 : decode cX4_word 63 = .ok (.lstore_n 3, 1) := by decide +kernel
theorem dX4_word_64 : decode cX4_word 64 = .ok (.iinc 5 1, 3) := by decide +kernel
theorem dX4_word_67 : decode cX4_word 67 = .ok (.goto (-36), 3) := by decide +kernel
theorem dX4_word_70 : decode cX4_word 70 = .ok (.lload_n 3, 1) := by decide +kernel
theorem dX4_word_71 : decode cX4_word 71 = .ok (.lreturn, 1) := by decide +kernel
theorem dX4_lists_0 : decode cX4_lists 0 = .ok (.aload_n 0, 1) := by decide +kernel
theorem dX4_lists_1 : decode cX4_lists 1 = .ok (.iconst 0, 1) := by decide +kernel
theorem dX4_lists_2 : decode cX4_lists 2 = .ok (.putfield 196, 3) := by decide +kernel
theorem dX4_lists_5 : decode cX4_lists 5 = .ok (.iconst 0, 1) := by decide +kernel
theorem dX4_lists_6 : decode cX4_lists 6 = .ok (.istore_n 3, 1) := by decide +kernel
theorem dX4_lists_7 : decode cX4_lists 7 = .ok (.iload_n 3, 1) := by decide +kernel
theorem dX4_lists_8 : decode cX4_lists 8 = .ok (.aload_n 0, 1) := by decide +kernel
theorem dX4_lists_9 : decode cX4_lists 9 = .ok (.getfield 80, 3) := by decide +kernel
theorem dX4_lists_12 : decode cX4_lists 12 = .ok (.if_icmp .ge 101, 3) := by decide +kernel
theorem dX4_lists_15 : decode cX4_lists 15 = .ok (.aload_n 0, 1) := by decide +kernel
theorem dX4_lists_16 : decode cX4_lists 16 = .ok (.iload_n 1, 1) := by decide +kernel
theorem dX4_lists_17 : decode cX4_lists 17 = .ok (.iload_n 3, 1) := by decide +kernel
theorem dX4_lists_18 : decode cX4_lists 18 = .ok (.iload_n 2, 1) := by decide +kernel
theorem dX4_lists_19 : decode cX4_lists 19 = .ok (.invokevirtual 170, 3) := by decide +kernel
theorem dX4_lists_22 : decode cX4_lists 22 = .ok (.ifCond .ne 6, 3) := by decide +kernel
theorem dX4_lists_25 : decode cX4_lists 25 = .ok (.goto 82, 3) := by decide +kernel
theorem dX4_lists_28 : decode cX4_lists 28 = .ok (.aload_n 0, 1) := by decide +kernel
theorem dX4_lists_29 : decode cX4_lists 29 = .ok (.getfield 196, 3) := by decide +kernel
theorem dX4_lists_32 : decode cX4_lists 32 = .ok (.istore 4, 2) := by decide +kernel
theorem dX4_lists_34 : decode cX4_lists 34 = .ok (.aload_n 0, 1) := by decide +kernel
theorem dX4_lists_35 : decode cX4_lists 35 = .ok (.getfield 7, 3) := by decide +kernel
theorem dX4_lists_38 : decode cX4_lists 38 = .ok (.iload_n 1, 1) := by decide +kernel
theorem dX4_lists_39 : decode cX4_lists 39 = .ok (.iload_n 3, 1) := by decide +kernel
theorem dX4_lists_40 : decode cX4_lists 40 = .ok (.invokestatic 94, 3) := by decide +kernel
theorem dX4_lists_43 : decode cX4_lists 43 = .ok (.laload, 1) := by decide +kernel
theorem dX4_lists_44 : decode cX4_lists 44 = .ok (.lstore 5, 2) := by decide +kernel
theorem dX4_lists_46 : decode cX4_lists 46 = .ok (.iload 4, 2) := by decide +kernel
theorem dX4_lists_48 : decode cX4_lists 48 = .ok (.ifCond .le 40, 3) := by decide +kernel
theorem dX4_lists_51 : decode cX4_lists 51 = .ok (.aload_n 0, 1) := by decide +kernel
theorem dX4_lists_52 : decode cX4_lists 52 = .ok (.getfield 27, 3) := by decide +kernel
theorem dX4_lists_55 : decode cX4_lists 55 = .ok (.iload 4, 2) := by decide +kernel
theorem dX4_lists_57 : decode cX4_lists 57 = .ok (.iconst 1, 1) := by decide +kernel
theorem dX4_lists_58 : decode cX4_lists 58 = .ok (.isub, 1) := by decide +kernel
theorem dX4_lists_59 : decode cX4_lists 59 = .ok (.laload, 1) := by decide +kernel
theorem dX4_lists_60 : decode cX4_lists 60 = .ok (.lload 5, 2) := by decide +kernel
theorem dX4_lists_62 : decode cX4_lists 62 = .ok (.lcmp, 1) := by decide +kernel
theorem dX4_lists_63 : decode cX4_lists 63 = .ok (.ifCond .le 25, 3) := by decide +kernel
theorem dX4_lists_66 : decode cX4_lists 66 = .ok (.aload_n 0, 1) := by decide +kernel
theorem dX4_lists_67 : decode cX4_lists 67 = .ok (.getfield 27, 3) := by decide +kernel
theorem dX4_lists_70 : decode cX4_lists 70 = .ok (.iload 4, 2) := by decide +kernel
theorem dX4_lists_72 : decode cX4_lists 72 = .ok (.aload_n 0, 1) := by decide +kernel
theorem dX4_lists_73 : decode cX4_lists 73 = .ok (.getfield 27, 3) := by decide +kernel
theorem dX4_lists_76 : decode cX4_lists 76 = .ok (.iload 4, 2) := by decide +kernel
theorem dX4_lists_78 : decode cX4_lists 78 = .ok (.iconst 1, 1) := by decide +kernel
theorem dX4_lists_79 : decode cX4_lists 79 = .ok (.isub, 1) := by decide +kernel
theorem dX4_lists_80 : decode cX4_lists 80 = .ok (.laload, 1) := by decide +kernel
theorem dX4_lists_81 : decode cX4_lists 81 = .ok (.lastore, 1) := by decide +kernel
theorem dX4_lists_82 : decode cX4_lists 82 = .ok (.iinc 4 (-1), 3) := by decide +kernel
theorem dX4_lists_85 : decode cX4_lists 85 = .ok (.goto (-39), 3) := by decide +kernel
theorem dX4_lists_88 : decode cX4_lists 88 = .ok (.aload_n 0, 1) := by decide +kernel
theorem dX4_lists_89 : decode cX4_lists 89 = .ok (.getfield 27, 3) := by decide +kernel
theorem dX4_lists_92 : decode cX4_lists 92 = .ok (.iload 4, 2) := by decide +kernel
theorem dX4_lists_94 : decode cX4_lists 94 = .ok (.lload 5, 2) := by decide +kernel
theorem dX4_lists_96 : decode cX4_lists 96 = .ok (.lastore, 1) := by decide +kernel
theorem dX4_lists_97 : decode cX4_lists 97 = .ok (.aload_n 0, 1) := by decide +kernel
theorem dX4_lists_98 : decode cX4_lists 98 = .ok (.dup, 1) := by decide +kernel
theorem dX4_lists_99 : decode cX4_lists 99 = .ok (.getfield 196, 3) := by decide +kernel
theorem dX4_lists_102 : decode cX4_lists 102 = .ok (.iconst 1, 1) := by decide +kernel
theorem dX4_lists_103 : decode cX4_lists 103 = .ok (.iadd, 1) := by decide +kernel
theorem dX4_lists_104 : decode cX4_lists 104 = .ok (.putfield 196, 3) := by decide +kernel
theorem dX4_lists_107 : decode cX4_lists 107 = .ok (.iinc 3 1, 3) := by decide +kernel
theorem dX4_lists_110 : decode cX4_lists 110 = .ok (.goto (-103), 3) := by decide +kernel
theorem dX4_lists_113 : decode cX4_lists 113 = .ok (.return_, 1) := by decide +kernel
theorem dX4_count_0 : decode cX4_count 0 = .ok (.aload_n 0, 1) := by decide +kernel
theorem dX4_count_1 : decode cX4_count 1 = .ok (.iconst 0, 1) := by decide +kernel
theorem dX4_count_2 : decode cX4_count 2 = .ok (.putfield 69, 3) := by decide +kernel
theorem dX4_count_5 : decode cX4_count 5 = .ok (.aload_n 0, 1) := by decide +kernel
theorem dX4_count_6 : decode cX4_count 6 = .ok (.iload_n 1, 1) := by decide +kernel
theorem dX4_count_7 : decode cX4_count 7 = .ok (.iload_n 2, 1) := by decide +kernel
theorem dX4_count_8 : decode cX4_count 8 = .ok (.invokevirtual 164, 3) := by decide +kernel
theorem dX4_count_11 : decode cX4_count 11 = .ok (.ifCond .ne 9, 3) := by decide +kernel
theorem dX4_count_14 : decode cX4_count 14 = .ok (.aload_n 0, 1) := by decide +kernel
theorem dX4_count_15 : decode cX4_count 15 = .ok (.iconst 1, 1) := by decide +kernel
theorem dX4_count_16 : decode cX4_count 16 = .ok (.invokevirtual 105, 3) := by decide +kernel
theorem dX4_count_19 : decode cX4_count 19 = .ok (.ireturn, 1) := by decide +kernel
theorem dX4_count_20 : decode cX4_count 20 = .ok (.aload_n 0, 1) := by decide +kernel
theorem dX4_count_21 : decode cX4_count 21 = .ok (.iload_n 1, 1) := by decide +kernel
theorem dX4_count_22 : decode cX4_count 22 = .ok (.iload_n 2, 1) := by decide +kernel
theorem dX4_count_23 : decode cX4_count 23 = .ok (.invokevirtual 199, 3) := by decide +kernel
theorem dX4_count_26 : decode cX4_count 26 = .ok (.aload_n 0, 1) := by decide +kernel
theorem dX4_count_27 : decode cX4_count 27 = .ok (.getfield 196, 3) := by decide +kernel
theorem dX4_count_30 : decode cX4_count 30 = .ok (.ireturn, 1) := by decide +kernel
theorem dX4_noSum_0 : decode cX4_noSum 0 = .ok (.iconst 0, 1) := by decide +kernel
theorem dX4_noSum_1 : decode cX4_noSum 1 = .ok (.istore_n 1, 1) := by decide +kernel
theorem dX4_noSum_2 : decode cX4_noSum 2 = .ok (.iload_n 1, 1) := by decide +kernel
theorem dX4_noSum_3 : decode cX4_noSum 3 = .ok (.bipush 6, 2) := by decide +kernel
theorem dX4_noSum_5 : decode cX4_noSum 5 = .ok (.if_icmp .ge 16, 3) := by decide +kernel
theorem dX4_noSum_8 : decode cX4_noSum 8 = .ok (.aload_n 0, 1) := by decide +kernel
theorem dX4_noSum_9 : decode cX4_noSum 9 = .ok (.getfield 30, 3) := by decide +kernel
theorem dX4_noSum_12 : decode cX4_noSum 12 = .ok (.iload_n 1, 1) := by decide +kernel
theorem dX4_noSum_13 : decode cX4_noSum 13 = .ok (.lconst 0, 1) := by decide +kernel
theorem dX4_noSum_14 : decode cX4_noSum 14 = .ok (.lastore, 1) := by decide +kernel
theorem dX4_noSum_15 : decode cX4_noSum 15 = .ok (.iinc 1 1, 3) := by decide +kernel
theorem dX4_noSum_18 : decode cX4_noSum 18 = .ok (.goto (-16), 3) := by decide +kernel
theorem dX4_noSum_21 : decode cX4_noSum 21 = .ok (.return_, 1) := by decide +kernel
theorem dX4_part_0 : decode cX4_part 0 = .ok (.lload_n 0, 1) := by decide +kernel
theorem dX4_part_1 : decode cX4_part 1 = .ok (.bipush 24, 2) := by decide +kernel
theorem dX4_part_3 : decode cX4_part 3 = .ok (.iload_n 2, 1) := by decide +kernel
theorem dX4_part_4 : decode cX4_part 4 = .ok (.imul, 1) := by decide +kernel
theorem dX4_part_5 : decode cX4_part 5 = .ok (.lshr, 1) := by decide +kernel
theorem dX4_part_6 : decode cX4_part 6 = .ok (.ldc2_w 203, 3) := by decide +kernel
theorem dX4_part_9 : decode cX4_part 9 = .ok (.land, 1) := by decide +kernel
theorem dX4_part_10 : decode cX4_part 10 = .ok (.lreturn, 1) := by decide +kernel
theorem dX4_amountOf_0 : decode cX4_amountOf 0 = .ok (.lload_n 0, 1) := by decide +kernel
theorem dX4_amountOf_1 : decode cX4_amountOf 1 = .ok (.lconst 0, 1) := by decide +kernel
theorem dX4_amountOf_2 : decode cX4_amountOf 2 = .ok (.lcmp, 1) := by decide +kernel
theorem dX4_amountOf_3 : decode cX4_amountOf 3 = .ok (.ifCond .ge 8, 3) := by decide +kernel
theorem dX4_amountOf_6 : decode cX4_amountOf 6 = .ok (.lload_n 0, 1) := by decide +kernel
theorem dX4_amountOf_7 : decode cX4_amountOf 7 = .ok (.lneg, 1) := by decide +kernel
theorem dX4_amountOf_8 : decode cX4_amountOf 8 = .ok (.goto 4, 3) := by decide +kernel
theorem dX4_amountOf_11 : decode cX4_amountOf 11 = .ok (.lload_n 0, 1) := by decide +kernel
theorem dX4_amountOf_12 : decode cX4_amountOf 12 = .ok (.lreturn, 1) := by decide +kernel
theorem dX4_adds_0 : decode cX4_adds 0 = .ok (.lload_n 1, 1) := by decide +kernel
theorem dX4_adds_1 : decode cX4_adds 1 = .ok (.lconst 0, 1) := by decide +kernel
theorem dX4_adds_2 : decode cX4_adds 2 = .ok (.lcmp, 1) := by decide +kernel
theorem dX4_adds_3 : decode cX4_adds 3 = .ok (.ifCond .ge 7, 3) := by decide +kernel
theorem dX4_adds_6 : decode cX4_adds 6 = .ok (.iconst 1, 1) := by decide +kernel
theorem dX4_adds_7 : decode cX4_adds 7 = .ok (.goto 4, 3) := by decide +kernel
theorem dX4_adds_10 : decode cX4_adds 10 = .ok (.iconst 0, 1) := by decide +kernel
theorem dX4_adds_11 : decode cX4_adds 11 = .ok (.lload_n 3, 1) := by decide +kernel
theorem dX4_adds_12 : decode cX4_adds 12 = .ok (.lconst 0, 1) := by decide +kernel
theorem dX4_adds_13 : decode cX4_adds 13 = .ok (.lcmp, 1) := by decide +kernel
theorem dX4_adds_14 : decode cX4_adds 14 = .ok (.ifCond .ge 7, 3) := by decide +kernel
theorem dX4_adds_17 : decode cX4_adds 17 = .ok (.iconst 1, 1) := by decide +kernel
theorem dX4_adds_18 : decode cX4_adds 18 = .ok (.goto 4, 3) := by decide +kernel
theorem dX4_adds_21 : decode cX4_adds 21 = .ok (.iconst 0, 1) := by decide +kernel
theorem dX4_adds_22 : decode cX4_adds 22 = .ok (.if_icmp .ne 7, 3) := by decide +kernel
theorem dX4_adds_25 : decode cX4_adds 25 = .ok (.lconst 1, 1) := by decide +kernel
theorem dX4_adds_26 : decode cX4_adds 26 = .ok (.goto 6, 3) := by decide +kernel
theorem dX4_adds_29 : decode cX4_adds 29 = .ok (.ldc2_w 205, 3) := by decide +kernel
theorem dX4_adds_32 : decode cX4_adds 32 = .ok (.lstore 5, 2) := by decide +kernel
theorem dX4_adds_34 : decode cX4_adds 34 = .ok (.lload_n 1, 1) := by decide +kernel
theorem dX4_adds_35 : decode cX4_adds 35 = .ok (.invokestatic 207, 3) := by decide +kernel
theorem dX4_adds_38 : decode cX4_adds 38 = .ok (.lstore 7, 2) := by decide +kernel
theorem dX4_adds_40 : decode cX4_adds 40 = .ok (.lload_n 3, 1) := by decide +kernel
theorem dX4_adds_41 : decode cX4_adds 41 = .ok (.invokestatic 207, 3) := by decide +kernel
theorem dX4_adds_44 : decode cX4_adds 44 = .ok (.lstore 9, 2) := by decide +kernel
theorem dX4_adds_46 : decode cX4_adds 46 = .ok (.iconst 0, 1) := by decide +kernel
theorem dX4_adds_47 : decode cX4_adds 47 = .ok (.istore 11, 2) := by decide +kernel
theorem dX4_adds_49 : decode cX4_adds 49 = .ok (.iload 11, 2) := by decide +kernel
theorem dX4_adds_51 : decode cX4_adds 51 = .ok (.iconst 3, 1) := by decide +kernel
theorem dX4_adds_52 : decode cX4_adds 52 = .ok (.if_icmp .ge 55, 3) := by decide +kernel
theorem dX4_adds_55 : decode cX4_adds 55 = .ok (.iconst 0, 1) := by decide +kernel
theorem dX4_adds_56 : decode cX4_adds 56 = .ok (.istore 12, 2) := by decide +kernel
theorem dX4_adds_58 : decode cX4_adds 58 = .ok (.iload 12, 2) := by decide +kernel
theorem dX4_adds_60 : decode cX4_adds 60 = .ok (.iconst 3, 1) := by decide +kernel
theorem dX4_adds_61 : decode cX4_adds 61 = .ok (.if_icmp .ge 40, 3) := by decide +kernel
theorem dX4_adds_64 : decode cX4_adds 64 = .ok (.aload_n 0, 1) := by decide +kernel
theorem dX4_adds_65 : decode cX4_adds 65 = .ok (.getfield 30, 3) := by decide +kernel
theorem dX4_adds_68 : decode cX4_adds 68 = .ok (.iload 11, 2) := by decide +kernel
theorem dX4_adds_70 : decode cX4_adds 70 = .ok (.iload 12, 2) := by decide +kernel
theorem dX4_adds_72 : decode cX4_adds 72 = .ok (.iadd, 1) := by decide +kernel
theorem dX4_adds_73 : decode cX4_adds 73 = .ok (.dup2, 1) := by decide +kernel
theorem dX4_adds_74 : decode cX4_adds 74 = .ok (.laload, 1) := by decide +kernel
theorem dX4_adds_75 : decode cX4_adds 75 = .ok (.lload 5, 2) := by decide +kernel
theorem dX4_adds_77 : decode cX4_adds 77 = .ok (.lload 7, 2) := by decide +kernel
theorem dX4_adds_79 : decode cX4_adds 79 = .ok (.iload 11, 2) := by decide +kernel
theorem dX4_adds_81 : decode cX4_adds 81 = .ok (.invokestatic 211, 3) := by decide +kernel
theorem dX4_adds_84 : decode cX4_adds 84 = .ok (.lmul, 1) := by decide +kernel
theorem dX4_adds_85 : decode cX4_adds 85 = .ok (.lload 9, 2) := by decide +kernel
theorem dX4_adds_87 : decode cX4_adds 87 = .ok (.iload 12, 2) := by decide +kernel
theorem dX4_adds_89 : decode cX4_adds 89 = .ok (.invokestatic 211, 3) := by decide +kernel
theorem dX4_adds_92 : decode cX4_adds 92 = .ok (.lmul, 1) := by decide +kernel
theorem dX4_adds_93 : decode cX4_adds 93 = .ok (.ladd, 1) := by decide +kernel
theorem dX4_adds_94 : decode cX4_adds 94 = .ok (.lastore, 1) := by decide +kernel
theorem dX4_adds_95 : decode cX4_adds 95 = .ok (.iinc 12 1, 3) := by decide +kernel
theorem dX4_adds_98 : decode cX4_adds 98 = .ok (.goto (-40), 3) := by decide +kernel
theorem dX4_adds_101 : decode cX4_adds 101 = .ok (.iinc 11 1, 3) := by decide +kernel
theorem dX4_adds_104 : decode cX4_adds 104 = .ok (.goto (-55), 3) := by decide +kernel
theorem dX4_adds_107 : decode cX4_adds 107 = .ok (.return_, 1) := by decide +kernel
theorem dX4_carries_0 : decode cX4_carries 0 = .ok (.iconst 0, 1) := by decide +kernel
theorem dX4_carries_1 : decode cX4_carries 1 = .ok (.istore_n 1, 1) := by decide +kernel
theorem dX4_carries_2 : decode cX4_carries 2 = .ok (.iload_n 1, 1) := by decide +kernel
theorem dX4_carries_3 : decode cX4_carries 3 = .ok (.iconst 5, 1) := by decide +kernel
theorem dX4_carries_4 : decode cX4_carries 4 = .ok (.if_icmp .ge 41, 3) := by decide +kernel
theorem dX4_carries_7 : decode cX4_carries 7 = .ok (.aload_n 0, 1) := by decide +kernel
theorem dX4_carries_8 : decode cX4_carries 8 = .ok (.getfield 30, 3) := by decide +kernel
theorem dX4_carries_11 : decode cX4_carries 11 = .ok (.iload_n 1, 1) := by decide +kernel
theorem dX4_carries_12 : decode cX4_carries 12 = .ok (.iconst 1, 1) := by decide +kernel
theorem dX4_carries_13 : decode cX4_carries 13 = .ok (.iadd, 1) := by decide +kernel
theorem dX4_carries_14 : decode cX4_carries 14 = .ok (.dup2, 1) := by decide +kernel
theorem dX4_carries_15 : decode cX4_carries 15 = .ok (.laload, 1) := by decide +kernel
theorem dX4_carries_16 : decode cX4_carries 16 = .ok (.aload_n 0, 1) := by decide +kernel
theorem dX4_carries_17 : decode cX4_carries 17 = .ok (.getfield 30, 3) := by decide +kernel
theorem dX4_carries_20 : decode cX4_carries 20 = .ok (.iload_n 1, 1) := by decide +kernel
theorem dX4_carries_21 : decode cX4_carries 21 = .ok (.laload, 1) := by decide +kernel
theorem dX4_carries_22 : decode cX4_carries 22 = .ok (.bipush 24, 2) := by decide +kernel
theorem dX4_carries_24 : decode cX4_carries 24 = .ok (.lshr, 1) := by decide +kernel
theorem dX4_carries_25 : decode cX4_carries 25 = .ok (.ladd, 1) := by decide +kernel
theorem dX4_carries_26 : decode cX4_carries 26 = .ok (.lastore, 1) := by decide +kernel
theorem dX4_carries_27 : decode cX4_carries 27 = .ok (.aload_n 0, 1) := by decide +kernel
theorem dX4_carries_28 : decode cX4_carries 28 = .ok (.getfield 30, 3) := by decide +kernel
theorem dX4_carries_31 : decode cX4_carries 31 = .ok (.iload_n 1, 1) := by decide +kernel
theorem dX4_carries_32 : decode cX4_carries 32 = .ok (.dup2, 1) := by decide +kernel
theorem dX4_carries_33 : decode cX4_carries 33 = .ok (.laload, 1) := by decide +kernel
theorem dX4_carries_34 : decode cX4_carries 34 = .ok (.ldc2_w 203, 3) := by decide +kernel
theorem dX4_carries_37 : decode cX4_carries 37 = .ok (.land, 1) := by decide +kernel
theorem dX4_carries_38 : decode cX4_carries 38 = .ok (.lastore, 1) := by decide +kernel
theorem dX4_carries_39 : decode cX4_carries 39 = .ok (.iinc 1 1, 3) := by decide +kernel
theorem dX4_carries_42 : decode cX4_carries 42 = .ok (.goto (-40), 3) := by decide +kernel
theorem dX4_carries_45 : decode cX4_carries 45 = .ok (.return_, 1) := by decide +kernel
theorem dX4_sumOr_0 : decode cX4_sumOr 0 = .ok (.aload_n 0, 1) := by decide +kernel
theorem dX4_sumOr_1 : decode cX4_sumOr 1 = .ok (.invokevirtual 215, 3) := by decide +kernel
theorem dX4_sumOr_4 : decode cX4_sumOr 4 = .ok (.aload_n 0, 1) := by decide +kernel
theorem dX4_sumOr_5 : decode cX4_sumOr 5 = .ok (.getfield 30, 3) := by decide +kernel
theorem dX4_sumOr_8 : decode cX4_sumOr 8 = .ok (.iconst 5, 1) := by decide +kernel
theorem dX4_sumOr_9 : decode cX4_sumOr 9 = .ok (.laload, 1) := by decide +kernel
theorem dX4_sumOr_10 : decode cX4_sumOr 10 = .ok (.lconst 0, 1) := by decide +kernel
theorem dX4_sumOr_11 : decode cX4_sumOr 11 = .ok (.lcmp, 1) := by decide +kernel
theorem dX4_sumOr_12 : decode cX4_sumOr 12 = .ok (.ifCond .ne 42, 3) := by decide +kernel
theorem dX4_sumOr_15 : decode cX4_sumOr 15 = .ok (.aload_n 0, 1) := by decide +kernel
theorem dX4_sumOr_16 : decode cX4_sumOr 16 = .ok (.getfield 30, 3) := by decide +kernel
theorem dX4_sumOr_19 : decode cX4_sumOr 19 = .ok (.iconst 4, 1) := by decide +kernel
theorem dX4_sumOr_20 : decode cX4_sumOr 20 = .ok (.laload, 1) := by decide +kernel
theorem dX4_sumOr_21 : decode cX4_sumOr 21 = .ok (.lconst 0, 1) := by decide +kernel
theorem dX4_sumOr_22 : decode cX4_sumOr 22 = .ok (.lcmp, 1) := by decide +kernel
theorem dX4_sumOr_23 : decode cX4_sumOr 23 = .ok (.ifCond .ne 31, 3) := by decide +kernel
theorem dX4_sumOr_26 : decode cX4_sumOr 26 = .ok (.aload_n 0, 1) := by decide +kernel
theorem dX4_sumOr_27 : decode cX4_sumOr 27 = .ok (.getfield 30, 3) := by decide +kernel
theorem dX4_sumOr_30 : decode cX4_sumOr 30 = .ok (.iconst 3, 1) := by decide +kernel
theorem dX4_sumOr_31 : decode cX4_sumOr 31 = .ok (.laload, 1) := by decide +kernel
theorem dX4_sumOr_32 : decode cX4_sumOr 32 = .ok (.lconst 0, 1) := by decide +kernel
theorem dX4_sumOr_33 : decode cX4_sumOr 33 = .ok (.lcmp, 1) := by decide +kernel
theorem dX4_sumOr_34 : decode cX4_sumOr 34 = .ok (.ifCond .ne 20, 3) := by decide +kernel
theorem dX4_sumOr_37 : decode cX4_sumOr 37 = .ok (.aload_n 0, 1) := by decide +kernel
theorem dX4_sumOr_38 : decode cX4_sumOr 38 = .ok (.getfield 30, 3) := by decide +kernel
theorem dX4_sumOr_41 : decode cX4_sumOr 41 = .ok (.iconst 2, 1) := by decide +kernel
theorem dX4_sumOr_42 : decode cX4_sumOr 42 = .ok (.laload, 1) := by decide +kernel
theorem dX4_sumOr_43 : decode cX4_sumOr 43 = .ok (.ldc2_w 218, 3) := by decide +kernel
theorem dX4_sumOr_46 : decode cX4_sumOr 46 = .ok (.lcmp, 1) := by decide +kernel
theorem dX4_sumOr_47 : decode cX4_sumOr 47 = .ok (.ifCond .ge 7, 3) := by decide +kernel
theorem dX4_sumOr_50 : decode cX4_sumOr 50 = .ok (.iconst 1, 1) := by decide +kernel
theorem dX4_sumOr_51 : decode cX4_sumOr 51 = .ok (.goto 4, 3) := by decide +kernel
theorem dX4_sumOr_54 : decode cX4_sumOr 54 = .ok (.iconst 0, 1) := by decide +kernel
theorem dX4_sumOr_55 : decode cX4_sumOr 55 = .ok (.istore_n 2, 1) := by decide +kernel
theorem dX4_sumOr_56 : decode cX4_sumOr 56 = .ok (.aload_n 0, 1) := by decide +kernel
theorem dX4_sumOr_57 : decode cX4_sumOr 57 = .ok (.getfield 30, 3) := by decide +kernel
theorem dX4_sumOr_60 : decode cX4_sumOr 60 = .ok (.iconst 5, 1) := by decide +kernel
theorem dX4_sumOr_61 : decode cX4_sumOr 61 = .ok (.laload, 1) := by decide +kernel
theorem dX4_sumOr_62 : decode cX4_sumOr 62 = .ok (.ldc2_w 205, 3) := by decide +kernel
theorem dX4_sumOr_65 : decode cX4_sumOr 65 = .ok (.lcmp, 1) := by decide +kernel
theorem dX4_sumOr_66 : decode cX4_sumOr 66 = .ok (.ifCond .ne 46, 3) := by decide +kernel
theorem dX4_sumOr_69 : decode cX4_sumOr 69 = .ok (.aload_n 0, 1) := by decide +kernel
theorem dX4_sumOr_70 : decode cX4_sumOr 70 = .ok (.getfield 30, 3) := by decide +kernel
theorem dX4_sumOr_73 : decode cX4_sumOr 73 = .ok (.iconst 4, 1) := by decide +kernel
theorem dX4_sumOr_74 : decode cX4_sumOr 74 = .ok (.laload, 1) := by decide +kernel
theorem dX4_sumOr_75 : decode cX4_sumOr 75 = .ok (.ldc2_w 203, 3) := by decide +kernel
theorem dX4_sumOr_78 : decode cX4_sumOr 78 = .ok (.lcmp, 1) := by decide +kernel
theorem dX4_sumOr_79 : decode cX4_sumOr 79 = .ok (.ifCond .ne 33, 3) := by decide +kernel
theorem dX4_sumOr_82 : decode cX4_sumOr 82 = .ok (.aload_n 0, 1) := by decide +kernel
theorem dX4_sumOr_83 : decode cX4_sumOr 83 = .ok (.getfield 30, 3) := by decide +kernel
theorem dX4_sumOr_86 : decode cX4_sumOr 86 = .ok (.iconst 3, 1) := by decide +kernel
theorem dX4_sumOr_87 : decode cX4_sumOr 87 = .ok (.laload, 1) := by decide +kernel
theorem dX4_sumOr_88 : decode cX4_sumOr 88 = .ok (.ldc2_w 203, 3) := by decide +kernel
theorem dX4_sumOr_91 : decode cX4_sumOr 91 = .ok (.lcmp, 1) := by decide +kernel
theorem dX4_sumOr_92 : decode cX4_sumOr 92 = .ok (.ifCond .ne 20, 3) := by decide +kernel
theorem dX4_sumOr_95 : decode cX4_sumOr 95 = .ok (.aload_n 0, 1) := by decide +kernel
theorem dX4_sumOr_96 : decode cX4_sumOr 96 = .ok (.getfield 30, 3) := by decide +kernel
theorem dX4_sumOr_99 : decode cX4_sumOr 99 = .ok (.iconst 2, 1) := by decide +kernel
theorem dX4_sumOr_100 : decode cX4_sumOr 100 = .ok (.laload, 1) := by decide +kernel
theorem dX4_sumOr_101 : decode cX4_sumOr 101 = .ok (.ldc2_w 220, 3) := by decide +kernel
theorem dX4_sumOr_104 : decode cX4_sumOr 104 = .ok (.lcmp, 1) := by decide +kernel
theorem dX4_sumOr_105 : decode cX4_sumOr 105 = .ok (.ifCond .lt 7, 3) := by decide +kernel
theorem dX4_sumOr_108 : decode cX4_sumOr 108 = .ok (.iconst 1, 1) := by decide +kernel
theorem dX4_sumOr_109 : decode cX4_sumOr 109 = .ok (.goto 4, 3) := by decide +kernel
theorem dX4_sumOr_112 : decode cX4_sumOr 112 = .ok (.iconst 0, 1) := by decide +kernel
theorem dX4_sumOr_113 : decode cX4_sumOr 113 = .ok (.istore_n 3, 1) := by decide +kernel
theorem dX4_sumOr_114 : decode cX4_sumOr 114 = .ok (.iload_n 2, 1) := by decide +kernel
theorem dX4_sumOr_115 : decode cX4_sumOr 115 = .ok (.ifCond .ne 14, 3) := by decide +kernel
theorem dX4_sumOr_118 : decode cX4_sumOr 118 = .ok (.iload_n 3, 1) := by decide +kernel
theorem dX4_sumOr_119 : decode cX4_sumOr 119 = .ok (.ifCond .ne 10, 3) := by decide +kernel
theorem dX4_sumOr_122 : decode cX4_sumOr 122 = .ok (.aload_n 0, 1) := by decide +kernel
theorem dX4_sumOr_123 : decode cX4_sumOr 123 = .ok (.iload_n 1, 1) := by decide +kernel
theorem dX4_sumOr_124 : decode cX4_sumOr 124 = .ok (.invokevirtual 105, 3) := by decide +kernel
theorem dX4_sumOr_127 : decode cX4_sumOr 127 = .ok (.i2l, 1) := by decide +kernel
theorem dX4_sumOr_128 : decode cX4_sumOr 128 = .ok (.lreturn, 1) := by decide +kernel
theorem dX4_sumOr_129 : decode cX4_sumOr 129 = .ok (.iload_n 2, 1) := by decide +kernel
theorem dX4_sumOr_130 : decode cX4_sumOr 130 = .ok (.ifCond .eq 12, 3) := by decide +kernel
theorem dX4_sumOr_133 : decode cX4_sumOr 133 = .ok (.aload_n 0, 1) := by decide +kernel
theorem dX4_sumOr_134 : decode cX4_sumOr 134 = .ok (.getfield 30, 3) := by decide +kernel
theorem dX4_sumOr_137 : decode cX4_sumOr 137 = .ok (.iconst 2, 1) := by decide +kernel
theorem dX4_sumOr_138 : decode cX4_sumOr 138 = .ok (.laload, 1) := by decide +kernel
theorem dX4_sumOr_139 : decode cX4_sumOr 139 = .ok (.goto 15, 3) := by decide +kernel
theorem dX4_sumOr_142 : decode cX4_sumOr 142 = .ok (.aload_n 0, 1) := by decide +kernel
theorem dX4_sumOr_143 : decode cX4_sumOr 143 = .ok (.getfield 30, 3) := by decide +kernel
theorem dX4_sumOr_146 : decode cX4_sumOr 146 = .ok (.iconst 2, 1) := by decide +kernel
theorem dX4_sumOr_147 : decode cX4_sumOr 147 = .ok (.laload, 1) := by decide +kernel
theorem dX4_sumOr_148 : decode cX4_sumOr 148 = .ok (.ldc2_w 203, 3) := by decide +kernel
theorem dX4_sumOr_151 : decode cX4_sumOr 151 = .ok (.lsub, 1) := by decide +kernel
theorem dX4_sumOr_152 : decode cX4_sumOr 152 = .ok (.lconst 1, 1) := by decide +kernel
theorem dX4_sumOr_153 : decode cX4_sumOr 153 = .ok (.lsub, 1) := by decide +kernel
theorem dX4_sumOr_154 : decode cX4_sumOr 154 = .ok (.lstore 4, 2) := by decide +kernel
theorem dX4_sumOr_156 : decode cX4_sumOr 156 = .ok (.lload 4, 2) := by decide +kernel
theorem dX4_sumOr_158 : decode cX4_sumOr 158 = .ok (.bipush 48, 2) := by decide +kernel
theorem dX4_sumOr_160 : decode cX4_sumOr 160 = .ok (.lshl, 1) := by decide +kernel
theorem dX4_sumOr_161 : decode cX4_sumOr 161 = .ok (.aload_n 0, 1) := by decide +kernel
theorem dX4_sumOr_162 : decode cX4_sumOr 162 = .ok (.getfield 30, 3) := by decide +kernel
theorem dX4_sumOr_165 : decode cX4_sumOr 165 = .ok (.iconst 1, 1) := by decide +kernel
theorem dX4_sumOr_166 : decode cX4_sumOr 166 = .ok (.laload, 1) := by decide +kernel
theorem dX4_sumOr_167 : decode cX4_sumOr 167 = .ok (.bipush 24, 2) := by decide +kernel
theorem dX4_sumOr_169 : decode cX4_sumOr 169 = .ok (.lshl, 1) := by decide +kernel
theorem dX4_sumOr_170 : decode cX4_sumOr 170 = .ok (.ladd, 1) := by decide +kernel
theorem dX4_sumOr_171 : decode cX4_sumOr 171 = .ok (.aload_n 0, 1) := by decide +kernel
theorem dX4_sumOr_172 : decode cX4_sumOr 172 = .ok (.getfield 30, 3) := by decide +kernel
theorem dX4_sumOr_175 : decode cX4_sumOr 175 = .ok (.iconst 0, 1) := by decide +kernel
theorem dX4_sumOr_176 : decode cX4_sumOr 176 = .ok (.laload, 1) := by decide +kernel
theorem dX4_sumOr_177 : decode cX4_sumOr 177 = .ok (.ladd, 1) := by decide +kernel
theorem dX4_sumOr_178 : decode cX4_sumOr 178 = .ok (.lreturn, 1) := by decide +kernel
theorem dX4_sumTo_0 : decode cX4_sumTo 0 = .ok (.aload_n 0, 1) := by decide +kernel
theorem dX4_sumTo_1 : decode cX4_sumTo 1 = .ok (.invokevirtual 222, 3) := by decide +kernel
theorem dX4_sumTo_4 : decode cX4_sumTo 4 = .ok (.iconst 0, 1) := by decide +kernel
theorem dX4_sumTo_5 : decode cX4_sumTo 5 = .ok (.istore 4, 2) := by decide +kernel
theorem dX4_sumTo_7 : decode cX4_sumTo 7 = .ok (.iload 4, 2) := by decide +kernel
theorem dX4_sumTo_9 : decode cX4_sumTo 9 = .ok (.iload_n 2, 1) := by decide +kernel
theorem dX4_sumTo_10 : decode cX4_sumTo 10 = .ok (.if_icmp .gt 36, 3) := by decide +kernel
theorem dX4_sumTo_13 : decode cX4_sumTo 13 = .ok (.aload_n 0, 1) := by decide +kernel
theorem dX4_sumTo_14 : decode cX4_sumTo 14 = .ok (.iload_n 1, 1) := by decide +kernel
theorem dX4_sumTo_15 : decode cX4_sumTo 15 = .ok (.iload 4, 2) := by decide +kernel
theorem dX4_sumTo_17 : decode cX4_sumTo 17 = .ok (.iload_n 3, 1) := by decide +kernel
theorem dX4_sumTo_18 : decode cX4_sumTo 18 = .ok (.invokevirtual 170, 3) := by decide +kernel
theorem dX4_sumTo_21 : decode cX4_sumTo 21 = .ok (.ifCond .eq 19, 3) := by decide +kernel
theorem dX4_sumTo_24 : decode cX4_sumTo 24 = .ok (.aload_n 0, 1) := by decide +kernel
theorem dX4_sumTo_25 : decode cX4_sumTo 25 = .ok (.aload_n 0, 1) := by decide +kernel
theorem dX4_sumTo_26 : decode cX4_sumTo 26 = .ok (.getfield 7, 3) := by decide +kernel
theorem dX4_sumTo_29 : decode cX4_sumTo 29 = .ok (.iload_n 1, 1) := by decide +kernel
theorem dX4_sumTo_30 : decode cX4_sumTo 30 = .ok (.iload 4, 2) := by decide +kernel
theorem dX4_sumTo_32 : decode cX4_sumTo 32 = .ok (.invokestatic 94, 3) := by decide +kernel
theorem dX4_sumTo_35 : decode cX4_sumTo 35 = .ok (.laload, 1) := by decide +kernel
theorem dX4_sumTo_36 : decode cX4_sumTo 36 = .ok (.lconst 1, 1) := by decide +kernel
theorem dX4_sumTo_37 : decode cX4_sumTo 37 = .ok (.invokevirtual 225, 3) := by decide +kernel
theorem dX4_sumTo_40 : decode cX4_sumTo 40 = .ok (.iinc 4 1, 3) := by decide +kernel
theorem dX4_sumTo_43 : decode cX4_sumTo 43 = .ok (.goto (-36), 3) := by decide +kernel
theorem dX4_sumTo_46 : decode cX4_sumTo 46 = .ok (.aload_n 0, 1) := by decide +kernel
theorem dX4_sumTo_47 : decode cX4_sumTo 47 = .ok (.iconst 2, 1) := by decide +kernel
theorem dX4_sumTo_48 : decode cX4_sumTo 48 = .ok (.invokevirtual 229, 3) := by decide +kernel
theorem dX4_sumTo_51 : decode cX4_sumTo 51 = .ok (.lreturn, 1) := by decide +kernel
theorem dX4_sum_0 : decode cX4_sum 0 = .ok (.aload_n 0, 1) := by decide +kernel
theorem dX4_sum_1 : decode cX4_sum 1 = .ok (.iconst 0, 1) := by decide +kernel
theorem dX4_sum_2 : decode cX4_sum 2 = .ok (.putfield 69, 3) := by decide +kernel
theorem dX4_sum_5 : decode cX4_sum 5 = .ok (.aload_n 0, 1) := by decide +kernel
theorem dX4_sum_6 : decode cX4_sum 6 = .ok (.iload_n 1, 1) := by decide +kernel
theorem dX4_sum_7 : decode cX4_sum 7 = .ok (.iload_n 2, 1) := by decide +kernel
theorem dX4_sum_8 : decode cX4_sum 8 = .ok (.invokevirtual 164, 3) := by decide +kernel
theorem dX4_sum_11 : decode cX4_sum 11 = .ok (.ifCond .ne 10, 3) := by decide +kernel
theorem dX4_sum_14 : decode cX4_sum 14 = .ok (.aload_n 0, 1) := by decide +kernel
theorem dX4_sum_15 : decode cX4_sum 15 = .ok (.iconst 1, 1) := by decide +kernel
theorem dX4_sum_16 : decode cX4_sum 16 = .ok (.invokevirtual 105, 3) := by decide +kernel
theorem dX4_sum_19 : decode cX4_sum 19 = .ok (.i2l, 1) := by decide +kernel
theorem dX4_sum_20 : decode cX4_sum 20 = .ok (.lreturn, 1) := by decide +kernel
theorem dX4_sum_21 : decode cX4_sum 21 = .ok (.aload_n 0, 1) := by decide +kernel
theorem dX4_sum_22 : decode cX4_sum 22 = .ok (.iload_n 1, 1) := by decide +kernel
theorem dX4_sum_23 : decode cX4_sum 23 = .ok (.aload_n 0, 1) := by decide +kernel
theorem dX4_sum_24 : decode cX4_sum 24 = .ok (.getfield 80, 3) := by decide +kernel
theorem dX4_sum_27 : decode cX4_sum 27 = .ok (.iconst 1, 1) := by decide +kernel
theorem dX4_sum_28 : decode cX4_sum 28 = .ok (.isub, 1) := by decide +kernel
theorem dX4_sum_29 : decode cX4_sum 29 = .ok (.iload_n 2, 1) := by decide +kernel
theorem dX4_sum_30 : decode cX4_sum 30 = .ok (.invokevirtual 232, 3) := by decide +kernel
theorem dX4_sum_33 : decode cX4_sum 33 = .ok (.lreturn, 1) := by decide +kernel
theorem dX4_upTo_0 : decode cX4_upTo 0 = .ok (.aload_n 0, 1) := by decide +kernel
theorem dX4_upTo_1 : decode cX4_upTo 1 = .ok (.iconst 0, 1) := by decide +kernel
theorem dX4_upTo_2 : decode cX4_upTo 2 = .ok (.putfield 69, 3) := by decide +kernel
theorem dX4_upTo_5 : decode cX4_upTo 5 = .ok (.aload_n 0, 1) := by decide +kernel
theorem dX4_upTo_6 : decode cX4_upTo 6 = .ok (.iload_n 1, 1) := by decide +kernel
theorem dX4_upTo_7 : decode cX4_upTo 7 = .ok (.iload_n 3, 1) := by decide +kernel
theorem dX4_upTo_8 : decode cX4_upTo 8 = .ok (.invokevirtual 164, 3) := by decide +kernel
theorem dX4_upTo_11 : decode cX4_upTo 11 = .ok (.ifCond .eq 11, 3) := by decide +kernel
theorem dX4_upTo_14 : decode cX4_upTo 14 = .ok (.aload_n 0, 1) := by decide +kernel
theorem dX4_upTo_15 : decode cX4_upTo 15 = .ok (.iload_n 2, 1) := by decide +kernel
theorem dX4_upTo_16 : decode cX4_upTo 16 = .ok (.invokevirtual 113, 3) := by decide +kernel
theorem dX4_upTo_19 : decode cX4_upTo 19 = .ok (.ifCond .ne 10, 3) := by decide +kernel
theorem dX4_upTo_22 : decode cX4_upTo 22 = .ok (.aload_n 0, 1) := by decide +kernel
theorem dX4_upTo_23 : decode cX4_upTo 23 = .ok (.iconst 1, 1) := by decide +kernel
theorem dX4_upTo_24 : decode cX4_upTo 24 = .ok (.invokevirtual 105, 3) := by decide +kernel
theorem dX4_upTo_27 : decode cX4_upTo 27 = .ok (.i2l, 1) := by decide +kernel
theorem dX4_upTo_28 : decode cX4_upTo 28 = .ok (.lreturn, 1) := by decide +kernel
theorem dX4_upTo_29 : decode cX4_upTo 29 = .ok (.aload_n 0, 1) := by decide +kernel
theorem dX4_upTo_30 : decode cX4_upTo 30 = .ok (.iload_n 1, 1) := by decide +kernel
theorem dX4_upTo_31 : decode cX4_upTo 31 = .ok (.iload_n 2, 1) := by decide +kernel
theorem dX4_upTo_32 : decode cX4_upTo 32 = .ok (.iload_n 3, 1) := by decide +kernel
theorem dX4_upTo_33 : decode cX4_upTo 33 = .ok (.invokevirtual 232, 3) := by decide +kernel
theorem dX4_upTo_36 : decode cX4_upTo 36 = .ok (.lreturn, 1) := by decide +kernel
theorem dX4_cutDown_0 : decode cX4_cutDown 0 = .ok (.lload_n 0, 1) := by decide +kernel
theorem dX4_cutDown_1 : decode cX4_cutDown 1 = .ok (.lload_n 2, 1) := by decide +kernel
theorem dX4_cutDown_2 : decode cX4_cutDown 2 = .ok (.ldiv, 1) := by decide +kernel
theorem dX4_cutDown_3 : decode cX4_cutDown 3 = .ok (.lstore 4, 2) := by decide +kernel
theorem dX4_cutDown_5 : decode cX4_cutDown 5 = .ok (.lload_n 0, 1) := by decide +kernel
theorem dX4_cutDown_6 : decode cX4_cutDown 6 = .ok (.lload_n 2, 1) := by decide +kernel
theorem dX4_cutDown_7 : decode cX4_cutDown 7 = .ok (.lrem, 1) := by decide +kernel
theorem dX4_cutDown_8 : decode cX4_cutDown 8 = .ok (.lconst 0, 1) := by decide +kernel
theorem dX4_cutDown_9 : decode cX4_cutDown 9 = .ok (.lcmp, 1) := by decide +kernel
theorem dX4_cutDown_10 : decode cX4_cutDown 10 = .ok (.ifCond .ge 10, 3) := by decide +kernel
theorem dX4_cutDown_13 : decode cX4_cutDown 13 = .ok (.lload 4, 2) := by decide +kernel
theorem dX4_cutDown_15 : decode cX4_cutDown 15 = .ok (.lconst 1, 1) := by decide +kernel
theorem dX4_cutDown_16 : decode cX4_cutDown 16 = .ok (.lsub, 1) := by decide +kernel
theorem dX4_cutDown_17 : decode cX4_cutDown 17 = .ok (.goto 5, 3) := by decide +kernel
theorem dX4_cutDown_20 : decode cX4_cutDown 20 = .ok (.lload 4, 2) := by decide +kernel
theorem dX4_cutDown_22 : decode cX4_cutDown 22 = .ok (.lreturn, 1) := by decide +kernel
theorem dX4_mean_0 : decode cX4_mean 0 = .ok (.aload_n 0, 1) := by decide +kernel
theorem dX4_mean_1 : decode cX4_mean 1 = .ok (.iconst 0, 1) := by decide +kernel
theorem dX4_mean_2 : decode cX4_mean 2 = .ok (.putfield 69, 3) := by decide +kernel
theorem dX4_mean_5 : decode cX4_mean 5 = .ok (.aload_n 0, 1) := by decide +kernel
theorem dX4_mean_6 : decode cX4_mean 6 = .ok (.iload_n 1, 1) := by decide +kernel
theorem dX4_mean_7 : decode cX4_mean 7 = .ok (.iload_n 2, 1) := by decide +kernel
theorem dX4_mean_8 : decode cX4_mean 8 = .ok (.invokevirtual 164, 3) := by decide +kernel
theorem dX4_mean_11 : decode cX4_mean 11 = .ok (.ifCond .ne 10, 3) := by decide +kernel
theorem dX4_mean_14 : decode cX4_mean 14 = .ok (.aload_n 0, 1) := by decide +kernel
theorem dX4_mean_15 : decode cX4_mean 15 = .ok (.iconst 1, 1) := by decide +kernel
theorem dX4_mean_16 : decode cX4_mean 16 = .ok (.invokevirtual 105, 3) := by decide +kernel
theorem dX4_mean_19 : decode cX4_mean 19 = .ok (.i2l, 1) := by decide +kernel
theorem dX4_mean_20 : decode cX4_mean 20 = .ok (.lreturn, 1) := by decide +kernel
theorem dX4_mean_21 : decode cX4_mean 21 = .ok (.iload_n 3, 1) := by decide +kernel
theorem dX4_mean_22 : decode cX4_mean 22 = .ok (.i2l, 1) := by decide +kernel
theorem dX4_mean_23 : decode cX4_mean 23 = .ok (.lconst 0, 1) := by decide +kernel
theorem dX4_mean_24 : decode cX4_mean 24 = .ok (.lconst 1, 1) := by decide +kernel
theorem dX4_mean_25 : decode cX4_mean 25 = .ok (.invokestatic 76, 3) := by decide +kernel
theorem dX4_mean_28 : decode cX4_mean 28 = .ok (.ifCond .ne 10, 3) := by decide +kernel
theorem dX4_mean_31 : decode cX4_mean 31 = .ok (.aload_n 0, 1) := by decide +kernel
theorem dX4_mean_32 : decode cX4_mean 32 = .ok (.iconst 2, 1) := by decide +kernel
theorem dX4_mean_33 : decode cX4_mean 33 = .ok (.invokevirtual 105, 3) := by decide +kernel
theorem dX4_mean_36 : decode cX4_mean 36 = .ok (.i2l, 1) := by decide +kernel
theorem dX4_mean_37 : decode cX4_mean 37 = .ok (.lreturn, 1) := by decide +kernel
theorem dX4_mean_38 : decode cX4_mean 38 = .ok (.aload_n 0, 1) := by decide +kernel
theorem dX4_mean_39 : decode cX4_mean 39 = .ok (.iload_n 1, 1) := by decide +kernel
theorem dX4_mean_40 : decode cX4_mean 40 = .ok (.iload_n 2, 1) := by decide +kernel
theorem dX4_mean_41 : decode cX4_mean 41 = .ok (.invokevirtual 199, 3) := by decide +kernel
theorem dX4_mean_44 : decode cX4_mean 44 = .ok (.aload_n 0, 1) := by decide +kernel
theorem dX4_mean_45 : decode cX4_mean 45 = .ok (.getfield 196, 3) := by decide +kernel
theorem dX4_mean_48 : decode cX4_mean 48 = .ok (.ifCond .ne 10, 3) := by decide +kernel
theorem dX4_mean_51 : decode cX4_mean 51 = .ok (.aload_n 0, 1) := by decide +kernel
theorem dX4_mean_52 : decode cX4_mean 52 = .ok (.iconst 3, 1) := by decide +kernel
theorem dX4_mean_53 : decode cX4_mean 53 = .ok (.invokevirtual 105, 3) := by decide +kernel
theorem dX4_mean_56 : decode cX4_mean 56 = .ok (.i2l, 1) := by decide +kernel
theorem dX4_mean_57 : decode cX4_mean 57 = .ok (.lreturn, 1) := by decide +kernel
theorem dX4_mean_58 : decode cX4_mean 58 = .ok (.lconst 0, 1) := by decide +kernel
theorem dX4_mean_59 : decode cX4_mean 59 = .ok (.lstore 4, 2) := by decide +kernel
theorem dX4_mean_61 : decode cX4_mean 61 = .ok (.lconst 0, 1) := by decide +kernel
theorem dX4_mean_62 : decode cX4_mean 62 = .ok (.lstore 6, 2) := by decide +kernel
theorem dX4_mean_64 : decode cX4_mean 64 = .ok (.iconst 0, 1) := by decide +kernel
theorem dX4_mean_65 : decode cX4_mean 65 = .ok (.istore 8, 2) := by decide +kernel
theorem dX4_mean_67 : decode cX4_mean 67 = .ok (.iload 8, 2) := by decide +kernel
theorem dX4_mean_69 : decode cX4_mean 69 = .ok (.aload_n 0, 1) := by decide +kernel
theorem dX4_mean_70 : decode cX4_mean 70 = .ok (.getfield 196, 3) := by decide +kernel
theorem dX4_mean_73 : decode cX4_mean 73 = .ok (.if_icmp .ge 54, 3) := by decide +kernel
theorem dX4_mean_76 : decode cX4_mean 76 = .ok (.aload_n 0, 1) := by decide +kernel
theorem dX4_mean_77 : decode cX4_mean 77 = .ok (.getfield 27, 3) := by decide +kernel
theorem dX4_mean_80 : decode cX4_mean 80 = .ok (.iload 8, 2) := by decide +kernel
theorem dX4_mean_82 : decode cX4_mean 82 = .ok (.laload, 1) := by decide +kernel
theorem dX4_mean_83 : decode cX4_mean 83 = .ok (.aload_n 0, 1) := by decide +kernel
theorem dX4_mean_84 : decode cX4_mean 84 = .ok (.getfield 196, 3) := by decide +kernel
theorem dX4_mean_87 : decode cX4_mean 87 = .ok (.i2l, 1) := by decide +kernel
theorem dX4_mean_88 : decode cX4_mean 88 = .ok (.invokestatic 236, 3) := by decide +kernel
theorem dX4_mean_91 : decode cX4_mean 91 = .ok (.lstore 9, 2) := by decide +kernel
theorem dX4_mean_93 : decode cX4_mean 93 = .ok (.lload 4, 2) := by decide +kernel
theorem dX4_mean_95 : decode cX4_mean 95 = .ok (.lload 9, 2) := by decide +kernel
theorem dX4_mean_97 : decode cX4_mean 97 = .ok (.ladd, 1) := by decide +kernel
theorem dX4_mean_98 : decode cX4_mean 98 = .ok (.lstore 4, 2) := by decide +kernel
theorem dX4_mean_100 : decode cX4_mean 100 = .ok (.lload 6, 2) := by decide +kernel
theorem dX4_mean_102 : decode cX4_mean 102 = .ok (.aload_n 0, 1) := by decide +kernel
theorem dX4_mean_103 : decode cX4_mean 103 = .ok (.getfield 27, 3) := by decide +kernel
theorem dX4_mean_106 : decode cX4_mean 106 = .ok (.iload 8, 2) := by decide +kernel
theorem dX4_mean_108 : decode cX4_mean 108 = .ok (.laload, 1) := by decide +kernel
theorem dX4_mean_109 : decode cX4_mean 109 = .ok (.lload 9, 2) := by decide +kernel
theorem dX4_mean_111 : decode cX4_mean 111 = .ok (.aload_n 0, 1) := by decide +kernel
theorem dX4_mean_112 : decode cX4_mean 112 = .ok (.getfield 196, 3) := by decide +kernel
theorem dX4_mean_115 : decode cX4_mean 115 = .ok (.i2l, 1) := by decide +kernel
theorem dX4_mean_116 : decode cX4_mean 116 = .ok (.lmul, 1) := by decide +kernel
theorem dX4_mean_117 : decode cX4_mean 117 = .ok (.lsub, 1) := by decide +kernel
theorem dX4_mean_118 : decode cX4_mean 118 = .ok (.ladd, 1) := by decide +kernel
theorem dX4_mean_119 : decode cX4_mean 119 = .ok (.lstore 6, 2) := by decide +kernel
theorem dX4_mean_121 : decode cX4_mean 121 = .ok (.iinc 8 1, 3) := by decide +kernel
theorem dX4_mean_124 : decode cX4_mean 124 = .ok (.goto (-57), 3) := by decide +kernel
theorem dX4_mean_127 : decode cX4_mean 127 = .ok (.iload_n 3, 1) := by decide +kernel
theorem dX4_mean_128 : decode cX4_mean 128 = .ok (.ifCond .ne 17, 3) := by decide +kernel
theorem dX4_mean_131 : decode cX4_mean 131 = .ok (.lload 4, 2) := by decide +kernel
theorem dX4_mean_133 : decode cX4_mean 133 = .ok (.lload 6, 2) := by decide +kernel
theorem dX4_mean_135 : decode cX4_mean 135 = .ok (.aload_n 0, 1) := by decide +kernel
theorem dX4_mean_136 : decode cX4_mean 136 = .ok (.getfield 196, 3) := by decide +kernel
theorem dX4_mean_139 : decode cX4_mean 139 = .ok (.i2l, 1) := by decide +kernel
theorem dX4_mean_140 : decode cX4_mean 140 = .ok (.ldiv, 1) := by decide +kernel
theorem dX4_mean_141 : decode cX4_mean 141 = .ok (.ladd, 1) := by decide +kernel
theorem dX4_mean_142 : decode cX4_mean 142 = .ok (.goto 11, 3) := by decide +kernel
theorem dX4_mean_145 : decode cX4_mean 145 = .ok (.lload 6, 2) := by decide +kernel
theorem dX4_mean_147 : decode cX4_mean 147 = .ok (.aload_n 0, 1) := by decide +kernel
theorem dX4_mean_148 : decode cX4_mean 148 = .ok (.getfield 196, 3) := by decide +kernel
theorem dX4_mean_151 : decode cX4_mean 151 = .ok (.i2l, 1) := by decide +kernel
theorem dX4_mean_152 : decode cX4_mean 152 = .ok (.lrem, 1) := by decide +kernel
theorem dX4_mean_153 : decode cX4_mean 153 = .ok (.lreturn, 1) := by decide +kernel
theorem dX4_kth_0 : decode cX4_kth 0 = .ok (.aload_n 0, 1) := by decide +kernel
theorem dX4_kth_1 : decode cX4_kth 1 = .ok (.iconst 0, 1) := by decide +kernel
theorem dX4_kth_2 : decode cX4_kth 2 = .ok (.putfield 69, 3) := by decide +kernel
theorem dX4_kth_5 : decode cX4_kth 5 = .ok (.aload_n 0, 1) := by decide +kernel
theorem dX4_kth_6 : decode cX4_kth 6 = .ok (.iload_n 1, 1) := by decide +kernel
theorem dX4_kth_7 : decode cX4_kth 7 = .ok (.iload_n 2, 1) := by decide +kernel
theorem dX4_kth_8 : decode cX4_kth 8 = .ok (.invokevirtual 164, 3) := by decide +kernel
theorem dX4_kth_11 : decode cX4_kth 11 = .ok (.ifCond .ne 10, 3) := by decide +kernel
theorem dX4_kth_14 : decode cX4_kth 14 = .ok (.aload_n 0, 1) := by decide +kernel
theorem dX4_kth_15 : decode cX4_kth 15 = .ok (.iconst 1, 1) := by decide +kernel
theorem dX4_kth_16 : decode cX4_kth 16 = .ok (.invokevirtual 105, 3) := by decide +kernel
theorem dX4_kth_19 : decode cX4_kth 19 = .ok (.i2l, 1) := by decide +kernel
theorem dX4_kth_20 : decode cX4_kth 20 = .ok (.lreturn, 1) := by decide +kernel
theorem dX4_kth_21 : decode cX4_kth 21 = .ok (.aload_n 0, 1) := by decide +kernel
theorem dX4_kth_22 : decode cX4_kth 22 = .ok (.iload_n 1, 1) := by decide +kernel
theorem dX4_kth_23 : decode cX4_kth 23 = .ok (.iload_n 2, 1) := by decide +kernel
theorem dX4_kth_24 : decode cX4_kth 24 = .ok (.invokevirtual 199, 3) := by decide +kernel
theorem dX4_kth_27 : decode cX4_kth 27 = .ok (.iload_n 3, 1) := by decide +kernel
theorem dX4_kth_28 : decode cX4_kth 28 = .ok (.ifCond .ge 14, 3) := by decide +kernel
theorem dX4_kth_31 : decode cX4_kth 31 = .ok (.aload_n 0, 1) := by decide +kernel
theorem dX4_kth_32 : decode cX4_kth 32 = .ok (.getfield 196, 3) := by decide +kernel
theorem dX4_kth_35 : decode cX4_kth 35 = .ok (.i2l, 1) := by decide +kernel
theorem dX4_kth_36 : decode cX4_kth 36 = .ok (.iload_n 3, 1) := by decide +kernel
theorem dX4_kth_37 : decode cX4_kth 37 = .ok (.i2l, 1) := by decide +kernel
theorem dX4_kth_38 : decode cX4_kth 38 = .ok (.ladd, 1) := by decide +kernel
theorem dX4_kth_39 : decode cX4_kth 39 = .ok (.goto 5, 3) := by decide +kernel
theorem dX4_kth_42 : decode cX4_kth 42 = .ok (.iload_n 3, 1) := by decide +kernel
theorem dX4_kth_43 : decode cX4_kth 43 = .ok (.i2l, 1) := by decide +kernel
theorem dX4_kth_44 : decode cX4_kth 44 = .ok (.lstore 4, 2) := by decide +kernel
theorem dX4_kth_46 : decode cX4_kth 46 = .ok (.lload 4, 2) := by decide +kernel
theorem dX4_kth_48 : decode cX4_kth 48 = .ok (.lconst 0, 1) := by decide +kernel
theorem dX4_kth_49 : decode cX4_kth 49 = .ok (.aload_n 0, 1) := by decide +kernel
theorem dX4_kth_50 : decode cX4_kth 50 = .ok (.getfield 196, 3) := by decide +kernel
theorem dX4_kth_53 : decode cX4_kth 53 = .ok (.iconst 1, 1) := by decide +kernel
theorem dX4_kth_54 : decode cX4_kth 54 = .ok (.isub, 1) := by decide +kernel
theorem dX4_kth_55 : decode cX4_kth 55 = .ok (.i2l, 1) := by decide +kernel
theorem dX4_kth_56 : decode cX4_kth 56 = .ok (.invokestatic 76, 3) := by decide +kernel
theorem dX4_kth_59 : decode cX4_kth 59 = .ok (.ifCond .eq 14, 3) := by decide +kernel
theorem dX4_kth_62 : decode cX4_kth 62 = .ok (.aload_n 0, 1) := by decide +kernel
theorem dX4_kth_63 : decode cX4_kth 63 = .ok (.getfield 27, 3) := by decide +kernel
theorem dX4_kth_66 : decode cX4_kth 66 = .ok (.lload 4, 2) := by decide +kernel
theorem dX4_kth_68 : decode cX4_kth 68 = .ok (.l2i, 1) := by decide +kernel
theorem dX4_kth_69 : decode cX4_kth 69 = .ok (.laload, 1) := by decide +kernel
theorem dX4_kth_70 : decode cX4_kth 70 = .ok (.goto 6, 3) := by decide +kernel
theorem dX4_kth_73 : decode cX4_kth 73 = .ok (.ldc2_w 127, 3) := by decide +kernel
theorem dX4_kth_76 : decode cX4_kth 76 = .ok (.lreturn, 1) := by decide +kernel
theorem dX4_share_0 : decode cX4_share 0 = .ok (.aload_n 0, 1) := by decide +kernel
theorem dX4_share_1 : decode cX4_share 1 = .ok (.iconst 0, 1) := by decide +kernel
theorem dX4_share_2 : decode cX4_share 2 = .ok (.putfield 69, 3) := by decide +kernel
theorem dX4_share_5 : decode cX4_share 5 = .ok (.aload_n 0, 1) := by decide +kernel
theorem dX4_share_6 : decode cX4_share 6 = .ok (.iload_n 1, 1) := by decide +kernel
theorem dX4_share_7 : decode cX4_share 7 = .ok (.iload_n 2, 1) := by decide +kernel
theorem dX4_share_8 : decode cX4_share 8 = .ok (.invokevirtual 164, 3) := by decide +kernel
theorem dX4_share_11 : decode cX4_share 11 = .ok (.ifCond .ne 10, 3) := by decide +kernel
theorem dX4_share_14 : decode cX4_share 14 = .ok (.aload_n 0, 1) := by decide +kernel
theorem dX4_share_15 : decode cX4_share 15 = .ok (.iconst 1, 1) := by decide +kernel
theorem dX4_share_16 : decode cX4_share 16 = .ok (.invokevirtual 105, 3) := by decide +kernel
theorem dX4_share_19 : decode cX4_share 19 = .ok (.i2l, 1) := by decide +kernel
theorem dX4_share_20 : decode cX4_share 20 = .ok (.lreturn, 1) := by decide +kernel
theorem dX4_share_21 : decode cX4_share 21 = .ok (.iload 4, 2) := by decide +kernel
theorem dX4_share_23 : decode cX4_share 23 = .ok (.i2l, 1) := by decide +kernel
theorem dX4_share_24 : decode cX4_share 24 = .ok (.lconst 1, 1) := by decide +kernel
theorem dX4_share_25 : decode cX4_share 25 = .ok (.ldc2_w 240, 3) := by decide +kernel
theorem dX4_share_28 : decode cX4_share 28 = .ok (.invokestatic 76, 3) := by decide +kernel
theorem dX4_share_31 : decode cX4_share 31 = .ok (.ifCond .eq 15, 3) := by decide +kernel
theorem dX4_share_34 : decode cX4_share 34 = .ok (.iload_n 3, 1) := by decide +kernel
theorem dX4_share_35 : decode cX4_share 35 = .ok (.i2l, 1) := by decide +kernel
theorem dX4_share_36 : decode cX4_share 36 = .ok (.lconst 0, 1) := by decide +kernel
theorem dX4_share_37 : decode cX4_share 37 = .ok (.iload 4, 2) := by decide +kernel
theorem dX4_share_39 : decode cX4_share 39 = .ok (.i2l, 1) := by decide +kernel
theorem dX4_share_40 : decode cX4_share 40 = .ok (.invokestatic 76, 3) := by decide +kernel
theorem dX4_share_43 : decode cX4_share 43 = .ok (.ifCond .ne 10, 3) := by decide +kernel
theorem dX4_share_46 : decode cX4_share 46 = .ok (.aload_n 0, 1) := by decide +kernel
theorem dX4_share_47 : decode cX4_share 47 = .ok (.iconst 2, 1) := by decide +kernel
theorem dX4_share_48 : decode cX4_share 48 = .ok (.invokevirtual 105, 3) := by decide +kernel
theorem dX4_share_51 : decode cX4_share 51 = .ok (.i2l, 1) := by decide +kernel
theorem dX4_share_52 : decode cX4_share 52 = .ok (.lreturn, 1) := by decide +kernel
theorem dX4_share_53 : decode cX4_share 53 = .ok (.aload_n 0, 1) := by decide +kernel
theorem dX4_share_54 : decode cX4_share 54 = .ok (.iload_n 1, 1) := by decide +kernel
theorem dX4_share_55 : decode cX4_share 55 = .ok (.iload_n 2, 1) := by decide +kernel
theorem dX4_share_56 : decode cX4_share 56 = .ok (.invokevirtual 199, 3) := by decide +kernel
theorem dX4_share_59 : decode cX4_share 59 = .ok (.iconst 0, 1) := by decide +kernel
theorem dX4_share_60 : decode cX4_share 60 = .ok (.istore 5, 2) := by decide +kernel
theorem dX4_share_62 : decode cX4_share 62 = .ok (.iload 5, 2) := by decide +kernel
theorem dX4_share_64 : decode cX4_share 64 = .ok (.aload_n 0, 1) := by decide +kernel
theorem dX4_share_65 : decode cX4_share 65 = .ok (.getfield 196, 3) := by decide +kernel
theorem dX4_share_68 : decode cX4_share 68 = .ok (.if_icmp .ge 67, 3) := by decide +kernel
theorem dX4_share_71 : decode cX4_share 71 = .ok (.iload 5, 2) := by decide +kernel
theorem dX4_share_73 : decode cX4_share 73 = .ok (.iconst 1, 1) := by decide +kernel
theorem dX4_share_74 : decode cX4_share 74 = .ok (.iadd, 1) := by decide +kernel
theorem dX4_share_75 : decode cX4_share 75 = .ok (.aload_n 0, 1) := by decide +kernel
theorem dX4_share_76 : decode cX4_share 76 = .ok (.getfield 196, 3) := by decide +kernel
theorem dX4_share_79 : decode cX4_share 79 = .ok (.if_icmp .ge 26, 3) := by decide +kernel
theorem dX4_share_82 : decode cX4_share 82 = .ok (.aload_n 0, 1) := by decide +kernel
theorem dX4_share_83 : decode cX4_share 83 = .ok (.getfield 27, 3) := by decide +kernel
theorem dX4_share_86 : decode cX4_share 86 = .ok (.iload 5, 2) := by decide +kernel
theorem dX4_share_88 : decode cX4_share 88 = .ok (.iconst 1, 1) := by decide +kernel
theorem dX4_share_89 : decode cX4_share 89 = .ok (.iadd, 1) := by decide +kernel
theorem dX4_share_90 : decode cX4_share 90 = .ok (.laload, 1) := by decide +kernel
theorem dX4_share_91 : decode cX4_share 91 = .ok (.aload_n 0, 1) := by decide +kernel
theorem dX4_share_92 : decode cX4_share 92 = .ok (.getfield 27, 3) := by decide +kernel
theorem dX4_share_95 : decode cX4_share 95 = .ok (.iload 5, 2) := by decide +kernel
theorem dX4_share_97 : decode cX4_share 97 = .ok (.laload, 1) := by decide +kernel
theorem dX4_share_98 : decode cX4_share 98 = .ok (.lcmp, 1) := by decide +kernel
theorem dX4_share_99 : decode cX4_share 99 = .ok (.ifCond .ne 6, 3) := by decide +kernel
theorem dX4_share_102 : decode cX4_share 102 = .ok (.goto 27, 3) := by decide +kernel
theorem dX4_share_105 : decode cX4_share 105 = .ok (.iload 5, 2) := by decide +kernel
theorem dX4_share_107 : decode cX4_share 107 = .ok (.iconst 1, 1) := by decide +kernel
theorem dX4_share_108 : decode cX4_share 108 = .ok (.iadd, 1) := by decide +kernel
theorem dX4_share_109 : decode cX4_share 109 = .ok (.iload 4, 2) := by decide +kernel
theorem dX4_share_111 : decode cX4_share 111 = .ok (.imul, 1) := by decide +kernel
theorem dX4_share_112 : decode cX4_share 112 = .ok (.iload_n 3, 1) := by decide +kernel
theorem dX4_share_113 : decode cX4_share 113 = .ok (.aload_n 0, 1) := by decide +kernel
theorem dX4_share_114 : decode cX4_share 114 = .ok (.getfield 196, 3) := by decide +kernel
theorem dX4_share_117 : decode cX4_share 117 = .ok (.imul, 1) := by decide +kernel
theorem dX4_share_118 : decode cX4_share 118 = .ok (.if_icmp .lt 11, 3) := by decide +kernel
theorem dX4_share_121 : decode cX4_share 121 = .ok (.aload_n 0, 1) := by decide +kernel
theorem dX4_share_122 : decode cX4_share 122 = .ok (.getfield 27, 3) := by decide +kernel
theorem dX4_share_125 : decode cX4_share 125 = .ok (.iload 5, 2) := by decide +kernel
theorem dX4_share_127 : decode cX4_share 127 = .ok (.laload, 1) := by decide +kernel
theorem dX4_share_128 : decode cX4_share 128 = .ok (.lreturn, 1) := by decide +kernel
theorem dX4_share_129 : decode cX4_share 129 = .ok (.iinc 5 1, 3) := by decide +kernel
theorem dX4_share_132 : decode cX4_share 132 = .ok (.goto (-70), 3) := by decide +kernel
theorem dX4_share_135 : decode cX4_share 135 = .ok (.ldc2_w 127, 3) := by decide +kernel
theorem dX4_share_138 : decode cX4_share 138 = .ok (.lreturn, 1) := by decide +kernel
theorem dX4_upset_0 : decode cX4_upset 0 = .ok (.aload_n 0, 1) := by decide +kernel
theorem dX4_upset_1 : decode cX4_upset 1 = .ok (.iconst 0, 1) := by decide +kernel
theorem dX4_upset_2 : decode cX4_upset 2 = .ok (.putfield 69, 3) := by decide +kernel
theorem dX4_upset_5 : decode cX4_upset 5 = .ok (.aload_n 0, 1) := by decide +kernel
theorem dX4_upset_6 : decode cX4_upset 6 = .ok (.iload_n 1, 1) := by decide +kernel
theorem dX4_upset_7 : decode cX4_upset 7 = .ok (.iload_n 2, 1) := by decide +kernel
theorem dX4_upset_8 : decode cX4_upset 8 = .ok (.invokevirtual 164, 3) := by decide +kernel
theorem dX4_upset_11 : decode cX4_upset 11 = .ok (.ifCond .ne 9, 3) := by decide +kernel
theorem dX4_upset_14 : decode cX4_upset 14 = .ok (.aload_n 0, 1) := by decide +kernel
theorem dX4_upset_15 : decode cX4_upset 15 = .ok (.iconst 1, 1) := by decide +kernel
theorem dX4_upset_16 : decode cX4_upset 16 = .ok (.invokevirtual 105, 3) := by decide +kernel
theorem dX4_upset_19 : decode cX4_upset 19 = .ok (.ireturn, 1) := by decide +kernel
theorem dX4_upset_20 : decode cX4_upset 20 = .ok (.iconst 0, 1) := by decide +kernel
theorem dX4_upset_21 : decode cX4_upset 21 = .ok (.istore_n 3, 1) := by decide +kernel
theorem dX4_upset_22 : decode cX4_upset 22 = .ok (.iconst 0, 1) := by decide +kernel
theorem dX4_upset_23 : decode cX4_upset 23 = .ok (.istore 4, 2) := by decide +kernel
theorem dX4_upset_25 : decode cX4_upset 25 = .ok (.iload 4, 2) := by decide +kernel
theorem dX4_upset_27 : decode cX4_upset 27 = .ok (.aload_n 0, 1) := by decide +kernel
theorem dX4_upset_28 : decode cX4_upset 28 = .ok (.getfield 80, 3) := by decide +kernel
theorem dX4_upset_31 : decode cX4_upset 31 = .ok (.if_icmp .ge 92, 3) := by decide +kernel
theorem dX4_upset_34 : decode cX4_upset 34 = .ok (.aload_n 0, 1) := by decide +kernel
theorem dX4_upset_35 : decode cX4_upset 35 = .ok (.iload_n 1, 1) := by decide +kernel
theorem dX4_upset_36 : decode cX4_upset 36 = .ok (.iload 4, 2) := by decide +kernel
theorem dX4_upset_38 : decode cX4_upset 38 = .ok (.iload_n 2, 1) := by decide +kernel
theorem dX4_upset_39 : decode cX4_upset 39 = .ok (.invokevirtual 170, 3) := by decide +kernel
theorem dX4_upset_42 : decode cX4_upset 42 = .ok (.ifCond .ne 6, 3) := by decide +kernel
theorem dX4_upset_45 : decode cX4_upset 45 = .ok (.goto 72, 3) := by decide +kernel
theorem dX4_upset_48 : decode cX4_upset 48 = .ok (.iload 4, 2) := by decide +kernel
theorem dX4_upset_50 : decode cX4_upset 50 = .ok (.iconst 1, 1) := by decide +kernel
theorem dX4_upset_51 : decode cX4_upset 51 = .ok (.iadd, 1) := by decide +kernel
theorem dX4_upset_52 : decode cX4_upset 52 = .ok (.istore 5, 2) := by decide +kernel
theorem dX4_upset_54 : decode cX4_upset 54 = .ok (.iload 5, 2) := by decide +kernel
theorem dX4_upset_56 : decode cX4_upset 56 = .ok (.aload_n 0, 1) := by decide +kernel
theorem dX4_upset_57 : decode cX4_upset 57 = .ok (.getfield 80, 3) := by decide +kernel
theorem dX4_upset_60 : decode cX4_upset 60 = .ok (.if_icmp .ge 57, 3) := by decide +kernel
theorem dX4_upset_63 : decode cX4_upset 63 = .ok (.iload_n 3, 1) := by decide +kernel
theorem dX4_upset_64 : decode cX4_upset 64 = .ok (.aload_n 0, 1) := by decide +kernel
theorem dX4_upset_65 : decode cX4_upset 65 = .ok (.iload_n 1, 1) := by decide +kernel
theorem dX4_upset_66 : decode cX4_upset 66 = .ok (.iload 5, 2) := by decide +kernel
theorem dX4_upset_68 : decode cX4_upset 68 = .ok (.iload_n 2, 1) := by decide +kernel
theorem dX4_upset_69 : decode cX4_upset 69 = .ok (.invokevirtual 170, 3) := by decide +kernel
theorem dX4_upset_72 : decode cX4_upset 72 = .ok (.ifCond .eq 33, 3) := by decide +kernel
theorem dX4_upset_75 : decode cX4_upset 75 = .ok (.aload_n 0, 1) := by decide +kernel
theorem dX4_upset_76 : decode cX4_upset 76 = .ok (.getfield 7, 3) := by decide +kernel
theorem dX4_upset_79 : decode cX4_upset 79 = .ok (.iload_n 1, 1) := by decide +kernel
theorem dX4_upset_80 : decode cX4_upset 80 = .ok (.iload 4, 2) := by decide +kernel
theorem dX4_upset_82 : decode cX4_upset 82 = .ok (.invokestatic 94, 3) := by decide +kernel
theorem dX4_upset_85 : decode cX4_upset 85 = .ok (.laload, 1) := by decide +kernel
theorem dX4_upset_86 : decode cX4_upset 86 = .ok (.aload_n 0, 1) := by decide +kernel
theorem dX4_upset_87 : decode cX4_upset 87 = .ok (.getfield 7, 3) := by decide +kernel
theorem dX4_upset_90 : decode cX4_upset 90 = .ok (.iload_n 1, 1) := by decide +kernel
theorem dX4_upset_91 : decode cX4_upset 91 = .ok (.iload 5, 2) := by decide +kernel
theorem dX4_upset_93 : decode cX4_upset 93 = .ok (.invokestatic 94, 3) := by decide +kernel
theorem dX4_upset_96 : decode cX4_upset 96 = .ok (.laload, 1) := by decide +kernel
theorem dX4_upset_97 : decode cX4_upset 97 = .ok (.lcmp, 1) := by decide +kernel
theorem dX4_upset_98 : decode cX4_upset 98 = .ok (.ifCond .le 7, 3) := by decide +kernel
theorem dX4_upset_101 : decode cX4_upset 101 = .ok (.iconst 1, 1) := by decide +kernel
theorem dX4_upset_102 : decode cX4_upset 102 = .ok (.goto 4, 3) := by decide +kernel
theorem dX4_upset_105 : decode cX4_upset 105 = .ok (.iconst 0, 1) := by decide +kernel
theorem dX4_upset_106 : decode cX4_upset 106 = .ok (.invokestatic 123, 3) := by decide +kernel
theorem dX4_upset_109 : decode cX4_upset 109 = .ok (.iadd, 1) := by decide +kernel
theorem dX4_upset_110 : decode cX4_upset 110 = .ok (.istore_n 3, 1) := by decide +kernel
theorem dX4_upset_111 : decode cX4_upset 111 = .ok (.iinc 5 1, 3) := by decide +kernel
theorem dX4_upset_114 : decode cX4_upset 114 = .ok (.goto (-60), 3) := by decide +kernel
theorem dX4_upset_117 : decode cX4_upset 117 = .ok (.iinc 4 1, 3) := by decide +kernel
theorem dX4_upset_120 : decode cX4_upset 120 = .ok (.goto (-95), 3) := by decide +kernel
theorem dX4_upset_123 : decode cX4_upset 123 = .ok (.iload_n 3, 1) := by decide +kernel
theorem dX4_upset_124 : decode cX4_upset 124 = .ok (.ireturn, 1) := by decide +kernel
theorem dX4_rank_0 : decode cX4_rank 0 = .ok (.aload_n 0, 1) := by decide +kernel
theorem dX4_rank_1 : decode cX4_rank 1 = .ok (.iconst 0, 1) := by decide +kernel
theorem dX4_rank_2 : decode cX4_rank 2 = .ok (.putfield 69, 3) := by decide +kernel
theorem dX4_rank_5 : decode cX4_rank 5 = .ok (.aload_n 0, 1) := by decide +kernel
theorem dX4_rank_6 : decode cX4_rank 6 = .ok (.iload_n 1, 1) := by decide +kernel
theorem dX4_rank_7 : decode cX4_rank 7 = .ok (.iload_n 2, 1) := by decide +kernel
theorem dX4_rank_8 : decode cX4_rank 8 = .ok (.invokevirtual 164, 3) := by decide +kernel
theorem dX4_rank_11 : decode cX4_rank 11 = .ok (.ifCond .ne 9, 3) := by decide +kernel
theorem dX4_rank_14 : decode cX4_rank 14 = .ok (.aload_n 0, 1) := by decide +kernel
theorem dX4_rank_15 : decode cX4_rank 15 = .ok (.iconst 1, 1) := by decide +kernel
theorem dX4_rank_16 : decode cX4_rank 16 = .ok (.invokevirtual 105, 3) := by decide +kernel
theorem dX4_rank_19 : decode cX4_rank 19 = .ok (.ireturn, 1) := by decide +kernel
theorem dX4_rank_20 : decode cX4_rank 20 = .ok (.iload 5, 2) := by decide +kernel
theorem dX4_rank_22 : decode cX4_rank 22 = .ok (.i2l, 1) := by decide +kernel
theorem dX4_rank_23 : decode cX4_rank 23 = .ok (.lconst 0, 1) := by decide +kernel
theorem dX4_rank_24 : decode cX4_rank 24 = .ok (.ldc2_w 85, 3) := by decide +kernel
theorem dX4_rank_27 : decode cX4_rank 27 = .ok (.invokestatic 76, 3) := by decide +kernel
theorem dX4_rank_30 : decode cX4_rank 30 = .ok (.ifCond .ne 9, 3) := by decide +kernel
theorem dX4_rank_33 : decode cX4_rank 33 = .ok (.aload_n 0, 1) := by decide +kernel
theorem dX4_rank_34 : decode cX4_rank 34 = .ok (.iconst 2, 1) := by decide +kernel
theorem dX4_rank_35 : decode cX4_rank 35 = .ok (.invokevirtual 105, 3) := by decide +kernel
theorem dX4_rank_38 : decode cX4_rank 38 = .ok (.ireturn, 1) := by decide +kernel
theorem dX4_rank_39 : decode cX4_rank 39 = .ok (.aload_n 0, 1) := by decide +kernel
theorem dX4_rank_40 : decode cX4_rank 40 = .ok (.iload_n 1, 1) := by decide +kernel
theorem dX4_rank_41 : decode cX4_rank 41 = .ok (.iload_n 2, 1) := by decide +kernel
theorem dX4_rank_42 : decode cX4_rank 42 = .ok (.invokevirtual 199, 3) := by decide +kernel
theorem dX4_rank_45 : decode cX4_rank 45 = .ok (.iconst 0, 1) := by decide +kernel
theorem dX4_rank_46 : decode cX4_rank 46 = .ok (.istore 6, 2) := by decide +kernel
theorem dX4_rank_48 : decode cX4_rank 48 = .ok (.iconst 0, 1) := by decide +kernel
theorem dX4_rank_49 : decode cX4_rank 49 = .ok (.istore 7, 2) := by decide +kernel
theorem dX4_rank_51 : decode cX4_rank 51 = .ok (.iload 7, 2) := by decide +kernel
theorem dX4_rank_53 : decode cX4_rank 53 = .ok (.aload_n 0, 1) := by decide +kernel
theorem dX4_rank_54 : decode cX4_rank 54 = .ok (.getfield 196, 3) := by decide +kernel
theorem dX4_rank_57 : decode cX4_rank 57 = .ok (.if_icmp .ge 48, 3) := by decide +kernel
theorem dX4_rank_60 : decode cX4_rank 60 = .ok (.iload 6, 2) := by decide +kernel
theorem dX4_rank_62 : decode cX4_rank 62 = .ok (.aload_n 0, 1) := by decide +kernel
theorem dX4_rank_63 : decode cX4_rank 63 = .ok (.getfield 27, 3) := by decide +kernel
theorem dX4_rank_66 : decode cX4_rank 66 = .ok (.iload 7, 2) := by decide +kernel
theorem dX4_rank_68 : decode cX4_rank 68 = .ok (.laload, 1) := by decide +kernel
theorem dX4_rank_69 : decode cX4_rank 69 = .ok (.iload 5, 2) := by decide +kernel
theorem dX4_rank_71 : decode cX4_rank 71 = .ok (.ifCond .ne 7, 3) := by decide +kernel
theorem dX4_rank_74 : decode cX4_rank 74 = .ok (.iconst 0, 1) := by decide +kernel
theorem dX4_rank_75 : decode cX4_rank 75 = .ok (.goto 14, 3) := by decide +kernel
theorem dX4_rank_78 : decode cX4_rank 78 = .ok (.iload 5, 2) := by decide +kernel
theorem dX4_rank_80 : decode cX4_rank 80 = .ok (.iconst 1, 1) := by decide +kernel
theorem dX4_rank_81 : decode cX4_rank 81 = .ok (.if_icmp .ne 7, 3) := by decide +kernel
theorem dX4_rank_84 : decode cX4_rank 84 = .ok (.iconst 2, 1) := by decide +kernel
theorem dX4_rank_85 : decode cX4_rank 85 = .ok (.goto 4, 3) := by decide +kernel
theorem dX4_rank_88 : decode cX4_rank 88 = .ok (.iconst 5, 1) := by decide +kernel
theorem dX4_rank_89 : decode cX4_rank 89 = .ok (.lload_n 3, 1) := by decide +kernel
theorem dX4_rank_90 : decode cX4_rank 90 = .ok (.invokestatic 173, 3) := by decide +kernel
theorem dX4_rank_93 : decode cX4_rank 93 = .ok (.invokestatic 123, 3) := by decide +kernel
theorem dX4_rank_96 : decode cX4_rank 96 = .ok (.iadd, 1) := by decide +kernel
theorem dX4_rank_97 : decode cX4_rank 97 = .ok (.istore 6, 2) := by decide +kernel
theorem dX4_rank_99 : decode cX4_rank 99 = .ok (.iinc 7 1, 3) := by decide +kernel
theorem dX4_rank_102 : decode cX4_rank 102 = .ok (.goto (-51), 3) := by decide +kernel
theorem dX4_rank_105 : decode cX4_rank 105 = .ok (.iload 6, 2) := by decide +kernel
theorem dX4_rank_107 : decode cX4_rank 107 = .ok (.ireturn, 1) := by decide +kernel
theorem dX4_unlike_0 : decode cX4_unlike 0 = .ok (.aload_n 0, 1) := by decide +kernel
theorem dX4_unlike_1 : decode cX4_unlike 1 = .ok (.iconst 0, 1) := by decide +kernel
theorem dX4_unlike_2 : decode cX4_unlike 2 = .ok (.putfield 69, 3) := by decide +kernel
theorem dX4_unlike_5 : decode cX4_unlike 5 = .ok (.aload_n 0, 1) := by decide +kernel
theorem dX4_unlike_6 : decode cX4_unlike 6 = .ok (.iload_n 1, 1) := by decide +kernel
theorem dX4_unlike_7 : decode cX4_unlike 7 = .ok (.iload_n 2, 1) := by decide +kernel
theorem dX4_unlike_8 : decode cX4_unlike 8 = .ok (.invokevirtual 164, 3) := by decide +kernel
theorem dX4_unlike_11 : decode cX4_unlike 11 = .ok (.ifCond .ne 10, 3) := by decide +kernel
theorem dX4_unlike_14 : decode cX4_unlike 14 = .ok (.aload_n 0, 1) := by decide +kernel
theorem dX4_unlike_15 : decode cX4_unlike 15 = .ok (.iconst 1, 1) := by decide +kernel
theorem dX4_unlike_16 : decode cX4_unlike 16 = .ok (.invokevirtual 105, 3) := by decide +kernel
theorem dX4_unlike_19 : decode cX4_unlike 19 = .ok (.i2l, 1) := by decide +kernel
theorem dX4_unlike_20 : decode cX4_unlike 20 = .ok (.lreturn, 1) := by decide +kernel
theorem dX4_unlike_21 : decode cX4_unlike 21 = .ok (.iload_n 3, 1) := by decide +kernel
theorem dX4_unlike_22 : decode cX4_unlike 22 = .ok (.i2l, 1) := by decide +kernel
theorem dX4_unlike_23 : decode cX4_unlike 23 = .ok (.lconst 0, 1) := by decide +kernel
theorem dX4_unlike_24 : decode cX4_unlike 24 = .ok (.ldc2_w 85, 3) := by decide +kernel
theorem dX4_unlike_27 : decode cX4_unlike 27 = .ok (.invokestatic 76, 3) := by decide +kernel
theorem dX4_unlike_30 : decode cX4_unlike 30 = .ok (.ifCond .ne 10, 3) := by decide +kernel
theorem dX4_unlike_33 : decode cX4_unlike 33 = .ok (.aload_n 0, 1) := by decide +kernel
theorem dX4_unlike_34 : decode cX4_unlike 34 = .ok (.iconst 2, 1) := by decide +kernel
theorem dX4_unlike_35 : decode cX4_unlike 35 = .ok (.invokevirtual 105, 3) := by decide +kernel
theorem dX4_unlike_38 : decode cX4_unlike 38 = .ok (.i2l, 1) := by decide +kernel
theorem dX4_unlike_39 : decode cX4_unlike 39 = .ok (.lreturn, 1) := by decide +kernel
theorem dX4_unlike_40 : decode cX4_unlike 40 = .ok (.aload_n 0, 1) := by decide +kernel
theorem dX4_unlike_41 : decode cX4_unlike 41 = .ok (.iload_n 1, 1) := by decide +kernel
theorem dX4_unlike_42 : decode cX4_unlike 42 = .ok (.iload_n 2, 1) := by decide +kernel
theorem dX4_unlike_43 : decode cX4_unlike 43 = .ok (.invokevirtual 199, 3) := by decide +kernel
theorem dX4_unlike_46 : decode cX4_unlike 46 = .ok (.iconst 0, 1) := by decide +kernel
theorem dX4_unlike_47 : decode cX4_unlike 47 = .ok (.istore 4, 2) := by decide +kernel
theorem dX4_unlike_49 : decode cX4_unlike 49 = .ok (.iconst 0, 1) := by decide +kernel
theorem dX4_unlike_50 : decode cX4_unlike 50 = .ok (.istore 5, 2) := by decide +kernel
theorem dX4_unlike_52 : decode cX4_unlike 52 = .ok (.ldc2_w 127, 3) := by decide +kernel
theorem dX4_unlike_55 : decode cX4_unlike 55 = .ok (.lstore 6, 2) := by decide +kernel
theorem dX4_unlike_57 : decode cX4_unlike 57 = .ok (.iconst 0, 1) := by decide +kernel
theorem dX4_unlike_58 : decode cX4_unlike 58 = .ok (.istore 8, 2) := by decide +kernel
theorem dX4_unlike_60 : decode cX4_unlike 60 = .ok (.iconst 0, 1) := by decide +kernel
theorem dX4_unlike_61 : decode cX4_unlike 61 = .ok (.istore 9, 2) := by decide +kernel
theorem dX4_unlike_63 : decode cX4_unlike 63 = .ok (.iload 9, 2) := by decide +kernel
theorem dX4_unlike_65 : decode cX4_unlike 65 = .ok (.aload_n 0, 1) := by decide +kernel
theorem dX4_unlike_66 : decode cX4_unlike 66 = .ok (.getfield 196, 3) := by decide +kernel
theorem dX4_unlike_69 : decode cX4_unlike 69 = .ok (.if_icmp .ge 89, 3) := by decide +kernel
theorem dX4_unlike_72 : decode cX4_unlike 72 = .ok (.iload 9, 2) := by decide +kernel
theorem dX4_unlike_74 : decode cX4_unlike 74 = .ok (.ifCond .eq 23, 3) := by decide +kernel
theorem dX4_unlike_77 : decode cX4_unlike 77 = .ok (.aload_n 0, 1) := by decide +kernel
theorem dX4_unlike_78 : decode cX4_unlike 78 = .ok (.getfield 27, 3) := by decide +kernel
theorem dX4_unlike_81 : decode cX4_unlike 81 = .ok (.iload 9, 2) := by decide +kernel
theorem dX4_unlike_83 : decode cX4_unlike 83 = .ok (.laload, 1) := by decide +kernel
theorem dX4_unlike_84 : decode cX4_unlike 84 = .ok (.aload_n 0, 1) := by decide +kernel
theorem dX4_unlike_85 : decode cX4_unlike 85 = .ok (.getfield 27, 3) := by decide +kernel
theorem dX4_unlike_88 : decode cX4_unlike 88 = .ok (.iload 9, 2) := by decide +kernel
theorem dX4_unlike_90 : decode cX4_unlike 90 = .ok (.iconst 1, 1) := by decide +kernel
theorem dX4_unlike_91 : decode cX4_unlike 91 = .ok (.isub, 1) := by decide +kernel
theorem dX4_unlike_92 : decode cX4_unlike 92 = .ok (.laload, 1) := by decide +kernel
theorem dX4_unlike_93 : decode cX4_unlike 93 = .ok (.lcmp, 1) := by decide +kernel
theorem dX4_unlike_94 : decode cX4_unlike 94 = .ok (.ifCond .eq 7, 3) := by decide +kernel
theorem dX4_unlike_97 : decode cX4_unlike 97 = .ok (.iconst 1, 1) := by decide +kernel
theorem dX4_unlike_98 : decode cX4_unlike 98 = .ok (.goto 4, 3) := by decide +kernel
theorem dX4_unlike_101 : decode cX4_unlike 101 = .ok (.iconst 0, 1) := by decide +kernel
theorem dX4_unlike_102 : decode cX4_unlike 102 = .ok (.istore 10, 2) := by decide +kernel
theorem dX4_unlike_104 : decode cX4_unlike 104 = .ok (.iload 4, 2) := by decide +kernel
theorem dX4_unlike_106 : decode cX4_unlike 106 = .ok (.iload 10, 2) := by decide +kernel
theorem dX4_unlike_108 : decode cX4_unlike 108 = .ok (.invokestatic 123, 3) := by decide +kernel
theorem dX4_unlike_111 : decode cX4_unlike 111 = .ok (.iadd, 1) := by decide +kernel
theorem dX4_unlike_112 : decode cX4_unlike 112 = .ok (.istore 4, 2) := by decide +kernel
theorem dX4_unlike_114 : decode cX4_unlike 114 = .ok (.iload 10, 2) := by decide +kernel
theorem dX4_unlike_116 : decode cX4_unlike 116 = .ok (.ifCond .eq 7, 3) := by decide +kernel
theorem dX4_unlike_119 : decode cX4_unlike 119 = .ok (.iconst 1, 1) := by decide +kernel
theorem dX4_unlike_120 : decode cX4_unlike 120 = .ok (.goto 7, 3) := by decide +kernel
theorem dX4_unlike_123 : decode cX4_unlike 123 = .ok (.iload 8, 2) := by decide +kernel
theorem dX4_unlike_125 : decode cX4_unlike 125 = .ok (.iconst 1, 1) := by decide +kernel
theorem dX4_unlike_126 : decode cX4_unlike 126 = .ok (.iadd, 1) := by decide +kernel
theorem dX4_unlike_127 : decode cX4_unlike 127 = .ok (.istore 8, 2) := by decide +kernel
theorem dX4_unlike_129 : decode cX4_unlike 129 = .ok (.iload 8, 2) := by decide +kernel
theorem dX4_unlike_131 : decode cX4_unlike 131 = .ok (.iload 5, 2) := by decide +kernel
theorem dX4_unlike_133 : decode cX4_unlike 133 = .ok (.if_icmp .gt 6, 3) := by decide +kernel
theorem dX4_unlike_136 : decode cX4_unlike 136 = .ok (.goto 16, 3) := by decide +kernel
theorem dX4_unlike_139 : decode cX4_unlike 139 = .ok (.iload 8, 2) := by decide +kernel
theorem dX4_unlike_141 : decode cX4_unlike 141 = .ok (.istore 5, 2) := by decide +kernel
theorem dX4_unlike_143 : decode cX4_unlike 143 = .ok (.aload_n 0, 1) := by decide +kernel
theorem dX4_unlike_144 : decode cX4_unlike 144 = .ok (.getfield 27, 3) := by decide +kernel
theorem dX4_unlike_147 : decode cX4_unlike 147 = .ok (.iload 9, 2) := by decide +kernel
theorem dX4_unlike_149 : decode cX4_unlike 149 = .ok (.laload, 1) := by decide +kernel
theorem dX4_unlike_150 : decode cX4_unlike 150 = .ok (.lstore 6, 2) := by decide +kernel
theorem dX4_unlike_152 : decode cX4_unlike 152 = .ok (.iinc 9 1, 3) := by decide +kernel
theorem dX4_unlike_155 : decode cX4_unlike 155 = .ok (.goto (-92), 3) := by decide +kernel
theorem dX4_unlike_158 : decode cX4_unlike 158 = .ok (.iload_n 3, 1) := by decide +kernel
theorem dX4_unlike_159 : decode cX4_unlike 159 = .ok (.ifCond .ne 9, 3) := by decide +kernel
theorem dX4_unlike_162 : decode cX4_unlike 162 = .ok (.iload 4, 2) := by decide +kernel
theorem dX4_unlike_164 : decode cX4_unlike 164 = .ok (.i2l, 1) := by decide +kernel
theorem dX4_unlike_165 : decode cX4_unlike 165 = .ok (.goto 16, 3) := by decide +kernel
theorem dX4_unlike_168 : decode cX4_unlike 168 = .ok (.iload_n 3, 1) := by decide +kernel
theorem dX4_unlike_169 : decode cX4_unlike 169 = .ok (.iconst 1, 1) := by decide +kernel
theorem dX4_unlike_170 : decode cX4_unlike 170 = .ok (.if_icmp .ne 8, 3) := by decide +kernel
theorem dX4_unlike_173 : decode cX4_unlike 173 = .ok (.lload 6, 2) := by decide +kernel
theorem dX4_unlike_175 : decode cX4_unlike 175 = .ok (.goto 6, 3) := by decide +kernel
theorem dX4_unlike_178 : decode cX4_unlike 178 = .ok (.iload 5, 2) := by decide +kernel
theorem dX4_unlike_180 : decode cX4_unlike 180 = .ok (.i2l, 1) := by decide +kernel
theorem dX4_unlike_181 : decode cX4_unlike 181 = .ok (.lreturn, 1) := by decide +kernel
theorem dX4_ones_0 : decode cX4_ones 0 = .ok (.aload_n 0, 1) := by decide +kernel
theorem dX4_ones_1 : decode cX4_ones 1 = .ok (.iconst 0, 1) := by decide +kernel
theorem dX4_ones_2 : decode cX4_ones 2 = .ok (.putfield 69, 3) := by decide +kernel
theorem dX4_ones_5 : decode cX4_ones 5 = .ok (.aload_n 0, 1) := by decide +kernel
theorem dX4_ones_6 : decode cX4_ones 6 = .ok (.iload_n 1, 1) := by decide +kernel
theorem dX4_ones_7 : decode cX4_ones 7 = .ok (.iload_n 3, 1) := by decide +kernel
theorem dX4_ones_8 : decode cX4_ones 8 = .ok (.invokevirtual 164, 3) := by decide +kernel
theorem dX4_ones_11 : decode cX4_ones 11 = .ok (.ifCond .eq 21, 3) := by decide +kernel
theorem dX4_ones_14 : decode cX4_ones 14 = .ok (.iload_n 2, 1) := by decide +kernel
theorem dX4_ones_15 : decode cX4_ones 15 = .ok (.i2l, 1) := by decide +kernel
theorem dX4_ones_16 : decode cX4_ones 16 = .ok (.lconst 0, 1) := by decide +kernel
theorem dX4_ones_17 : decode cX4_ones 17 = .ok (.aload_n 0, 1) := by decide +kernel
theorem dX4_ones_18 : decode cX4_ones 18 = .ok (.getfield 17, 3) := by decide +kernel
theorem dX4_ones_21 : decode cX4_ones 21 = .ok (.iload_n 1, 1) := by decide +kernel
theorem dX4_ones_22 : decode cX4_ones 22 = .ok (.iaload, 1) := by decide +kernel
theorem dX4_ones_23 : decode cX4_ones 23 = .ok (.iconst 1, 1) := by decide +kernel
theorem dX4_ones_24 : decode cX4_ones 24 = .ok (.isub, 1) := by decide +kernel
theorem dX4_ones_25 : decode cX4_ones 25 = .ok (.i2l, 1) := by decide +kernel
theorem dX4_ones_26 : decode cX4_ones 26 = .ok (.invokestatic 76, 3) := by decide +kernel
theorem dX4_ones_29 : decode cX4_ones 29 = .ok (.ifCond .ne 9, 3) := by decide +kernel
theorem dX4_ones_32 : decode cX4_ones 32 = .ok (.aload_n 0, 1) := by decide +kernel
theorem dX4_ones_33 : decode cX4_ones 33 = .ok (.iconst 1, 1) := by decide +kernel
theorem dX4_ones_34 : decode cX4_ones 34 = .ok (.invokevirtual 105, 3) := by decide +kernel
theorem dX4_ones_37 : decode cX4_ones 37 = .ok (.ireturn, 1) := by decide +kernel
theorem dX4_ones_38 : decode cX4_ones 38 = .ok (.aload_n 0, 1) := by decide +kernel
theorem dX4_ones_39 : decode cX4_ones 39 = .ok (.iload_n 1, 1) := by decide +kernel
theorem dX4_ones_40 : decode cX4_ones 40 = .ok (.iload_n 3, 1) := by decide +kernel
theorem dX4_ones_41 : decode cX4_ones 41 = .ok (.invokevirtual 199, 3) := by decide +kernel
theorem dX4_ones_44 : decode cX4_ones 44 = .ok (.iconst 0, 1) := by decide +kernel
theorem dX4_ones_45 : decode cX4_ones 45 = .ok (.istore 4, 2) := by decide +kernel
theorem dX4_ones_47 : decode cX4_ones 47 = .ok (.iconst 0, 1) := by decide +kernel
theorem dX4_ones_48 : decode cX4_ones 48 = .ok (.istore 5, 2) := by decide +kernel
theorem dX4_ones_50 : decode cX4_ones 50 = .ok (.iload 5, 2) := by decide +kernel
theorem dX4_ones_52 : decode cX4_ones 52 = .ok (.aload_n 0, 1) := by decide +kernel
theorem dX4_ones_53 : decode cX4_ones 53 = .ok (.getfield 196, 3) := by decide +kernel
theorem dX4_ones_56 : decode cX4_ones 56 = .ok (.if_icmp .ge 26, 3) := by decide +kernel
theorem dX4_ones_59 : decode cX4_ones 59 = .ok (.iload 4, 2) := by decide +kernel
theorem dX4_ones_61 : decode cX4_ones 61 = .ok (.aload_n 0, 1) := by decide +kernel
theorem dX4_ones_62 : decode cX4_ones 62 = .ok (.getfield 27, 3) := by decide +kernel
theorem dX4_ones_65 : decode cX4_ones 65 = .ok (.iload 5, 2) := by decide +kernel
theorem dX4_ones_67 : decode cX4_ones 67 = .ok (.laload, 1) := by decide +kernel
theorem dX4_ones_68 : decode cX4_ones 68 = .ok (.iload_n 2, 1) := by decide +kernel
theorem dX4_ones_69 : decode cX4_ones 69 = .ok (.lshr, 1) := by decide +kernel
theorem dX4_ones_70 : decode cX4_ones 70 = .ok (.lconst 1, 1) := by decide +kernel
theorem dX4_ones_71 : decode cX4_ones 71 = .ok (.land, 1) := by decide +kernel
theorem dX4_ones_72 : decode cX4_ones 72 = .ok (.l2i, 1) := by decide +kernel
theorem dX4_ones_73 : decode cX4_ones 73 = .ok (.iadd, 1) := by decide +kernel
theorem dX4_ones_74 : decode cX4_ones 74 = .ok (.istore 4, 2) := by decide +kernel
theorem dX4_ones_76 : decode cX4_ones 76 = .ok (.iinc 5 1, 3) := by decide +kernel
theorem dX4_ones_79 : decode cX4_ones 79 = .ok (.goto (-29), 3) := by decide +kernel
theorem dX4_ones_82 : decode cX4_ones 82 = .ok (.iload 4, 2) := by decide +kernel
theorem dX4_ones_84 : decode cX4_ones 84 = .ok (.ireturn, 1) := by decide +kernel
theorem dX4_where_0 : decode cX4_where 0 = .ok (.aload_n 0, 1) := by decide +kernel
theorem dX4_where_1 : decode cX4_where 1 = .ok (.iconst 0, 1) := by decide +kernel
theorem dX4_where_2 : decode cX4_where 2 = .ok (.putfield 69, 3) := by decide +kernel
theorem dX4_where_5 : decode cX4_where 5 = .ok (.aload_n 0, 1) := by decide +kernel
theorem dX4_where_6 : decode cX4_where 6 = .ok (.iload_n 1, 1) := by decide +kernel
theorem dX4_where_7 : decode cX4_where 7 = .ok (.iload_n 2, 1) := by decide +kernel
theorem dX4_where_8 : decode cX4_where 8 = .ok (.invokevirtual 164, 3) := by decide +kernel
theorem dX4_where_11 : decode cX4_where 11 = .ok (.ifCond .ne 9, 3) := by decide +kernel
theorem dX4_where_14 : decode cX4_where 14 = .ok (.aload_n 0, 1) := by decide +kernel
theorem dX4_where_15 : decode cX4_where 15 = .ok (.iconst 1, 1) := by decide +kernel
theorem dX4_where_16 : decode cX4_where 16 = .ok (.invokevirtual 105, 3) := by decide +kernel
theorem dX4_where_19 : decode cX4_where 19 = .ok (.ireturn, 1) := by decide +kernel
theorem dX4_where_20 : decode cX4_where 20 = .ok (.iconst 0, 1) := by decide +kernel
theorem dX4_where_21 : decode cX4_where 21 = .ok (.istore 5, 2) := by decide +kernel
theorem dX4_where_23 : decode cX4_where 23 = .ok (.iload 5, 2) := by decide +kernel
theorem dX4_where_25 : decode cX4_where 25 = .ok (.aload_n 0, 1) := by decide +kernel
theorem dX4_where_26 : decode cX4_where 26 = .ok (.getfield 80, 3) := by decide +kernel
theorem dX4_where_29 : decode cX4_where 29 = .ok (.if_icmp .ge 39, 3) := by decide +kernel
theorem dX4_where_32 : decode cX4_where 32 = .ok (.aload_n 0, 1) := by decide +kernel
theorem dX4_where_33 : decode cX4_where 33 = .ok (.iload_n 1, 1) := by decide +kernel
theorem dX4_where_34 : decode cX4_where 34 = .ok (.iload 5, 2) := by decide +kernel
theorem dX4_where_36 : decode cX4_where 36 = .ok (.iload_n 2, 1) := by decide +kernel
theorem dX4_where_37 : decode cX4_where 37 = .ok (.invokevirtual 170, 3) := by decide +kernel
theorem dX4_where_40 : decode cX4_where 40 = .ok (.ifCond .eq 22, 3) := by decide +kernel
theorem dX4_where_43 : decode cX4_where 43 = .ok (.aload_n 0, 1) := by decide +kernel
theorem dX4_where_44 : decode cX4_where 44 = .ok (.getfield 7, 3) := by decide +kernel
theorem dX4_where_47 : decode cX4_where 47 = .ok (.iload_n 1, 1) := by decide +kernel
theorem dX4_where_48 : decode cX4_where 48 = .ok (.iload 5, 2) := by decide +kernel
theorem dX4_where_50 : decode cX4_where 50 = .ok (.invokestatic 94, 3) := by decide +kernel
theorem dX4_where_53 : decode cX4_where 53 = .ok (.laload, 1) := by decide +kernel
theorem dX4_where_54 : decode cX4_where 54 = .ok (.lload_n 3, 1) := by decide +kernel
theorem dX4_where_55 : decode cX4_where 55 = .ok (.lcmp, 1) := by decide +kernel
theorem dX4_where_56 : decode cX4_where 56 = .ok (.ifCond .ne 6, 3) := by decide +kernel
theorem dX4_where_59 : decode cX4_where 59 = .ok (.iload 5, 2) := by decide +kernel
theorem dX4_where_61 : decode cX4_where 61 = .ok (.ireturn, 1) := by decide +kernel
theorem dX4_where_62 : decode cX4_where 62 = .ok (.iinc 5 1, 3) := by decide +kernel
theorem dX4_where_65 : decode cX4_where 65 = .ok (.goto (-42), 3) := by decide +kernel
theorem dX4_where_68 : decode cX4_where 68 = .ok (.iconst (-1), 1) := by decide +kernel
theorem dX4_where_69 : decode cX4_where 69 = .ok (.ireturn, 1) := by decide +kernel
theorem dX4_dot_0 : decode cX4_dot 0 = .ok (.aload_n 0, 1) := by decide +kernel
theorem dX4_dot_1 : decode cX4_dot 1 = .ok (.iconst 0, 1) := by decide +kernel
theorem dX4_dot_2 : decode cX4_dot 2 = .ok (.putfield 69, 3) := by decide +kernel
theorem dX4_dot_5 : decode cX4_dot 5 = .ok (.aload_n 0, 1) := by decide +kernel
theorem dX4_dot_6 : decode cX4_dot 6 = .ok (.iload_n 1, 1) := by decide +kernel
theorem dX4_dot_7 : decode cX4_dot 7 = .ok (.iload_n 3, 1) := by decide +kernel
theorem dX4_dot_8 : decode cX4_dot 8 = .ok (.invokevirtual 164, 3) := by decide +kernel
theorem dX4_dot_11 : decode cX4_dot 11 = .ok (.ifCond .eq 11, 3) := by decide +kernel
theorem dX4_dot_14 : decode cX4_dot 14 = .ok (.aload_n 0, 1) := by decide +kernel
theorem dX4_dot_15 : decode cX4_dot 15 = .ok (.iload_n 2, 1) := by decide +kernel
theorem dX4_dot_16 : decode cX4_dot 16 = .ok (.invokevirtual 87, 3) := by decide +kernel
theorem dX4_dot_19 : decode cX4_dot 19 = .ok (.ifCond .ne 10, 3) := by decide +kernel
theorem dX4_dot_22 : decode cX4_dot 22 = .ok (.aload_n 0, 1) := by decide +kernel
theorem dX4_dot_23 : decode cX4_dot 23 = .ok (.iconst 1, 1) := by decide +kernel
theorem dX4_dot_24 : decode cX4_dot 24 = .ok (.invokevirtual 105, 3) := by decide +kernel
theorem dX4_dot_27 : decode cX4_dot 27 = .ok (.i2l, 1) := by decide +kernel
theorem dX4_dot_28 : decode cX4_dot 28 = .ok (.lreturn, 1) := by decide +kernel
theorem dX4_dot_29 : decode cX4_dot 29 = .ok (.aload_n 0, 1) := by decide +kernel
theorem dX4_dot_30 : decode cX4_dot 30 = .ok (.invokevirtual 222, 3) := by decide +kernel
theorem dX4_dot_33 : decode cX4_dot 33 = .ok (.iconst 0, 1) := by decide +kernel
theorem dX4_dot_34 : decode cX4_dot 34 = .ok (.istore 4, 2) := by decide +kernel
theorem dX4_dot_36 : decode cX4_dot 36 = .ok (.iload 4, 2) := by decide +kernel
theorem dX4_dot_38 : decode cX4_dot 38 = .ok (.aload_n 0, 1) := by decide +kernel
theorem dX4_dot_39 : decode cX4_dot 39 = .ok (.getfield 80, 3) := by decide +kernel
theorem dX4_dot_42 : decode cX4_dot 42 = .ok (.if_icmp .ge 60, 3) := by decide +kernel
theorem dX4_dot_45 : decode cX4_dot 45 = .ok (.aload_n 0, 1) := by decide +kernel
theorem dX4_dot_46 : decode cX4_dot 46 = .ok (.iload_n 1, 1) := by decide +kernel
theorem dX4_dot_47 : decode cX4_dot 47 = .ok (.iload 4, 2) := by decide +kernel
theorem dX4_dot_49 : decode cX4_dot 49 = .ok (.iload_n 3, 1) := by decide +kernel
theorem dX4_dot_50 : decode cX4_dot 50 = .ok (.invokevirtual 170, 3) := by decide +kernel
theorem dX4_dot_53 : decode cX4_dot 53 = .ok (.ifCond .eq 43, 3) := by decide +kernel
theorem dX4_dot_56 : decode cX4_dot 56 = .ok (.aload_n 0, 1) := by decide +kernel
theorem dX4_dot_57 : decode cX4_dot 57 = .ok (.getfield 13, 3) := by decide +kernel
theorem dX4_dot_60 : decode cX4_dot 60 = .ok (.iload_n 2, 1) := by decide +kernel
theorem dX4_dot_61 : decode cX4_dot 61 = .ok (.iload 4, 2) := by decide +kernel
theorem dX4_dot_63 : decode cX4_dot 63 = .ok (.invokestatic 94, 3) := by decide +kernel
theorem dX4_dot_66 : decode cX4_dot 66 = .ok (.baload, 1) := by decide +kernel
theorem dX4_dot_67 : decode cX4_dot 67 = .ok (.ifCond .eq 29, 3) := by decide +kernel
theorem dX4_dot_70 : decode cX4_dot 70 = .ok (.aload_n 0, 1) := by decide +kernel
theorem dX4_dot_71 : decode cX4_dot 71 = .ok (.aload_n 0, 1) := by decide +kernel
theorem dX4_dot_72 : decode cX4_dot 72 = .ok (.getfield 7, 3) := by decide +kernel
theorem dX4_dot_75 : decode cX4_dot 75 = .ok (.iload_n 1, 1) := by decide +kernel
theorem dX4_dot_76 : decode cX4_dot 76 = .ok (.iload 4, 2) := by decide +kernel
theorem dX4_dot_78 : decode cX4_dot 78 = .ok (.invokestatic 94, 3) := by decide +kernel
theorem dX4_dot_81 : decode cX4_dot 81 = .ok (.laload, 1) := by decide +kernel
theorem dX4_dot_82 : decode cX4_dot 82 = .ok (.aload_n 0, 1) := by decide +kernel
theorem dX4_dot_83 : decode cX4_dot 83 = .ok (.getfield 7, 3) := by decide +kernel
theorem dX4_dot_86 : decode cX4_dot 86 = .ok (.iload_n 2, 1) := by decide +kernel
theorem dX4_dot_87 : decode cX4_dot 87 = .ok (.iload 4, 2) := by decide +kernel
theorem dX4_dot_89 : decode cX4_dot 89 = .ok (.invokestatic 94, 3) := by decide +kernel
theorem dX4_dot_92 : decode cX4_dot 92 = .ok (.laload, 1) := by decide +kernel
theorem dX4_dot_93 : decode cX4_dot 93 = .ok (.invokevirtual 225, 3) := by decide +kernel
theorem dX4_dot_96 : decode cX4_dot 96 = .ok (.iinc 4 1, 3) := by decide +kernel
theorem dX4_dot_99 : decode cX4_dot 99 = .ok (.goto (-63), 3) := by decide +kernel
theorem dX4_dot_102 : decode cX4_dot 102 = .ok (.aload_n 0, 1) := by decide +kernel
theorem dX4_dot_103 : decode cX4_dot 103 = .ok (.iconst 2, 1) := by decide +kernel
theorem dX4_dot_104 : decode cX4_dot 104 = .ok (.invokevirtual 229, 3) := by decide +kernel
theorem dX4_dot_107 : decode cX4_dot 107 = .ok (.lreturn, 1) := by decide +kernel
theorem dX4_steps_0 : decode cX4_steps 0 = .ok (.aload_n 0, 1) := by decide +kernel
theorem dX4_steps_1 : decode cX4_steps 1 = .ok (.iconst 0, 1) := by decide +kernel
theorem dX4_steps_2 : decode cX4_steps 2 = .ok (.putfield 69, 3) := by decide +kernel
theorem dX4_steps_5 : decode cX4_steps 5 = .ok (.aload_n 0, 1) := by decide +kernel
theorem dX4_steps_6 : decode cX4_steps 6 = .ok (.iload_n 1, 1) := by decide +kernel
theorem dX4_steps_7 : decode cX4_steps 7 = .ok (.iload_n 2, 1) := by decide +kernel
theorem dX4_steps_8 : decode cX4_steps 8 = .ok (.invokevirtual 164, 3) := by decide +kernel
theorem dX4_steps_11 : decode cX4_steps 11 = .ok (.ifCond .ne 10, 3) := by decide +kernel
theorem dX4_steps_14 : decode cX4_steps 14 = .ok (.aload_n 0, 1) := by decide +kernel
theorem dX4_steps_15 : decode cX4_steps 15 = .ok (.iconst 1, 1) := by decide +kernel
theorem dX4_steps_16 : decode cX4_steps 16 = .ok (.invokevirtual 105, 3) := by decide +kernel
theorem dX4_steps_19 : decode cX4_steps 19 = .ok (.i2l, 1) := by decide +kernel
theorem dX4_steps_20 : decode cX4_steps 20 = .ok (.lreturn, 1) := by decide +kernel
theorem dX4_steps_21 : decode cX4_steps 21 = .ok (.aload_n 0, 1) := by decide +kernel
theorem dX4_steps_22 : decode cX4_steps 22 = .ok (.invokevirtual 222, 3) := by decide +kernel
theorem dX4_steps_25 : decode cX4_steps 25 = .ok (.iconst (-1), 1) := by decide +kernel
theorem dX4_steps_26 : decode cX4_steps 26 = .ok (.istore_n 3, 1) := by decide +kernel
theorem dX4_steps_27 : decode cX4_steps 27 = .ok (.iconst 0, 1) := by decide +kernel
theorem dX4_steps_28 : decode cX4_steps 28 = .ok (.istore 4, 2) := by decide +kernel
theorem dX4_steps_30 : decode cX4_steps 30 = .ok (.iload 4, 2) := by decide +kernel
theorem dX4_steps_32 : decode cX4_steps 32 = .ok (.aload_n 0, 1) := by decide +kernel
theorem dX4_steps_33 : decode cX4_steps 33 = .ok (.getfield 80, 3) := by decide +kernel
theorem dX4_steps_36 : decode cX4_steps 36 = .ok (.if_icmp .ge 61, 3) := by decide +kernel
theorem dX4_steps_39 : decode cX4_steps 39 = .ok (.aload_n 0, 1) := by decide +kernel
theorem dX4_steps_40 : decode cX4_steps 40 = .ok (.iload_n 1, 1) := by decide +kernel
theorem dX4_steps_41 : decode cX4_steps 41 = .ok (.iload 4, 2) := by decide +kernel
theorem dX4_steps_43 : decode cX4_steps 43 = .ok (.iload_n 2, 1) := by decide +kernel
theorem dX4_steps_44 : decode cX4_steps 44 = .ok (.invokevirtual 170, 3) := by decide +kernel
theorem dX4_steps_47 : decode cX4_steps 47 = .ok (.ifCond .ne 6, 3) := by decide +kernel
theorem dX4_steps_50 : decode cX4_steps 50 = .ok (.goto 41, 3) := by decide +kernel
theorem dX4_steps_53 : decode cX4_steps 53 = .ok (.iload_n 3, 1) := by decide +kernel
theorem dX4_steps_54 : decode cX4_steps 54 = .ok (.iconst (-1), 1) := by decide +kernel
theorem dX4_steps_55 : decode cX4_steps 55 = .ok (.if_icmp .eq 33, 3) := by decide +kernel
theorem dX4_steps_58 : decode cX4_steps 58 = .ok (.aload_n 0, 1) := by decide +kernel
theorem dX4_steps_59 : decode cX4_steps 59 = .ok (.aload_n 0, 1) := by decide +kernel
theorem dX4_steps_60 : decode cX4_steps 60 = .ok (.getfield 7, 3) := by decide +kernel
theorem dX4_steps_63 : decode cX4_steps 63 = .ok (.iload_n 1, 1) := by decide +kernel
theorem dX4_steps_64 : decode cX4_steps 64 = .ok (.iload 4, 2) := by decide +kernel
theorem dX4_steps_66 : decode cX4_steps 66 = .ok (.invokestatic 94, 3) := by decide +kernel
theorem dX4_steps_69 : decode cX4_steps 69 = .ok (.laload, 1) := by decide +kernel
theorem dX4_steps_70 : decode cX4_steps 70 = .ok (.aload_n 0, 1) := by decide +kernel
theorem dX4_steps_71 : decode cX4_steps 71 = .ok (.getfield 7, 3) := by decide +kernel
theorem dX4_steps_74 : decode cX4_steps 74 = .ok (.iload_n 1, 1) := by decide +kernel
theorem dX4_steps_75 : decode cX4_steps 75 = .ok (.iload_n 3, 1) := by decide +kernel
theorem dX4_steps_76 : decode cX4_steps 76 = .ok (.invokestatic 94, 3) := by decide +kernel
theorem dX4_steps_79 : decode cX4_steps 79 = .ok (.laload, 1) := by decide +kernel
theorem dX4_steps_80 : decode cX4_steps 80 = .ok (.lsub, 1) := by decide +kernel
theorem dX4_steps_81 : decode cX4_steps 81 = .ok (.invokestatic 207, 3) := by decide +kernel
theorem dX4_steps_84 : decode cX4_steps 84 = .ok (.lconst 1, 1) := by decide +kernel
theorem dX4_steps_85 : decode cX4_steps 85 = .ok (.invokevirtual 225, 3) := by decide +kernel
theorem dX4_steps_88 : decode cX4_steps 88 = .ok (.iload 4, 2) := by decide +kernel
theorem dX4_steps_90 : decode cX4_steps 90 = .ok (.istore_n 3, 1) := by decide +kernel
theorem dX4_steps_91 : decode cX4_steps 91 = .ok (.iinc 4 1, 3) := by decide +kernel
theorem dX4_steps_94 : decode cX4_steps 94 = .ok (.goto (-64), 3) := by decide +kernel
theorem dX4_steps_97 : decode cX4_steps 97 = .ok (.aload_n 0, 1) := by decide +kernel
theorem dX4_steps_98 : decode cX4_steps 98 = .ok (.iconst 2, 1) := by decide +kernel
theorem dX4_steps_99 : decode cX4_steps 99 = .ok (.invokevirtual 229, 3) := by decide +kernel
theorem dX4_steps_102 : decode cX4_steps 102 = .ok (.lreturn, 1) := by decide +kernel
theorem dX4_fold_0 : decode cX4_fold 0 = .ok (.aload_n 0, 1) := by decide +kernel
theorem dX4_fold_1 : decode cX4_fold 1 = .ok (.iconst 0, 1) := by decide +kernel
theorem dX4_fold_2 : decode cX4_fold 2 = .ok (.putfield 69, 3) := by decide +kernel
theorem dX4_fold_5 : decode cX4_fold 5 = .ok (.aload_n 0, 1) := by decide +kernel
theorem dX4_fold_6 : decode cX4_fold 6 = .ok (.iload_n 1, 1) := by decide +kernel
theorem dX4_fold_7 : decode cX4_fold 7 = .ok (.iload_n 2, 1) := by decide +kernel
theorem dX4_fold_8 : decode cX4_fold 8 = .ok (.invokevirtual 164, 3) := by decide +kernel
theorem dX4_fold_11 : decode cX4_fold 11 = .ok (.ifCond .ne 10, 3) := by decide +kernel
theorem dX4_fold_14 : decode cX4_fold 14 = .ok (.aload_n 0, 1) := by decide +kernel
theorem dX4_fold_15 : decode cX4_fold 15 = .ok (.iconst 1, 1) := by decide +kernel
theorem dX4_fold_16 : decode cX4_fold 16 = .ok (.invokevirtual 105, 3) := by decide +kernel
theorem dX4_fold_19 : decode cX4_fold 19 = .ok (.i2l, 1) := by decide +kernel
theorem dX4_fold_20 : decode cX4_fold 20 = .ok (.lreturn, 1) := by decide +kernel
theorem dX4_fold_21 : decode cX4_fold 21 = .ok (.iload_n 3, 1) := by decide +kernel
theorem dX4_fold_22 : decode cX4_fold 22 = .ok (.i2l, 1) := by decide +kernel
theorem dX4_fold_23 : decode cX4_fold 23 = .ok (.lconst 0, 1) := by decide +kernel
theorem dX4_fold_24 : decode cX4_fold 24 = .ok (.ldc2_w 85, 3) := by decide +kernel
theorem dX4_fold_27 : decode cX4_fold 27 = .ok (.invokestatic 76, 3) := by decide +kernel
theorem dX4_fold_30 : decode cX4_fold 30 = .ok (.ifCond .ne 10, 3) := by decide +kernel
theorem dX4_fold_33 : decode cX4_fold 33 = .ok (.aload_n 0, 1) := by decide +kernel
theorem dX4_fold_34 : decode cX4_fold 34 = .ok (.iconst 2, 1) := by decide +kernel
theorem dX4_fold_35 : decode cX4_fold 35 = .ok (.invokevirtual 105, 3) := by decide +kernel
theorem dX4_fold_38 : decode cX4_fold 38 = .ok (.i2l, 1) := by decide +kernel
theorem dX4_fold_39 : decode cX4_fold 39 = .ok (.lreturn, 1) := by decide +kernel
theorem dX4_fold_40 : decode cX4_fold 40 = .ok (.iload_n 3, 1) := by decide +kernel
theorem dX4_fold_41 : decode cX4_fold 41 = .ok (.ifCond .ne 9, 3) := by decide +kernel
theorem dX4_fold_44 : decode cX4_fold 44 = .ok (.ldc2_w 205, 3) := by decide +kernel
theorem dX4_fold_47 : decode cX4_fold 47 = .ok (.goto 4, 3) := by decide +kernel
theorem dX4_fold_50 : decode cX4_fold 50 = .ok (.lconst 0, 1) := by decide +kernel
theorem dX4_fold_51 : decode cX4_fold 51 = .ok (.lstore 4, 2) := by decide +kernel
theorem dX4_fold_53 : decode cX4_fold 53 = .ok (.iconst 0, 1) := by decide +kernel
theorem dX4_fold_54 : decode cX4_fold 54 = .ok (.istore 6, 2) := by decide +kernel
theorem dX4_fold_56 : decode cX4_fold 56 = .ok (.iload 6, 2) := by decide +kernel
theorem dX4_fold_58 : decode cX4_fold 58 = .ok (.aload_n 0, 1) := by decide +kernel
theorem dX4_fold_59 : decode cX4_fold 59 = .ok (.getfield 80, 3) := by decide +kernel
theorem dX4_fold_62 : decode cX4_fold 62 = .ok (.if_icmp .ge 68, 3) := by decide +kernel
theorem dX4_fold_65 : decode cX4_fold 65 = .ok (.aload_n 0, 1) := by decide +kernel
theorem dX4_fold_66 : decode cX4_fold 66 = .ok (.iload_n 1, 1) := by decide +kernel
theorem dX4_fold_67 : decode cX4_fold 67 = .ok (.iload 6, 2) := by decide +kernel
theorem dX4_fold_69 : decode cX4_fold 69 = .ok (.iload_n 2, 1) := by decide +kernel
theorem dX4_fold_70 : decode cX4_fold 70 = .ok (.invokevirtual 170, 3) := by decide +kernel
theorem dX4_fold_73 : decode cX4_fold 73 = .ok (.ifCond .ne 6, 3) := by decide +kernel
theorem dX4_fold_76 : decode cX4_fold 76 = .ok (.goto 48, 3) := by decide +kernel
theorem dX4_fold_79 : decode cX4_fold 79 = .ok (.aload_n 0, 1) := by decide +kernel
theorem dX4_fold_80 : decode cX4_fold 80 = .ok (.getfield 7, 3) := by decide +kernel
theorem dX4_fold_83 : decode cX4_fold 83 = .ok (.iload_n 1, 1) := by decide +kernel
theorem dX4_fold_84 : decode cX4_fold 84 = .ok (.iload 6, 2) := by decide +kernel
theorem dX4_fold_86 : decode cX4_fold 86 = .ok (.invokestatic 94, 3) := by decide +kernel
theorem dX4_fold_89 : decode cX4_fold 89 = .ok (.laload, 1) := by decide +kernel
theorem dX4_fold_90 : decode cX4_fold 90 = .ok (.lstore 7, 2) := by decide +kernel
theorem dX4_fold_92 : decode cX4_fold 92 = .ok (.iload_n 3, 1) := by decide +kernel
theorem dX4_fold_93 : decode cX4_fold 93 = .ok (.ifCond .ne 11, 3) := by decide +kernel
theorem dX4_fold_96 : decode cX4_fold 96 = .ok (.lload 4, 2) := by decide +kernel
theorem dX4_fold_98 : decode cX4_fold 98 = .ok (.lload 7, 2) := by decide +kernel
theorem dX4_fold_100 : decode cX4_fold 100 = .ok (.land, 1) := by decide +kernel
theorem dX4_fold_101 : decode cX4_fold 101 = .ok (.goto 21, 3) := by decide +kernel
theorem dX4_fold_104 : decode cX4_fold 104 = .ok (.iload_n 3, 1) := by decide +kernel
theorem dX4_fold_105 : decode cX4_fold 105 = .ok (.iconst 1, 1) := by decide +kernel
theorem dX4_fold_106 : decode cX4_fold 106 = .ok (.if_icmp .ne 11, 3) := by decide +kernel
theorem dX4_fold_109 : decode cX4_fold 109 = .ok (.lload 4, 2) := by decide +kernel
theorem dX4_fold_111 : decode cX4_fold 111 = .ok (.lload 7, 2) := by decide +kernel
theorem dX4_fold_113 : decode cX4_fold 113 = .ok (.lor, 1) := by decide +kernel
theorem dX4_fold_114 : decode cX4_fold 114 = .ok (.goto 8, 3) := by decide +kernel
theorem dX4_fold_117 : decode cX4_fold 117 = .ok (.lload 4, 2) := by decide +kernel
theorem dX4_fold_119 : decode cX4_fold 119 = .ok (.lload 7, 2) := by decide +kernel
theorem dX4_fold_121 : decode cX4_fold 121 = .ok (.lxor, 1) := by decide +kernel
theorem dX4_fold_122 : decode cX4_fold 122 = .ok (.lstore 4, 2) := by decide +kernel
theorem dX4_fold_124 : decode cX4_fold 124 = .ok (.iinc 6 1, 3) := by decide +kernel
theorem dX4_fold_127 : decode cX4_fold 127 = .ok (.goto (-71), 3) := by decide +kernel
theorem dX4_fold_130 : decode cX4_fold 130 = .ok (.lload 4, 2) := by decide +kernel
theorem dX4_fold_132 : decode cX4_fold 132 = .ok (.lreturn, 1) := by decide +kernel
theorem dX4_spread_0 : decode cX4_spread 0 = .ok (.aload_n 0, 1) := by decide +kernel
theorem dX4_spread_1 : decode cX4_spread 1 = .ok (.iconst 0, 1) := by decide +kernel
theorem dX4_spread_2 : decode cX4_spread 2 = .ok (.putfield 69, 3) := by decide +kernel
theorem dX4_spread_5 : decode cX4_spread 5 = .ok (.aload_n 0, 1) := by decide +kernel
theorem dX4_spread_6 : decode cX4_spread 6 = .ok (.iload_n 1, 1) := by decide +kernel
theorem dX4_spread_7 : decode cX4_spread 7 = .ok (.iload_n 2, 1) := by decide +kernel
theorem dX4_spread_8 : decode cX4_spread 8 = .ok (.invokevirtual 164, 3) := by decide +kernel
theorem dX4_spread_11 : decode cX4_spread 11 = .ok (.ifCond .ne 10, 3) := by decide +kernel
theorem dX4_spread_14 : decode cX4_spread 14 = .ok (.aload_n 0, 1) := by decide +kernel
theorem dX4_spread_15 : decode cX4_spread 15 = .ok (.iconst 1, 1) := by decide +kernel
theorem dX4_spread_16 : decode cX4_spread 16 = .ok (.invokevirtual 105, 3) := by decide +kernel
theorem dX4_spread_19 : decode cX4_spread 19 = .ok (.i2l, 1) := by decide +kernel
theorem dX4_spread_20 : decode cX4_spread 20 = .ok (.lreturn, 1) := by decide +kernel
theorem dX4_spread_21 : decode cX4_spread 21 = .ok (.aload_n 0, 1) := by decide +kernel
theorem dX4_spread_22 : decode cX4_spread 22 = .ok (.iload_n 1, 1) := by decide +kernel
theorem dX4_spread_23 : decode cX4_spread 23 = .ok (.iload_n 2, 1) := by decide +kernel
theorem dX4_spread_24 : decode cX4_spread 24 = .ok (.invokevirtual 199, 3) := by decide +kernel
theorem dX4_spread_27 : decode cX4_spread 27 = .ok (.aload_n 0, 1) := by decide +kernel
theorem dX4_spread_28 : decode cX4_spread 28 = .ok (.invokevirtual 222, 3) := by decide +kernel
theorem dX4_spread_31 : decode cX4_spread 31 = .ok (.iconst 0, 1) := by decide +kernel
theorem dX4_spread_32 : decode cX4_spread 32 = .ok (.istore_n 3, 1) := by decide +kernel
theorem dX4_spread_33 : decode cX4_spread 33 = .ok (.iload_n 3, 1) := by decide +kernel
theorem dX4_spread_34 : decode cX4_spread 34 = .ok (.aload_n 0, 1) := by decide +kernel
theorem dX4_spread_35 : decode cX4_spread 35 = .ok (.getfield 196, 3) := by decide +kernel
theorem dX4_spread_38 : decode cX4_spread 38 = .ok (.if_icmp .ge 60, 3) := by decide +kernel
theorem dX4_spread_41 : decode cX4_spread 41 = .ok (.iconst 0, 1) := by decide +kernel
theorem dX4_spread_42 : decode cX4_spread 42 = .ok (.istore 4, 2) := by decide +kernel
theorem dX4_spread_44 : decode cX4_spread 44 = .ok (.iload 4, 2) := by decide +kernel
theorem dX4_spread_46 : decode cX4_spread 46 = .ok (.iload_n 3, 1) := by decide +kernel
theorem dX4_spread_47 : decode cX4_spread 47 = .ok (.if_icmp .ge 41, 3) := by decide +kernel
theorem dX4_spread_50 : decode cX4_spread 50 = .ok (.aload_n 0, 1) := by decide +kernel
theorem dX4_spread_51 : decode cX4_spread 51 = .ok (.aload_n 0, 1) := by decide +kernel
theorem dX4_spread_52 : decode cX4_spread 52 = .ok (.getfield 27, 3) := by decide +kernel
theorem dX4_spread_55 : decode cX4_spread 55 = .ok (.iload_n 3, 1) := by decide +kernel
theorem dX4_spread_56 : decode cX4_spread 56 = .ok (.laload, 1) := by decide +kernel
theorem dX4_spread_57 : decode cX4_spread 57 = .ok (.aload_n 0, 1) := by decide +kernel
theorem dX4_spread_58 : decode cX4_spread 58 = .ok (.getfield 27, 3) := by decide +kernel
theorem dX4_spread_61 : decode cX4_spread 61 = .ok (.iload 4, 2) := by decide +kernel
theorem dX4_spread_63 : decode cX4_spread 63 = .ok (.laload, 1) := by decide +kernel
theorem dX4_spread_64 : decode cX4_spread 64 = .ok (.lsub, 1) := by decide +kernel
theorem dX4_spread_65 : decode cX4_spread 65 = .ok (.aload_n 0, 1) := by decide +kernel
theorem dX4_spread_66 : decode cX4_spread 66 = .ok (.getfield 27, 3) := by decide +kernel
theorem dX4_spread_69 : decode cX4_spread 69 = .ok (.iload_n 3, 1) := by decide +kernel
theorem dX4_spread_70 : decode cX4_spread 70 = .ok (.laload, 1) := by decide +kernel
theorem dX4_spread_71 : decode cX4_spread 71 = .ok (.aload_n 0, 1) := by decide +kernel
theorem dX4_spread_72 : decode cX4_spread 72 = .ok (.getfield 27, 3) := by decide +kernel
theorem dX4_spread_75 : decode cX4_spread 75 = .ok (.iload 4, 2) := by decide +kernel
theorem dX4_spread_77 : decode cX4_spread 77 = .ok (.laload, 1) := by decide +kernel
theorem dX4_spread_78 : decode cX4_spread 78 = .ok (.lsub, 1) := by decide +kernel
theorem dX4_spread_79 : decode cX4_spread 79 = .ok (.invokevirtual 225, 3) := by decide +kernel
theorem dX4_spread_82 : decode cX4_spread 82 = .ok (.iinc 4 1, 3) := by decide +kernel
theorem dX4_spread_85 : decode cX4_spread 85 = .ok (.goto (-41), 3) := by decide +kernel
theorem dX4_spread_88 : decode cX4_spread 88 = .ok (.aload_n 0, 1) := by decide +kernel
theorem dX4_spread_89 : decode cX4_spread 89 = .ok (.invokevirtual 215, 3) := by decide +kernel
theorem dX4_spread_92 : decode cX4_spread 92 = .ok (.iinc 3 1, 3) := by decide +kernel
theorem dX4_spread_95 : decode cX4_spread 95 = .ok (.goto (-62), 3) := by decide +kernel
theorem dX4_spread_98 : decode cX4_spread 98 = .ok (.aload_n 0, 1) := by decide +kernel
theorem dX4_spread_99 : decode cX4_spread 99 = .ok (.iconst 2, 1) := by decide +kernel
theorem dX4_spread_100 : decode cX4_spread 100 = .ok (.invokevirtual 229, 3) := by decide +kernel
theorem dX4_spread_103 : decode cX4_spread 103 = .ok (.lreturn, 1) := by decide +kernel
theorem dX4_isLessBare_0 : decode cX4_isLessBare 0 = .ok (.lload_n 0, 1) := by decide +kernel
theorem dX4_isLessBare_1 : decode cX4_isLessBare 1 = .ok (.ldc2_w 127, 3) := by decide +kernel
theorem dX4_isLessBare_4 : decode cX4_isLessBare 4 = .ok (.ladd, 1) := by decide +kernel
theorem dX4_isLessBare_5 : decode cX4_isLessBare 5 = .ok (.lload_n 2, 1) := by decide +kernel
theorem dX4_isLessBare_6 : decode cX4_isLessBare 6 = .ok (.ldc2_w 127, 3) := by decide +kernel
theorem dX4_isLessBare_9 : decode cX4_isLessBare 9 = .ok (.ladd, 1) := by decide +kernel
theorem dX4_isLessBare_10 : decode cX4_isLessBare 10 = .ok (.lcmp, 1) := by decide +kernel
theorem dX4_isLessBare_11 : decode cX4_isLessBare 11 = .ok (.ifCond .ge 7, 3) := by decide +kernel
theorem dX4_isLessBare_14 : decode cX4_isLessBare 14 = .ok (.iconst 1, 1) := by decide +kernel
theorem dX4_isLessBare_15 : decode cX4_isLessBare 15 = .ok (.goto 4, 3) := by decide +kernel
theorem dX4_isLessBare_18 : decode cX4_isLessBare 18 = .ok (.iconst 0, 1) := by decide +kernel
theorem dX4_isLessBare_19 : decode cX4_isLessBare 19 = .ok (.ireturn, 1) := by decide +kernel
theorem dX4_nearest_0 : decode cX4_nearest 0 = .ok (.aload_n 0, 1) := by decide +kernel
theorem dX4_nearest_1 : decode cX4_nearest 1 = .ok (.iconst 0, 1) := by decide +kernel
theorem dX4_nearest_2 : decode cX4_nearest 2 = .ok (.putfield 69, 3) := by decide +kernel
theorem dX4_nearest_5 : decode cX4_nearest 5 = .ok (.aload_n 0, 1) := by decide +kernel
theorem dX4_nearest_6 : decode cX4_nearest 6 = .ok (.iload_n 1, 1) := by decide +kernel
theorem dX4_nearest_7 : decode cX4_nearest 7 = .ok (.iload_n 2, 1) := by decide +kernel
theorem dX4_nearest_8 : decode cX4_nearest 8 = .ok (.invokevirtual 164, 3) := by decide +kernel
theorem dX4_nearest_11 : decode cX4_nearest 11 = .ok (.ifCond .ne 10, 3) := by decide +kernel
theorem dX4_nearest_14 : decode cX4_nearest 14 = .ok (.aload_n 0, 1) := by decide +kernel
theorem dX4_nearest_15 : decode cX4_nearest 15 = .ok (.iconst 1, 1) := by decide +kernel
theorem dX4_nearest_16 : decode cX4_nearest 16 = .ok (.invokevirtual 105, 3) := by decide +kernel
theorem dX4_nearest_19 : decode cX4_nearest 19 = .ok (.i2l, 1) := by decide +kernel
theorem dX4_nearest_20 : decode cX4_nearest 20 = .ok (.lreturn, 1) := by decide +kernel
theorem dX4_nearest_21 : decode cX4_nearest 21 = .ok (.aload_n 0, 1) := by decide +kernel
theorem dX4_nearest_22 : decode cX4_nearest 22 = .ok (.iload_n 1, 1) := by decide +kernel
theorem dX4_nearest_23 : decode cX4_nearest 23 = .ok (.iload_n 2, 1) := by decide +kernel
theorem dX4_nearest_24 : decode cX4_nearest 24 = .ok (.invokevirtual 199, 3) := by decide +kernel
theorem dX4_nearest_27 : decode cX4_nearest 27 = .ok (.ldc2_w 127, 3) := by decide +kernel
theorem dX4_nearest_30 : decode cX4_nearest 30 = .ok (.lstore 5, 2) := by decide +kernel
theorem dX4_nearest_32 : decode cX4_nearest 32 = .ok (.lconst 0, 1) := by decide +kernel
theorem dX4_nearest_33 : decode cX4_nearest 33 = .ok (.lstore 7, 2) := by decide +kernel
theorem dX4_nearest_35 : decode cX4_nearest 35 = .ok (.iconst 0, 1) := by decide +kernel
theorem dX4_nearest_36 : decode cX4_nearest 36 = .ok (.istore 9, 2) := by decide +kernel
theorem dX4_nearest_38 : decode cX4_nearest 38 = .ok (.iload 9, 2) := by decide +kernel
theorem dX4_nearest_40 : decode cX4_nearest 40 = .ok (.aload_n 0, 1) := by decide +kernel
theorem dX4_nearest_41 : decode cX4_nearest 41 = .ok (.getfield 196, 3) := by decide +kernel
theorem dX4_nearest_44 : decode cX4_nearest 44 = .ok (.if_icmp .ge 75, 3) := by decide +kernel
theorem dX4_nearest_47 : decode cX4_nearest 47 = .ok (.aload_n 0, 1) := by decide +kernel
theorem dX4_nearest_48 : decode cX4_nearest 48 = .ok (.getfield 27, 3) := by decide +kernel
theorem dX4_nearest_51 : decode cX4_nearest 51 = .ok (.iload 9, 2) := by decide +kernel
theorem dX4_nearest_53 : decode cX4_nearest 53 = .ok (.laload, 1) := by decide +kernel
theorem dX4_nearest_54 : decode cX4_nearest 54 = .ok (.lload_n 3, 1) := by decide +kernel
theorem dX4_nearest_55 : decode cX4_nearest 55 = .ok (.lcmp, 1) := by decide +kernel
theorem dX4_nearest_56 : decode cX4_nearest 56 = .ok (.ifCond .ge 15, 3) := by decide +kernel
theorem dX4_nearest_59 : decode cX4_nearest 59 = .ok (.lload_n 3, 1) := by decide +kernel
theorem dX4_nearest_60 : decode cX4_nearest 60 = .ok (.aload_n 0, 1) := by decide +kernel
theorem dX4_nearest_61 : decode cX4_nearest 61 = .ok (.getfield 27, 3) := by decide +kernel
theorem dX4_nearest_64 : decode cX4_nearest 64 = .ok (.iload 9, 2) := by decide +kernel
theorem dX4_nearest_66 : decode cX4_nearest 66 = .ok (.laload, 1) := by decide +kernel
theorem dX4_nearest_67 : decode cX4_nearest 67 = .ok (.lsub, 1) := by decide +kernel
theorem dX4_nearest_68 : decode cX4_nearest 68 = .ok (.goto 12, 3) := by decide +kernel
theorem dX4_nearest_71 : decode cX4_nearest 71 = .ok (.aload_n 0, 1) := by decide +kernel
theorem dX4_nearest_72 : decode cX4_nearest 72 = .ok (.getfield 27, 3) := by decide +kernel
theorem dX4_nearest_75 : decode cX4_nearest 75 = .ok (.iload 9, 2) := by decide +kernel
theorem dX4_nearest_77 : decode cX4_nearest 77 = .ok (.laload, 1) := by decide +kernel
theorem dX4_nearest_78 : decode cX4_nearest 78 = .ok (.lload_n 3, 1) := by decide +kernel
theorem dX4_nearest_79 : decode cX4_nearest 79 = .ok (.lsub, 1) := by decide +kernel
theorem dX4_nearest_80 : decode cX4_nearest 80 = .ok (.lstore 10, 2) := by decide +kernel
theorem dX4_nearest_82 : decode cX4_nearest 82 = .ok (.iload 9, 2) := by decide +kernel
theorem dX4_nearest_84 : decode cX4_nearest 84 = .ok (.ifCond .le 16, 3) := by decide +kernel
theorem dX4_nearest_87 : decode cX4_nearest 87 = .ok (.lload 10, 2) := by decide +kernel
theorem dX4_nearest_89 : decode cX4_nearest 89 = .ok (.lload 7, 2) := by decide +kernel
theorem dX4_nearest_91 : decode cX4_nearest 91 = .ok (.invokestatic 242, 3) := by decide +kernel
theorem dX4_nearest_94 : decode cX4_nearest 94 = .ok (.ifCond .ne 6, 3) := by decide +kernel
theorem dX4_nearest_97 : decode cX4_nearest 97 = .ok (.goto 16, 3) := by decide +kernel
theorem dX4_nearest_100 : decode cX4_nearest 100 = .ok (.aload_n 0, 1) := by decide +kernel
theorem dX4_nearest_101 : decode cX4_nearest 101 = .ok (.getfield 27, 3) := by decide +kernel
theorem dX4_nearest_104 : decode cX4_nearest 104 = .ok (.iload 9, 2) := by decide +kernel
theorem dX4_nearest_106 : decode cX4_nearest 106 = .ok (.laload, 1) := by decide +kernel
theorem dX4_nearest_107 : decode cX4_nearest 107 = .ok (.lstore 5, 2) := by decide +kernel
theorem dX4_nearest_109 : decode cX4_nearest 109 = .ok (.lload 10, 2) := by decide +kernel
theorem dX4_nearest_111 : decode cX4_nearest 111 = .ok (.lstore 7, 2) := by decide +kernel
theorem dX4_nearest_113 : decode cX4_nearest 113 = .ok (.iinc 9 1, 3) := by decide +kernel
theorem dX4_nearest_116 : decode cX4_nearest 116 = .ok (.goto (-78), 3) := by decide +kernel
theorem dX4_nearest_119 : decode cX4_nearest 119 = .ok (.lload 5, 2) := by decide +kernel
theorem dX4_nearest_121 : decode cX4_nearest 121 = .ok (.lreturn, 1) := by decide +kernel
theorem dX4_goesInto_0 : decode cX4_goesInto 0 = .ok (.lload_n 2, 1) := by decide +kernel
theorem dX4_goesInto_1 : decode cX4_goesInto 1 = .ok (.lconst 0, 1) := by decide +kernel
theorem dX4_goesInto_2 : decode cX4_goesInto 2 = .ok (.lcmp, 1) := by decide +kernel
theorem dX4_goesInto_3 : decode cX4_goesInto 3 = .ok (.ifCond .lt 7, 3) := by decide +kernel
theorem dX4_goesInto_6 : decode cX4_goesInto 6 = .ok (.lload_n 2, 1) := by decide +kernel
theorem dX4_goesInto_7 : decode cX4_goesInto 7 = .ok (.lload_n 0, 1) := by decide +kernel
theorem dX4_goesInto_8 : decode cX4_goesInto 8 = .ok (.ldiv, 1) := by decide +kernel
theorem dX4_goesInto_9 : decode cX4_goesInto 9 = .ok (.lreturn, 1) := by decide +kernel
theorem dX4_goesInto_10 : decode cX4_goesInto 10 = .ok (.lload_n 2, 1) := by decide +kernel
theorem dX4_goesInto_11 : decode cX4_goesInto 11 = .ok (.iconst 1, 1) := by decide +kernel
theorem dX4_goesInto_12 : decode cX4_goesInto 12 = .ok (.lushr, 1) := by decide +kernel
theorem dX4_goesInto_13 : decode cX4_goesInto 13 = .ok (.lload_n 0, 1) := by decide +kernel
theorem dX4_goesInto_14 : decode cX4_goesInto 14 = .ok (.ldiv, 1) := by decide +kernel
theorem dX4_goesInto_15 : decode cX4_goesInto 15 = .ok (.iconst 1, 1) := by decide +kernel
theorem dX4_goesInto_16 : decode cX4_goesInto 16 = .ok (.lshl, 1) := by decide +kernel
theorem dX4_goesInto_17 : decode cX4_goesInto 17 = .ok (.lstore 4, 2) := by decide +kernel
theorem dX4_goesInto_19 : decode cX4_goesInto 19 = .ok (.lload_n 2, 1) := by decide +kernel
theorem dX4_goesInto_20 : decode cX4_goesInto 20 = .ok (.lload 4, 2) := by decide +kernel
theorem dX4_goesInto_22 : decode cX4_goesInto 22 = .ok (.lload_n 0, 1) := by decide +kernel
theorem dX4_goesInto_23 : decode cX4_goesInto 23 = .ok (.lmul, 1) := by decide +kernel
theorem dX4_goesInto_24 : decode cX4_goesInto 24 = .ok (.lsub, 1) := by decide +kernel
theorem dX4_goesInto_25 : decode cX4_goesInto 25 = .ok (.lload_n 0, 1) := by decide +kernel
theorem dX4_goesInto_26 : decode cX4_goesInto 26 = .ok (.invokestatic 242, 3) := by decide +kernel
theorem dX4_goesInto_29 : decode cX4_goesInto 29 = .ok (.ifCond .eq 8, 3) := by decide +kernel
theorem dX4_goesInto_32 : decode cX4_goesInto 32 = .ok (.lload 4, 2) := by decide +kernel
theorem dX4_goesInto_34 : decode cX4_goesInto 34 = .ok (.goto 7, 3) := by decide +kernel
theorem dX4_goesInto_37 : decode cX4_goesInto 37 = .ok (.lload 4, 2) := by decide +kernel
theorem dX4_goesInto_39 : decode cX4_goesInto 39 = .ok (.lconst 1, 1) := by decide +kernel
theorem dX4_goesInto_40 : decode cX4_goesInto 40 = .ok (.ladd, 1) := by decide +kernel
theorem dX4_goesInto_41 : decode cX4_goesInto 41 = .ok (.lreturn, 1) := by decide +kernel
theorem dX4_box_0 : decode cX4_box 0 = .ok (.aload_n 0, 1) := by decide +kernel
theorem dX4_box_1 : decode cX4_box 1 = .ok (.iconst 0, 1) := by decide +kernel
theorem dX4_box_2 : decode cX4_box 2 = .ok (.putfield 69, 3) := by decide +kernel
theorem dX4_box_5 : decode cX4_box 5 = .ok (.aload_n 0, 1) := by decide +kernel
theorem dX4_box_6 : decode cX4_box 6 = .ok (.iload_n 1, 1) := by decide +kernel
theorem dX4_box_7 : decode cX4_box 7 = .ok (.iload_n 2, 1) := by decide +kernel
theorem dX4_box_8 : decode cX4_box 8 = .ok (.invokevirtual 164, 3) := by decide +kernel
theorem dX4_box_11 : decode cX4_box 11 = .ok (.ifCond .ne 9, 3) := by decide +kernel
theorem dX4_box_14 : decode cX4_box 14 = .ok (.aload_n 0, 1) := by decide +kernel
theorem dX4_box_15 : decode cX4_box 15 = .ok (.iconst 1, 1) := by decide +kernel
theorem dX4_box_16 : decode cX4_box 16 = .ok (.invokevirtual 105, 3) := by decide +kernel
theorem dX4_box_19 : decode cX4_box 19 = .ok (.ireturn, 1) := by decide +kernel
theorem dX4_box_20 : decode cX4_box 20 = .ok (.lload 5, 2) := by decide +kernel
theorem dX4_box_22 : decode cX4_box 22 = .ok (.lconst 1, 1) := by decide +kernel
theorem dX4_box_23 : decode cX4_box 23 = .ok (.lcmp, 1) := by decide +kernel
theorem dX4_box_24 : decode cX4_box 24 = .ok (.ifCond .lt 8, 3) := by decide +kernel
theorem dX4_box_27 : decode cX4_box 27 = .ok (.iload 7, 2) := by decide +kernel
theorem dX4_box_29 : decode cX4_box 29 = .ok (.ifCond .ge 9, 3) := by decide +kernel
theorem dX4_box_32 : decode cX4_box 32 = .ok (.aload_n 0, 1) := by decide +kernel
theorem dX4_box_33 : decode cX4_box 33 = .ok (.iconst 2, 1) := by decide +kernel
theorem dX4_box_34 : decode cX4_box 34 = .ok (.invokevirtual 105, 3) := by decide +kernel
theorem dX4_box_37 : decode cX4_box 37 = .ok (.ireturn, 1) := by decide +kernel
theorem dX4_box_38 : decode cX4_box 38 = .ok (.aload_n 0, 1) := by decide +kernel
theorem dX4_box_39 : decode cX4_box 39 = .ok (.iload_n 1, 1) := by decide +kernel
theorem dX4_box_40 : decode cX4_box 40 = .ok (.iload_n 2, 1) := by decide +kernel
theorem dX4_box_41 : decode cX4_box 41 = .ok (.invokevirtual 199, 3) := by decide +kernel
theorem dX4_box_44 : decode cX4_box 44 = .ok (.iconst 0, 1) := by decide +kernel
theorem dX4_box_45 : decode cX4_box 45 = .ok (.istore 8, 2) := by decide +kernel
theorem dX4_box_47 : decode cX4_box 47 = .ok (.iconst 0, 1) := by decide +kernel
theorem dX4_box_48 : decode cX4_box 48 = .ok (.istore 9, 2) := by decide +kernel
theorem dX4_box_50 : decode cX4_box 50 = .ok (.iload 9, 2) := by decide +kernel
theorem dX4_box_52 : decode cX4_box 52 = .ok (.aload_n 0, 1) := by decide +kernel
theorem dX4_box_53 : decode cX4_box 53 = .ok (.getfield 196, 3) := by decide +kernel
theorem dX4_box_56 : decode cX4_box 56 = .ok (.if_icmp .ge 55, 3) := by decide +kernel
theorem dX4_box_59 : decode cX4_box 59 = .ok (.iload 8, 2) := by decide +kernel
theorem dX4_box_61 : decode cX4_box 61 = .ok (.aload_n 0, 1) := by decide +kernel
theorem dX4_box_62 : decode cX4_box 62 = .ok (.getfield 27, 3) := by decide +kernel
theorem dX4_box_65 : decode cX4_box 65 = .ok (.iload 9, 2) := by decide +kernel
theorem dX4_box_67 : decode cX4_box 67 = .ok (.laload, 1) := by decide +kernel
theorem dX4_box_68 : decode cX4_box 68 = .ok (.lload_n 3, 1) := by decide +kernel
theorem dX4_box_69 : decode cX4_box 69 = .ok (.lcmp, 1) := by decide +kernel
theorem dX4_box_70 : decode cX4_box 70 = .ok (.ifCond .lt 28, 3) := by decide +kernel
theorem dX4_box_73 : decode cX4_box 73 = .ok (.lload 5, 2) := by decide +kernel
theorem dX4_box_75 : decode cX4_box 75 = .ok (.aload_n 0, 1) := by decide +kernel
theorem dX4_box_76 : decode cX4_box 76 = .ok (.getfield 27, 3) := by decide +kernel
theorem dX4_box_79 : decode cX4_box 79 = .ok (.iload 9, 2) := by decide +kernel
theorem dX4_box_81 : decode cX4_box 81 = .ok (.laload, 1) := by decide +kernel
theorem dX4_box_82 : decode cX4_box 82 = .ok (.lload_n 3, 1) := by decide +kernel
theorem dX4_box_83 : decode cX4_box 83 = .ok (.lsub, 1) := by decide +kernel
theorem dX4_box_84 : decode cX4_box 84 = .ok (.invokestatic 246, 3) := by decide +kernel
theorem dX4_box_87 : decode cX4_box 87 = .ok (.iload 7, 2) := by decide +kernel
theorem dX4_box_89 : decode cX4_box 89 = .ok (.i2l, 1) := by decide +kernel
theorem dX4_box_90 : decode cX4_box 90 = .ok (.lcmp, 1) := by decide +kernel
theorem dX4_box_91 : decode cX4_box 91 = .ok (.ifCond .ne 7, 3) := by decide +kernel
theorem dX4_box_94 : decode cX4_box 94 = .ok (.iconst 1, 1) := by decide +kernel
theorem dX4_box_95 : decode cX4_box 95 = .ok (.goto 4, 3) := by decide +kernel
theorem dX4_box_98 : decode cX4_box 98 = .ok (.iconst 0, 1) := by decide +kernel
theorem dX4_box_99 : decode cX4_box 99 = .ok (.invokestatic 123, 3) := by decide +kernel
theorem dX4_box_102 : decode cX4_box 102 = .ok (.iadd, 1) := by decide +kernel
theorem dX4_box_103 : decode cX4_box 103 = .ok (.istore 8, 2) := by decide +kernel
theorem dX4_box_105 : decode cX4_box 105 = .ok (.iinc 9 1, 3) := by decide +kernel
theorem dX4_box_108 : decode cX4_box 108 = .ok (.goto (-58), 3) := by decide +kernel
theorem dX4_box_111 : decode cX4_box 111 = .ok (.iload 8, 2) := by decide +kernel
theorem dX4_box_113 : decode cX4_box 113 = .ok (.ireturn, 1) := by decide +kernel
theorem dX4_begins_0 : decode cX4_begins 0 = .ok (.aload_n 0, 1) := by decide +kernel
theorem dX4_begins_1 : decode cX4_begins 1 = .ok (.iconst 0, 1) := by decide +kernel
theorem dX4_begins_2 : decode cX4_begins 2 = .ok (.putfield 249, 3) := by decide +kernel
theorem dX4_begins_5 : decode cX4_begins 5 = .ok (.iconst 0, 1) := by decide +kernel
theorem dX4_begins_6 : decode cX4_begins 6 = .ok (.istore_n 1, 1) := by decide +kernel
theorem dX4_begins_7 : decode cX4_begins 7 = .ok (.iload_n 1, 1) := by decide +kernel
theorem dX4_begins_8 : decode cX4_begins 8 = .ok (.sipush 192, 3) := by decide +kernel
theorem dX4_begins_11 : decode cX4_begins 11 = .ok (.if_icmp .ge 16, 3) := by decide +kernel
theorem dX4_begins_14 : decode cX4_begins 14 = .ok (.aload_n 0, 1) := by decide +kernel
theorem dX4_begins_15 : decode cX4_begins 15 = .ok (.getfield 36, 3) := by decide +kernel
theorem dX4_begins_18 : decode cX4_begins 18 = .ok (.iload_n 1, 1) := by decide +kernel
theorem dX4_begins_19 : decode cX4_begins 19 = .ok (.iconst 0, 1) := by decide +kernel
theorem dX4_begins_20 : decode cX4_begins 20 = .ok (.bastore, 1) := by decide +kernel
theorem dX4_begins_21 : decode cX4_begins 21 = .ok (.iinc 1 1, 3) := by decide +kernel
theorem dX4_begins_24 : decode cX4_begins 24 = .ok (.goto (-17), 3) := by decide +kernel
theorem dX4_begins_27 : decode cX4_begins 27 = .ok (.return_, 1) := by decide +kernel
theorem dX4_lays_0 : decode cX4_lays 0 = .ok (.aload_n 0, 1) := by decide +kernel
theorem dX4_lays_1 : decode cX4_lays 1 = .ok (.iload_n 1, 1) := by decide +kernel
theorem dX4_lays_2 : decode cX4_lays 2 = .ok (.lload_n 3, 1) := by decide +kernel
theorem dX4_lays_3 : decode cX4_lays 3 = .ok (.invokevirtual 116, 3) := by decide +kernel
theorem dX4_lays_6 : decode cX4_lays 6 = .ok (.ifCond .ne 8, 3) := by decide +kernel
theorem dX4_lays_9 : decode cX4_lays 9 = .ok (.aload_n 0, 1) := by decide +kernel
theorem dX4_lays_10 : decode cX4_lays 10 = .ok (.iconst 1, 1) := by decide +kernel
theorem dX4_lays_11 : decode cX4_lays 11 = .ok (.putfield 249, 3) := by decide +kernel
theorem dX4_lays_14 : decode cX4_lays 14 = .ok (.aload_n 0, 1) := by decide +kernel
theorem dX4_lays_15 : decode cX4_lays 15 = .ok (.getfield 36, 3) := by decide +kernel
theorem dX4_lays_18 : decode cX4_lays 18 = .ok (.iload_n 2, 1) := by decide +kernel
theorem dX4_lays_19 : decode cX4_lays 19 = .ok (.iconst 1, 1) := by decide +kernel
theorem dX4_lays_20 : decode cX4_lays 20 = .ok (.bastore, 1) := by decide +kernel
theorem dX4_lays_21 : decode cX4_lays 21 = .ok (.aload_n 0, 1) := by decide +kernel
theorem dX4_lays_22 : decode cX4_lays 22 = .ok (.getfield 33, 3) := by decide +kernel
theorem dX4_lays_25 : decode cX4_lays 25 = .ok (.iload_n 2, 1) := by decide +kernel
theorem dX4_lays_26 : decode cX4_lays 26 = .ok (.lload_n 3, 1) := by decide +kernel
theorem dX4_lays_27 : decode cX4_lays 27 = .ok (.lastore, 1) := by decide +kernel
theorem dX4_lays_28 : decode cX4_lays 28 = .ok (.return_, 1) := by decide +kernel
theorem dX4_done_0 : decode cX4_done 0 = .ok (.aload_n 0, 1) := by decide +kernel
theorem dX4_done_1 : decode cX4_done 1 = .ok (.getfield 249, 3) := by decide +kernel
theorem dX4_done_4 : decode cX4_done 4 = .ok (.ifCond .eq 9, 3) := by decide +kernel
theorem dX4_done_7 : decode cX4_done 7 = .ok (.aload_n 0, 1) := by decide +kernel
theorem dX4_done_8 : decode cX4_done 8 = .ok (.iload_n 2, 1) := by decide +kernel
theorem dX4_done_9 : decode cX4_done 9 = .ok (.invokevirtual 120, 3) := by decide +kernel
theorem dX4_done_12 : decode cX4_done 12 = .ok (.ireturn, 1) := by decide +kernel
theorem dX4_done_13 : decode cX4_done 13 = .ok (.iconst 0, 1) := by decide +kernel
theorem dX4_done_14 : decode cX4_done 14 = .ok (.istore_n 3, 1) := by decide +kernel
theorem dX4_done_15 : decode cX4_done 15 = .ok (.iconst 0, 1) := by decide +kernel
theorem dX4_done_16 : decode cX4_done 16 = .ok (.istore 4, 2) := by decide +kernel
theorem dX4_done_18 : decode cX4_done 18 = .ok (.iload 4, 2) := by decide +kernel
theorem dX4_done_20 : decode cX4_done 20 = .ok (.aload_n 0, 1) := by decide +kernel
theorem dX4_done_21 : decode cX4_done 21 = .ok (.getfield 80, 3) := by decide +kernel
theorem dX4_done_24 : decode cX4_done 24 = .ok (.if_icmp .ge 55, 3) := by decide +kernel
theorem dX4_done_27 : decode cX4_done 27 = .ok (.aload_n 0, 1) := by decide +kernel
theorem dX4_done_28 : decode cX4_done 28 = .ok (.getfield 36, 3) := by decide +kernel
theorem dX4_done_31 : decode cX4_done 31 = .ok (.iload 4, 2) := by decide +kernel
theorem dX4_done_33 : decode cX4_done 33 = .ok (.baload, 1) := by decide +kernel
theorem dX4_done_34 : decode cX4_done 34 = .ok (.ifCond .ne 6, 3) := by decide +kernel
theorem dX4_done_37 : decode cX4_done 37 = .ok (.goto 36, 3) := by decide +kernel
theorem dX4_done_40 : decode cX4_done 40 = .ok (.aload_n 0, 1) := by decide +kernel
theorem dX4_done_41 : decode cX4_done 41 = .ok (.getfield 7, 3) := by decide +kernel
theorem dX4_done_44 : decode cX4_done 44 = .ok (.iload_n 1, 1) := by decide +kernel
theorem dX4_done_45 : decode cX4_done 45 = .ok (.iload 4, 2) := by decide +kernel
theorem dX4_done_47 : decode cX4_done 47 = .ok (.invokestatic 94, 3) := by decide +kernel
theorem dX4_done_50 : decode cX4_done 50 = .ok (.aload_n 0, 1) := by decide +kernel
theorem dX4_done_51 : decode cX4_done 51 = .ok (.getfield 33, 3) := by decide +kernel
theorem dX4_done_54 : decode cX4_done 54 = .ok (.iload 4, 2) := by decide +kernel
theorem dX4_done_56 : decode cX4_done 56 = .ok (.laload, 1) := by decide +kernel
theorem dX4_done_57 : decode cX4_done 57 = .ok (.lastore, 1) := by decide +kernel
theorem dX4_done_58 : decode cX4_done 58 = .ok (.aload_n 0, 1) := by decide +kernel
theorem dX4_done_59 : decode cX4_done 59 = .ok (.getfield 13, 3) := by decide +kernel
theorem dX4_done_62 : decode cX4_done 62 = .ok (.iload_n 1, 1) := by decide +kernel
theorem dX4_done_63 : decode cX4_done 63 = .ok (.iload 4, 2) := by decide +kernel
theorem dX4_done_65 : decode cX4_done 65 = .ok (.invokestatic 94, 3) := by decide +kernel
theorem dX4_done_68 : decode cX4_done 68 = .ok (.iconst 1, 1) := by decide +kernel
theorem dX4_done_69 : decode cX4_done 69 = .ok (.bastore, 1) := by decide +kernel
theorem dX4_done_70 : decode cX4_done 70 = .ok (.iinc 3 1, 3) := by decide +kernel
theorem dX4_done_73 : decode cX4_done 73 = .ok (.iinc 4 1, 3) := by decide +kernel
theorem dX4_done_76 : decode cX4_done 76 = .ok (.goto (-58), 3) := by decide +kernel
theorem dX4_done_79 : decode cX4_done 79 = .ok (.iload_n 3, 1) := by decide +kernel
theorem dX4_done_80 : decode cX4_done 80 = .ok (.ireturn, 1) := by decide +kernel
theorem dX4_add_0 : decode cX4_add 0 = .ok (.aload_n 0, 1) := by decide +kernel
theorem dX4_add_1 : decode cX4_add 1 = .ok (.iconst 0, 1) := by decide +kernel
theorem dX4_add_2 : decode cX4_add 2 = .ok (.putfield 69, 3) := by decide +kernel
theorem dX4_add_5 : decode cX4_add 5 = .ok (.aload_n 0, 1) := by decide +kernel
theorem dX4_add_6 : decode cX4_add 6 = .ok (.iload_n 1, 1) := by decide +kernel
theorem dX4_add_7 : decode cX4_add 7 = .ok (.iload 4, 2) := by decide +kernel
theorem dX4_add_9 : decode cX4_add 9 = .ok (.invokevirtual 164, 3) := by decide +kernel
theorem dX4_add_12 : decode cX4_add 12 = .ok (.ifCond .ne 9, 3) := by decide +kernel
theorem dX4_add_15 : decode cX4_add 15 = .ok (.aload_n 0, 1) := by decide +kernel
theorem dX4_add_16 : decode cX4_add 16 = .ok (.iconst 1, 1) := by decide +kernel
theorem dX4_add_17 : decode cX4_add 17 = .ok (.invokevirtual 105, 3) := by decide +kernel
theorem dX4_add_20 : decode cX4_add 20 = .ok (.ireturn, 1) := by decide +kernel
theorem dX4_add_21 : decode cX4_add 21 = .ok (.aload_n 0, 1) := by decide +kernel
theorem dX4_add_22 : decode cX4_add 22 = .ok (.invokevirtual 253, 3) := by decide +kernel
theorem dX4_add_25 : decode cX4_add 25 = .ok (.iconst 0, 1) := by decide +kernel
theorem dX4_add_26 : decode cX4_add 26 = .ok (.istore 5, 2) := by decide +kernel
theorem dX4_add_28 : decode cX4_add 28 = .ok (.iload 5, 2) := by decide +kernel
theorem dX4_add_30 : decode cX4_add 30 = .ok (.aload_n 0, 1) := by decide +kernel
theorem dX4_add_31 : decode cX4_add 31 = .ok (.getfield 80, 3) := by decide +kernel
theorem dX4_add_34 : decode cX4_add 34 = .ok (.if_icmp .ge 82, 3) := by decide +kernel
theorem dX4_add_37 : decode cX4_add 37 = .ok (.aload_n 0, 1) := by decide +kernel
theorem dX4_add_38 : decode cX4_add 38 = .ok (.iload_n 1, 1) := by decide +kernel
theorem dX4_add_39 : decode cX4_add 39 = .ok (.iload 5, 2) := by decide +kernel
theorem dX4_add_41 : decode cX4_add 41 = .ok (.iload 4, 2) := by decide +kernel
theorem dX4_add_43 : decode cX4_add 43 = .ok (.invokevirtual 170, 3) := by decide +kernel
theorem dX4_add_46 : decode cX4_add 46 = .ok (.ifCond .ne 6, 3) := by decide +kernel
theorem dX4_add_49 : decode cX4_add 49 = .ok (.goto 61, 3) := by decide +kernel
theorem dX4_add_52 : decode cX4_add 52 = .ok (.aload_n 0, 1) := by decide +kernel
theorem dX4_add_53 : decode cX4_add 53 = .ok (.getfield 7, 3) := by decide +kernel
theorem dX4_add_56 : decode cX4_add 56 = .ok (.iload_n 1, 1) := by decide +kernel
theorem dX4_add_57 : decode cX4_add 57 = .ok (.iload 5, 2) := by decide +kernel
theorem dX4_add_59 : decode cX4_add 59 = .ok (.invokestatic 94, 3) := by decide +kernel
theorem dX4_add_62 : decode cX4_add 62 = .ok (.laload, 1) := by decide +kernel
theorem dX4_add_63 : decode cX4_add 63 = .ok (.lstore 6, 2) := by decide +kernel
theorem dX4_add_65 : decode cX4_add 65 = .ok (.lload_n 2, 1) := by decide +kernel
theorem dX4_add_66 : decode cX4_add 66 = .ok (.aload_n 0, 1) := by decide +kernel
theorem dX4_add_67 : decode cX4_add 67 = .ok (.iload_n 1, 1) := by decide +kernel
theorem dX4_add_68 : decode cX4_add 68 = .ok (.invokevirtual 98, 3) := by decide +kernel
theorem dX4_add_71 : decode cX4_add 71 = .ok (.lneg, 1) := by decide +kernel
theorem dX4_add_72 : decode cX4_add 72 = .ok (.lconst 1, 1) := by decide +kernel
theorem dX4_add_73 : decode cX4_add 73 = .ok (.lsub, 1) := by decide +kernel
theorem dX4_add_74 : decode cX4_add 74 = .ok (.lload 6, 2) := by decide +kernel
theorem dX4_add_76 : decode cX4_add 76 = .ok (.lsub, 1) := by decide +kernel
theorem dX4_add_77 : decode cX4_add 77 = .ok (.aload_n 0, 1) := by decide +kernel
theorem dX4_add_78 : decode cX4_add 78 = .ok (.iload_n 1, 1) := by decide +kernel
theorem dX4_add_79 : decode cX4_add 79 = .ok (.invokevirtual 98, 3) := by decide +kernel
theorem dX4_add_82 : decode cX4_add 82 = .ok (.lload 6, 2) := by decide +kernel
theorem dX4_add_84 : decode cX4_add 84 = .ok (.lsub, 1) := by decide +kernel
theorem dX4_add_85 : decode cX4_add 85 = .ok (.invokestatic 76, 3) := by decide +kernel
theorem dX4_add_88 : decode cX4_add 88 = .ok (.ifCond .eq 17, 3) := by decide +kernel
theorem dX4_add_91 : decode cX4_add 91 = .ok (.aload_n 0, 1) := by decide +kernel
theorem dX4_add_92 : decode cX4_add 92 = .ok (.iload_n 1, 1) := by decide +kernel
theorem dX4_add_93 : decode cX4_add 93 = .ok (.iload 5, 2) := by decide +kernel
theorem dX4_add_95 : decode cX4_add 95 = .ok (.lload 6, 2) := by decide +kernel
theorem dX4_add_97 : decode cX4_add 97 = .ok (.lload_n 2, 1) := by decide +kernel
theorem dX4_add_98 : decode cX4_add 98 = .ok (.ladd, 1) := by decide +kernel
theorem dX4_add_99 : decode cX4_add 99 = .ok (.invokevirtual 256, 3) := by decide +kernel
theorem dX4_add_102 : decode cX4_add 102 = .ok (.goto 8, 3) := by decide +kernel
theorem dX4_add_105 : decode cX4_add 105 = .ok (.aload_n 0, 1) := by decide +kernel
theorem dX4_add_106 : decode cX4_add 106 = .ok (.iconst 1, 1) := by decide +kernel
theorem dX4_add_107 : decode cX4_add 107 = .ok (.putfield 249, 3) := by decide +kernel
theorem dX4_add_110 : decode cX4_add 110 = .ok (.iinc 5 1, 3) := by decide +kernel
theorem dX4_add_113 : decode cX4_add 113 = .ok (.goto (-85), 3) := by decide +kernel
theorem dX4_add_116 : decode cX4_add 116 = .ok (.aload_n 0, 1) := by decide +kernel
theorem dX4_add_117 : decode cX4_add 117 = .ok (.iload_n 1, 1) := by decide +kernel
theorem dX4_add_118 : decode cX4_add 118 = .ok (.iconst 2, 1) := by decide +kernel
theorem dX4_add_119 : decode cX4_add 119 = .ok (.invokevirtual 260, 3) := by decide +kernel
theorem dX4_add_122 : decode cX4_add 122 = .ok (.ireturn, 1) := by decide +kernel
theorem dX4_plus_0 : decode cX4_plus 0 = .ok (.aload_n 0, 1) := by decide +kernel
theorem dX4_plus_1 : decode cX4_plus 1 = .ok (.iconst 0, 1) := by decide +kernel
theorem dX4_plus_2 : decode cX4_plus 2 = .ok (.putfield 69, 3) := by decide +kernel
theorem dX4_plus_5 : decode cX4_plus 5 = .ok (.aload_n 0, 1) := by decide +kernel
theorem dX4_plus_6 : decode cX4_plus 6 = .ok (.iload_n 1, 1) := by decide +kernel
theorem dX4_plus_7 : decode cX4_plus 7 = .ok (.iload 4, 2) := by decide +kernel
theorem dX4_plus_9 : decode cX4_plus 9 = .ok (.invokevirtual 164, 3) := by decide +kernel
theorem dX4_plus_12 : decode cX4_plus 12 = .ok (.ifCond .eq 11, 3) := by decide +kernel
theorem dX4_plus_15 : decode cX4_plus 15 = .ok (.aload_n 0, 1) := by decide +kernel
theorem dX4_plus_16 : decode cX4_plus 16 = .ok (.iload_n 2, 1) := by decide +kernel
theorem dX4_plus_17 : decode cX4_plus 17 = .ok (.invokevirtual 87, 3) := by decide +kernel
theorem dX4_plus_20 : decode cX4_plus 20 = .ok (.ifCond .ne 9, 3) := by decide +kernel
theorem dX4_plus_23 : decode cX4_plus 23 = .ok (.aload_n 0, 1) := by decide +kernel
theorem dX4_plus_24 : decode cX4_plus 24 = .ok (.iconst 1, 1) := by decide +kernel
theorem dX4_plus_25 : decode cX4_plus 25 = .ok (.invokevirtual 105, 3) := by decide +kernel
theorem dX4_plus_28 : decode cX4_plus 28 = .ok (.ireturn, 1) := by decide +kernel
theorem dX4_plus_29 : decode cX4_plus 29 = .ok (.aload_n 0, 1) := by decide +kernel
theorem dX4_plus_30 : decode cX4_plus 30 = .ok (.invokevirtual 253, 3) := by decide +kernel
theorem dX4_plus_33 : decode cX4_plus 33 = .ok (.iconst 0, 1) := by decide +kernel
theorem dX4_plus_34 : decode cX4_plus 34 = .ok (.istore 5, 2) := by decide +kernel
theorem dX4_plus_36 : decode cX4_plus 36 = .ok (.iload 5, 2) := by decide +kernel
theorem dX4_plus_38 : decode cX4_plus 38 = .ok (.aload_n 0, 1) := by decide +kernel
theorem dX4_plus_39 : decode cX4_plus 39 = .ok (.getfield 80, 3) := by decide +kernel
theorem dX4_plus_42 : decode cX4_plus 42 = .ok (.if_icmp .ge 93, 3) := by decide +kernel
theorem dX4_plus_45 : decode cX4_plus 45 = .ok (.aload_n 0, 1) := by decide +kernel
theorem dX4_plus_46 : decode cX4_plus 46 = .ok (.iload_n 1, 1) := by decide +kernel
theorem dX4_plus_47 : decode cX4_plus 47 = .ok (.iload 5, 2) := by decide +kernel
theorem dX4_plus_49 : decode cX4_plus 49 = .ok (.iload 4, 2) := by decide +kernel
theorem dX4_plus_51 : decode cX4_plus 51 = .ok (.invokevirtual 170, 3) := by decide +kernel
theorem dX4_plus_54 : decode cX4_plus 54 = .ok (.ifCond .eq 75, 3) := by decide +kernel
theorem dX4_plus_57 : decode cX4_plus 57 = .ok (.aload_n 0, 1) := by decide +kernel
theorem dX4_plus_58 : decode cX4_plus 58 = .ok (.getfield 13, 3) := by decide +kernel
theorem dX4_plus_61 : decode cX4_plus 61 = .ok (.iload_n 2, 1) := by decide +kernel
theorem dX4_plus_62 : decode cX4_plus 62 = .ok (.iload 5, 2) := by decide +kernel
theorem dX4_plus_64 : decode cX4_plus 64 = .ok (.invokestatic 94, 3) := by decide +kernel
theorem dX4_plus_67 : decode cX4_plus 67 = .ok (.baload, 1) := by decide +kernel
theorem dX4_plus_68 : decode cX4_plus 68 = .ok (.ifCond .ne 6, 3) := by decide +kernel
theorem dX4_plus_71 : decode cX4_plus 71 = .ok (.goto 58, 3) := by decide +kernel
theorem dX4_plus_74 : decode cX4_plus 74 = .ok (.aload_n 0, 1) := by decide +kernel
theorem dX4_plus_75 : decode cX4_plus 75 = .ok (.getfield 7, 3) := by decide +kernel
theorem dX4_plus_78 : decode cX4_plus 78 = .ok (.iload_n 2, 1) := by decide +kernel
theorem dX4_plus_79 : decode cX4_plus 79 = .ok (.iload 5, 2) := by decide +kernel
theorem dX4_plus_81 : decode cX4_plus 81 = .ok (.invokestatic 94, 3) := by decide +kernel
theorem dX4_plus_84 : decode cX4_plus 84 = .ok (.laload, 1) := by decide +kernel
theorem dX4_plus_85 : decode cX4_plus 85 = .ok (.lstore 6, 2) := by decide +kernel
theorem dX4_plus_87 : decode cX4_plus 87 = .ok (.aload_n 0, 1) := by decide +kernel
theorem dX4_plus_88 : decode cX4_plus 88 = .ok (.iload_n 1, 1) := by decide +kernel
theorem dX4_plus_89 : decode cX4_plus 89 = .ok (.iload 5, 2) := by decide +kernel
theorem dX4_plus_91 : decode cX4_plus 91 = .ok (.iload_n 3, 1) := by decide +kernel
theorem dX4_plus_92 : decode cX4_plus 92 = .ok (.ifCond .eq 20, 3) := by decide +kernel
theorem dX4_plus_95 : decode cX4_plus 95 = .ok (.aload_n 0, 1) := by decide +kernel
theorem dX4_plus_96 : decode cX4_plus 96 = .ok (.getfield 7, 3) := by decide +kernel
theorem dX4_plus_99 : decode cX4_plus 99 = .ok (.iload_n 1, 1) := by decide +kernel
theorem dX4_plus_100 : decode cX4_plus 100 = .ok (.iload 5, 2) := by decide +kernel
theorem dX4_plus_102 : decode cX4_plus 102 = .ok (.invokestatic 94, 3) := by decide +kernel
theorem dX4_plus_105 : decode cX4_plus 105 = .ok (.laload, 1) := by decide +kernel
theorem dX4_plus_106 : decode cX4_plus 106 = .ok (.lload 6, 2) := by decide +kernel
theorem dX4_plus_108 : decode cX4_plus 108 = .ok (.lsub, 1) := by decide +kernel
theorem dX4_plus_109 : decode cX4_plus 109 = .ok (.goto 17, 3) := by decide +kernel
theorem dX4_plus_112 : decode cX4_plus 112 = .ok (.aload_n 0, 1) := by decide +kernel
theorem dX4_plus_113 : decode cX4_plus 113 = .ok (.getfield 7, 3) := by decide +kernel
theorem dX4_plus_116 : decode cX4_plus 116 = .ok (.iload_n 1, 1) := by decide +kernel
theorem dX4_plus_117 : decode cX4_plus 117 = .ok (.iload 5, 2) := by decide +kernel
theorem dX4_plus_119 : decode cX4_plus 119 = .ok (.invokestatic 94, 3) := by decide +kernel
theorem dX4_plus_122 : decode cX4_plus 122 = .ok (.laload, 1) := by decide +kernel
theorem dX4_plus_123 : decode cX4_plus 123 = .ok (.lload 6, 2) := by decide +kernel
theorem dX4_plus_125 : decode cX4_plus 125 = .ok (.ladd, 1) := by decide +kernel
theorem dX4_plus_126 : decode cX4_plus 126 = .ok (.invokevirtual 256, 3) := by decide +kernel
theorem dX4_plus_129 : decode cX4_plus 129 = .ok (.iinc 5 1, 3) := by decide +kernel
theorem dX4_plus_132 : decode cX4_plus 132 = .ok (.goto (-96), 3) := by decide +kernel
theorem dX4_plus_135 : decode cX4_plus 135 = .ok (.aload_n 0, 1) := by decide +kernel
theorem dX4_plus_136 : decode cX4_plus 136 = .ok (.iload_n 1, 1) := by decide +kernel
theorem dX4_plus_137 : decode cX4_plus 137 = .ok (.iconst 2, 1) := by decide +kernel
theorem dX4_plus_138 : decode cX4_plus 138 = .ok (.invokevirtual 260, 3) := by decide +kernel
theorem dX4_plus_141 : decode cX4_plus 141 = .ok (.ireturn, 1) := by decide +kernel
theorem dX4_scale_0 : decode cX4_scale 0 = .ok (.aload_n 0, 1) := by decide +kernel
theorem dX4_scale_1 : decode cX4_scale 1 = .ok (.iconst 0, 1) := by decide +kernel
theorem dX4_scale_2 : decode cX4_scale 2 = .ok (.putfield 69, 3) := by decide +kernel
theorem dX4_scale_5 : decode cX4_scale 5 = .ok (.aload_n 0, 1) := by decide +kernel
theorem dX4_scale_6 : decode cX4_scale 6 = .ok (.iload_n 1, 1) := by decide +kernel
theorem dX4_scale_7 : decode cX4_scale 7 = .ok (.iload_n 3, 1) := by decide +kernel
theorem dX4_scale_8 : decode cX4_scale 8 = .ok (.invokevirtual 164, 3) := by decide +kernel
theorem dX4_scale_11 : decode cX4_scale 11 = .ok (.ifCond .ne 9, 3) := by decide +kernel
theorem dX4_scale_14 : decode cX4_scale 14 = .ok (.aload_n 0, 1) := by decide +kernel
theorem dX4_scale_15 : decode cX4_scale 15 = .ok (.iconst 1, 1) := by decide +kernel
theorem dX4_scale_16 : decode cX4_scale 16 = .ok (.invokevirtual 105, 3) := by decide +kernel
theorem dX4_scale_19 : decode cX4_scale 19 = .ok (.ireturn, 1) := by decide +kernel
theorem dX4_scale_20 : decode cX4_scale 20 = .ok (.iload_n 2, 1) := by decide +kernel
theorem dX4_scale_21 : decode cX4_scale 21 = .ok (.i2l, 1) := by decide +kernel
theorem dX4_scale_22 : decode cX4_scale 22 = .ok (.ldc2_w 263, 3) := by decide +kernel
theorem dX4_scale_25 : decode cX4_scale 25 = .ok (.ldc2_w 265, 3) := by decide +kernel
theorem dX4_scale_28 : decode cX4_scale 28 = .ok (.invokestatic 76, 3) := by decide +kernel
theorem dX4_scale_31 : decode cX4_scale 31 = .ok (.ifCond .ne 9, 3) := by decide +kernel
theorem dX4_scale_34 : decode cX4_scale 34 = .ok (.aload_n 0, 1) := by decide +kernel
theorem dX4_scale_35 : decode cX4_scale 35 = .ok (.iconst 2, 1) := by decide +kernel
theorem dX4_scale_36 : decode cX4_scale 36 = .ok (.invokevirtual 105, 3) := by decide +kernel
theorem dX4_scale_39 : decode cX4_scale 39 = .ok (.ireturn, 1) := by decide +kernel
theorem dX4_scale_40 : decode cX4_scale 40 = .ok (.aload_n 0, 1) := by decide +kernel
theorem dX4_scale_41 : decode cX4_scale 41 = .ok (.invokevirtual 253, 3) := by decide +kernel
theorem dX4_scale_44 : decode cX4_scale 44 = .ok (.iload_n 2, 1) := by decide +kernel
theorem dX4_scale_45 : decode cX4_scale 45 = .ok (.ifCond .ge 9, 3) := by decide +kernel
theorem dX4_scale_48 : decode cX4_scale 48 = .ok (.iload_n 2, 1) := by decide +kernel
theorem dX4_scale_49 : decode cX4_scale 49 = .ok (.ineg, 1) := by decide +kernel
theorem dX4_scale_50 : decode cX4_scale 50 = .ok (.i2l, 1) := by decide +kernel
theorem dX4_scale_51 : decode cX4_scale 51 = .ok (.goto 5, 3) := by decide +kernel
theorem dX4_scale_54 : decode cX4_scale 54 = .ok (.iload_n 2, 1) := by decide +kernel
theorem dX4_scale_55 : decode cX4_scale 55 = .ok (.i2l, 1) := by decide +kernel
theorem dX4_scale_56 : decode cX4_scale 56 = .ok (.lstore 4, 2) := by decide +kernel
theorem dX4_scale_58 : decode cX4_scale 58 = .ok (.iconst 0, 1) := by decide +kernel
theorem dX4_scale_59 : decode cX4_scale 59 = .ok (.istore 6, 2) := by decide +kernel
theorem dX4_scale_61 : decode cX4_scale 61 = .ok (.iload 6, 2) := by decide +kernel
theorem dX4_scale_63 : decode cX4_scale 63 = .ok (.aload_n 0, 1) := by decide +kernel
theorem dX4_scale_64 : decode cX4_scale 64 = .ok (.getfield 80, 3) := by decide +kernel
theorem dX4_scale_67 : decode cX4_scale 67 = .ok (.if_icmp .ge 75, 3) := by decide +kernel
theorem dX4_scale_70 : decode cX4_scale 70 = .ok (.aload_n 0, 1) := by decide +kernel
theorem dX4_scale_71 : decode cX4_scale 71 = .ok (.iload_n 1, 1) := by decide +kernel
theorem dX4_scale_72 : decode cX4_scale 72 = .ok (.iload 6, 2) := by decide +kernel
theorem dX4_scale_74 : decode cX4_scale 74 = .ok (.iload_n 3, 1) := by decide +kernel
theorem dX4_scale_75 : decode cX4_scale 75 = .ok (.invokevirtual 170, 3) := by decide +kernel
theorem dX4_scale_78 : decode cX4_scale 78 = .ok (.ifCond .ne 6, 3) := by decide +kernel
theorem dX4_scale_81 : decode cX4_scale 81 = .ok (.goto 55, 3) := by decide +kernel
theorem dX4_scale_84 : decode cX4_scale 84 = .ok (.aload_n 0, 1) := by decide +kernel
theorem dX4_scale_85 : decode cX4_scale 85 = .ok (.getfield 7, 3) := by decide +kernel
theorem dX4_scale_88 : decode cX4_scale 88 = .ok (.iload_n 1, 1) := by decide +kernel
theorem dX4_scale_89 : decode cX4_scale 89 = .ok (.iload 6, 2) := by decide +kernel
theorem dX4_scale_91 : decode cX4_scale 91 = .ok (.invokestatic 94, 3) := by decide +kernel
theorem dX4_scale_94 : decode cX4_scale 94 = .ok (.laload, 1) := by decide +kernel
theorem dX4_scale_95 : decode cX4_scale 95 = .ok (.lstore 7, 2) := by decide +kernel
theorem dX4_scale_97 : decode cX4_scale 97 = .ok (.iload_n 2, 1) := by decide +kernel
theorem dX4_scale_98 : decode cX4_scale 98 = .ok (.ifCond .eq 26, 3) := by decide +kernel
theorem dX4_scale_101 : decode cX4_scale 101 = .ok (.lload 7, 2) := by decide +kernel
theorem dX4_scale_103 : decode cX4_scale 103 = .ok (.invokestatic 207, 3) := by decide +kernel
theorem dX4_scale_106 : decode cX4_scale 106 = .ok (.ldc2_w 267, 3) := by decide +kernel
theorem dX4_scale_109 : decode cX4_scale 109 = .ok (.lload 4, 2) := by decide +kernel
theorem dX4_scale_111 : decode cX4_scale 111 = .ok (.ldiv, 1) := by decide +kernel
theorem dX4_scale_112 : decode cX4_scale 112 = .ok (.lcmp, 1) := by decide +kernel
theorem dX4_scale_113 : decode cX4_scale 113 = .ok (.ifCond .le 11, 3) := by decide +kernel
theorem dX4_scale_116 : decode cX4_scale 116 = .ok (.aload_n 0, 1) := by decide +kernel
theorem dX4_scale_117 : decode cX4_scale 117 = .ok (.iconst 1, 1) := by decide +kernel
theorem dX4_scale_118 : decode cX4_scale 118 = .ok (.putfield 249, 3) := by decide +kernel
theorem dX4_scale_121 : decode cX4_scale 121 = .ok (.goto 15, 3) := by decide +kernel
theorem dX4_scale_124 : decode cX4_scale 124 = .ok (.aload_n 0, 1) := by decide +kernel
theorem dX4_scale_125 : decode cX4_scale 125 = .ok (.iload_n 1, 1) := by decide +kernel
theorem dX4_scale_126 : decode cX4_scale 126 = .ok (.iload 6, 2) := by decide +kernel
theorem dX4_scale_128 : decode cX4_scale 128 = .ok (.lload 7, 2) := by decide +kernel
theorem dX4_scale_130 : decode cX4_scale 130 = .ok (.iload_n 2, 1) := by decide +kernel
theorem dX4_scale_131 : decode cX4_scale 131 = .ok (.i2l, 1) := by decide +kernel
theorem dX4_scale_132 : decode cX4_scale 132 = .ok (.lmul, 1) := by decide +kernel
theorem dX4_scale_133 : decode cX4_scale 133 = .ok (.invokevirtual 256, 3) := by decide +kernel
theorem dX4_scale_136 : decode cX4_scale 136 = .ok (.iinc 6 1, 3) := by decide +kernel
theorem dX4_scale_139 : decode cX4_scale 139 = .ok (.goto (-78), 3) := by decide +kernel
theorem dX4_scale_142 : decode cX4_scale 142 = .ok (.aload_n 0, 1) := by decide +kernel
theorem dX4_scale_143 : decode cX4_scale 143 = .ok (.iload_n 1, 1) := by decide +kernel
theorem dX4_scale_144 : decode cX4_scale 144 = .ok (.iconst 3, 1) := by decide +kernel
theorem dX4_scale_145 : decode cX4_scale 145 = .ok (.invokevirtual 260, 3) := by decide +kernel
theorem dX4_scale_148 : decode cX4_scale 148 = .ok (.ireturn, 1) := by decide +kernel
theorem dX4_shift_0 : decode cX4_shift 0 = .ok (.aload_n 0, 1) := by decide +kernel
theorem dX4_shift_1 : decode cX4_shift 1 = .ok (.iconst 0, 1) := by decide +kernel
theorem dX4_shift_2 : decode cX4_shift 2 = .ok (.putfield 69, 3) := by decide +kernel
theorem dX4_shift_5 : decode cX4_shift 5 = .ok (.aload_n 0, 1) := by decide +kernel
theorem dX4_shift_6 : decode cX4_shift 6 = .ok (.iload_n 1, 1) := by decide +kernel
theorem dX4_shift_7 : decode cX4_shift 7 = .ok (.iload_n 3, 1) := by decide +kernel
theorem dX4_shift_8 : decode cX4_shift 8 = .ok (.invokevirtual 164, 3) := by decide +kernel
theorem dX4_shift_11 : decode cX4_shift 11 = .ok (.ifCond .ne 9, 3) := by decide +kernel
theorem dX4_shift_14 : decode cX4_shift 14 = .ok (.aload_n 0, 1) := by decide +kernel
theorem dX4_shift_15 : decode cX4_shift 15 = .ok (.iconst 1, 1) := by decide +kernel
theorem dX4_shift_16 : decode cX4_shift 16 = .ok (.invokevirtual 105, 3) := by decide +kernel
theorem dX4_shift_19 : decode cX4_shift 19 = .ok (.ireturn, 1) := by decide +kernel
theorem dX4_shift_20 : decode cX4_shift 20 = .ok (.iload_n 2, 1) := by decide +kernel
theorem dX4_shift_21 : decode cX4_shift 21 = .ok (.ifCond .eq 17, 3) := by decide +kernel
theorem dX4_shift_24 : decode cX4_shift 24 = .ok (.iload_n 2, 1) := by decide +kernel
theorem dX4_shift_25 : decode cX4_shift 25 = .ok (.i2l, 1) := by decide +kernel
theorem dX4_shift_26 : decode cX4_shift 26 = .ok (.ldc2_w 269, 3) := by decide +kernel
theorem dX4_shift_29 : decode cX4_shift 29 = .ok (.ldc2_w 271, 3) := by decide +kernel
theorem dX4_shift_32 : decode cX4_shift 32 = .ok (.invokestatic 76, 3) := by decide +kernel
theorem dX4_shift_35 : decode cX4_shift 35 = .ok (.ifCond .ne 9, 3) := by decide +kernel
theorem dX4_shift_38 : decode cX4_shift 38 = .ok (.aload_n 0, 1) := by decide +kernel
theorem dX4_shift_39 : decode cX4_shift 39 = .ok (.iconst 2, 1) := by decide +kernel
theorem dX4_shift_40 : decode cX4_shift 40 = .ok (.invokevirtual 105, 3) := by decide +kernel
theorem dX4_shift_43 : decode cX4_shift 43 = .ok (.ireturn, 1) := by decide +kernel
theorem dX4_shift_44 : decode cX4_shift 44 = .ok (.aload_n 0, 1) := by decide +kernel
theorem dX4_shift_45 : decode cX4_shift 45 = .ok (.invokevirtual 253, 3) := by decide +kernel
theorem dX4_shift_48 : decode cX4_shift 48 = .ok (.iconst 0, 1) := by decide +kernel
theorem dX4_shift_49 : decode cX4_shift 49 = .ok (.istore 4, 2) := by decide +kernel
theorem dX4_shift_51 : decode cX4_shift 51 = .ok (.iload 4, 2) := by decide +kernel
theorem dX4_shift_53 : decode cX4_shift 53 = .ok (.aload_n 0, 1) := by decide +kernel
theorem dX4_shift_54 : decode cX4_shift 54 = .ok (.getfield 80, 3) := by decide +kernel
theorem dX4_shift_57 : decode cX4_shift 57 = .ok (.if_icmp .ge 88, 3) := by decide +kernel
theorem dX4_shift_60 : decode cX4_shift 60 = .ok (.aload_n 0, 1) := by decide +kernel
theorem dX4_shift_61 : decode cX4_shift 61 = .ok (.iload_n 1, 1) := by decide +kernel
theorem dX4_shift_62 : decode cX4_shift 62 = .ok (.iload 4, 2) := by decide +kernel
theorem dX4_shift_64 : decode cX4_shift 64 = .ok (.iload_n 3, 1) := by decide +kernel
theorem dX4_shift_65 : decode cX4_shift 65 = .ok (.invokevirtual 170, 3) := by decide +kernel
theorem dX4_shift_68 : decode cX4_shift 68 = .ok (.ifCond .ne 6, 3) := by decide +kernel
theorem dX4_shift_71 : decode cX4_shift 71 = .ok (.goto 68, 3) := by decide +kernel
theorem dX4_shift_74 : decode cX4_shift 74 = .ok (.aload_n 0, 1) := by decide +kernel
theorem dX4_shift_75 : decode cX4_shift 75 = .ok (.getfield 7, 3) := by decide +kernel
theorem dX4_shift_78 : decode cX4_shift 78 = .ok (.iload_n 1, 1) := by decide +kernel
theorem dX4_shift_79 : decode cX4_shift 79 = .ok (.iload 4, 2) := by decide +kernel
theorem dX4_shift_81 : decode cX4_shift 81 = .ok (.invokestatic 94, 3) := by decide +kernel
theorem dX4_shift_84 : decode cX4_shift 84 = .ok (.laload, 1) := by decide +kernel
theorem dX4_shift_85 : decode cX4_shift 85 = .ok (.lstore 5, 2) := by decide +kernel
theorem dX4_shift_87 : decode cX4_shift 87 = .ok (.iload_n 2, 1) := by decide +kernel
theorem dX4_shift_88 : decode cX4_shift 88 = .ok (.ifCond .ge 18, 3) := by decide +kernel
theorem dX4_shift_91 : decode cX4_shift 91 = .ok (.aload_n 0, 1) := by decide +kernel
theorem dX4_shift_92 : decode cX4_shift 92 = .ok (.iload_n 1, 1) := by decide +kernel
theorem dX4_shift_93 : decode cX4_shift 93 = .ok (.iload 4, 2) := by decide +kernel
theorem dX4_shift_95 : decode cX4_shift 95 = .ok (.lload 5, 2) := by decide +kernel
theorem dX4_shift_97 : decode cX4_shift 97 = .ok (.iload_n 2, 1) := by decide +kernel
theorem dX4_shift_98 : decode cX4_shift 98 = .ok (.ineg, 1) := by decide +kernel
theorem dX4_shift_99 : decode cX4_shift 99 = .ok (.lshr, 1) := by decide +kernel
theorem dX4_shift_100 : decode cX4_shift 100 = .ok (.invokevirtual 256, 3) := by decide +kernel
theorem dX4_shift_103 : decode cX4_shift 103 = .ok (.goto 36, 3) := by decide +kernel
theorem dX4_shift_106 : decode cX4_shift 106 = .ok (.lload 5, 2) := by decide +kernel
theorem dX4_shift_108 : decode cX4_shift 108 = .ok (.invokestatic 207, 3) := by decide +kernel
theorem dX4_shift_111 : decode cX4_shift 111 = .ok (.ldc2_w 267, 3) := by decide +kernel
theorem dX4_shift_114 : decode cX4_shift 114 = .ok (.iload_n 2, 1) := by decide +kernel
theorem dX4_shift_115 : decode cX4_shift 115 = .ok (.lshr, 1) := by decide +kernel
theorem dX4_shift_116 : decode cX4_shift 116 = .ok (.lcmp, 1) := by decide +kernel
theorem dX4_shift_117 : decode cX4_shift 117 = .ok (.ifCond .le 11, 3) := by decide +kernel
theorem dX4_shift_120 : decode cX4_shift 120 = .ok (.aload_n 0, 1) := by decide +kernel
theorem dX4_shift_121 : decode cX4_shift 121 = .ok (.iconst 1, 1) := by decide +kernel
theorem dX4_shift_122 : decode cX4_shift 122 = .ok (.putfield 249, 3) := by decide +kernel
theorem dX4_shift_125 : decode cX4_shift 125 = .ok (.goto 14, 3) := by decide +kernel
theorem dX4_shift_128 : decode cX4_shift 128 = .ok (.aload_n 0, 1) := by decide +kernel
theorem dX4_shift_129 : decode cX4_shift 129 = .ok (.iload_n 1, 1) := by decide +kernel
theorem dX4_shift_130 : decode cX4_shift 130 = .ok (.iload 4, 2) := by decide +kernel
theorem dX4_shift_132 : decode cX4_shift 132 = .ok (.lload 5, 2) := by decide +kernel
theorem dX4_shift_134 : decode cX4_shift 134 = .ok (.iload_n 2, 1) := by decide +kernel
theorem dX4_shift_135 : decode cX4_shift 135 = .ok (.lshl, 1) := by decide +kernel
theorem dX4_shift_136 : decode cX4_shift 136 = .ok (.invokevirtual 256, 3) := by decide +kernel
theorem dX4_shift_139 : decode cX4_shift 139 = .ok (.iinc 4 1, 3) := by decide +kernel
theorem dX4_shift_142 : decode cX4_shift 142 = .ok (.goto (-91), 3) := by decide +kernel
theorem dX4_shift_145 : decode cX4_shift 145 = .ok (.aload_n 0, 1) := by decide +kernel
theorem dX4_shift_146 : decode cX4_shift 146 = .ok (.iload_n 1, 1) := by decide +kernel
theorem dX4_shift_147 : decode cX4_shift 147 = .ok (.iconst 3, 1) := by decide +kernel
theorem dX4_shift_148 : decode cX4_shift 148 = .ok (.invokevirtual 260, 3) := by decide +kernel
theorem dX4_shift_151 : decode cX4_shift 151 = .ok (.ireturn, 1) := by decide +kernel
theorem dX4_hold_0 : decode cX4_hold 0 = .ok (.aload_n 0, 1) := by decide +kernel
theorem dX4_hold_1 : decode cX4_hold 1 = .ok (.iconst 0, 1) := by decide +kernel
theorem dX4_hold_2 : decode cX4_hold 2 = .ok (.putfield 69, 3) := by decide +kernel
theorem dX4_hold_5 : decode cX4_hold 5 = .ok (.aload_n 0, 1) := by decide +kernel
theorem dX4_hold_6 : decode cX4_hold 6 = .ok (.iload_n 1, 1) := by decide +kernel
theorem dX4_hold_7 : decode cX4_hold 7 = .ok (.iload 6, 2) := by decide +kernel
theorem dX4_hold_9 : decode cX4_hold 9 = .ok (.invokevirtual 164, 3) := by decide +kernel
theorem dX4_hold_12 : decode cX4_hold 12 = .ok (.ifCond .ne 9, 3) := by decide +kernel
theorem dX4_hold_15 : decode cX4_hold 15 = .ok (.aload_n 0, 1) := by decide +kernel
theorem dX4_hold_16 : decode cX4_hold 16 = .ok (.iconst 1, 1) := by decide +kernel
theorem dX4_hold_17 : decode cX4_hold 17 = .ok (.invokevirtual 105, 3) := by decide +kernel
theorem dX4_hold_20 : decode cX4_hold 20 = .ok (.ireturn, 1) := by decide +kernel
theorem dX4_hold_21 : decode cX4_hold 21 = .ok (.lload_n 2, 1) := by decide +kernel
theorem dX4_hold_22 : decode cX4_hold 22 = .ok (.lload 4, 2) := by decide +kernel
theorem dX4_hold_24 : decode cX4_hold 24 = .ok (.lcmp, 1) := by decide +kernel
theorem dX4_hold_25 : decode cX4_hold 25 = .ok (.ifCond .le 9, 3) := by decide +kernel
theorem dX4_hold_28 : decode cX4_hold 28 = .ok (.aload_n 0, 1) := by decide +kernel
theorem dX4_hold_29 : decode cX4_hold 29 = .ok (.iconst 2, 1) := by decide +kernel
theorem dX4_hold_30 : decode cX4_hold 30 = .ok (.invokevirtual 105, 3) := by decide +kernel
theorem dX4_hold_33 : decode cX4_hold 33 = .ok (.ireturn, 1) := by decide +kernel
theorem dX4_hold_34 : decode cX4_hold 34 = .ok (.aload_n 0, 1) := by decide +kernel
theorem dX4_hold_35 : decode cX4_hold 35 = .ok (.iload_n 1, 1) := by decide +kernel
theorem dX4_hold_36 : decode cX4_hold 36 = .ok (.lload_n 2, 1) := by decide +kernel
theorem dX4_hold_37 : decode cX4_hold 37 = .ok (.invokevirtual 116, 3) := by decide +kernel
theorem dX4_hold_40 : decode cX4_hold 40 = .ok (.ifCond .eq 13, 3) := by decide +kernel
theorem dX4_hold_43 : decode cX4_hold 43 = .ok (.aload_n 0, 1) := by decide +kernel
theorem dX4_hold_44 : decode cX4_hold 44 = .ok (.iload_n 1, 1) := by decide +kernel
theorem dX4_hold_45 : decode cX4_hold 45 = .ok (.lload 4, 2) := by decide +kernel
theorem dX4_hold_47 : decode cX4_hold 47 = .ok (.invokevirtual 116, 3) := by decide +kernel
theorem dX4_hold_50 : decode cX4_hold 50 = .ok (.ifCond .ne 9, 3) := by decide +kernel
theorem dX4_hold_53 : decode cX4_hold 53 = .ok (.aload_n 0, 1) := by decide +kernel
theorem dX4_hold_54 : decode cX4_hold 54 = .ok (.iconst 3, 1) := by decide +kernel
theorem dX4_hold_55 : decode cX4_hold 55 = .ok (.invokevirtual 120, 3) := by decide +kernel
theorem dX4_hold_58 : decode cX4_hold 58 = .ok (.ireturn, 1) := by decide +kernel
theorem dX4_hold_59 : decode cX4_hold 59 = .ok (.iconst 0, 1) := by decide +kernel
theorem dX4_hold_60 : decode cX4_hold 60 = .ok (.istore 7, 2) := by decide +kernel
theorem dX4_hold_62 : decode cX4_hold 62 = .ok (.iconst 0, 1) := by decide +kernel
theorem dX4_hold_63 : decode cX4_hold 63 = .ok (.istore 8, 2) := by decide +kernel
theorem dX4_hold_65 : decode cX4_hold 65 = .ok (.iload 8, 2) := by decide +kernel
theorem dX4_hold_67 : decode cX4_hold 67 = .ok (.aload_n 0, 1) := by decide +kernel
theorem dX4_hold_68 : decode cX4_hold 68 = .ok (.getfield 80, 3) := by decide +kernel
theorem dX4_hold_71 : decode cX4_hold 71 = .ok (.if_icmp .ge 80, 3) := by decide +kernel
theorem dX4_hold_74 : decode cX4_hold 74 = .ok (.aload_n 0, 1) := by decide +kernel
theorem dX4_hold_75 : decode cX4_hold 75 = .ok (.iload_n 1, 1) := by decide +kernel
theorem dX4_hold_76 : decode cX4_hold 76 = .ok (.iload 8, 2) := by decide +kernel
theorem dX4_hold_78 : decode cX4_hold 78 = .ok (.iload 6, 2) := by decide +kernel
theorem dX4_hold_80 : decode cX4_hold 80 = .ok (.invokevirtual 170, 3) := by decide +kernel
theorem dX4_hold_83 : decode cX4_hold 83 = .ok (.ifCond .eq 62, 3) := by decide +kernel
theorem dX4_hold_86 : decode cX4_hold 86 = .ok (.aload_n 0, 1) := by decide +kernel
theorem dX4_hold_87 : decode cX4_hold 87 = .ok (.getfield 7, 3) := by decide +kernel
theorem dX4_hold_90 : decode cX4_hold 90 = .ok (.iload_n 1, 1) := by decide +kernel
theorem dX4_hold_91 : decode cX4_hold 91 = .ok (.iload 8, 2) := by decide +kernel
theorem dX4_hold_93 : decode cX4_hold 93 = .ok (.invokestatic 94, 3) := by decide +kernel
theorem dX4_hold_96 : decode cX4_hold 96 = .ok (.laload, 1) := by decide +kernel
theorem dX4_hold_97 : decode cX4_hold 97 = .ok (.lload_n 2, 1) := by decide +kernel
theorem dX4_hold_98 : decode cX4_hold 98 = .ok (.lload 4, 2) := by decide +kernel
theorem dX4_hold_100 : decode cX4_hold 100 = .ok (.invokestatic 76, 3) := by decide +kernel
theorem dX4_hold_103 : decode cX4_hold 103 = .ok (.ifCond .eq 6, 3) := by decide +kernel
theorem dX4_hold_106 : decode cX4_hold 106 = .ok (.goto 39, 3) := by decide +kernel
theorem dX4_hold_109 : decode cX4_hold 109 = .ok (.aload_n 0, 1) := by decide +kernel
theorem dX4_hold_110 : decode cX4_hold 110 = .ok (.getfield 7, 3) := by decide +kernel
theorem dX4_hold_113 : decode cX4_hold 113 = .ok (.iload_n 1, 1) := by decide +kernel
theorem dX4_hold_114 : decode cX4_hold 114 = .ok (.iload 8, 2) := by decide +kernel
theorem dX4_hold_116 : decode cX4_hold 116 = .ok (.invokestatic 94, 3) := by decide +kernel
theorem dX4_hold_119 : decode cX4_hold 119 = .ok (.aload_n 0, 1) := by decide +kernel
theorem dX4_hold_120 : decode cX4_hold 120 = .ok (.getfield 7, 3) := by decide +kernel
theorem dX4_hold_123 : decode cX4_hold 123 = .ok (.iload_n 1, 1) := by decide +kernel
theorem dX4_hold_124 : decode cX4_hold 124 = .ok (.iload 8, 2) := by decide +kernel
theorem dX4_hold_126 : decode cX4_hold 126 = .ok (.invokestatic 94, 3) := by decide +kernel
theorem dX4_hold_129 : decode cX4_hold 129 = .ok (.laload, 1) := by decide +kernel
theorem dX4_hold_130 : decode cX4_hold 130 = .ok (.lload_n 2, 1) := by decide +kernel
theorem dX4_hold_131 : decode cX4_hold 131 = .ok (.lcmp, 1) := by decide +kernel
theorem dX4_hold_132 : decode cX4_hold 132 = .ok (.ifCond .ge 7, 3) := by decide +kernel
theorem dX4_hold_135 : decode cX4_hold 135 = .ok (.lload_n 2, 1) := by decide +kernel
theorem dX4_hold_136 : decode cX4_hold 136 = .ok (.goto 5, 3) := by decide +kernel
theorem dX4_hold_139 : decode cX4_hold 139 = .ok (.lload 4, 2) := by decide +kernel
theorem dX4_hold_141 : decode cX4_hold 141 = .ok (.lastore, 1) := by decide +kernel
theorem dX4_hold_142 : decode cX4_hold 142 = .ok (.iinc 7 1, 3) := by decide +kernel
theorem dX4_hold_145 : decode cX4_hold 145 = .ok (.iinc 8 1, 3) := by decide +kernel
theorem dX4_hold_148 : decode cX4_hold 148 = .ok (.goto (-83), 3) := by decide +kernel
theorem dX4_hold_151 : decode cX4_hold 151 = .ok (.iload 7, 2) := by decide +kernel
theorem dX4_hold_153 : decode cX4_hold 153 = .ok (.ireturn, 1) := by decide +kernel
theorem dX4_fill_0 : decode cX4_fill 0 = .ok (.aload_n 0, 1) := by decide +kernel
theorem dX4_fill_1 : decode cX4_fill 1 = .ok (.iconst 0, 1) := by decide +kernel
theorem dX4_fill_2 : decode cX4_fill 2 = .ok (.putfield 69, 3) := by decide +kernel
theorem dX4_fill_5 : decode cX4_fill 5 = .ok (.aload_n 0, 1) := by decide +kernel
theorem dX4_fill_6 : decode cX4_fill 6 = .ok (.iload_n 1, 1) := by decide +kernel
theorem dX4_fill_7 : decode cX4_fill 7 = .ok (.iload 4, 2) := by decide +kernel
theorem dX4_fill_9 : decode cX4_fill 9 = .ok (.invokevirtual 164, 3) := by decide +kernel
theorem dX4_fill_12 : decode cX4_fill 12 = .ok (.ifCond .ne 9, 3) := by decide +kernel
theorem dX4_fill_15 : decode cX4_fill 15 = .ok (.aload_n 0, 1) := by decide +kernel
theorem dX4_fill_16 : decode cX4_fill 16 = .ok (.iconst 1, 1) := by decide +kernel
theorem dX4_fill_17 : decode cX4_fill 17 = .ok (.invokevirtual 105, 3) := by decide +kernel
theorem dX4_fill_20 : decode cX4_fill 20 = .ok (.ireturn, 1) := by decide +kernel
theorem dX4_fill_21 : decode cX4_fill 21 = .ok (.aload_n 0, 1) := by decide +kernel
theorem dX4_fill_22 : decode cX4_fill 22 = .ok (.iload_n 1, 1) := by decide +kernel
theorem dX4_fill_23 : decode cX4_fill 23 = .ok (.lload_n 2, 1) := by decide +kernel
theorem dX4_fill_24 : decode cX4_fill 24 = .ok (.invokevirtual 116, 3) := by decide +kernel
theorem dX4_fill_27 : decode cX4_fill 27 = .ok (.ifCond .ne 9, 3) := by decide +kernel
theorem dX4_fill_30 : decode cX4_fill 30 = .ok (.aload_n 0, 1) := by decide +kernel
theorem dX4_fill_31 : decode cX4_fill 31 = .ok (.iconst 2, 1) := by decide +kernel
theorem dX4_fill_32 : decode cX4_fill 32 = .ok (.invokevirtual 120, 3) := by decide +kernel
theorem dX4_fill_35 : decode cX4_fill 35 = .ok (.ireturn, 1) := by decide +kernel
theorem dX4_fill_36 : decode cX4_fill 36 = .ok (.iconst 0, 1) := by decide +kernel
theorem dX4_fill_37 : decode cX4_fill 37 = .ok (.istore 5, 2) := by decide +kernel
theorem dX4_fill_39 : decode cX4_fill 39 = .ok (.iconst 0, 1) := by decide +kernel
theorem dX4_fill_40 : decode cX4_fill 40 = .ok (.istore 6, 2) := by decide +kernel
theorem dX4_fill_42 : decode cX4_fill 42 = .ok (.iload 6, 2) := by decide +kernel
theorem dX4_fill_44 : decode cX4_fill 44 = .ok (.aload_n 0, 1) := by decide +kernel
theorem dX4_fill_45 : decode cX4_fill 45 = .ok (.getfield 80, 3) := by decide +kernel
theorem dX4_fill_48 : decode cX4_fill 48 = .ok (.if_icmp .ge 78, 3) := by decide +kernel
theorem dX4_fill_51 : decode cX4_fill 51 = .ok (.aload_n 0, 1) := by decide +kernel
theorem dX4_fill_52 : decode cX4_fill 52 = .ok (.getfield 21, 3) := by decide +kernel
theorem dX4_fill_55 : decode cX4_fill 55 = .ok (.iload 4, 2) := by decide +kernel
theorem dX4_fill_57 : decode cX4_fill 57 = .ok (.iload 6, 2) := by decide +kernel
theorem dX4_fill_59 : decode cX4_fill 59 = .ok (.invokestatic 94, 3) := by decide +kernel
theorem dX4_fill_62 : decode cX4_fill 62 = .ok (.baload, 1) := by decide +kernel
theorem dX4_fill_63 : decode cX4_fill 63 = .ok (.ifCond .ne 6, 3) := by decide +kernel
theorem dX4_fill_66 : decode cX4_fill 66 = .ok (.goto 54, 3) := by decide +kernel
theorem dX4_fill_69 : decode cX4_fill 69 = .ok (.iload 5, 2) := by decide +kernel
theorem dX4_fill_71 : decode cX4_fill 71 = .ok (.aload_n 0, 1) := by decide +kernel
theorem dX4_fill_72 : decode cX4_fill 72 = .ok (.getfield 13, 3) := by decide +kernel
theorem dX4_fill_75 : decode cX4_fill 75 = .ok (.iload_n 1, 1) := by decide +kernel
theorem dX4_fill_76 : decode cX4_fill 76 = .ok (.iload 6, 2) := by decide +kernel
theorem dX4_fill_78 : decode cX4_fill 78 = .ok (.invokestatic 94, 3) := by decide +kernel
theorem dX4_fill_81 : decode cX4_fill 81 = .ok (.baload, 1) := by decide +kernel
theorem dX4_fill_82 : decode cX4_fill 82 = .ok (.ifCond .ne 7, 3) := by decide +kernel
theorem dX4_fill_85 : decode cX4_fill 85 = .ok (.iconst 1, 1) := by decide +kernel
theorem dX4_fill_86 : decode cX4_fill 86 = .ok (.goto 4, 3) := by decide +kernel
theorem dX4_fill_89 : decode cX4_fill 89 = .ok (.iconst 0, 1) := by decide +kernel
theorem dX4_fill_90 : decode cX4_fill 90 = .ok (.invokestatic 123, 3) := by decide +kernel
theorem dX4_fill_93 : decode cX4_fill 93 = .ok (.iadd, 1) := by decide +kernel
theorem dX4_fill_94 : decode cX4_fill 94 = .ok (.istore 5, 2) := by decide +kernel
theorem dX4_fill_96 : decode cX4_fill 96 = .ok (.aload_n 0, 1) := by decide +kernel
theorem dX4_fill_97 : decode cX4_fill 97 = .ok (.getfield 13, 3) := by decide +kernel
theorem dX4_fill_100 : decode cX4_fill 100 = .ok (.iload_n 1, 1) := by decide +kernel
theorem dX4_fill_101 : decode cX4_fill 101 = .ok (.iload 6, 2) := by decide +kernel
theorem dX4_fill_103 : decode cX4_fill 103 = .ok (.invokestatic 94, 3) := by decide +kernel
theorem dX4_fill_106 : decode cX4_fill 106 = .ok (.iconst 1, 1) := by decide +kernel
theorem dX4_fill_107 : decode cX4_fill 107 = .ok (.bastore, 1) := by decide +kernel
theorem dX4_fill_108 : decode cX4_fill 108 = .ok (.aload_n 0, 1) := by decide +kernel
theorem dX4_fill_109 : decode cX4_fill 109 = .ok (.getfield 7, 3) := by decide +kernel
theorem dX4_fill_112 : decode cX4_fill 112 = .ok (.iload_n 1, 1) := by decide +kernel
theorem dX4_fill_113 : decode cX4_fill 113 = .ok (.iload 6, 2) := by decide +kernel
theorem dX4_fill_115 : decode cX4_fill 115 = .ok (.invokestatic 94, 3) := by decide +kernel
theorem dX4_fill_118 : decode cX4_fill 118 = .ok (.lload_n 2, 1) := by decide +kernel
theorem dX4_fill_119 : decode cX4_fill 119 = .ok (.lastore, 1) := by decide +kernel
theorem dX4_fill_120 : decode cX4_fill 120 = .ok (.iinc 6 1, 3) := by decide +kernel
theorem dX4_fill_123 : decode cX4_fill 123 = .ok (.goto (-81), 3) := by decide +kernel
theorem dX4_fill_126 : decode cX4_fill 126 = .ok (.iload 5, 2) := by decide +kernel
theorem dX4_fill_128 : decode cX4_fill 128 = .ok (.ireturn, 1) := by decide +kernel
theorem dX4_areOne_0 : decode cX4_areOne 0 = .ok (.iload_n 1, 1) := by decide +kernel
theorem dX4_areOne_1 : decode cX4_areOne 1 = .ok (.iload_n 3, 1) := by decide +kernel
theorem dX4_areOne_2 : decode cX4_areOne 2 = .ok (.invokestatic 94, 3) := by decide +kernel
theorem dX4_areOne_5 : decode cX4_areOne 5 = .ok (.istore 4, 2) := by decide +kernel
theorem dX4_areOne_7 : decode cX4_areOne 7 = .ok (.iload_n 2, 1) := by decide +kernel
theorem dX4_areOne_8 : decode cX4_areOne 8 = .ok (.iload_n 3, 1) := by decide +kernel
theorem dX4_areOne_9 : decode cX4_areOne 9 = .ok (.invokestatic 94, 3) := by decide +kernel
theorem dX4_areOne_12 : decode cX4_areOne 12 = .ok (.istore 5, 2) := by decide +kernel
theorem dX4_areOne_14 : decode cX4_areOne 14 = .ok (.aload_n 0, 1) := by decide +kernel
theorem dX4_areOne_15 : decode cX4_areOne 15 = .ok (.getfield 13, 3) := by decide +kernel
theorem dX4_areOne_18 : decode cX4_areOne 18 = .ok (.iload 4, 2) := by decide +kernel
theorem dX4_areOne_20 : decode cX4_areOne 20 = .ok (.baload, 1) := by decide +kernel
theorem dX4_areOne_21 : decode cX4_areOne 21 = .ok (.aload_n 0, 1) := by decide +kernel
theorem dX4_areOne_22 : decode cX4_areOne 22 = .ok (.getfield 13, 3) := by decide +kernel
theorem dX4_areOne_25 : decode cX4_areOne 25 = .ok (.iload 5, 2) := by decide +kernel
theorem dX4_areOne_27 : decode cX4_areOne 27 = .ok (.baload, 1) := by decide +kernel
theorem dX4_areOne_28 : decode cX4_areOne 28 = .ok (.if_icmp .ne 35, 3) := by decide +kernel
theorem dX4_areOne_31 : decode cX4_areOne 31 = .ok (.aload_n 0, 1) := by decide +kernel
theorem dX4_areOne_32 : decode cX4_areOne 32 = .ok (.getfield 13, 3) := by decide +kernel
theorem dX4_areOne_35 : decode cX4_areOne 35 = .ok (.iload 4, 2) := by decide +kernel
theorem dX4_areOne_37 : decode cX4_areOne 37 = .ok (.baload, 1) := by decide +kernel
theorem dX4_areOne_38 : decode cX4_areOne 38 = .ok (.ifCond .eq 21, 3) := by decide +kernel
theorem dX4_areOne_41 : decode cX4_areOne 41 = .ok (.aload_n 0, 1) := by decide +kernel
theorem dX4_areOne_42 : decode cX4_areOne 42 = .ok (.getfield 7, 3) := by decide +kernel
theorem dX4_areOne_45 : decode cX4_areOne 45 = .ok (.iload 4, 2) := by decide +kernel
theorem dX4_areOne_47 : decode cX4_areOne 47 = .ok (.laload, 1) := by decide +kernel
theorem dX4_areOne_48 : decode cX4_areOne 48 = .ok (.aload_n 0, 1) := by decide +kernel
theorem dX4_areOne_49 : decode cX4_areOne 49 = .ok (.getfield 7, 3) := by decide +kernel
theorem dX4_areOne_52 : decode cX4_areOne 52 = .ok (.iload 5, 2) := by decide +kernel
theorem dX4_areOne_54 : decode cX4_areOne 54 = .ok (.laload, 1) := by decide +kernel
theorem dX4_areOne_55 : decode cX4_areOne 55 = .ok (.lcmp, 1) := by decide +kernel
theorem dX4_areOne_56 : decode cX4_areOne 56 = .ok (.ifCond .ne 7, 3) := by decide +kernel
theorem dX4_areOne_59 : decode cX4_areOne 59 = .ok (.iconst 1, 1) := by decide +kernel
theorem dX4_areOne_60 : decode cX4_areOne 60 = .ok (.goto 4, 3) := by decide +kernel
theorem dX4_areOne_63 : decode cX4_areOne 63 = .ok (.iconst 0, 1) := by decide +kernel
theorem dX4_areOne_64 : decode cX4_areOne 64 = .ok (.ireturn, 1) := by decide +kernel
theorem dX4_copy_0 : decode cX4_copy 0 = .ok (.aload_n 0, 1) := by decide +kernel
theorem dX4_copy_1 : decode cX4_copy 1 = .ok (.iconst 0, 1) := by decide +kernel
theorem dX4_copy_2 : decode cX4_copy 2 = .ok (.putfield 69, 3) := by decide +kernel
theorem dX4_copy_5 : decode cX4_copy 5 = .ok (.aload_n 0, 1) := by decide +kernel
theorem dX4_copy_6 : decode cX4_copy 6 = .ok (.iload_n 1, 1) := by decide +kernel
theorem dX4_copy_7 : decode cX4_copy 7 = .ok (.iload_n 3, 1) := by decide +kernel
theorem dX4_copy_8 : decode cX4_copy 8 = .ok (.invokevirtual 164, 3) := by decide +kernel
theorem dX4_copy_11 : decode cX4_copy 11 = .ok (.ifCond .eq 11, 3) := by decide +kernel
theorem dX4_copy_14 : decode cX4_copy 14 = .ok (.aload_n 0, 1) := by decide +kernel
theorem dX4_copy_15 : decode cX4_copy 15 = .ok (.iload_n 2, 1) := by decide +kernel
theorem dX4_copy_16 : decode cX4_copy 16 = .ok (.invokevirtual 87, 3) := by decide +kernel
theorem dX4_copy_19 : decode cX4_copy 19 = .ok (.ifCond .ne 9, 3) := by decide +kernel
theorem dX4_copy_22 : decode cX4_copy 22 = .ok (.aload_n 0, 1) := by decide +kernel
theorem dX4_copy_23 : decode cX4_copy 23 = .ok (.iconst 1, 1) := by decide +kernel
theorem dX4_copy_24 : decode cX4_copy 24 = .ok (.invokevirtual 105, 3) := by decide +kernel
theorem dX4_copy_27 : decode cX4_copy 27 = .ok (.ireturn, 1) := by decide +kernel
theorem dX4_copy_28 : decode cX4_copy 28 = .ok (.iconst 0, 1) := by decide +kernel
theorem dX4_copy_29 : decode cX4_copy 29 = .ok (.istore 4, 2) := by decide +kernel
theorem dX4_copy_31 : decode cX4_copy 31 = .ok (.iload 4, 2) := by decide +kernel
theorem dX4_copy_33 : decode cX4_copy 33 = .ok (.aload_n 0, 1) := by decide +kernel
theorem dX4_copy_34 : decode cX4_copy 34 = .ok (.getfield 80, 3) := by decide +kernel
theorem dX4_copy_37 : decode cX4_copy 37 = .ok (.if_icmp .ge 45, 3) := by decide +kernel
theorem dX4_copy_40 : decode cX4_copy 40 = .ok (.aload_n 0, 1) := by decide +kernel
theorem dX4_copy_41 : decode cX4_copy 41 = .ok (.iload_n 2, 1) := by decide +kernel
theorem dX4_copy_42 : decode cX4_copy 42 = .ok (.iload 4, 2) := by decide +kernel
theorem dX4_copy_44 : decode cX4_copy 44 = .ok (.iload_n 3, 1) := by decide +kernel
theorem dX4_copy_45 : decode cX4_copy 45 = .ok (.invokevirtual 170, 3) := by decide +kernel
theorem dX4_copy_48 : decode cX4_copy 48 = .ok (.ifCond .eq 28, 3) := by decide +kernel
theorem dX4_copy_51 : decode cX4_copy 51 = .ok (.aload_n 0, 1) := by decide +kernel
theorem dX4_copy_52 : decode cX4_copy 52 = .ok (.iload_n 1, 1) := by decide +kernel
theorem dX4_copy_53 : decode cX4_copy 53 = .ok (.aload_n 0, 1) := by decide +kernel
theorem dX4_copy_54 : decode cX4_copy 54 = .ok (.getfield 7, 3) := by decide +kernel
theorem dX4_copy_57 : decode cX4_copy 57 = .ok (.iload_n 2, 1) := by decide +kernel
theorem dX4_copy_58 : decode cX4_copy 58 = .ok (.iload 4, 2) := by decide +kernel
theorem dX4_copy_60 : decode cX4_copy 60 = .ok (.invokestatic 94, 3) := by decide +kernel
theorem dX4_copy_63 : decode cX4_copy 63 = .ok (.laload, 1) := by decide +kernel
theorem dX4_copy_64 : decode cX4_copy 64 = .ok (.invokevirtual 116, 3) := by decide +kernel
theorem dX4_copy_67 : decode cX4_copy 67 = .ok (.ifCond .ne 9, 3) := by decide +kernel
theorem dX4_copy_70 : decode cX4_copy 70 = .ok (.aload_n 0, 1) := by decide +kernel
theorem dX4_copy_71 : decode cX4_copy 71 = .ok (.iconst 2, 1) := by decide +kernel
theorem dX4_copy_72 : decode cX4_copy 72 = .ok (.invokevirtual 120, 3) := by decide +kernel
theorem dX4_copy_75 : decode cX4_copy 75 = .ok (.ireturn, 1) := by decide +kernel
theorem dX4_copy_76 : decode cX4_copy 76 = .ok (.iinc 4 1, 3) := by decide +kernel
theorem dX4_copy_79 : decode cX4_copy 79 = .ok (.goto (-48), 3) := by decide +kernel
theorem dX4_copy_82 : decode cX4_copy 82 = .ok (.iconst 0, 1) := by decide +kernel
theorem dX4_copy_83 : decode cX4_copy 83 = .ok (.istore 4, 2) := by decide +kernel
theorem dX4_copy_85 : decode cX4_copy 85 = .ok (.iconst 0, 1) := by decide +kernel
theorem dX4_copy_86 : decode cX4_copy 86 = .ok (.istore 5, 2) := by decide +kernel
theorem dX4_copy_88 : decode cX4_copy 88 = .ok (.iload 5, 2) := by decide +kernel
theorem dX4_copy_90 : decode cX4_copy 90 = .ok (.aload_n 0, 1) := by decide +kernel
theorem dX4_copy_91 : decode cX4_copy 91 = .ok (.getfield 80, 3) := by decide +kernel
theorem dX4_copy_94 : decode cX4_copy 94 = .ok (.if_icmp .ge 84, 3) := by decide +kernel
theorem dX4_copy_97 : decode cX4_copy 97 = .ok (.aload_n 0, 1) := by decide +kernel
theorem dX4_copy_98 : decode cX4_copy 98 = .ok (.getfield 21, 3) := by decide +kernel
theorem dX4_copy_101 : decode cX4_copy 101 = .ok (.iload_n 3, 1) := by decide +kernel
theorem dX4_copy_102 : decode cX4_copy 102 = .ok (.iload 5, 2) := by decide +kernel
theorem dX4_copy_104 : decode cX4_copy 104 = .ok (.invokestatic 94, 3) := by decide +kernel
theorem dX4_copy_107 : decode cX4_copy 107 = .ok (.baload, 1) := by decide +kernel
theorem dX4_copy_108 : decode cX4_copy 108 = .ok (.ifCond .eq 64, 3) := by decide +kernel
theorem dX4_copy_111 : decode cX4_copy 111 = .ok (.aload_n 0, 1) := by decide +kernel
theorem dX4_copy_112 : decode cX4_copy 112 = .ok (.iload_n 1, 1) := by decide +kernel
theorem dX4_copy_113 : decode cX4_copy 113 = .ok (.iload_n 2, 1) := by decide +kernel
theorem dX4_copy_114 : decode cX4_copy 114 = .ok (.iload 5, 2) := by decide +kernel
theorem dX4_copy_116 : decode cX4_copy 116 = .ok (.invokevirtual 273, 3) := by decide +kernel
theorem dX4_copy_119 : decode cX4_copy 119 = .ok (.ifCond .eq 6, 3) := by decide +kernel
theorem dX4_copy_122 : decode cX4_copy 122 = .ok (.goto 50, 3) := by decide +kernel
theorem dX4_copy_125 : decode cX4_copy 125 = .ok (.aload_n 0, 1) := by decide +kernel
theorem dX4_copy_126 : decode cX4_copy 126 = .ok (.getfield 13, 3) := by decide +kernel
theorem dX4_copy_129 : decode cX4_copy 129 = .ok (.iload_n 1, 1) := by decide +kernel
theorem dX4_copy_130 : decode cX4_copy 130 = .ok (.iload 5, 2) := by decide +kernel
theorem dX4_copy_132 : decode cX4_copy 132 = .ok (.invokestatic 94, 3) := by decide +kernel
theorem dX4_copy_135 : decode cX4_copy 135 = .ok (.aload_n 0, 1) := by decide +kernel
theorem dX4_copy_136 : decode cX4_copy 136 = .ok (.getfield 13, 3) := by decide +kernel
theorem dX4_copy_139 : decode cX4_copy 139 = .ok (.iload_n 2, 1) := by decide +kernel
theorem dX4_copy_140 : decode cX4_copy 140 = .ok (.iload 5, 2) := by decide +kernel
theorem dX4_copy_142 : decode cX4_copy 142 = .ok (.invokestatic 94, 3) := by decide +kernel
theorem dX4_copy_145 : decode cX4_copy 145 = .ok (.baload, 1) := by decide +kernel
theorem dX4_copy_146 : decode cX4_copy 146 = .ok (.bastore, 1) := by decide +kernel
theorem dX4_copy_147 : decode cX4_copy 147 = .ok (.aload_n 0, 1) := by decide +kernel
theorem dX4_copy_148 : decode cX4_copy 148 = .ok (.getfield 7, 3) := by decide +kernel
theorem dX4_copy_151 : decode cX4_copy 151 = .ok (.iload_n 1, 1) := by decide +kernel
theorem dX4_copy_152 : decode cX4_copy 152 = .ok (.iload 5, 2) := by decide +kernel
theorem dX4_copy_154 : decode cX4_copy 154 = .ok (.invokestatic 94, 3) := by decide +kernel
theorem dX4_copy_157 : decode cX4_copy 157 = .ok (.aload_n 0, 1) := by decide +kernel
theorem dX4_copy_158 : decode cX4_copy 158 = .ok (.getfield 7, 3) := by decide +kernel
theorem dX4_copy_161 : decode cX4_copy 161 = .ok (.iload_n 2, 1) := by decide +kernel
theorem dX4_copy_162 : decode cX4_copy 162 = .ok (.iload 5, 2) := by decide +kernel
theorem dX4_copy_164 : decode cX4_copy 164 = .ok (.invokestatic 94, 3) := by decide +kernel
theorem dX4_copy_167 : decode cX4_copy 167 = .ok (.laload, 1) := by decide +kernel
theorem dX4_copy_168 : decode cX4_copy 168 = .ok (.lastore, 1) := by decide +kernel
theorem dX4_copy_169 : decode cX4_copy 169 = .ok (.iinc 4 1, 3) := by decide +kernel
theorem dX4_copy_172 : decode cX4_copy 172 = .ok (.iinc 5 1, 3) := by decide +kernel
theorem dX4_copy_175 : decode cX4_copy 175 = .ok (.goto (-87), 3) := by decide +kernel
theorem dX4_copy_178 : decode cX4_copy 178 = .ok (.iload 4, 2) := by decide +kernel
theorem dX4_copy_180 : decode cX4_copy 180 = .ok (.ireturn, 1) := by decide +kernel
theorem dX4_pick_0 : decode cX4_pick 0 = .ok (.aload_n 0, 1) := by decide +kernel
theorem dX4_pick_1 : decode cX4_pick 1 = .ok (.iconst 0, 1) := by decide +kernel
theorem dX4_pick_2 : decode cX4_pick 2 = .ok (.putfield 69, 3) := by decide +kernel
theorem dX4_pick_5 : decode cX4_pick 5 = .ok (.aload_n 0, 1) := by decide +kernel
theorem dX4_pick_6 : decode cX4_pick 6 = .ok (.iload_n 1, 1) := by decide +kernel
theorem dX4_pick_7 : decode cX4_pick 7 = .ok (.iload 4, 2) := by decide +kernel
theorem dX4_pick_9 : decode cX4_pick 9 = .ok (.invokevirtual 164, 3) := by decide +kernel
theorem dX4_pick_12 : decode cX4_pick 12 = .ok (.ifCond .eq 11, 3) := by decide +kernel
theorem dX4_pick_15 : decode cX4_pick 15 = .ok (.aload_n 0, 1) := by decide +kernel
theorem dX4_pick_16 : decode cX4_pick 16 = .ok (.iload_n 2, 1) := by decide +kernel
theorem dX4_pick_17 : decode cX4_pick 17 = .ok (.invokevirtual 87, 3) := by decide +kernel
theorem dX4_pick_20 : decode cX4_pick 20 = .ok (.ifCond .ne 9, 3) := by decide +kernel
theorem dX4_pick_23 : decode cX4_pick 23 = .ok (.aload_n 0, 1) := by decide +kernel
theorem dX4_pick_24 : decode cX4_pick 24 = .ok (.iconst 1, 1) := by decide +kernel
theorem dX4_pick_25 : decode cX4_pick 25 = .ok (.invokevirtual 105, 3) := by decide +kernel
theorem dX4_pick_28 : decode cX4_pick 28 = .ok (.ireturn, 1) := by decide +kernel
theorem dX4_pick_29 : decode cX4_pick 29 = .ok (.aload_n 0, 1) := by decide +kernel
theorem dX4_pick_30 : decode cX4_pick 30 = .ok (.invokevirtual 253, 3) := by decide +kernel
theorem dX4_pick_33 : decode cX4_pick 33 = .ok (.iconst 0, 1) := by decide +kernel
theorem dX4_pick_34 : decode cX4_pick 34 = .ok (.istore 5, 2) := by decide +kernel
theorem dX4_pick_36 : decode cX4_pick 36 = .ok (.iload 5, 2) := by decide +kernel
theorem dX4_pick_38 : decode cX4_pick 38 = .ok (.aload_n 0, 1) := by decide +kernel
theorem dX4_pick_39 : decode cX4_pick 39 = .ok (.getfield 80, 3) := by decide +kernel
theorem dX4_pick_42 : decode cX4_pick 42 = .ok (.if_icmp .ge 96, 3) := by decide +kernel
theorem dX4_pick_45 : decode cX4_pick 45 = .ok (.aload_n 0, 1) := by decide +kernel
theorem dX4_pick_46 : decode cX4_pick 46 = .ok (.iload_n 1, 1) := by decide +kernel
theorem dX4_pick_47 : decode cX4_pick 47 = .ok (.iload 5, 2) := by decide +kernel
theorem dX4_pick_49 : decode cX4_pick 49 = .ok (.iload 4, 2) := by decide +kernel
theorem dX4_pick_51 : decode cX4_pick 51 = .ok (.invokevirtual 170, 3) := by decide +kernel
theorem dX4_pick_54 : decode cX4_pick 54 = .ok (.ifCond .eq 78, 3) := by decide +kernel
theorem dX4_pick_57 : decode cX4_pick 57 = .ok (.aload_n 0, 1) := by decide +kernel
theorem dX4_pick_58 : decode cX4_pick 58 = .ok (.getfield 13, 3) := by decide +kernel
theorem dX4_pick_61 : decode cX4_pick 61 = .ok (.iload_n 2, 1) := by decide +kernel
theorem dX4_pick_62 : decode cX4_pick 62 = .ok (.iload 5, 2) := by decide +kernel
theorem dX4_pick_64 : decode cX4_pick 64 = .ok (.invokestatic 94, 3) := by decide +kernel
theorem dX4_pick_67 : decode cX4_pick 67 = .ok (.baload, 1) := by decide +kernel
theorem dX4_pick_68 : decode cX4_pick 68 = .ok (.ifCond .ne 6, 3) := by decide +kernel
theorem dX4_pick_71 : decode cX4_pick 71 = .ok (.goto 61, 3) := by decide +kernel
theorem dX4_pick_74 : decode cX4_pick 74 = .ok (.aload_n 0, 1) := by decide +kernel
theorem dX4_pick_75 : decode cX4_pick 75 = .ok (.getfield 7, 3) := by decide +kernel
theorem dX4_pick_78 : decode cX4_pick 78 = .ok (.iload_n 1, 1) := by decide +kernel
theorem dX4_pick_79 : decode cX4_pick 79 = .ok (.iload 5, 2) := by decide +kernel
theorem dX4_pick_81 : decode cX4_pick 81 = .ok (.invokestatic 94, 3) := by decide +kernel
theorem dX4_pick_84 : decode cX4_pick 84 = .ok (.laload, 1) := by decide +kernel
theorem dX4_pick_85 : decode cX4_pick 85 = .ok (.lstore 6, 2) := by decide +kernel
theorem dX4_pick_87 : decode cX4_pick 87 = .ok (.aload_n 0, 1) := by decide +kernel
theorem dX4_pick_88 : decode cX4_pick 88 = .ok (.getfield 7, 3) := by decide +kernel
theorem dX4_pick_91 : decode cX4_pick 91 = .ok (.iload_n 2, 1) := by decide +kernel
theorem dX4_pick_92 : decode cX4_pick 92 = .ok (.iload 5, 2) := by decide +kernel
theorem dX4_pick_94 : decode cX4_pick 94 = .ok (.invokestatic 94, 3) := by decide +kernel
theorem dX4_pick_97 : decode cX4_pick 97 = .ok (.laload, 1) := by decide +kernel
theorem dX4_pick_98 : decode cX4_pick 98 = .ok (.lstore 8, 2) := by decide +kernel
theorem dX4_pick_100 : decode cX4_pick 100 = .ok (.iload_n 3, 1) := by decide +kernel
theorem dX4_pick_101 : decode cX4_pick 101 = .ok (.ifCond .eq 14, 3) := by decide +kernel
theorem dX4_pick_104 : decode cX4_pick 104 = .ok (.lload 8, 2) := by decide +kernel
theorem dX4_pick_106 : decode cX4_pick 106 = .ok (.lload 6, 2) := by decide +kernel
theorem dX4_pick_108 : decode cX4_pick 108 = .ok (.lcmp, 1) := by decide +kernel
theorem dX4_pick_109 : decode cX4_pick 109 = .ok (.ifCond .le 23, 3) := by decide +kernel
theorem dX4_pick_112 : decode cX4_pick 112 = .ok (.goto 11, 3) := by decide +kernel
theorem dX4_pick_115 : decode cX4_pick 115 = .ok (.lload 8, 2) := by decide +kernel
theorem dX4_pick_117 : decode cX4_pick 117 = .ok (.lload 6, 2) := by decide +kernel
theorem dX4_pick_119 : decode cX4_pick 119 = .ok (.lcmp, 1) := by decide +kernel
theorem dX4_pick_120 : decode cX4_pick 120 = .ok (.ifCond .ge 12, 3) := by decide +kernel
theorem dX4_pick_123 : decode cX4_pick 123 = .ok (.aload_n 0, 1) := by decide +kernel
theorem dX4_pick_124 : decode cX4_pick 124 = .ok (.iload_n 1, 1) := by decide +kernel
theorem dX4_pick_125 : decode cX4_pick 125 = .ok (.iload 5, 2) := by decide +kernel
theorem dX4_pick_127 : decode cX4_pick 127 = .ok (.lload 8, 2) := by decide +kernel
theorem dX4_pick_129 : decode cX4_pick 129 = .ok (.invokevirtual 256, 3) := by decide +kernel
theorem dX4_pick_132 : decode cX4_pick 132 = .ok (.iinc 5 1, 3) := by decide +kernel
theorem dX4_pick_135 : decode cX4_pick 135 = .ok (.goto (-99), 3) := by decide +kernel
theorem dX4_pick_138 : decode cX4_pick 138 = .ok (.aload_n 0, 1) := by decide +kernel
theorem dX4_pick_139 : decode cX4_pick 139 = .ok (.iload_n 1, 1) := by decide +kernel
theorem dX4_pick_140 : decode cX4_pick 140 = .ok (.iconst 2, 1) := by decide +kernel
theorem dX4_pick_141 : decode cX4_pick 141 = .ok (.invokevirtual 260, 3) := by decide +kernel
theorem dX4_pick_144 : decode cX4_pick 144 = .ok (.ireturn, 1) := by decide +kernel
theorem dX4_wipe_0 : decode cX4_wipe 0 = .ok (.aload_n 0, 1) := by decide +kernel
theorem dX4_wipe_1 : decode cX4_wipe 1 = .ok (.iconst 0, 1) := by decide +kernel
theorem dX4_wipe_2 : decode cX4_wipe 2 = .ok (.putfield 69, 3) := by decide +kernel
theorem dX4_wipe_5 : decode cX4_wipe 5 = .ok (.aload_n 0, 1) := by decide +kernel
theorem dX4_wipe_6 : decode cX4_wipe 6 = .ok (.iload_n 1, 1) := by decide +kernel
theorem dX4_wipe_7 : decode cX4_wipe 7 = .ok (.iload_n 2, 1) := by decide +kernel
theorem dX4_wipe_8 : decode cX4_wipe 8 = .ok (.invokevirtual 164, 3) := by decide +kernel
theorem dX4_wipe_11 : decode cX4_wipe 11 = .ok (.ifCond .ne 9, 3) := by decide +kernel
theorem dX4_wipe_14 : decode cX4_wipe 14 = .ok (.aload_n 0, 1) := by decide +kernel
theorem dX4_wipe_15 : decode cX4_wipe 15 = .ok (.iconst 1, 1) := by decide +kernel
theorem dX4_wipe_16 : decode cX4_wipe 16 = .ok (.invokevirtual 105, 3) := by decide +kernel
theorem dX4_wipe_19 : decode cX4_wipe 19 = .ok (.ireturn, 1) := by decide +kernel
theorem dX4_wipe_20 : decode cX4_wipe 20 = .ok (.iconst 0, 1) := by decide +kernel
theorem dX4_wipe_21 : decode cX4_wipe 21 = .ok (.istore_n 3, 1) := by decide +kernel
theorem dX4_wipe_22 : decode cX4_wipe 22 = .ok (.iconst 0, 1) := by decide +kernel
theorem dX4_wipe_23 : decode cX4_wipe 23 = .ok (.istore 4, 2) := by decide +kernel
theorem dX4_wipe_25 : decode cX4_wipe 25 = .ok (.iload 4, 2) := by decide +kernel
theorem dX4_wipe_27 : decode cX4_wipe 27 = .ok (.aload_n 0, 1) := by decide +kernel
theorem dX4_wipe_28 : decode cX4_wipe 28 = .ok (.getfield 80, 3) := by decide +kernel
theorem dX4_wipe_31 : decode cX4_wipe 31 = .ok (.if_icmp .ge 38, 3) := by decide +kernel
theorem dX4_wipe_34 : decode cX4_wipe 34 = .ok (.aload_n 0, 1) := by decide +kernel
theorem dX4_wipe_35 : decode cX4_wipe 35 = .ok (.iload_n 1, 1) := by decide +kernel
theorem dX4_wipe_36 : decode cX4_wipe 36 = .ok (.iload 4, 2) := by decide +kernel
theorem dX4_wipe_38 : decode cX4_wipe 38 = .ok (.iload_n 2, 1) := by decide +kernel
theorem dX4_wipe_39 : decode cX4_wipe 39 = .ok (.invokevirtual 170, 3) := by decide +kernel
theorem dX4_wipe_42 : decode cX4_wipe 42 = .ok (.ifCond .ne 6, 3) := by decide +kernel
theorem dX4_wipe_45 : decode cX4_wipe 45 = .ok (.goto 18, 3) := by decide +kernel
theorem dX4_wipe_48 : decode cX4_wipe 48 = .ok (.aload_n 0, 1) := by decide +kernel
theorem dX4_wipe_49 : decode cX4_wipe 49 = .ok (.getfield 13, 3) := by decide +kernel
theorem dX4_wipe_52 : decode cX4_wipe 52 = .ok (.iload_n 1, 1) := by decide +kernel
theorem dX4_wipe_53 : decode cX4_wipe 53 = .ok (.iload 4, 2) := by decide +kernel
theorem dX4_wipe_55 : decode cX4_wipe 55 = .ok (.invokestatic 94, 3) := by decide +kernel
theorem dX4_wipe_58 : decode cX4_wipe 58 = .ok (.iconst 0, 1) := by decide +kernel
theorem dX4_wipe_59 : decode cX4_wipe 59 = .ok (.bastore, 1) := by decide +kernel
theorem dX4_wipe_60 : decode cX4_wipe 60 = .ok (.iinc 3 1, 3) := by decide +kernel
theorem dX4_wipe_63 : decode cX4_wipe 63 = .ok (.iinc 4 1, 3) := by decide +kernel
theorem dX4_wipe_66 : decode cX4_wipe 66 = .ok (.goto (-41), 3) := by decide +kernel
theorem dX4_wipe_69 : decode cX4_wipe 69 = .ok (.iload_n 3, 1) := by decide +kernel
theorem dX4_wipe_70 : decode cX4_wipe 70 = .ok (.ireturn, 1) := by decide +kernel
theorem dX4_widen_0 : decode cX4_widen 0 = .ok (.aload_n 0, 1) := by decide +kernel
theorem dX4_widen_1 : decode cX4_widen 1 = .ok (.iconst 0, 1) := by decide +kernel
theorem dX4_widen_2 : decode cX4_widen 2 = .ok (.putfield 69, 3) := by decide +kernel
theorem dX4_widen_5 : decode cX4_widen 5 = .ok (.aload_n 0, 1) := by decide +kernel
theorem dX4_widen_6 : decode cX4_widen 6 = .ok (.iload_n 1, 1) := by decide +kernel
theorem dX4_widen_7 : decode cX4_widen 7 = .ok (.invokevirtual 87, 3) := by decide +kernel
theorem dX4_widen_10 : decode cX4_widen 10 = .ok (.ifCond .ne 9, 3) := by decide +kernel
theorem dX4_widen_13 : decode cX4_widen 13 = .ok (.aload_n 0, 1) := by decide +kernel
theorem dX4_widen_14 : decode cX4_widen 14 = .ok (.iconst 1, 1) := by decide +kernel
theorem dX4_widen_15 : decode cX4_widen 15 = .ok (.invokevirtual 105, 3) := by decide +kernel
theorem dX4_widen_18 : decode cX4_widen 18 = .ok (.ireturn, 1) := by decide +kernel
theorem dX4_widen_19 : decode cX4_widen 19 = .ok (.iload_n 2, 1) := by decide +kernel
theorem dX4_widen_20 : decode cX4_widen 20 = .ok (.i2l, 1) := by decide +kernel
theorem dX4_widen_21 : decode cX4_widen 21 = .ok (.ldc2_w 85, 3) := by decide +kernel
theorem dX4_widen_24 : decode cX4_widen 24 = .ok (.ldc2_w 109, 3) := by decide +kernel
theorem dX4_widen_27 : decode cX4_widen 27 = .ok (.invokestatic 76, 3) := by decide +kernel
theorem dX4_widen_30 : decode cX4_widen 30 = .ok (.ifCond .ne 9, 3) := by decide +kernel
theorem dX4_widen_33 : decode cX4_widen 33 = .ok (.aload_n 0, 1) := by decide +kernel
theorem dX4_widen_34 : decode cX4_widen 34 = .ok (.iconst 2, 1) := by decide +kernel
theorem dX4_widen_35 : decode cX4_widen 35 = .ok (.invokevirtual 105, 3) := by decide +kernel
theorem dX4_widen_38 : decode cX4_widen 38 = .ok (.ireturn, 1) := by decide +kernel
theorem dX4_widen_39 : decode cX4_widen 39 = .ok (.aload_n 0, 1) := by decide +kernel
theorem dX4_widen_40 : decode cX4_widen 40 = .ok (.iload_n 1, 1) := by decide +kernel
theorem dX4_widen_41 : decode cX4_widen 41 = .ok (.invokevirtual 149, 3) := by decide +kernel
theorem dX4_widen_44 : decode cX4_widen 44 = .ok (.iload_n 2, 1) := by decide +kernel
theorem dX4_widen_45 : decode cX4_widen 45 = .ok (.if_icmp .le 9, 3) := by decide +kernel
theorem dX4_widen_48 : decode cX4_widen 48 = .ok (.aload_n 0, 1) := by decide +kernel
theorem dX4_widen_49 : decode cX4_widen 49 = .ok (.iconst 3, 1) := by decide +kernel
theorem dX4_widen_50 : decode cX4_widen 50 = .ok (.invokevirtual 120, 3) := by decide +kernel
theorem dX4_widen_53 : decode cX4_widen 53 = .ok (.ireturn, 1) := by decide +kernel
theorem dX4_widen_54 : decode cX4_widen 54 = .ok (.aload_n 0, 1) := by decide +kernel
theorem dX4_widen_55 : decode cX4_widen 55 = .ok (.getfield 17, 3) := by decide +kernel
theorem dX4_widen_58 : decode cX4_widen 58 = .ok (.iload_n 1, 1) := by decide +kernel
theorem dX4_widen_59 : decode cX4_widen 59 = .ok (.iaload, 1) := by decide +kernel
theorem dX4_widen_60 : decode cX4_widen 60 = .ok (.istore_n 3, 1) := by decide +kernel
theorem dX4_widen_61 : decode cX4_widen 61 = .ok (.aload_n 0, 1) := by decide +kernel
theorem dX4_widen_62 : decode cX4_widen 62 = .ok (.getfield 17, 3) := by decide +kernel
theorem dX4_widen_65 : decode cX4_widen 65 = .ok (.iload_n 1, 1) := by decide +kernel
theorem dX4_widen_66 : decode cX4_widen 66 = .ok (.iload_n 2, 1) := by decide +kernel
theorem dX4_widen_67 : decode cX4_widen 67 = .ok (.iastore, 1) := by decide +kernel
theorem dX4_widen_68 : decode cX4_widen 68 = .ok (.iload_n 3, 1) := by decide +kernel
theorem dX4_widen_69 : decode cX4_widen 69 = .ok (.ireturn, 1) := by decide +kernel
theorem dX4_orders_0 : decode cX4_orders 0 = .ok (.aload_n 0, 1) := by decide +kernel
theorem dX4_orders_1 : decode cX4_orders 1 = .ok (.getfield 39, 3) := by decide +kernel
theorem dX4_orders_4 : decode cX4_orders 4 = .ok (.aload_n 0, 1) := by decide +kernel
theorem dX4_orders_5 : decode cX4_orders 5 = .ok (.getfield 276, 3) := by decide +kernel
theorem dX4_orders_8 : decode cX4_orders 8 = .ok (.iload_n 1, 1) := by decide +kernel
theorem dX4_orders_9 : decode cX4_orders 9 = .ok (.iastore, 1) := by decide +kernel
theorem dX4_orders_10 : decode cX4_orders 10 = .ok (.aload_n 0, 1) := by decide +kernel
theorem dX4_orders_11 : decode cX4_orders 11 = .ok (.dup, 1) := by decide +kernel
theorem dX4_orders_12 : decode cX4_orders 12 = .ok (.getfield 276, 3) := by decide +kernel
theorem dX4_orders_15 : decode cX4_orders 15 = .ok (.iconst 1, 1) := by decide +kernel
theorem dX4_orders_16 : decode cX4_orders 16 = .ok (.iadd, 1) := by decide +kernel
theorem dX4_orders_17 : decode cX4_orders 17 = .ok (.putfield 276, 3) := by decide +kernel
theorem dX4_orders_20 : decode cX4_orders 20 = .ok (.return_, 1) := by decide +kernel
theorem dX4_puts_0 : decode cX4_puts 0 = .ok (.iconst 0, 1) := by decide +kernel
theorem dX4_puts_1 : decode cX4_puts 1 = .ok (.istore_n 1, 1) := by decide +kernel
theorem dX4_puts_2 : decode cX4_puts 2 = .ok (.iload_n 1, 1) := by decide +kernel
theorem dX4_puts_3 : decode cX4_puts 3 = .ok (.aload_n 0, 1) := by decide +kernel
theorem dX4_puts_4 : decode cX4_puts 4 = .ok (.getfield 73, 3) := by decide +kernel
theorem dX4_puts_7 : decode cX4_puts 7 = .ok (.if_icmp .ge 142, 3) := by decide +kernel
theorem dX4_puts_10 : decode cX4_puts 10 = .ok (.iconst 0, 1) := by decide +kernel
theorem dX4_puts_11 : decode cX4_puts 11 = .ok (.istore_n 2, 1) := by decide +kernel
theorem dX4_puts_12 : decode cX4_puts 12 = .ok (.iload_n 2, 1) := by decide +kernel
theorem dX4_puts_13 : decode cX4_puts 13 = .ok (.aload_n 0, 1) := by decide +kernel
theorem dX4_puts_14 : decode cX4_puts 14 = .ok (.getfield 276, 3) := by decide +kernel
theorem dX4_puts_17 : decode cX4_puts 17 = .ok (.if_icmp .ge 51, 3) := by decide +kernel
theorem dX4_puts_20 : decode cX4_puts 20 = .ok (.aload_n 0, 1) := by decide +kernel
theorem dX4_puts_21 : decode cX4_puts 21 = .ok (.getfield 42, 3) := by decide +kernel
theorem dX4_puts_24 : decode cX4_puts 24 = .ok (.iload_n 2, 1) := by decide +kernel
theorem dX4_puts_25 : decode cX4_puts 25 = .ok (.aload_n 0, 1) := by decide +kernel
theorem dX4_puts_26 : decode cX4_puts 26 = .ok (.getfield 7, 3) := by decide +kernel
theorem dX4_puts_29 : decode cX4_puts 29 = .ok (.iload_n 1, 1) := by decide +kernel
theorem dX4_puts_30 : decode cX4_puts 30 = .ok (.aload_n 0, 1) := by decide +kernel
theorem dX4_puts_31 : decode cX4_puts 31 = .ok (.getfield 39, 3) := by decide +kernel
theorem dX4_puts_34 : decode cX4_puts 34 = .ok (.iload_n 2, 1) := by decide +kernel
theorem dX4_puts_35 : decode cX4_puts 35 = .ok (.iaload, 1) := by decide +kernel
theorem dX4_puts_36 : decode cX4_puts 36 = .ok (.invokestatic 94, 3) := by decide +kernel
theorem dX4_puts_39 : decode cX4_puts 39 = .ok (.laload, 1) := by decide +kernel
theorem dX4_puts_40 : decode cX4_puts 40 = .ok (.lastore, 1) := by decide +kernel
theorem dX4_puts_41 : decode cX4_puts 41 = .ok (.aload_n 0, 1) := by decide +kernel
theorem dX4_puts_42 : decode cX4_puts 42 = .ok (.getfield 45, 3) := by decide +kernel
theorem dX4_puts_45 : decode cX4_puts 45 = .ok (.iload_n 2, 1) := by decide +kernel
theorem dX4_puts_46 : decode cX4_puts 46 = .ok (.aload_n 0, 1) := by decide +kernel
theorem dX4_puts_47 : decode cX4_puts 47 = .ok (.getfield 13, 3) := by decide +kernel
theorem dX4_puts_50 : decode cX4_puts 50 = .ok (.iload_n 1, 1) := by decide +kernel
theorem dX4_puts_51 : decode cX4_puts 51 = .ok (.aload_n 0, 1) := by decide +kernel
theorem dX4_puts_52 : decode cX4_puts 52 = .ok (.getfield 39, 3) := by decide +kernel
theorem dX4_puts_55 : decode cX4_puts 55 = .ok (.iload_n 2, 1) := by decide +kernel
theorem dX4_puts_56 : decode cX4_puts 56 = .ok (.iaload, 1) := by decide +kernel
theorem dX4_puts_57 : decode cX4_puts 57 = .ok (.invokestatic 94, 3) := by decide +kernel
theorem dX4_puts_60 : decode cX4_puts 60 = .ok (.baload, 1) := by decide +kernel
theorem dX4_puts_61 : decode cX4_puts 61 = .ok (.bastore, 1) := by decide +kernel
theorem dX4_puts_62 : decode cX4_puts 62 = .ok (.iinc 2 1, 3) := by decide +kernel
theorem dX4_puts_65 : decode cX4_puts 65 = .ok (.goto (-53), 3) := by decide +kernel
theorem dX4_puts_68 : decode cX4_puts 68 = .ok (.iconst 0, 1) := by decide +kernel
theorem dX4_puts_69 : decode cX4_puts 69 = .ok (.istore_n 2, 1) := by decide +kernel
theorem dX4_puts_70 : decode cX4_puts 70 = .ok (.iload_n 2, 1) := by decide +kernel
theorem dX4_puts_71 : decode cX4_puts 71 = .ok (.sipush 192, 3) := by decide +kernel
theorem dX4_puts_74 : decode cX4_puts 74 = .ok (.if_icmp .ge 69, 3) := by decide +kernel
theorem dX4_puts_77 : decode cX4_puts 77 = .ok (.aload_n 0, 1) := by decide +kernel
theorem dX4_puts_78 : decode cX4_puts 78 = .ok (.getfield 13, 3) := by decide +kernel
theorem dX4_puts_81 : decode cX4_puts 81 = .ok (.iload_n 1, 1) := by decide +kernel
theorem dX4_puts_82 : decode cX4_puts 82 = .ok (.iload_n 2, 1) := by decide +kernel
theorem dX4_puts_83 : decode cX4_puts 83 = .ok (.invokestatic 94, 3) := by decide +kernel
theorem dX4_puts_86 : decode cX4_puts 86 = .ok (.iload_n 2, 1) := by decide +kernel
theorem dX4_puts_87 : decode cX4_puts 87 = .ok (.aload_n 0, 1) := by decide +kernel
theorem dX4_puts_88 : decode cX4_puts 88 = .ok (.getfield 276, 3) := by decide +kernel
theorem dX4_puts_91 : decode cX4_puts 91 = .ok (.if_icmp .ge 16, 3) := by decide +kernel
theorem dX4_puts_94 : decode cX4_puts 94 = .ok (.aload_n 0, 1) := by decide +kernel
theorem dX4_puts_95 : decode cX4_puts 95 = .ok (.getfield 45, 3) := by decide +kernel
theorem dX4_puts_98 : decode cX4_puts 98 = .ok (.iload_n 2, 1) := by decide +kernel
theorem dX4_puts_99 : decode cX4_puts 99 = .ok (.baload, 1) := by decide +kernel
theorem dX4_puts_100 : decode cX4_puts 100 = .ok (.ifCond .eq 7, 3) := by decide +kernel
theorem dX4_puts_103 : decode cX4_puts 103 = .ok (.iconst 1, 1) := by decide +kernel
theorem dX4_puts_104 : decode cX4_puts 104 = .ok (.goto 4, 3) := by decide +kernel
theorem dX4_puts_107 : decode cX4_puts 107 = .ok (.iconst 0, 1) := by decide +kernel
theorem dX4_puts_108 : decode cX4_puts 108 = .ok (.bastore, 1) := by decide +kernel
theorem dX4_puts_109 : decode cX4_puts 109 = .ok (.aload_n 0, 1) := by decide +kernel
theorem dX4_puts_110 : decode cX4_puts 110 = .ok (.getfield 7, 3) := by decide +kernel
theorem dX4_puts_113 : decode cX4_puts 113 = .ok (.iload_n 1, 1) := by decide +kernel
theorem dX4_puts_114 : decode cX4_puts 114 = .ok (.iload_n 2, 1) := by decide +kernel
theorem dX4_puts_115 : decode cX4_puts 115 = .ok (.invokestatic 94, 3) := by decide +kernel
theorem dX4_puts_118 : decode cX4_puts 118 = .ok (.iload_n 2, 1) := by decide +kernel
theorem dX4_puts_119 : decode cX4_puts 119 = .ok (.aload_n 0, 1) := by decide +kernel
theorem dX4_puts_120 : decode cX4_puts 120 = .ok (.getfield 276, 3) := by decide +kernel
theorem dX4_puts_123 : decode cX4_puts 123 = .ok (.if_icmp .ge 12, 3) := by decide +kernel
theorem dX4_puts_126 : decode cX4_puts 126 = .ok (.aload_n 0, 1) := by decide +kernel
theorem dX4_puts_127 : decode cX4_puts 127 = .ok (.getfield 42, 3) := by decide +kernel
theorem dX4_puts_130 : decode cX4_puts 130 = .ok (.iload_n 2, 1) := by decide +kernel
theorem dX4_puts_131 : decode cX4_puts 131 = .ok (.laload, 1) := by decide +kernel
theorem dX4_puts_132 : decode cX4_puts 132 = .ok (.goto 4, 3) := by decide +kernel
theorem dX4_puts_135 : decode cX4_puts 135 = .ok (.lconst 0, 1) := by decide +kernel
theorem dX4_puts_136 : decode cX4_puts 136 = .ok (.lastore, 1) := by decide +kernel
theorem dX4_puts_137 : decode cX4_puts 137 = .ok (.iinc 2 1, 3) := by decide +kernel
theorem dX4_puts_140 : decode cX4_puts 140 = .ok (.goto (-70), 3) := by decide +kernel
theorem dX4_puts_143 : decode cX4_puts 143 = .ok (.iinc 1 1, 3) := by decide +kernel
theorem dX4_puts_146 : decode cX4_puts 146 = .ok (.goto (-144), 3) := by decide +kernel
theorem dX4_puts_149 : decode cX4_puts 149 = .ok (.iconst 0, 1) := by decide +kernel
theorem dX4_puts_150 : decode cX4_puts 150 = .ok (.istore_n 1, 1) := by decide +kernel
theorem dX4_puts_151 : decode cX4_puts 151 = .ok (.iload_n 1, 1) := by decide +kernel
theorem dX4_puts_152 : decode cX4_puts 152 = .ok (.bipush 8, 2) := by decide +kernel
theorem dX4_puts_154 : decode cX4_puts 154 = .ok (.if_icmp .ge 93, 3) := by decide +kernel
theorem dX4_puts_157 : decode cX4_puts 157 = .ok (.iconst 0, 1) := by decide +kernel
theorem dX4_puts_158 : decode cX4_puts 158 = .ok (.istore_n 2, 1) := by decide +kernel
theorem dX4_puts_159 : decode cX4_puts 159 = .ok (.iload_n 2, 1) := by decide +kernel
theorem dX4_puts_160 : decode cX4_puts 160 = .ok (.aload_n 0, 1) := by decide +kernel
theorem dX4_puts_161 : decode cX4_puts 161 = .ok (.getfield 276, 3) := by decide +kernel
theorem dX4_puts_164 : decode cX4_puts 164 = .ok (.if_icmp .ge 30, 3) := by decide +kernel
theorem dX4_puts_167 : decode cX4_puts 167 = .ok (.aload_n 0, 1) := by decide +kernel
theorem dX4_puts_168 : decode cX4_puts 168 = .ok (.getfield 45, 3) := by decide +kernel
theorem dX4_puts_171 : decode cX4_puts 171 = .ok (.iload_n 2, 1) := by decide +kernel
theorem dX4_puts_172 : decode cX4_puts 172 = .ok (.aload_n 0, 1) := by decide +kernel
theorem dX4_puts_173 : decode cX4_puts 173 = .ok (.getfield 21, 3) := by decide +kernel
theorem dX4_puts_176 : decode cX4_puts 176 = .ok (.iload_n 1, 1) := by decide +kernel
theorem dX4_puts_177 : decode cX4_puts 177 = .ok (.aload_n 0, 1) := by decide +kernel
theorem dX4_puts_178 : decode cX4_puts 178 = .ok (.getfield 39, 3) := by decide +kernel
theorem dX4_puts_181 : decode cX4_puts 181 = .ok (.iload_n 2, 1) := by decide +kernel
theorem dX4_puts_182 : decode cX4_puts 182 = .ok (.iaload, 1) := by decide +kernel
theorem dX4_puts_183 : decode cX4_puts 183 = .ok (.invokestatic 94, 3) := by decide +kernel
theorem dX4_puts_186 : decode cX4_puts 186 = .ok (.baload, 1) := by decide +kernel
theorem dX4_puts_187 : decode cX4_puts 187 = .ok (.bastore, 1) := by decide +kernel
theorem dX4_puts_188 : decode cX4_puts 188 = .ok (.iinc 2 1, 3) := by decide +kernel
theorem dX4_puts_191 : decode cX4_puts 191 = .ok (.goto (-32), 3) := by decide +kernel
theorem dX4_puts_194 : decode cX4_puts 194 = .ok (.iconst 0, 1) := by decide +kernel
theorem dX4_puts_195 : decode cX4_puts 195 = .ok (.istore_n 2, 1) := by decide +kernel
theorem dX4_puts_196 : decode cX4_puts 196 = .ok (.iload_n 2, 1) := by decide +kernel
theorem dX4_puts_197 : decode cX4_puts 197 = .ok (.sipush 192, 3) := by decide +kernel
theorem dX4_puts_200 : decode cX4_puts 200 = .ok (.if_icmp .ge 41, 3) := by decide +kernel
theorem dX4_puts_203 : decode cX4_puts 203 = .ok (.aload_n 0, 1) := by decide +kernel
theorem dX4_puts_204 : decode cX4_puts 204 = .ok (.getfield 21, 3) := by decide +kernel
theorem dX4_puts_207 : decode cX4_puts 207 = .ok (.iload_n 1, 1) := by decide +kernel
theorem dX4_puts_208 : decode cX4_puts 208 = .ok (.iload_n 2, 1) := by decide +kernel
theorem dX4_puts_209 : decode cX4_puts 209 = .ok (.invokestatic 94, 3) := by decide +kernel
theorem dX4_puts_212 : decode cX4_puts 212 = .ok (.iload_n 2, 1) := by decide +kernel
theorem dX4_puts_213 : decode cX4_puts 213 = .ok (.aload_n 0, 1) := by decide +kernel
theorem dX4_puts_214 : decode cX4_puts 214 = .ok (.getfield 276, 3) := by decide +kernel
theorem dX4_puts_217 : decode cX4_puts 217 = .ok (.if_icmp .ge 16, 3) := by decide +kernel
theorem dX4_puts_220 : decode cX4_puts 220 = .ok (.aload_n 0, 1) := by decide +kernel
theorem dX4_puts_221 : decode cX4_puts 221 = .ok (.getfield 45, 3) := by decide +kernel
theorem dX4_puts_224 : decode cX4_puts 224 = .ok (.iload_n 2, 1) := by decide +kernel
theorem dX4_puts_225 : decode cX4_puts 225 = .ok (.baload, 1) := by decide +kernel
theorem dX4_puts_226 : decode cX4_puts 226 = .ok (.ifCond .eq 7, 3) := by decide +kernel
theorem dX4_puts_229 : decode cX4_puts 229 = .ok (.iconst 1, 1) := by decide +kernel
theorem dX4_puts_230 : decode cX4_puts 230 = .ok (.goto 4, 3) := by decide +kernel
theorem dX4_puts_233 : decode cX4_puts 233 = .ok (.iconst 0, 1) := by decide +kernel
theorem dX4_puts_234 : decode cX4_puts 234 = .ok (.bastore, 1) := by decide +kernel
theorem dX4_puts_235 : decode cX4_puts 235 = .ok (.iinc 2 1, 3) := by decide +kernel
theorem dX4_puts_238 : decode cX4_puts 238 = .ok (.goto (-42), 3) := by decide +kernel
theorem dX4_puts_241 : decode cX4_puts 241 = .ok (.iinc 1 1, 3) := by decide +kernel
theorem dX4_puts_244 : decode cX4_puts 244 = .ok (.goto (-93), 3) := by decide +kernel
theorem dX4_puts_247 : decode cX4_puts 247 = .ok (.aload_n 0, 1) := by decide +kernel
theorem dX4_puts_248 : decode cX4_puts 248 = .ok (.aload_n 0, 1) := by decide +kernel
theorem dX4_puts_249 : decode cX4_puts 249 = .ok (.getfield 276, 3) := by decide +kernel
theorem dX4_puts_252 : decode cX4_puts 252 = .ok (.putfield 80, 3) := by decide +kernel
theorem dX4_puts_255 : decode cX4_puts 255 = .ok (.iconst 0, 1) := by decide +kernel
theorem dX4_puts_256 : decode cX4_puts 256 = .ok (.istore_n 1, 1) := by decide +kernel
theorem dX4_puts_257 : decode cX4_puts 257 = .ok (.iconst 0, 1) := by decide +kernel
theorem dX4_puts_258 : decode cX4_puts 258 = .ok (.istore_n 2, 1) := by decide +kernel
theorem dX4_puts_259 : decode cX4_puts 259 = .ok (.iload_n 2, 1) := by decide +kernel
theorem dX4_puts_260 : decode cX4_puts 260 = .ok (.aload_n 0, 1) := by decide +kernel
theorem dX4_puts_261 : decode cX4_puts 261 = .ok (.getfield 276, 3) := by decide +kernel
theorem dX4_puts_264 : decode cX4_puts 264 = .ok (.if_icmp .ge 30, 3) := by decide +kernel
theorem dX4_puts_267 : decode cX4_puts 267 = .ok (.iload_n 1, 1) := by decide +kernel
theorem dX4_puts_268 : decode cX4_puts 268 = .ok (.aload_n 0, 1) := by decide +kernel
theorem dX4_puts_269 : decode cX4_puts 269 = .ok (.getfield 39, 3) := by decide +kernel
theorem dX4_puts_272 : decode cX4_puts 272 = .ok (.iload_n 2, 1) := by decide +kernel
theorem dX4_puts_273 : decode cX4_puts 273 = .ok (.iaload, 1) := by decide +kernel
theorem dX4_puts_274 : decode cX4_puts 274 = .ok (.iload_n 2, 1) := by decide +kernel
theorem dX4_puts_275 : decode cX4_puts 275 = .ok (.if_icmp .eq 7, 3) := by decide +kernel
theorem dX4_puts_278 : decode cX4_puts 278 = .ok (.iconst 1, 1) := by decide +kernel
theorem dX4_puts_279 : decode cX4_puts 279 = .ok (.goto 4, 3) := by decide +kernel
theorem dX4_puts_282 : decode cX4_puts 282 = .ok (.iconst 0, 1) := by decide +kernel
theorem dX4_puts_283 : decode cX4_puts 283 = .ok (.invokestatic 123, 3) := by decide +kernel
theorem dX4_puts_286 : decode cX4_puts 286 = .ok (.iadd, 1) := by decide +kernel
theorem dX4_puts_287 : decode cX4_puts 287 = .ok (.istore_n 1, 1) := by decide +kernel
theorem dX4_puts_288 : decode cX4_puts 288 = .ok (.iinc 2 1, 3) := by decide +kernel
theorem dX4_puts_291 : decode cX4_puts 291 = .ok (.goto (-32), 3) := by decide +kernel
theorem dX4_puts_294 : decode cX4_puts 294 = .ok (.iload_n 1, 1) := by decide +kernel
theorem dX4_puts_295 : decode cX4_puts 295 = .ok (.ireturn, 1) := by decide +kernel
theorem dX4_ordersThose_0 : decode cX4_ordersThose 0 = .ok (.iconst 0, 1) := by decide +kernel
theorem dX4_ordersThose_1 : decode cX4_ordersThose 1 = .ok (.istore_n 3, 1) := by decide +kernel
theorem dX4_ordersThose_2 : decode cX4_ordersThose 2 = .ok (.iload_n 3, 1) := by decide +kernel
theorem dX4_ordersThose_3 : decode cX4_ordersThose 3 = .ok (.aload_n 0, 1) := by decide +kernel
theorem dX4_ordersThose_4 : decode cX4_ordersThose 4 = .ok (.getfield 80, 3) := by decide +kernel
theorem dX4_ordersThose_7 : decode cX4_ordersThose 7 = .ok (.if_icmp .ge 28, 3) := by decide +kernel
theorem dX4_ordersThose_10 : decode cX4_ordersThose 10 = .ok (.aload_n 0, 1) := by decide +kernel
theorem dX4_ordersThose_11 : decode cX4_ordersThose 11 = .ok (.getfield 21, 3) := by decide +kernel
theorem dX4_ordersThose_14 : decode cX4_ordersThose 14 = .ok (.iload_n 1, 1) := by decide +kernel
theorem dX4_ordersThose_15 : decode cX4_ordersThose 15 = .ok (.iload_n 3, 1) := by decide +kernel
theorem dX4_ordersThose_16 : decode cX4_ordersThose 16 = .ok (.invokestatic 94, 3) := by decide +kernel
theorem dX4_ordersThose_19 : decode cX4_ordersThose 19 = .ok (.baload, 1) := by decide +kernel
theorem dX4_ordersThose_20 : decode cX4_ordersThose 20 = .ok (.iload_n 2, 1) := by decide +kernel
theorem dX4_ordersThose_21 : decode cX4_ordersThose 21 = .ok (.if_icmp .ne 8, 3) := by decide +kernel
theorem dX4_ordersThose_24 : decode cX4_ordersThose 24 = .ok (.aload_n 0, 1) := by decide +kernel
theorem dX4_ordersThose_25 : decode cX4_ordersThose 25 = .ok (.iload_n 3, 1) := by decide +kernel
theorem dX4_ordersThose_26 : decode cX4_ordersThose 26 = .ok (.invokevirtual 279, 3) := by decide +kernel
theorem dX4_ordersThose_29 : decode cX4_ordersThose 29 = .ok (.iinc 3 1, 3) := by decide +kernel
theorem dX4_ordersThose_32 : decode cX4_ordersThose 32 = .ok (.goto (-30), 3) := by decide +kernel
theorem dX4_ordersThose_35 : decode cX4_ordersThose 35 = .ok (.return_, 1) := by decide +kernel
theorem dX4_remove_0 : decode cX4_remove 0 = .ok (.aload_n 0, 1) := by decide +kernel
theorem dX4_remove_1 : decode cX4_remove 1 = .ok (.iconst 0, 1) := by decide +kernel
theorem dX4_remove_2 : decode cX4_remove 2 = .ok (.putfield 69, 3) := by decide +kernel
theorem dX4_remove_5 : decode cX4_remove 5 = .ok (.iload_n 1, 1) := by decide +kernel
theorem dX4_remove_6 : decode cX4_remove 6 = .ok (.invokestatic 91, 3) := by decide +kernel
theorem dX4_remove_9 : decode cX4_remove 9 = .ok (.ifCond .ne 9, 3) := by decide +kernel
theorem dX4_remove_12 : decode cX4_remove 12 = .ok (.aload_n 0, 1) := by decide +kernel
theorem dX4_remove_13 : decode cX4_remove 13 = .ok (.iconst 1, 1) := by decide +kernel
theorem dX4_remove_14 : decode cX4_remove 14 = .ok (.invokevirtual 105, 3) := by decide +kernel
theorem dX4_remove_17 : decode cX4_remove 17 = .ok (.ireturn, 1) := by decide +kernel
theorem dX4_remove_18 : decode cX4_remove 18 = .ok (.aload_n 0, 1) := by decide +kernel
theorem dX4_remove_19 : decode cX4_remove 19 = .ok (.iconst 0, 1) := by decide +kernel
theorem dX4_remove_20 : decode cX4_remove 20 = .ok (.putfield 276, 3) := by decide +kernel
theorem dX4_remove_23 : decode cX4_remove 23 = .ok (.aload_n 0, 1) := by decide +kernel
theorem dX4_remove_24 : decode cX4_remove 24 = .ok (.iload_n 1, 1) := by decide +kernel
theorem dX4_remove_25 : decode cX4_remove 25 = .ok (.iconst 0, 1) := by decide +kernel
theorem dX4_remove_26 : decode cX4_remove 26 = .ok (.invokevirtual 283, 3) := by decide +kernel
theorem dX4_remove_29 : decode cX4_remove 29 = .ok (.aload_n 0, 1) := by decide +kernel
theorem dX4_remove_30 : decode cX4_remove 30 = .ok (.invokevirtual 287, 3) := by decide +kernel
theorem dX4_remove_33 : decode cX4_remove 33 = .ok (.istore_n 2, 1) := by decide +kernel
theorem dX4_remove_34 : decode cX4_remove 34 = .ok (.aload_n 0, 1) := by decide +kernel
theorem dX4_remove_35 : decode cX4_remove 35 = .ok (.getfield 80, 3) := by decide +kernel
theorem dX4_remove_38 : decode cX4_remove 38 = .ok (.ireturn, 1) := by decide +kernel
theorem dX4_first_0 : decode cX4_first 0 = .ok (.aload_n 0, 1) := by decide +kernel
theorem dX4_first_1 : decode cX4_first 1 = .ok (.iconst 0, 1) := by decide +kernel
theorem dX4_first_2 : decode cX4_first 2 = .ok (.putfield 69, 3) := by decide +kernel
theorem dX4_first_5 : decode cX4_first 5 = .ok (.iload_n 1, 1) := by decide +kernel
theorem dX4_first_6 : decode cX4_first 6 = .ok (.invokestatic 91, 3) := by decide +kernel
theorem dX4_first_9 : decode cX4_first 9 = .ok (.ifCond .ne 9, 3) := by decide +kernel
theorem dX4_first_12 : decode cX4_first 12 = .ok (.aload_n 0, 1) := by decide +kernel
theorem dX4_first_13 : decode cX4_first 13 = .ok (.iconst 1, 1) := by decide +kernel
theorem dX4_first_14 : decode cX4_first 14 = .ok (.invokevirtual 105, 3) := by decide +kernel
theorem dX4_first_17 : decode cX4_first 17 = .ok (.ireturn, 1) := by decide +kernel
theorem dX4_first_18 : decode cX4_first 18 = .ok (.aload_n 0, 1) := by decide +kernel
theorem dX4_first_19 : decode cX4_first 19 = .ok (.iconst 0, 1) := by decide +kernel
theorem dX4_first_20 : decode cX4_first 20 = .ok (.putfield 276, 3) := by decide +kernel
theorem dX4_first_23 : decode cX4_first 23 = .ok (.aload_n 0, 1) := by decide +kernel
theorem dX4_first_24 : decode cX4_first 24 = .ok (.iload_n 1, 1) := by decide +kernel
theorem dX4_first_25 : decode cX4_first 25 = .ok (.iconst 1, 1) := by decide +kernel
theorem dX4_first_26 : decode cX4_first 26 = .ok (.invokevirtual 283, 3) := by decide +kernel
theorem dX4_first_29 : decode cX4_first 29 = .ok (.aload_n 0, 1) := by decide +kernel
theorem dX4_first_30 : decode cX4_first 30 = .ok (.iload_n 1, 1) := by decide +kernel
theorem dX4_first_31 : decode cX4_first 31 = .ok (.iconst 0, 1) := by decide +kernel
theorem dX4_first_32 : decode cX4_first 32 = .ok (.invokevirtual 283, 3) := by decide +kernel
theorem dX4_first_35 : decode cX4_first 35 = .ok (.aload_n 0, 1) := by decide +kernel
theorem dX4_first_36 : decode cX4_first 36 = .ok (.invokevirtual 287, 3) := by decide +kernel
theorem dX4_first_39 : decode cX4_first 39 = .ok (.ireturn, 1) := by decide +kernel
theorem dX4_goesAhead_0 : decode cX4_goesAhead 0 = .ok (.aload_n 0, 1) := by decide +kernel
theorem dX4_goesAhead_1 : decode cX4_goesAhead 1 = .ok (.getfield 13, 3) := by decide +kernel
theorem dX4_goesAhead_4 : decode cX4_goesAhead 4 = .ok (.iload_n 1, 1) := by decide +kernel
theorem dX4_goesAhead_5 : decode cX4_goesAhead 5 = .ok (.iload_n 2, 1) := by decide +kernel
theorem dX4_goesAhead_6 : decode cX4_goesAhead 6 = .ok (.invokestatic 94, 3) := by decide +kernel
theorem dX4_goesAhead_9 : decode cX4_goesAhead 9 = .ok (.baload, 1) := by decide +kernel
theorem dX4_goesAhead_10 : decode cX4_goesAhead 10 = .ok (.ifCond .eq 16, 3) := by decide +kernel
theorem dX4_goesAhead_13 : decode cX4_goesAhead 13 = .ok (.aload_n 0, 1) := by decide +kernel
theorem dX4_goesAhead_14 : decode cX4_goesAhead 14 = .ok (.getfield 13, 3) := by decide +kernel
theorem dX4_goesAhead_17 : decode cX4_goesAhead 17 = .ok (.iload_n 1, 1) := by decide +kernel
theorem dX4_goesAhead_18 : decode cX4_goesAhead 18 = .ok (.iload_n 3, 1) := by decide +kernel
theorem dX4_goesAhead_19 : decode cX4_goesAhead 19 = .ok (.invokestatic 94, 3) := by decide +kernel
theorem dX4_goesAhead_22 : decode cX4_goesAhead 22 = .ok (.baload, 1) := by decide +kernel
theorem dX4_goesAhead_23 : decode cX4_goesAhead 23 = .ok (.ifCond .ne 35, 3) := by decide +kernel
theorem dX4_goesAhead_26 : decode cX4_goesAhead 26 = .ok (.aload_n 0, 1) := by decide +kernel
theorem dX4_goesAhead_27 : decode cX4_goesAhead 27 = .ok (.getfield 13, 3) := by decide +kernel
theorem dX4_goesAhead_30 : decode cX4_goesAhead 30 = .ok (.iload_n 1, 1) := by decide +kernel
theorem dX4_goesAhead_31 : decode cX4_goesAhead 31 = .ok (.iload_n 2, 1) := by decide +kernel
theorem dX4_goesAhead_32 : decode cX4_goesAhead 32 = .ok (.invokestatic 94, 3) := by decide +kernel
theorem dX4_goesAhead_35 : decode cX4_goesAhead 35 = .ok (.baload, 1) := by decide +kernel
theorem dX4_goesAhead_36 : decode cX4_goesAhead 36 = .ok (.ifCond .eq 20, 3) := by decide +kernel
theorem dX4_goesAhead_39 : decode cX4_goesAhead 39 = .ok (.aload_n 0, 1) := by decide +kernel
theorem dX4_goesAhead_40 : decode cX4_goesAhead 40 = .ok (.getfield 13, 3) := by decide +kernel
theorem dX4_goesAhead_43 : decode cX4_goesAhead 43 = .ok (.iload_n 1, 1) := by decide +kernel
theorem dX4_goesAhead_44 : decode cX4_goesAhead 44 = .ok (.iload_n 3, 1) := by decide +kernel
theorem dX4_goesAhead_45 : decode cX4_goesAhead 45 = .ok (.invokestatic 94, 3) := by decide +kernel
theorem dX4_goesAhead_48 : decode cX4_goesAhead 48 = .ok (.baload, 1) := by decide +kernel
theorem dX4_goesAhead_49 : decode cX4_goesAhead 49 = .ok (.ifCond .ne 7, 3) := by decide +kernel
theorem dX4_goesAhead_52 : decode cX4_goesAhead 52 = .ok (.iconst 1, 1) := by decide +kernel
theorem dX4_goesAhead_53 : decode cX4_goesAhead 53 = .ok (.goto 4, 3) := by decide +kernel
theorem dX4_goesAhead_56 : decode cX4_goesAhead 56 = .ok (.iconst 0, 1) := by decide +kernel
theorem dX4_goesAhead_57 : decode cX4_goesAhead 57 = .ok (.ireturn, 1) := by decide +kernel
theorem dX4_goesAhead_58 : decode cX4_goesAhead 58 = .ok (.aload_n 0, 1) := by decide +kernel
theorem dX4_goesAhead_59 : decode cX4_goesAhead 59 = .ok (.getfield 7, 3) := by decide +kernel
theorem dX4_goesAhead_62 : decode cX4_goesAhead 62 = .ok (.iload_n 1, 1) := by decide +kernel
theorem dX4_goesAhead_63 : decode cX4_goesAhead 63 = .ok (.iload_n 2, 1) := by decide +kernel
theorem dX4_goesAhead_64 : decode cX4_goesAhead 64 = .ok (.invokestatic 94, 3) := by decide +kernel
theorem dX4_goesAhead_67 : decode cX4_goesAhead 67 = .ok (.laload, 1) := by decide +kernel
theorem dX4_goesAhead_68 : decode cX4_goesAhead 68 = .ok (.lstore 5, 2) := by decide +kernel
theorem dX4_goesAhead_70 : decode cX4_goesAhead 70 = .ok (.aload_n 0, 1) := by decide +kernel
theorem dX4_goesAhead_71 : decode cX4_goesAhead 71 = .ok (.getfield 7, 3) := by decide +kernel
theorem dX4_goesAhead_74 : decode cX4_goesAhead 74 = .ok (.iload_n 1, 1) := by decide +kernel
theorem dX4_goesAhead_75 : decode cX4_goesAhead 75 = .ok (.iload_n 3, 1) := by decide +kernel
theorem dX4_goesAhead_76 : decode cX4_goesAhead 76 = .ok (.invokestatic 94, 3) := by decide +kernel
theorem dX4_goesAhead_79 : decode cX4_goesAhead 79 = .ok (.laload, 1) := by decide +kernel
theorem dX4_goesAhead_80 : decode cX4_goesAhead 80 = .ok (.lstore 7, 2) := by decide +kernel
theorem dX4_goesAhead_82 : decode cX4_goesAhead 82 = .ok (.iload 4, 2) := by decide +kernel
theorem dX4_goesAhead_84 : decode cX4_goesAhead 84 = .ok (.ifCond .eq 19, 3) := by decide +kernel
theorem dX4_goesAhead_87 : decode cX4_goesAhead 87 = .ok (.lload 5, 2) := by decide +kernel
theorem dX4_goesAhead_89 : decode cX4_goesAhead 89 = .ok (.lload 7, 2) := by decide +kernel
theorem dX4_goesAhead_91 : decode cX4_goesAhead 91 = .ok (.lcmp, 1) := by decide +kernel
theorem dX4_goesAhead_92 : decode cX4_goesAhead 92 = .ok (.ifCond .le 7, 3) := by decide +kernel
theorem dX4_goesAhead_95 : decode cX4_goesAhead 95 = .ok (.iconst 1, 1) := by decide +kernel
theorem dX4_goesAhead_96 : decode cX4_goesAhead 96 = .ok (.goto 20, 3) := by decide +kernel
theorem dX4_goesAhead_99 : decode cX4_goesAhead 99 = .ok (.iconst 0, 1) := by decide +kernel
theorem dX4_goesAhead_100 : decode cX4_goesAhead 100 = .ok (.goto 16, 3) := by decide +kernel
theorem dX4_goesAhead_103 : decode cX4_goesAhead 103 = .ok (.lload 5, 2) := by decide +kernel
theorem dX4_goesAhead_105 : decode cX4_goesAhead 105 = .ok (.lload 7, 2) := by decide +kernel
theorem dX4_goesAhead_107 : decode cX4_goesAhead 107 = .ok (.lcmp, 1) := by decide +kernel
theorem dX4_goesAhead_108 : decode cX4_goesAhead 108 = .ok (.ifCond .ge 7, 3) := by decide +kernel
theorem dX4_goesAhead_111 : decode cX4_goesAhead 111 = .ok (.iconst 1, 1) := by decide +kernel
theorem dX4_goesAhead_112 : decode cX4_goesAhead 112 = .ok (.goto 4, 3) := by decide +kernel
theorem dX4_goesAhead_115 : decode cX4_goesAhead 115 = .ok (.iconst 0, 1) := by decide +kernel
theorem dX4_goesAhead_116 : decode cX4_goesAhead 116 = .ok (.ireturn, 1) := by decide +kernel
theorem dX4_sort_0 : decode cX4_sort 0 = .ok (.aload_n 0, 1) := by decide +kernel
theorem dX4_sort_1 : decode cX4_sort 1 = .ok (.iconst 0, 1) := by decide +kernel
theorem dX4_sort_2 : decode cX4_sort 2 = .ok (.putfield 69, 3) := by decide +kernel
theorem dX4_sort_5 : decode cX4_sort 5 = .ok (.aload_n 0, 1) := by decide +kernel
theorem dX4_sort_6 : decode cX4_sort 6 = .ok (.iload_n 1, 1) := by decide +kernel
theorem dX4_sort_7 : decode cX4_sort 7 = .ok (.invokevirtual 87, 3) := by decide +kernel
theorem dX4_sort_10 : decode cX4_sort 10 = .ok (.ifCond .ne 9, 3) := by decide +kernel
theorem dX4_sort_13 : decode cX4_sort 13 = .ok (.aload_n 0, 1) := by decide +kernel
theorem dX4_sort_14 : decode cX4_sort 14 = .ok (.iconst 1, 1) := by decide +kernel
theorem dX4_sort_15 : decode cX4_sort 15 = .ok (.invokevirtual 105, 3) := by decide +kernel
theorem dX4_sort_18 : decode cX4_sort 18 = .ok (.ireturn, 1) := by decide +kernel
theorem dX4_sort_19 : decode cX4_sort 19 = .ok (.aload_n 0, 1) := by decide +kernel
theorem dX4_sort_20 : decode cX4_sort 20 = .ok (.iconst 0, 1) := by decide +kernel
theorem dX4_sort_21 : decode cX4_sort 21 = .ok (.putfield 276, 3) := by decide +kernel
theorem dX4_sort_24 : decode cX4_sort 24 = .ok (.iconst 0, 1) := by decide +kernel
theorem dX4_sort_25 : decode cX4_sort 25 = .ok (.istore_n 3, 1) := by decide +kernel
theorem dX4_sort_26 : decode cX4_sort 26 = .ok (.iload_n 3, 1) := by decide +kernel
theorem dX4_sort_27 : decode cX4_sort 27 = .ok (.aload_n 0, 1) := by decide +kernel
theorem dX4_sort_28 : decode cX4_sort 28 = .ok (.getfield 80, 3) := by decide +kernel
theorem dX4_sort_31 : decode cX4_sort 31 = .ok (.if_icmp .ge 79, 3) := by decide +kernel
theorem dX4_sort_34 : decode cX4_sort 34 = .ok (.aload_n 0, 1) := by decide +kernel
theorem dX4_sort_35 : decode cX4_sort 35 = .ok (.getfield 276, 3) := by decide +kernel
theorem dX4_sort_38 : decode cX4_sort 38 = .ok (.istore 4, 2) := by decide +kernel
theorem dX4_sort_40 : decode cX4_sort 40 = .ok (.iload 4, 2) := by decide +kernel
theorem dX4_sort_42 : decode cX4_sort 42 = .ok (.ifCond .le 44, 3) := by decide +kernel
theorem dX4_sort_45 : decode cX4_sort 45 = .ok (.aload_n 0, 1) := by decide +kernel
theorem dX4_sort_46 : decode cX4_sort 46 = .ok (.iload_n 1, 1) := by decide +kernel
theorem dX4_sort_47 : decode cX4_sort 47 = .ok (.iload_n 3, 1) := by decide +kernel
theorem dX4_sort_48 : decode cX4_sort 48 = .ok (.aload_n 0, 1) := by decide +kernel
theorem dX4_sort_49 : decode cX4_sort 49 = .ok (.getfield 39, 3) := by decide +kernel
theorem dX4_sort_52 : decode cX4_sort 52 = .ok (.iload 4, 2) := by decide +kernel
theorem dX4_sort_54 : decode cX4_sort 54 = .ok (.iconst 1, 1) := by decide +kernel
theorem dX4_sort_55 : decode cX4_sort 55 = .ok (.isub, 1) := by decide +kernel
theorem dX4_sort_56 : decode cX4_sort 56 = .ok (.iaload, 1) := by decide +kernel
theorem dX4_sort_57 : decode cX4_sort 57 = .ok (.iload_n 2, 1) := by decide +kernel
theorem dX4_sort_58 : decode cX4_sort 58 = .ok (.invokevirtual 290, 3) := by decide +kernel
theorem dX4_sort_61 : decode cX4_sort 61 = .ok (.ifCond .eq 25, 3) := by decide +kernel
theorem dX4_sort_64 : decode cX4_sort 64 = .ok (.aload_n 0, 1) := by decide +kernel
theorem dX4_sort_65 : decode cX4_sort 65 = .ok (.getfield 39, 3) := by decide +kernel
theorem dX4_sort_68 : decode cX4_sort 68 = .ok (.iload 4, 2) := by decide +kernel
theorem dX4_sort_70 : decode cX4_sort 70 = .ok (.aload_n 0, 1) := by decide +kernel
theorem dX4_sort_71 : decode cX4_sort 71 = .ok (.getfield 39, 3) := by decide +kernel
theorem dX4_sort_74 : decode cX4_sort 74 = .ok (.iload 4, 2) := by decide +kernel
theorem dX4_sort_76 : decode cX4_sort 76 = .ok (.iconst 1, 1) := by decide +kernel
theorem dX4_sort_77 : decode cX4_sort 77 = .ok (.isub, 1) := by decide +kernel
theorem dX4_sort_78 : decode cX4_sort 78 = .ok (.iaload, 1) := by decide +kernel
theorem dX4_sort_79 : decode cX4_sort 79 = .ok (.iastore, 1) := by decide +kernel
theorem dX4_sort_80 : decode cX4_sort 80 = .ok (.iinc 4 (-1), 3) := by decide +kernel
theorem dX4_sort_83 : decode cX4_sort 83 = .ok (.goto (-43), 3) := by decide +kernel
theorem dX4_sort_86 : decode cX4_sort 86 = .ok (.aload_n 0, 1) := by decide +kernel
theorem dX4_sort_87 : decode cX4_sort 87 = .ok (.getfield 39, 3) := by decide +kernel
theorem dX4_sort_90 : decode cX4_sort 90 = .ok (.iload 4, 2) := by decide +kernel
theorem dX4_sort_92 : decode cX4_sort 92 = .ok (.iload_n 3, 1) := by decide +kernel
theorem dX4_sort_93 : decode cX4_sort 93 = .ok (.iastore, 1) := by decide +kernel
theorem dX4_sort_94 : decode cX4_sort 94 = .ok (.aload_n 0, 1) := by decide +kernel
theorem dX4_sort_95 : decode cX4_sort 95 = .ok (.dup, 1) := by decide +kernel
theorem dX4_sort_96 : decode cX4_sort 96 = .ok (.getfield 276, 3) := by decide +kernel
theorem dX4_sort_99 : decode cX4_sort 99 = .ok (.iconst 1, 1) := by decide +kernel
theorem dX4_sort_100 : decode cX4_sort 100 = .ok (.iadd, 1) := by decide +kernel
theorem dX4_sort_101 : decode cX4_sort 101 = .ok (.putfield 276, 3) := by decide +kernel
theorem dX4_sort_104 : decode cX4_sort 104 = .ok (.iinc 3 1, 3) := by decide +kernel
theorem dX4_sort_107 : decode cX4_sort 107 = .ok (.goto (-81), 3) := by decide +kernel
theorem dX4_sort_110 : decode cX4_sort 110 = .ok (.aload_n 0, 1) := by decide +kernel
theorem dX4_sort_111 : decode cX4_sort 111 = .ok (.invokevirtual 287, 3) := by decide +kernel
theorem dX4_sort_114 : decode cX4_sort 114 = .ok (.ireturn, 1) := by decide +kernel
theorem dX4_reverse_0 : decode cX4_reverse 0 = .ok (.aload_n 0, 1) := by decide +kernel
theorem dX4_reverse_1 : decode cX4_reverse 1 = .ok (.iconst 0, 1) := by decide +kernel
theorem dX4_reverse_2 : decode cX4_reverse 2 = .ok (.putfield 69, 3) := by decide +kernel
theorem dX4_reverse_5 : decode cX4_reverse 5 = .ok (.aload_n 0, 1) := by decide +kernel
theorem dX4_reverse_6 : decode cX4_reverse 6 = .ok (.iconst 0, 1) := by decide +kernel
theorem dX4_reverse_7 : decode cX4_reverse 7 = .ok (.putfield 276, 3) := by decide +kernel
theorem dX4_reverse_10 : decode cX4_reverse 10 = .ok (.aload_n 0, 1) := by decide +kernel
theorem dX4_reverse_11 : decode cX4_reverse 11 = .ok (.getfield 80, 3) := by decide +kernel
theorem dX4_reverse_14 : decode cX4_reverse 14 = .ok (.iconst 1, 1) := by decide +kernel
theorem dX4_reverse_15 : decode cX4_reverse 15 = .ok (.isub, 1) := by decide +kernel
theorem dX4_reverse_16 : decode cX4_reverse 16 = .ok (.istore_n 1, 1) := by decide +kernel
theorem dX4_reverse_17 : decode cX4_reverse 17 = .ok (.iload_n 1, 1) := by decide +kernel
theorem dX4_reverse_18 : decode cX4_reverse 18 = .ok (.ifCond .lt 14, 3) := by decide +kernel
theorem dX4_reverse_21 : decode cX4_reverse 21 = .ok (.aload_n 0, 1) := by decide +kernel
theorem dX4_reverse_22 : decode cX4_reverse 22 = .ok (.iload_n 1, 1) := by decide +kernel
theorem dX4_reverse_23 : decode cX4_reverse 23 = .ok (.invokevirtual 279, 3) := by decide +kernel
theorem dX4_reverse_26 : decode cX4_reverse 26 = .ok (.iinc 1 (-1), 3) := by decide +kernel
theorem dX4_reverse_29 : decode cX4_reverse 29 = .ok (.goto (-12), 3) := by decide +kernel
theorem dX4_reverse_32 : decode cX4_reverse 32 = .ok (.aload_n 0, 1) := by decide +kernel
theorem dX4_reverse_33 : decode cX4_reverse 33 = .ok (.invokevirtual 287, 3) := by decide +kernel
theorem dX4_reverse_36 : decode cX4_reverse 36 = .ok (.istore_n 1, 1) := by decide +kernel
theorem dX4_reverse_37 : decode cX4_reverse 37 = .ok (.aload_n 0, 1) := by decide +kernel
theorem dX4_reverse_38 : decode cX4_reverse 38 = .ok (.getfield 80, 3) := by decide +kernel
theorem dX4_reverse_41 : decode cX4_reverse 41 = .ok (.ireturn, 1) := by decide +kernel
theorem dX4_swap_0 : decode cX4_swap 0 = .ok (.aload_n 0, 1) := by decide +kernel
theorem dX4_swap_1 : decode cX4_swap 1 = .ok (.iconst 0, 1) := by decide +kernel
theorem dX4_swap_2 : decode cX4_swap 2 = .ok (.putfield 69, 3) := by decide +kernel
theorem dX4_swap_5 : decode cX4_swap 5 = .ok (.aload_n 0, 1) := by decide +kernel
theorem dX4_swap_6 : decode cX4_swap 6 = .ok (.iload_n 1, 1) := by decide +kernel
theorem dX4_swap_7 : decode cX4_swap 7 = .ok (.invokevirtual 87, 3) := by decide +kernel
theorem dX4_swap_10 : decode cX4_swap 10 = .ok (.ifCond .eq 11, 3) := by decide +kernel
theorem dX4_swap_13 : decode cX4_swap 13 = .ok (.aload_n 0, 1) := by decide +kernel
theorem dX4_swap_14 : decode cX4_swap 14 = .ok (.iload_n 2, 1) := by decide +kernel
theorem dX4_swap_15 : decode cX4_swap 15 = .ok (.invokevirtual 87, 3) := by decide +kernel
theorem dX4_swap_18 : decode cX4_swap 18 = .ok (.ifCond .ne 9, 3) := by decide +kernel
theorem dX4_swap_21 : decode cX4_swap 21 = .ok (.aload_n 0, 1) := by decide +kernel
theorem dX4_swap_22 : decode cX4_swap 22 = .ok (.iconst 1, 1) := by decide +kernel
theorem dX4_swap_23 : decode cX4_swap 23 = .ok (.invokevirtual 105, 3) := by decide +kernel
theorem dX4_swap_26 : decode cX4_swap 26 = .ok (.ireturn, 1) := by decide +kernel
theorem dX4_swap_27 : decode cX4_swap 27 = .ok (.aload_n 0, 1) := by decide +kernel
theorem dX4_swap_28 : decode cX4_swap 28 = .ok (.getfield 17, 3) := by decide +kernel
theorem dX4_swap_31 : decode cX4_swap 31 = .ok (.iload_n 1, 1) := by decide +kernel
theorem dX4_swap_32 : decode cX4_swap 32 = .ok (.iaload, 1) := by decide +kernel
theorem dX4_swap_33 : decode cX4_swap 33 = .ok (.istore_n 3, 1) := by decide +kernel
theorem dX4_swap_34 : decode cX4_swap 34 = .ok (.aload_n 0, 1) := by decide +kernel
theorem dX4_swap_35 : decode cX4_swap 35 = .ok (.getfield 17, 3) := by decide +kernel
theorem dX4_swap_38 : decode cX4_swap 38 = .ok (.iload_n 1, 1) := by decide +kernel
theorem dX4_swap_39 : decode cX4_swap 39 = .ok (.aload_n 0, 1) := by decide +kernel
theorem dX4_swap_40 : decode cX4_swap 40 = .ok (.getfield 17, 3) := by decide +kernel
theorem dX4_swap_43 : decode cX4_swap 43 = .ok (.iload_n 2, 1) := by decide +kernel
theorem dX4_swap_44 : decode cX4_swap 44 = .ok (.iaload, 1) := by decide +kernel
theorem dX4_swap_45 : decode cX4_swap 45 = .ok (.iastore, 1) := by decide +kernel
theorem dX4_swap_46 : decode cX4_swap 46 = .ok (.aload_n 0, 1) := by decide +kernel
theorem dX4_swap_47 : decode cX4_swap 47 = .ok (.getfield 17, 3) := by decide +kernel
theorem dX4_swap_50 : decode cX4_swap 50 = .ok (.iload_n 2, 1) := by decide +kernel
theorem dX4_swap_51 : decode cX4_swap 51 = .ok (.iload_n 3, 1) := by decide +kernel
theorem dX4_swap_52 : decode cX4_swap 52 = .ok (.iastore, 1) := by decide +kernel
theorem dX4_swap_53 : decode cX4_swap 53 = .ok (.iconst 0, 1) := by decide +kernel
theorem dX4_swap_54 : decode cX4_swap 54 = .ok (.istore 4, 2) := by decide +kernel
theorem dX4_swap_56 : decode cX4_swap 56 = .ok (.iload 4, 2) := by decide +kernel
theorem dX4_swap_58 : decode cX4_swap 58 = .ok (.sipush 192, 3) := by decide +kernel
theorem dX4_swap_61 : decode cX4_swap 61 = .ok (.if_icmp .ge 105, 3) := by decide +kernel
theorem dX4_swap_64 : decode cX4_swap 64 = .ok (.aload_n 0, 1) := by decide +kernel
theorem dX4_swap_65 : decode cX4_swap 65 = .ok (.getfield 7, 3) := by decide +kernel
theorem dX4_swap_68 : decode cX4_swap 68 = .ok (.iload_n 1, 1) := by decide +kernel
theorem dX4_swap_69 : decode cX4_swap 69 = .ok (.iload 4, 2) := by decide +kernel
theorem dX4_swap_71 : decode cX4_swap 71 = .ok (.invokestatic 94, 3) := by decide +kernel
theorem dX4_swap_74 : decode cX4_swap 74 = .ok (.laload, 1) := by decide +kernel
theorem dX4_swap_75 : decode cX4_swap 75 = .ok (.lstore 5, 2) := by decide +kernel
theorem dX4_swap_77 : decode cX4_swap 77 = .ok (.aload_n 0, 1) := by decide +kernel
theorem dX4_swap_78 : decode cX4_swap 78 = .ok (.getfield 7, 3) := by decide +kernel
theorem dX4_swap_81 : decode cX4_swap 81 = .ok (.iload_n 1, 1) := by decide +kernel
theorem dX4_swap_82 : decode cX4_swap 82 = .ok (.iload 4, 2) := by decide +kernel
theorem dX4_swap_84 : decode cX4_swap 84 = .ok (.invokestatic 94, 3) := by decide +kernel
theorem dX4_swap_87 : decode cX4_swap 87 = .ok (.aload_n 0, 1) := by decide +kernel
theorem dX4_swap_88 : decode cX4_swap 88 = .ok (.getfield 7, 3) := by decide +kernel
theorem dX4_swap_91 : decode cX4_swap 91 = .ok (.iload_n 2, 1) := by decide +kernel
theorem dX4_swap_92 : decode cX4_swap 92 = .ok (.iload 4, 2) := by decide +kernel
theorem dX4_swap_94 : decode cX4_swap 94 = .ok (.invokestatic 94, 3) := by decide +kernel
theorem dX4_swap_97 : decode cX4_swap 97 = .ok (.laload, 1) := by decide +kernel
theorem dX4_swap_98 : decode cX4_swap 98 = .ok (.lastore, 1) := by decide +kernel
theorem dX4_swap_99 : decode cX4_swap 99 = .ok (.aload_n 0, 1) := by decide +kernel
theorem dX4_swap_100 : decode cX4_swap 100 = .ok (.getfield 7, 3) := by decide +kernel
theorem dX4_swap_103 : decode cX4_swap 103 = .ok (.iload_n 2, 1) := by decide +kernel
theorem dX4_swap_104 : decode cX4_swap 104 = .ok (.iload 4, 2) := by decide +kernel
theorem dX4_swap_106 : decode cX4_swap 106 = .ok (.invokestatic 94, 3) := by decide +kernel
theorem dX4_swap_109 : decode cX4_swap 109 = .ok (.lload 5, 2) := by decide +kernel
theorem dX4_swap_111 : decode cX4_swap 111 = .ok (.lastore, 1) := by decide +kernel
theorem dX4_swap_112 : decode cX4_swap 112 = .ok (.aload_n 0, 1) := by decide +kernel
theorem dX4_swap_113 : decode cX4_swap 113 = .ok (.getfield 13, 3) := by decide +kernel
theorem dX4_swap_116 : decode cX4_swap 116 = .ok (.iload_n 1, 1) := by decide +kernel
theorem dX4_swap_117 : decode cX4_swap 117 = .ok (.iload 4, 2) := by decide +kernel
theorem dX4_swap_119 : decode cX4_swap 119 = .ok (.invokestatic 94, 3) := by decide +kernel
theorem dX4_swap_122 : decode cX4_swap 122 = .ok (.baload, 1) := by decide +kernel
theorem dX4_swap_123 : decode cX4_swap 123 = .ok (.istore 7, 2) := by decide +kernel
theorem dX4_swap_125 : decode cX4_swap 125 = .ok (.aload_n 0, 1) := by decide +kernel
theorem dX4_swap_126 : decode cX4_swap 126 = .ok (.getfield 13, 3) := by decide +kernel
theorem dX4_swap_129 : decode cX4_swap 129 = .ok (.iload_n 1, 1) := by decide +kernel
theorem dX4_swap_130 : decode cX4_swap 130 = .ok (.iload 4, 2) := by decide +kernel
theorem dX4_swap_132 : decode cX4_swap 132 = .ok (.invokestatic 94, 3) := by decide +kernel
theorem dX4_swap_135 : decode cX4_swap 135 = .ok (.aload_n 0, 1) := by decide +kernel
theorem dX4_swap_136 : decode cX4_swap 136 = .ok (.getfield 13, 3) := by decide +kernel
theorem dX4_swap_139 : decode cX4_swap 139 = .ok (.iload_n 2, 1) := by decide +kernel
theorem dX4_swap_140 : decode cX4_swap 140 = .ok (.iload 4, 2) := by decide +kernel
theorem dX4_swap_142 : decode cX4_swap 142 = .ok (.invokestatic 94, 3) := by decide +kernel
theorem dX4_swap_145 : decode cX4_swap 145 = .ok (.baload, 1) := by decide +kernel
theorem dX4_swap_146 : decode cX4_swap 146 = .ok (.bastore, 1) := by decide +kernel
theorem dX4_swap_147 : decode cX4_swap 147 = .ok (.aload_n 0, 1) := by decide +kernel
theorem dX4_swap_148 : decode cX4_swap 148 = .ok (.getfield 13, 3) := by decide +kernel
theorem dX4_swap_151 : decode cX4_swap 151 = .ok (.iload_n 2, 1) := by decide +kernel
theorem dX4_swap_152 : decode cX4_swap 152 = .ok (.iload 4, 2) := by decide +kernel
theorem dX4_swap_154 : decode cX4_swap 154 = .ok (.invokestatic 94, 3) := by decide +kernel
theorem dX4_swap_157 : decode cX4_swap 157 = .ok (.iload 7, 2) := by decide +kernel
theorem dX4_swap_159 : decode cX4_swap 159 = .ok (.bastore, 1) := by decide +kernel
theorem dX4_swap_160 : decode cX4_swap 160 = .ok (.iinc 4 1, 3) := by decide +kernel
theorem dX4_swap_163 : decode cX4_swap 163 = .ok (.goto (-107), 3) := by decide +kernel
theorem dX4_swap_166 : decode cX4_swap 166 = .ok (.aload_n 0, 1) := by decide +kernel
theorem dX4_swap_167 : decode cX4_swap 167 = .ok (.getfield 17, 3) := by decide +kernel
theorem dX4_swap_170 : decode cX4_swap 170 = .ok (.iload_n 1, 1) := by decide +kernel
theorem dX4_swap_171 : decode cX4_swap 171 = .ok (.iaload, 1) := by decide +kernel
theorem dX4_swap_172 : decode cX4_swap 172 = .ok (.ireturn, 1) := by decide +kernel
theorem dX4_keep_0 : decode cX4_keep 0 = .ok (.aload_n 0, 1) := by decide +kernel
theorem dX4_keep_1 : decode cX4_keep 1 = .ok (.iconst 0, 1) := by decide +kernel
theorem dX4_keep_2 : decode cX4_keep 2 = .ok (.putfield 69, 3) := by decide +kernel
theorem dX4_keep_5 : decode cX4_keep 5 = .ok (.iload_n 1, 1) := by decide +kernel
theorem dX4_keep_6 : decode cX4_keep 6 = .ok (.i2l, 1) := by decide +kernel
theorem dX4_keep_7 : decode cX4_keep 7 = .ok (.lconst 0, 1) := by decide +kernel
theorem dX4_keep_8 : decode cX4_keep 8 = .ok (.lconst 1, 1) := by decide +kernel
theorem dX4_keep_9 : decode cX4_keep 9 = .ok (.invokestatic 76, 3) := by decide +kernel
theorem dX4_keep_12 : decode cX4_keep 12 = .ok (.ifCond .ne 9, 3) := by decide +kernel
theorem dX4_keep_15 : decode cX4_keep 15 = .ok (.aload_n 0, 1) := by decide +kernel
theorem dX4_keep_16 : decode cX4_keep 16 = .ok (.iconst 1, 1) := by decide +kernel
theorem dX4_keep_17 : decode cX4_keep 17 = .ok (.invokevirtual 105, 3) := by decide +kernel
theorem dX4_keep_20 : decode cX4_keep 20 = .ok (.ireturn, 1) := by decide +kernel
theorem dX4_keep_21 : decode cX4_keep 21 = .ok (.iconst 0, 1) := by decide +kernel
theorem dX4_keep_22 : decode cX4_keep 22 = .ok (.istore_n 2, 1) := by decide +kernel
theorem dX4_keep_23 : decode cX4_keep 23 = .ok (.iload_n 2, 1) := by decide +kernel
theorem dX4_keep_24 : decode cX4_keep 24 = .ok (.sipush 1152, 3) := by decide +kernel
theorem dX4_keep_27 : decode cX4_keep 27 = .ok (.if_icmp .ge 45, 3) := by decide +kernel
theorem dX4_keep_30 : decode cX4_keep 30 = .ok (.aload_n 0, 1) := by decide +kernel
theorem dX4_keep_31 : decode cX4_keep 31 = .ok (.getfield 48, 3) := by decide +kernel
theorem dX4_keep_34 : decode cX4_keep 34 = .ok (.sipush 1152, 3) := by decide +kernel
theorem dX4_keep_37 : decode cX4_keep 37 = .ok (.iload_n 1, 1) := by decide +kernel
theorem dX4_keep_38 : decode cX4_keep 38 = .ok (.imul, 1) := by decide +kernel
theorem dX4_keep_39 : decode cX4_keep 39 = .ok (.iload_n 2, 1) := by decide +kernel
theorem dX4_keep_40 : decode cX4_keep 40 = .ok (.iadd, 1) := by decide +kernel
theorem dX4_keep_41 : decode cX4_keep 41 = .ok (.aload_n 0, 1) := by decide +kernel
theorem dX4_keep_42 : decode cX4_keep 42 = .ok (.getfield 7, 3) := by decide +kernel
theorem dX4_keep_45 : decode cX4_keep 45 = .ok (.iload_n 2, 1) := by decide +kernel
theorem dX4_keep_46 : decode cX4_keep 46 = .ok (.laload, 1) := by decide +kernel
theorem dX4_keep_47 : decode cX4_keep 47 = .ok (.lastore, 1) := by decide +kernel
theorem dX4_keep_48 : decode cX4_keep 48 = .ok (.aload_n 0, 1) := by decide +kernel
theorem dX4_keep_49 : decode cX4_keep 49 = .ok (.getfield 51, 3) := by decide +kernel
theorem dX4_keep_52 : decode cX4_keep 52 = .ok (.sipush 1152, 3) := by decide +kernel
theorem dX4_keep_55 : decode cX4_keep 55 = .ok (.iload_n 1, 1) := by decide +kernel
theorem dX4_keep_56 : decode cX4_keep 56 = .ok (.imul, 1) := by decide +kernel
theorem dX4_keep_57 : decode cX4_keep 57 = .ok (.iload_n 2, 1) := by decide +kernel
theorem dX4_keep_58 : decode cX4_keep 58 = .ok (.iadd, 1) := by decide +kernel
theorem dX4_keep_59 : decode cX4_keep 59 = .ok (.aload_n 0, 1) := by decide +kernel
theorem dX4_keep_60 : decode cX4_keep 60 = .ok (.getfield 13, 3) := by decide +kernel
theorem dX4_keep_63 : decode cX4_keep 63 = .ok (.iload_n 2, 1) := by decide +kernel
theorem dX4_keep_64 : decode cX4_keep 64 = .ok (.baload, 1) := by decide +kernel
theorem dX4_keep_65 : decode cX4_keep 65 = .ok (.bastore, 1) := by decide +kernel
theorem dX4_keep_66 : decode cX4_keep 66 = .ok (.iinc 2 1, 3) := by decide +kernel
theorem dX4_keep_69 : decode cX4_keep 69 = .ok (.goto (-46), 3) := by decide +kernel
theorem dX4_keep_72 : decode cX4_keep 72 = .ok (.iconst 0, 1) := by decide +kernel
theorem dX4_keep_73 : decode cX4_keep 73 = .ok (.istore_n 2, 1) := by decide +kernel
theorem dX4_keep_74 : decode cX4_keep 74 = .ok (.iload_n 2, 1) := by decide +kernel
theorem dX4_keep_75 : decode cX4_keep 75 = .ok (.sipush 1536, 3) := by decide +kernel
theorem dX4_keep_78 : decode cX4_keep 78 = .ok (.if_icmp .ge 27, 3) := by decide +kernel
theorem dX4_keep_81 : decode cX4_keep 81 = .ok (.aload_n 0, 1) := by decide +kernel
theorem dX4_keep_82 : decode cX4_keep 82 = .ok (.getfield 54, 3) := by decide +kernel
theorem dX4_keep_85 : decode cX4_keep 85 = .ok (.sipush 1536, 3) := by decide +kernel
theorem dX4_keep_88 : decode cX4_keep 88 = .ok (.iload_n 1, 1) := by decide +kernel
theorem dX4_keep_89 : decode cX4_keep 89 = .ok (.imul, 1) := by decide +kernel
theorem dX4_keep_90 : decode cX4_keep 90 = .ok (.iload_n 2, 1) := by decide +kernel
theorem dX4_keep_91 : decode cX4_keep 91 = .ok (.iadd, 1) := by decide +kernel
theorem dX4_keep_92 : decode cX4_keep 92 = .ok (.aload_n 0, 1) := by decide +kernel
theorem dX4_keep_93 : decode cX4_keep 93 = .ok (.getfield 21, 3) := by decide +kernel
theorem dX4_keep_96 : decode cX4_keep 96 = .ok (.iload_n 2, 1) := by decide +kernel
theorem dX4_keep_97 : decode cX4_keep 97 = .ok (.baload, 1) := by decide +kernel
theorem dX4_keep_98 : decode cX4_keep 98 = .ok (.bastore, 1) := by decide +kernel
theorem dX4_keep_99 : decode cX4_keep 99 = .ok (.iinc 2 1, 3) := by decide +kernel
theorem dX4_keep_102 : decode cX4_keep 102 = .ok (.goto (-28), 3) := by decide +kernel
theorem dX4_keep_105 : decode cX4_keep 105 = .ok (.iconst 0, 1) := by decide +kernel
theorem dX4_keep_106 : decode cX4_keep 106 = .ok (.istore_n 2, 1) := by decide +kernel
theorem dX4_keep_107 : decode cX4_keep 107 = .ok (.iload_n 2, 1) := by decide +kernel
theorem dX4_keep_108 : decode cX4_keep 108 = .ok (.bipush 6, 2) := by decide +kernel
theorem dX4_keep_110 : decode cX4_keep 110 = .ok (.if_icmp .ge 26, 3) := by decide +kernel
theorem dX4_keep_113 : decode cX4_keep 113 = .ok (.aload_n 0, 1) := by decide +kernel
theorem dX4_keep_114 : decode cX4_keep 114 = .ok (.getfield 57, 3) := by decide +kernel
theorem dX4_keep_117 : decode cX4_keep 117 = .ok (.bipush 6, 2) := by decide +kernel
theorem dX4_keep_119 : decode cX4_keep 119 = .ok (.iload_n 1, 1) := by decide +kernel
theorem dX4_keep_120 : decode cX4_keep 120 = .ok (.imul, 1) := by decide +kernel
theorem dX4_keep_121 : decode cX4_keep 121 = .ok (.iload_n 2, 1) := by decide +kernel
theorem dX4_keep_122 : decode cX4_keep 122 = .ok (.iadd, 1) := by decide +kernel
theorem dX4_keep_123 : decode cX4_keep 123 = .ok (.aload_n 0, 1) := by decide +kernel
theorem dX4_keep_124 : decode cX4_keep 124 = .ok (.getfield 17, 3) := by decide +kernel
theorem dX4_keep_127 : decode cX4_keep 127 = .ok (.iload_n 2, 1) := by decide +kernel
theorem dX4_keep_128 : decode cX4_keep 128 = .ok (.iaload, 1) := by decide +kernel
theorem dX4_keep_129 : decode cX4_keep 129 = .ok (.iastore, 1) := by decide +kernel
theorem dX4_keep_130 : decode cX4_keep 130 = .ok (.iinc 2 1, 3) := by decide +kernel
theorem dX4_keep_133 : decode cX4_keep 133 = .ok (.goto (-26), 3) := by decide +kernel
theorem dX4_keep_136 : decode cX4_keep 136 = .ok (.aload_n 0, 1) := by decide +kernel
theorem dX4_keep_137 : decode cX4_keep 137 = .ok (.getfield 60, 3) := by decide +kernel
theorem dX4_keep_140 : decode cX4_keep 140 = .ok (.iload_n 1, 1) := by decide +kernel
theorem dX4_keep_141 : decode cX4_keep 141 = .ok (.aload_n 0, 1) := by decide +kernel
theorem dX4_keep_142 : decode cX4_keep 142 = .ok (.getfield 80, 3) := by decide +kernel
theorem dX4_keep_145 : decode cX4_keep 145 = .ok (.iastore, 1) := by decide +kernel
theorem dX4_keep_146 : decode cX4_keep 146 = .ok (.aload_n 0, 1) := by decide +kernel
theorem dX4_keep_147 : decode cX4_keep 147 = .ok (.getfield 63, 3) := by decide +kernel
theorem dX4_keep_150 : decode cX4_keep 150 = .ok (.iload_n 1, 1) := by decide +kernel
theorem dX4_keep_151 : decode cX4_keep 151 = .ok (.aload_n 0, 1) := by decide +kernel
theorem dX4_keep_152 : decode cX4_keep 152 = .ok (.getfield 73, 3) := by decide +kernel
theorem dX4_keep_155 : decode cX4_keep 155 = .ok (.iastore, 1) := by decide +kernel
theorem dX4_keep_156 : decode cX4_keep 156 = .ok (.aload_n 0, 1) := by decide +kernel
theorem dX4_keep_157 : decode cX4_keep 157 = .ok (.getfield 66, 3) := by decide +kernel
theorem dX4_keep_160 : decode cX4_keep 160 = .ok (.iload_n 1, 1) := by decide +kernel
theorem dX4_keep_161 : decode cX4_keep 161 = .ok (.iconst 1, 1) := by decide +kernel
theorem dX4_keep_162 : decode cX4_keep 162 = .ok (.bastore, 1) := by decide +kernel
theorem dX4_keep_163 : decode cX4_keep 163 = .ok (.aload_n 0, 1) := by decide +kernel
theorem dX4_keep_164 : decode cX4_keep 164 = .ok (.getfield 80, 3) := by decide +kernel
theorem dX4_keep_167 : decode cX4_keep 167 = .ok (.ireturn, 1) := by decide +kernel
theorem dX4_back_0 : decode cX4_back 0 = .ok (.aload_n 0, 1) := by decide +kernel
theorem dX4_back_1 : decode cX4_back 1 = .ok (.iconst 0, 1) := by decide +kernel
theorem dX4_back_2 : decode cX4_back 2 = .ok (.putfield 69, 3) := by decide +kernel
theorem dX4_back_5 : decode cX4_back 5 = .ok (.iload_n 1, 1) := by decide +kernel
theorem dX4_back_6 : decode cX4_back 6 = .ok (.i2l, 1) := by decide +kernel
theorem dX4_back_7 : decode cX4_back 7 = .ok (.lconst 0, 1) := by decide +kernel
theorem dX4_back_8 : decode cX4_back 8 = .ok (.lconst 1, 1) := by decide +kernel
theorem dX4_back_9 : decode cX4_back 9 = .ok (.invokestatic 76, 3) := by decide +kernel
theorem dX4_back_12 : decode cX4_back 12 = .ok (.ifCond .ne 9, 3) := by decide +kernel
theorem dX4_back_15 : decode cX4_back 15 = .ok (.aload_n 0, 1) := by decide +kernel
theorem dX4_back_16 : decode cX4_back 16 = .ok (.iconst 1, 1) := by decide +kernel
theorem dX4_back_17 : decode cX4_back 17 = .ok (.invokevirtual 105, 3) := by decide +kernel
theorem dX4_back_20 : decode cX4_back 20 = .ok (.ireturn, 1) := by decide +kernel
theorem dX4_back_21 : decode cX4_back 21 = .ok (.aload_n 0, 1) := by decide +kernel
theorem dX4_back_22 : decode cX4_back 22 = .ok (.getfield 66, 3) := by decide +kernel
theorem dX4_back_25 : decode cX4_back 25 = .ok (.iload_n 1, 1) := by decide +kernel
theorem dX4_back_26 : decode cX4_back 26 = .ok (.baload, 1) := by decide +kernel
theorem dX4_back_27 : decode cX4_back 27 = .ok (.ifCond .ne 9, 3) := by decide +kernel
theorem dX4_back_30 : decode cX4_back 30 = .ok (.aload_n 0, 1) := by decide +kernel
theorem dX4_back_31 : decode cX4_back 31 = .ok (.iconst 2, 1) := by decide +kernel
theorem dX4_back_32 : decode cX4_back 32 = .ok (.invokevirtual 105, 3) := by decide +kernel
theorem dX4_back_35 : decode cX4_back 35 = .ok (.ireturn, 1) := by decide +kernel
theorem dX4_back_36 : decode cX4_back 36 = .ok (.iconst 0, 1) := by decide +kernel
theorem dX4_back_37 : decode cX4_back 37 = .ok (.istore_n 2, 1) := by decide +kernel
theorem dX4_back_38 : decode cX4_back 38 = .ok (.iload_n 2, 1) := by decide +kernel
theorem dX4_back_39 : decode cX4_back 39 = .ok (.sipush 1152, 3) := by decide +kernel
theorem dX4_back_42 : decode cX4_back 42 = .ok (.if_icmp .ge 45, 3) := by decide +kernel
theorem dX4_back_45 : decode cX4_back 45 = .ok (.aload_n 0, 1) := by decide +kernel
theorem dX4_back_46 : decode cX4_back 46 = .ok (.getfield 7, 3) := by decide +kernel
theorem dX4_back_49 : decode cX4_back 49 = .ok (.iload_n 2, 1) := by decide +kernel
theorem dX4_back_50 : decode cX4_back 50 = .ok (.aload_n 0, 1) := by decide +kernel
theorem dX4_back_51 : decode cX4_back 51 = .ok (.getfield 48, 3) := by decide +kernel
theorem dX4_back_54 : decode cX4_back 54 = .ok (.sipush 1152, 3) := by decide +kernel
theorem dX4_back_57 : decode cX4_back 57 = .ok (.iload_n 1, 1) := by decide +kernel
theorem dX4_back_58 : decode cX4_back 58 = .ok (.imul, 1) := by decide +kernel
theorem dX4_back_59 : decode cX4_back 59 = .ok (.iload_n 2, 1) := by decide +kernel
theorem dX4_back_60 : decode cX4_back 60 = .ok (.iadd, 1) := by decide +kernel
theorem dX4_back_61 : decode cX4_back 61 = .ok (.laload, 1) := by decide +kernel
theorem dX4_back_62 : decode cX4_back 62 = .ok (.lastore, 1) := by decide +kernel
theorem dX4_back_63 : decode cX4_back 63 = .ok (.aload_n 0, 1) := by decide +kernel
theorem dX4_back_64 : decode cX4_back 64 = .ok (.getfield 13, 3) := by decide +kernel
theorem dX4_back_67 : decode cX4_back 67 = .ok (.iload_n 2, 1) := by decide +kernel
theorem dX4_back_68 : decode cX4_back 68 = .ok (.aload_n 0, 1) := by decide +kernel
theorem dX4_back_69 : decode cX4_back 69 = .ok (.getfield 51, 3) := by decide +kernel
theorem dX4_back_72 : decode cX4_back 72 = .ok (.sipush 1152, 3) := by decide +kernel
theorem dX4_back_75 : decode cX4_back 75 = .ok (.iload_n 1, 1) := by decide +kernel
theorem dX4_back_76 : decode cX4_back 76 = .ok (.imul, 1) := by decide +kernel
theorem dX4_back_77 : decode cX4_back 77 = .ok (.iload_n 2, 1) := by decide +kernel
theorem dX4_back_78 : decode cX4_back 78 = .ok (.iadd, 1) := by decide +kernel
theorem dX4_back_79 : decode cX4_back 79 = .ok (.baload, 1) := by decide +kernel
theorem dX4_back_80 : decode cX4_back 80 = .ok (.bastore, 1) := by decide +kernel
theorem dX4_back_81 : decode cX4_back 81 = .ok (.iinc 2 1, 3) := by decide +kernel
theorem dX4_back_84 : decode cX4_back 84 = .ok (.goto (-46), 3) := by decide +kernel
theorem dX4_back_87 : decode cX4_back 87 = .ok (.iconst 0, 1) := by decide +kernel
theorem dX4_back_88 : decode cX4_back 88 = .ok (.istore_n 2, 1) := by decide +kernel
theorem dX4_back_89 : decode cX4_back 89 = .ok (.iload_n 2, 1) := by decide +kernel
theorem dX4_back_90 : decode cX4_back 90 = .ok (.sipush 1536, 3) := by decide +kernel
theorem dX4_back_93 : decode cX4_back 93 = .ok (.if_icmp .ge 27, 3) := by decide +kernel
theorem dX4_back_96 : decode cX4_back 96 = .ok (.aload_n 0, 1) := by decide +kernel
theorem dX4_back_97 : decode cX4_back 97 = .ok (.getfield 21, 3) := by decide +kernel
theorem dX4_back_100 : decode cX4_back 100 = .ok (.iload_n 2, 1) := by decide +kernel
theorem dX4_back_101 : decode cX4_back 101 = .ok (.aload_n 0, 1) := by decide +kernel
theorem dX4_back_102 : decode cX4_back 102 = .ok (.getfield 54, 3) := by decide +kernel
theorem dX4_back_105 : decode cX4_back 105 = .ok (.sipush 1536, 3) := by decide +kernel
theorem dX4_back_108 : decode cX4_back 108 = .ok (.iload_n 1, 1) := by decide +kernel
theorem dX4_back_109 : decode cX4_back 109 = .ok (.imul, 1) := by decide +kernel
theorem dX4_back_110 : decode cX4_back 110 = .ok (.iload_n 2, 1) := by decide +kernel
theorem dX4_back_111 : decode cX4_back 111 = .ok (.iadd, 1) := by decide +kernel
theorem dX4_back_112 : decode cX4_back 112 = .ok (.baload, 1) := by decide +kernel
theorem dX4_back_113 : decode cX4_back 113 = .ok (.bastore, 1) := by decide +kernel
theorem dX4_back_114 : decode cX4_back 114 = .ok (.iinc 2 1, 3) := by decide +kernel
theorem dX4_back_117 : decode cX4_back 117 = .ok (.goto (-28), 3) := by decide +kernel
theorem dX4_back_120 : decode cX4_back 120 = .ok (.iconst 0, 1) := by decide +kernel
theorem dX4_back_121 : decode cX4_back 121 = .ok (.istore_n 2, 1) := by decide +kernel
theorem dX4_back_122 : decode cX4_back 122 = .ok (.iload_n 2, 1) := by decide +kernel
theorem dX4_back_123 : decode cX4_back 123 = .ok (.bipush 6, 2) := by decide +kernel
theorem dX4_back_125 : decode cX4_back 125 = .ok (.if_icmp .ge 26, 3) := by decide +kernel
theorem dX4_back_128 : decode cX4_back 128 = .ok (.aload_n 0, 1) := by decide +kernel
theorem dX4_back_129 : decode cX4_back 129 = .ok (.getfield 17, 3) := by decide +kernel
theorem dX4_back_132 : decode cX4_back 132 = .ok (.iload_n 2, 1) := by decide +kernel
theorem dX4_back_133 : decode cX4_back 133 = .ok (.aload_n 0, 1) := by decide +kernel
theorem dX4_back_134 : decode cX4_back 134 = .ok (.getfield 57, 3) := by decide +kernel
theorem dX4_back_137 : decode cX4_back 137 = .ok (.bipush 6, 2) := by decide +kernel
theorem dX4_back_139 : decode cX4_back 139 = .ok (.iload_n 1, 1) := by decide +kernel
theorem dX4_back_140 : decode cX4_back 140 = .ok (.imul, 1) := by decide +kernel
theorem dX4_back_141 : decode cX4_back 141 = .ok (.iload_n 2, 1) := by decide +kernel
theorem dX4_back_142 : decode cX4_back 142 = .ok (.iadd, 1) := by decide +kernel
theorem dX4_back_143 : decode cX4_back 143 = .ok (.iaload, 1) := by decide +kernel
theorem dX4_back_144 : decode cX4_back 144 = .ok (.iastore, 1) := by decide +kernel
theorem dX4_back_145 : decode cX4_back 145 = .ok (.iinc 2 1, 3) := by decide +kernel
theorem dX4_back_148 : decode cX4_back 148 = .ok (.goto (-26), 3) := by decide +kernel
theorem dX4_back_151 : decode cX4_back 151 = .ok (.aload_n 0, 1) := by decide +kernel
theorem dX4_back_152 : decode cX4_back 152 = .ok (.aload_n 0, 1) := by decide +kernel
theorem dX4_back_153 : decode cX4_back 153 = .ok (.getfield 60, 3) := by decide +kernel
theorem dX4_back_156 : decode cX4_back 156 = .ok (.iload_n 1, 1) := by decide +kernel
theorem dX4_back_157 : decode cX4_back 157 = .ok (.iaload, 1) := by decide +kernel
theorem dX4_back_158 : decode cX4_back 158 = .ok (.putfield 80, 3) := by decide +kernel
theorem dX4_back_161 : decode cX4_back 161 = .ok (.aload_n 0, 1) := by decide +kernel
theorem dX4_back_162 : decode cX4_back 162 = .ok (.aload_n 0, 1) := by decide +kernel
theorem dX4_back_163 : decode cX4_back 163 = .ok (.getfield 63, 3) := by decide +kernel
theorem dX4_back_166 : decode cX4_back 166 = .ok (.iload_n 1, 1) := by decide +kernel
theorem dX4_back_167 : decode cX4_back 167 = .ok (.iaload, 1) := by decide +kernel
theorem dX4_back_168 : decode cX4_back 168 = .ok (.putfield 73, 3) := by decide +kernel
theorem dX4_back_171 : decode cX4_back 171 = .ok (.aload_n 0, 1) := by decide +kernel
theorem dX4_back_172 : decode cX4_back 172 = .ok (.getfield 80, 3) := by decide +kernel
theorem dX4_back_175 : decode cX4_back 175 = .ok (.ireturn, 1) := by decide +kernel
