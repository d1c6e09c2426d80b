theorem zd_X10_init_0 : decode cX10_init 0 = .ok (.aload_n 0, 1) := by decide +kernel
theorem zd_X10_init_1 : decode cX10_init 1 = .ok (.invokespecial 1, 3) := by decide +kernel
theorem zd_X10_init_4 : decode cX10_init 4 = .ok (.aload_n 0, 1) := by decide +kernel
theorem zd_X10_init_5 : decode cX10_init 5 = .ok (.bipush 16, 2) := by decide +kernel
theorem zd_X10_init_7 : decode cX10_init 7 = .ok (.newarray .int, 2) := by decide +kernel
theorem zd_X10_init_9 : decode cX10_init 9 = .ok (.putfield 7, 3) := by decide +kernel
theorem zd_X10_init_12 : decode cX10_init 12 = .ok (.aload_n 0, 1) := by decide +kernel
theorem zd_X10_init_13 : decode cX10_init 13 = .ok (.bipush 17, 2) := by decide +kernel
theorem zd_X10_init_15 : decode cX10_init 15 = .ok (.newarray .int, 2) := by decide +kernel
theorem zd_X10_init_17 : decode cX10_init 17 = .ok (.putfield 13, 3) := by decide +kernel
theorem zd_X10_init_20 : decode cX10_init 20 = .ok (.aload_n 0, 1) := by decide +kernel
theorem zd_X10_init_21 : decode cX10_init 21 = .ok (.sipush 408, 3) := by decide +kernel
theorem zd_X10_init_24 : decode cX10_init 24 = .ok (.newarray .long, 2) := by decide +kernel
theorem zd_X10_init_26 : decode cX10_init 26 = .ok (.putfield 16, 3) := by decide +kernel
theorem zd_X10_init_29 : decode cX10_init 29 = .ok (.aload_n 0, 1) := by decide +kernel
theorem zd_X10_init_30 : decode cX10_init 30 = .ok (.sipush 384, 3) := by decide +kernel
theorem zd_X10_init_33 : decode cX10_init 33 = .ok (.newarray .int, 2) := by decide +kernel
theorem zd_X10_init_35 : decode cX10_init 35 = .ok (.putfield 20, 3) := by decide +kernel
theorem zd_X10_init_38 : decode cX10_init 38 = .ok (.aload_n 0, 1) := by decide +kernel
theorem zd_X10_init_39 : decode cX10_init 39 = .ok (.bipush 112, 2) := by decide +kernel
theorem zd_X10_init_41 : decode cX10_init 41 = .ok (.newarray .int, 2) := by decide +kernel
theorem zd_X10_init_43 : decode cX10_init 43 = .ok (.putfield 23, 3) := by decide +kernel
theorem zd_X10_init_46 : decode cX10_init 46 = .ok (.aload_n 0, 1) := by decide +kernel
theorem zd_X10_init_47 : decode cX10_init 47 = .ok (.iconst 3, 1) := by decide +kernel
theorem zd_X10_init_48 : decode cX10_init 48 = .ok (.newarray .int, 2) := by decide +kernel
theorem zd_X10_init_50 : decode cX10_init 50 = .ok (.putfield 26, 3) := by decide +kernel
theorem zd_X10_init_53 : decode cX10_init 53 = .ok (.aload_n 0, 1) := by decide +kernel
theorem zd_X10_init_54 : decode cX10_init 54 = .ok (.bipush 8, 2) := by decide +kernel
theorem zd_X10_init_56 : decode cX10_init 56 = .ok (.newarray .int, 2) := by decide +kernel
theorem zd_X10_init_58 : decode cX10_init 58 = .ok (.putfield 29, 3) := by decide +kernel
theorem zd_X10_init_61 : decode cX10_init 61 = .ok (.aload_n 0, 1) := by decide +kernel
theorem zd_X10_init_62 : decode cX10_init 62 = .ok (.bipush 8, 2) := by decide +kernel
theorem zd_X10_init_64 : decode cX10_init 64 = .ok (.newarray .int, 2) := by decide +kernel
theorem zd_X10_init_66 : decode cX10_init 66 = .ok (.putfield 32, 3) := by decide +kernel
theorem zd_X10_init_69 : decode cX10_init 69 = .ok (.aload_n 0, 1) := by decide +kernel
theorem zd_X10_init_70 : decode cX10_init 70 = .ok (.sipush 1280, 3) := by decide +kernel
theorem zd_X10_init_73 : decode cX10_init 73 = .ok (.newarray .long, 2) := by decide +kernel
theorem zd_X10_init_75 : decode cX10_init 75 = .ok (.putfield 35, 3) := by decide +kernel
theorem zd_X10_init_78 : decode cX10_init 78 = .ok (.aload_n 0, 1) := by decide +kernel
theorem zd_X10_init_79 : decode cX10_init 79 = .ok (.bipush 20, 2) := by decide +kernel
theorem zd_X10_init_81 : decode cX10_init 81 = .ok (.newarray .int, 2) := by decide +kernel
theorem zd_X10_init_83 : decode cX10_init 83 = .ok (.putfield 38, 3) := by decide +kernel
theorem zd_X10_init_86 : decode cX10_init 86 = .ok (.aload_n 0, 1) := by decide +kernel
theorem zd_X10_init_87 : decode cX10_init 87 = .ok (.bipush 8, 2) := by decide +kernel
theorem zd_X10_init_89 : decode cX10_init 89 = .ok (.newarray .int, 2) := by decide +kernel
theorem zd_X10_init_91 : decode cX10_init 91 = .ok (.putfield 41, 3) := by decide +kernel
theorem zd_X10_init_94 : decode cX10_init 94 = .ok (.aload_n 0, 1) := by decide +kernel
theorem zd_X10_init_95 : decode cX10_init 95 = .ok (.bipush 16, 2) := by decide +kernel
theorem zd_X10_init_97 : decode cX10_init 97 = .ok (.newarray .int, 2) := by decide +kernel
theorem zd_X10_init_99 : decode cX10_init 99 = .ok (.putfield 44, 3) := by decide +kernel
theorem zd_X10_init_102 : decode cX10_init 102 = .ok (.aload_n 0, 1) := by decide +kernel
theorem zd_X10_init_103 : decode cX10_init 103 = .ok (.bipush 16, 2) := by decide +kernel
theorem zd_X10_init_105 : decode cX10_init 105 = .ok (.newarray .int, 2) := by decide +kernel
theorem zd_X10_init_107 : decode cX10_init 107 = .ok (.putfield 47, 3) := by decide +kernel
theorem zd_X10_init_110 : decode cX10_init 110 = .ok (.aload_n 0, 1) := by decide +kernel
theorem zd_X10_init_111 : decode cX10_init 111 = .ok (.sipush 384, 3) := by decide +kernel
theorem zd_X10_init_114 : decode cX10_init 114 = .ok (.newarray .long, 2) := by decide +kernel
theorem zd_X10_init_116 : decode cX10_init 116 = .ok (.putfield 50, 3) := by decide +kernel
theorem zd_X10_init_119 : decode cX10_init 119 = .ok (.aload_n 0, 1) := by decide +kernel
theorem zd_X10_init_120 : decode cX10_init 120 = .ok (.bipush 112, 2) := by decide +kernel
theorem zd_X10_init_122 : decode cX10_init 122 = .ok (.newarray .int, 2) := by decide +kernel
theorem zd_X10_init_124 : decode cX10_init 124 = .ok (.putfield 53, 3) := by decide +kernel
theorem zd_X10_init_127 : decode cX10_init 127 = .ok (.aload_n 0, 1) := by decide +kernel
theorem zd_X10_init_128 : decode cX10_init 128 = .ok (.iconst 3, 1) := by decide +kernel
theorem zd_X10_init_129 : decode cX10_init 129 = .ok (.newarray .int, 2) := by decide +kernel
theorem zd_X10_init_131 : decode cX10_init 131 = .ok (.putfield 56, 3) := by decide +kernel
theorem zd_X10_init_134 : decode cX10_init 134 = .ok (.aload_n 0, 1) := by decide +kernel
theorem zd_X10_init_135 : decode cX10_init 135 = .ok (.sipush 625, 3) := by decide +kernel
theorem zd_X10_init_138 : decode cX10_init 138 = .ok (.newarray .int, 2) := by decide +kernel
theorem zd_X10_init_140 : decode cX10_init 140 = .ok (.putfield 59, 3) := by decide +kernel
theorem zd_X10_init_143 : decode cX10_init 143 = .ok (.aload_n 0, 1) := by decide +kernel
theorem zd_X10_init_144 : decode cX10_init 144 = .ok (.bipush 24, 2) := by decide +kernel
theorem zd_X10_init_146 : decode cX10_init 146 = .ok (.newarray .int, 2) := by decide +kernel
theorem zd_X10_init_148 : decode cX10_init 148 = .ok (.putfield 62, 3) := by decide +kernel
theorem zd_X10_init_151 : decode cX10_init 151 = .ok (.aload_n 0, 1) := by decide +kernel
theorem zd_X10_init_152 : decode cX10_init 152 = .ok (.bipush 24, 2) := by decide +kernel
theorem zd_X10_init_154 : decode cX10_init 154 = .ok (.newarray .boolean, 2) := by decide +kernel
theorem zd_X10_init_156 : decode cX10_init 156 = .ok (.putfield 65, 3) := by decide +kernel
theorem zd_X10_init_159 : decode cX10_init 159 = .ok (.aload_n 0, 1) := by decide +kernel
theorem zd_X10_init_160 : decode cX10_init 160 = .ok (.bipush 16, 2) := by decide +kernel
theorem zd_X10_init_162 : decode cX10_init 162 = .ok (.newarray .int, 2) := by decide +kernel
theorem zd_X10_init_164 : decode cX10_init 164 = .ok (.putfield 69, 3) := by decide +kernel
theorem zd_X10_init_167 : decode cX10_init 167 = .ok (.aload_n 0, 1) := by decide +kernel
theorem zd_X10_init_168 : decode cX10_init 168 = .ok (.bipush 16, 2) := by decide +kernel
theorem zd_X10_init_170 : decode cX10_init 170 = .ok (.newarray .int, 2) := by decide +kernel
theorem zd_X10_init_172 : decode cX10_init 172 = .ok (.putfield 72, 3) := by decide +kernel
theorem zd_X10_init_175 : decode cX10_init 175 = .ok (.aload_n 0, 1) := by decide +kernel
theorem zd_X10_init_176 : decode cX10_init 176 = .ok (.getfield 26, 3) := by decide +kernel
theorem zd_X10_init_179 : decode cX10_init 179 = .ok (.iconst 0, 1) := by decide +kernel
theorem zd_X10_init_180 : decode cX10_init 180 = .ok (.iconst 2, 1) := by decide +kernel
theorem zd_X10_init_181 : decode cX10_init 181 = .ok (.iastore, 1) := by decide +kernel
theorem zd_X10_init_182 : decode cX10_init 182 = .ok (.aload_n 0, 1) := by decide +kernel
theorem zd_X10_init_183 : decode cX10_init 183 = .ok (.getfield 26, 3) := by decide +kernel
theorem zd_X10_init_186 : decode cX10_init 186 = .ok (.iconst 1, 1) := by decide +kernel
theorem zd_X10_init_187 : decode cX10_init 187 = .ok (.bipush 6, 2) := by decide +kernel
theorem zd_X10_init_189 : decode cX10_init 189 = .ok (.iastore, 1) := by decide +kernel
theorem zd_X10_init_190 : decode cX10_init 190 = .ok (.aload_n 0, 1) := by decide +kernel
theorem zd_X10_init_191 : decode cX10_init 191 = .ok (.getfield 26, 3) := by decide +kernel
theorem zd_X10_init_194 : decode cX10_init 194 = .ok (.iconst 2, 1) := by decide +kernel
theorem zd_X10_init_195 : decode cX10_init 195 = .ok (.iconst 1, 1) := by decide +kernel
theorem zd_X10_init_196 : decode cX10_init 196 = .ok (.iastore, 1) := by decide +kernel
theorem zd_X10_init_197 : decode cX10_init 197 = .ok (.aload_n 0, 1) := by decide +kernel
theorem zd_X10_init_198 : decode cX10_init 198 = .ok (.iconst 1, 1) := by decide +kernel
theorem zd_X10_init_199 : decode cX10_init 199 = .ok (.putfield 75, 3) := by decide +kernel
theorem zd_X10_init_202 : decode cX10_init 202 = .ok (.aload_n 0, 1) := by decide +kernel
theorem zd_X10_init_203 : decode cX10_init 203 = .ok (.iconst (-1), 1) := by decide +kernel
theorem zd_X10_init_204 : decode cX10_init 204 = .ok (.putfield 79, 3) := by decide +kernel
theorem zd_X10_init_207 : decode cX10_init 207 = .ok (.iconst 0, 1) := by decide +kernel
theorem zd_X10_init_208 : decode cX10_init 208 = .ok (.istore_n 1, 1) := by decide +kernel
theorem zd_X10_init_209 : decode cX10_init 209 = .ok (.iload_n 1, 1) := by decide +kernel
theorem zd_X10_init_210 : decode cX10_init 210 = .ok (.bipush 8, 2) := by decide +kernel
theorem zd_X10_init_212 : decode cX10_init 212 = .ok (.if_icmp .ge 16, 3) := by decide +kernel
theorem zd_X10_init_215 : decode cX10_init 215 = .ok (.aload_n 0, 1) := by decide +kernel
theorem zd_X10_init_216 : decode cX10_init 216 = .ok (.getfield 29, 3) := by decide +kernel
theorem zd_X10_init_219 : decode cX10_init 219 = .ok (.iload_n 1, 1) := by decide +kernel
theorem zd_X10_init_220 : decode cX10_init 220 = .ok (.iconst (-1), 1) := by decide +kernel
theorem zd_X10_init_221 : decode cX10_init 221 = .ok (.iastore, 1) := by decide +kernel
theorem zd_X10_init_222 : decode cX10_init 222 = .ok (.iinc 1 1, 3) := by decide +kernel
theorem zd_X10_init_225 : decode cX10_init 225 = .ok (.goto (-16), 3) := by decide +kernel
theorem zd_X10_init_228 : decode cX10_init 228 = .ok (.return_, 1) := by decide +kernel
theorem zd_X10_no_0 : decode cX10_no 0 = .ok (.aload_n 0, 1) := by decide +kernel
theorem zd_X10_no_1 : decode cX10_no 1 = .ok (.getfield 41, 3) := by decide +kernel
theorem zd_X10_no_4 : decode cX10_no 4 = .ok (.iload_n 1, 1) := by decide +kernel
theorem zd_X10_no_5 : decode cX10_no 5 = .ok (.ineg, 1) := by decide +kernel
theorem zd_X10_no_6 : decode cX10_no 6 = .ok (.dup2, 1) := by decide +kernel
theorem zd_X10_no_7 : decode cX10_no 7 = .ok (.iaload, 1) := by decide +kernel
theorem zd_X10_no_8 : decode cX10_no 8 = .ok (.iconst 1, 1) := by decide +kernel
theorem zd_X10_no_9 : decode cX10_no 9 = .ok (.iadd, 1) := by decide +kernel
theorem zd_X10_no_10 : decode cX10_no 10 = .ok (.iastore, 1) := by decide +kernel
theorem zd_X10_no_11 : decode cX10_no 11 = .ok (.iload_n 1, 1) := by decide +kernel
theorem zd_X10_no_12 : decode cX10_no 12 = .ok (.ireturn, 1) := by decide +kernel
theorem zd_X10_no10_0 : decode cX10_no10 0 = .ok (.aload_n 0, 1) := by decide +kernel
theorem zd_X10_no10_1 : decode cX10_no10 1 = .ok (.iload_n 1, 1) := by decide +kernel
theorem zd_X10_no10_2 : decode cX10_no10 2 = .ok (.invokevirtual 82, 3) := by decide +kernel
theorem zd_X10_no10_5 : decode cX10_no10 5 = .ok (.bipush 10, 2) := by decide +kernel
theorem zd_X10_no10_7 : decode cX10_no10 7 = .ok (.isub, 1) := by decide +kernel
theorem zd_X10_no10_8 : decode cX10_no10 8 = .ok (.ireturn, 1) := by decide +kernel
theorem zd_X10_within_0 : decode cX10_within 0 = .ok (.iload_n 0, 1) := by decide +kernel
theorem zd_X10_within_1 : decode cX10_within 1 = .ok (.iload_n 1, 1) := by decide +kernel
theorem zd_X10_within_2 : decode cX10_within 2 = .ok (.if_icmp .lt 12, 3) := by decide +kernel
theorem zd_X10_within_5 : decode cX10_within 5 = .ok (.iload_n 0, 1) := by decide +kernel
theorem zd_X10_within_6 : decode cX10_within 6 = .ok (.iload_n 2, 1) := by decide +kernel
theorem zd_X10_within_7 : decode cX10_within 7 = .ok (.if_icmp .gt 7, 3) := by decide +kernel
theorem zd_X10_within_10 : decode cX10_within 10 = .ok (.iconst 1, 1) := by decide +kernel
theorem zd_X10_within_11 : decode cX10_within 11 = .ok (.goto 4, 3) := by decide +kernel
theorem zd_X10_within_14 : decode cX10_within 14 = .ok (.iconst 0, 1) := by decide +kernel
theorem zd_X10_within_15 : decode cX10_within 15 = .ok (.ireturn, 1) := by decide +kernel
theorem zd_X10_isRevision_0 : decode cX10_isRevision 0 = .ok (.iload_n 1, 1) := by decide +kernel
theorem zd_X10_isRevision_1 : decode cX10_isRevision 1 = .ok (.iconst 0, 1) := by decide +kernel
theorem zd_X10_isRevision_2 : decode cX10_isRevision 2 = .ok (.aload_n 0, 1) := by decide +kernel
theorem zd_X10_isRevision_3 : decode cX10_isRevision 3 = .ok (.getfield 86, 3) := by decide +kernel
theorem zd_X10_isRevision_6 : decode cX10_isRevision 6 = .ok (.iconst 1, 1) := by decide +kernel
theorem zd_X10_isRevision_7 : decode cX10_isRevision 7 = .ok (.isub, 1) := by decide +kernel
theorem zd_X10_isRevision_8 : decode cX10_isRevision 8 = .ok (.invokestatic 89, 3) := by decide +kernel
theorem zd_X10_isRevision_11 : decode cX10_isRevision 11 = .ok (.ireturn, 1) := by decide +kernel
theorem zd_X10_isRemark_0 : decode cX10_isRemark 0 = .ok (.iload_n 1, 1) := by decide +kernel
theorem zd_X10_isRemark_1 : decode cX10_isRemark 1 = .ok (.iconst 0, 1) := by decide +kernel
theorem zd_X10_isRemark_2 : decode cX10_isRemark 2 = .ok (.aload_n 0, 1) := by decide +kernel
theorem zd_X10_isRemark_3 : decode cX10_isRemark 3 = .ok (.getfield 93, 3) := by decide +kernel
theorem zd_X10_isRemark_6 : decode cX10_isRemark 6 = .ok (.iconst 1, 1) := by decide +kernel
theorem zd_X10_isRemark_7 : decode cX10_isRemark 7 = .ok (.isub, 1) := by decide +kernel
theorem zd_X10_isRemark_8 : decode cX10_isRemark 8 = .ok (.invokestatic 89, 3) := by decide +kernel
theorem zd_X10_isRemark_11 : decode cX10_isRemark 11 = .ok (.ireturn, 1) := by decide +kernel
theorem zd_X10_isLine_0 : decode cX10_isLine 0 = .ok (.iload_n 2, 1) := by decide +kernel
theorem zd_X10_isLine_1 : decode cX10_isLine 1 = .ok (.iconst 0, 1) := by decide +kernel
theorem zd_X10_isLine_2 : decode cX10_isLine 2 = .ok (.aload_n 0, 1) := by decide +kernel
theorem zd_X10_isLine_3 : decode cX10_isLine 3 = .ok (.getfield 13, 3) := by decide +kernel
theorem zd_X10_isLine_6 : decode cX10_isLine 6 = .ok (.iload_n 1, 1) := by decide +kernel
theorem zd_X10_isLine_7 : decode cX10_isLine 7 = .ok (.iaload, 1) := by decide +kernel
theorem zd_X10_isLine_8 : decode cX10_isLine 8 = .ok (.iconst 1, 1) := by decide +kernel
theorem zd_X10_isLine_9 : decode cX10_isLine 9 = .ok (.isub, 1) := by decide +kernel
theorem zd_X10_isLine_10 : decode cX10_isLine 10 = .ok (.invokestatic 89, 3) := by decide +kernel
theorem zd_X10_isLine_13 : decode cX10_isLine 13 = .ok (.ireturn, 1) := by decide +kernel
theorem zd_X10_isRow_0 : decode cX10_isRow 0 = .ok (.aload_n 0, 1) := by decide +kernel
theorem zd_X10_isRow_1 : decode cX10_isRow 1 = .ok (.getfield 29, 3) := by decide +kernel
theorem zd_X10_isRow_4 : decode cX10_isRow 4 = .ok (.iload_n 1, 1) := by decide +kernel
theorem zd_X10_isRow_5 : decode cX10_isRow 5 = .ok (.iaload, 1) := by decide +kernel
theorem zd_X10_isRow_6 : decode cX10_isRow 6 = .ok (.bipush 100, 2) := by decide +kernel
theorem zd_X10_isRow_8 : decode cX10_isRow 8 = .ok (.if_icmp .lt 7, 3) := by decide +kernel
theorem zd_X10_isRow_11 : decode cX10_isRow 11 = .ok (.iconst 1, 1) := by decide +kernel
theorem zd_X10_isRow_12 : decode cX10_isRow 12 = .ok (.goto 4, 3) := by decide +kernel
theorem zd_X10_isRow_15 : decode cX10_isRow 15 = .ok (.iconst 0, 1) := by decide +kernel
theorem zd_X10_isRow_16 : decode cX10_isRow 16 = .ok (.ireturn, 1) := by decide +kernel
theorem zd_X10_row_0 : decode cX10_row 0 = .ok (.iload_n 1, 1) := by decide +kernel
theorem zd_X10_row_1 : decode cX10_row 1 = .ok (.iconst 0, 1) := by decide +kernel
theorem zd_X10_row_2 : decode cX10_row 2 = .ok (.bipush 7, 2) := by decide +kernel
theorem zd_X10_row_4 : decode cX10_row 4 = .ok (.invokestatic 89, 3) := by decide +kernel
theorem zd_X10_row_7 : decode cX10_row 7 = .ok (.ifCond .ne 9, 3) := by decide +kernel
theorem zd_X10_row_10 : decode cX10_row 10 = .ok (.aload_n 0, 1) := by decide +kernel
theorem zd_X10_row_11 : decode cX10_row 11 = .ok (.iconst (-1), 1) := by decide +kernel
theorem zd_X10_row_12 : decode cX10_row 12 = .ok (.invokevirtual 82, 3) := by decide +kernel
theorem zd_X10_row_15 : decode cX10_row 15 = .ok (.ireturn, 1) := by decide +kernel
theorem zd_X10_row_16 : decode cX10_row 16 = .ok (.iload_n 3, 1) := by decide +kernel
theorem zd_X10_row_17 : decode cX10_row 17 = .ok (.ifCond .ge 10, 3) := by decide +kernel
theorem zd_X10_row_20 : decode cX10_row 20 = .ok (.aload_n 0, 1) := by decide +kernel
theorem zd_X10_row_21 : decode cX10_row 21 = .ok (.bipush (-4), 2) := by decide +kernel
theorem zd_X10_row_23 : decode cX10_row 23 = .ok (.invokevirtual 82, 3) := by decide +kernel
theorem zd_X10_row_26 : decode cX10_row 26 = .ok (.ireturn, 1) := by decide +kernel
theorem zd_X10_row_27 : decode cX10_row 27 = .ok (.iload_n 2, 1) := by decide +kernel
theorem zd_X10_row_28 : decode cX10_row 28 = .ok (.iconst 0, 1) := by decide +kernel
theorem zd_X10_row_29 : decode cX10_row 29 = .ok (.iconst 3, 1) := by decide +kernel
theorem zd_X10_row_30 : decode cX10_row 30 = .ok (.invokestatic 89, 3) := by decide +kernel
theorem zd_X10_row_33 : decode cX10_row 33 = .ok (.ifCond .ne 10, 3) := by decide +kernel
theorem zd_X10_row_36 : decode cX10_row 36 = .ok (.aload_n 0, 1) := by decide +kernel
theorem zd_X10_row_37 : decode cX10_row 37 = .ok (.bipush (-6), 2) := by decide +kernel
theorem zd_X10_row_39 : decode cX10_row 39 = .ok (.invokevirtual 82, 3) := by decide +kernel
theorem zd_X10_row_42 : decode cX10_row 42 = .ok (.ireturn, 1) := by decide +kernel
theorem zd_X10_row_43 : decode cX10_row 43 = .ok (.iload_n 3, 1) := by decide +kernel
theorem zd_X10_row_44 : decode cX10_row 44 = .ok (.sipush 160, 3) := by decide +kernel
theorem zd_X10_row_47 : decode cX10_row 47 = .ok (.if_icmp .le 10, 3) := by decide +kernel
theorem zd_X10_row_50 : decode cX10_row 50 = .ok (.aload_n 0, 1) := by decide +kernel
theorem zd_X10_row_51 : decode cX10_row 51 = .ok (.bipush (-7), 2) := by decide +kernel
theorem zd_X10_row_53 : decode cX10_row 53 = .ok (.invokevirtual 82, 3) := by decide +kernel
theorem zd_X10_row_56 : decode cX10_row 56 = .ok (.ireturn, 1) := by decide +kernel
theorem zd_X10_row_57 : decode cX10_row 57 = .ok (.aload_n 0, 1) := by decide +kernel
theorem zd_X10_row_58 : decode cX10_row 58 = .ok (.getfield 29, 3) := by decide +kernel
theorem zd_X10_row_61 : decode cX10_row 61 = .ok (.iload_n 1, 1) := by decide +kernel
theorem zd_X10_row_62 : decode cX10_row 62 = .ok (.bipush 100, 2) := by decide +kernel
theorem zd_X10_row_64 : decode cX10_row 64 = .ok (.iload_n 2, 1) := by decide +kernel
theorem zd_X10_row_65 : decode cX10_row 65 = .ok (.iadd, 1) := by decide +kernel
theorem zd_X10_row_66 : decode cX10_row 66 = .ok (.iastore, 1) := by decide +kernel
theorem zd_X10_row_67 : decode cX10_row 67 = .ok (.aload_n 0, 1) := by decide +kernel
theorem zd_X10_row_68 : decode cX10_row 68 = .ok (.getfield 32, 3) := by decide +kernel
theorem zd_X10_row_71 : decode cX10_row 71 = .ok (.iload_n 1, 1) := by decide +kernel
theorem zd_X10_row_72 : decode cX10_row 72 = .ok (.iload_n 3, 1) := by decide +kernel
theorem zd_X10_row_73 : decode cX10_row 73 = .ok (.iastore, 1) := by decide +kernel
theorem zd_X10_row_74 : decode cX10_row 74 = .ok (.iconst 0, 1) := by decide +kernel
theorem zd_X10_row_75 : decode cX10_row 75 = .ok (.istore 4, 2) := by decide +kernel
theorem zd_X10_row_77 : decode cX10_row 77 = .ok (.iload 4, 2) := by decide +kernel
theorem zd_X10_row_79 : decode cX10_row 79 = .ok (.sipush 160, 3) := by decide +kernel
theorem zd_X10_row_82 : decode cX10_row 82 = .ok (.if_icmp .ge 23, 3) := by decide +kernel
theorem zd_X10_row_85 : decode cX10_row 85 = .ok (.aload_n 0, 1) := by decide +kernel
theorem zd_X10_row_86 : decode cX10_row 86 = .ok (.getfield 35, 3) := by decide +kernel
theorem zd_X10_row_89 : decode cX10_row 89 = .ok (.sipush 160, 3) := by decide +kernel
theorem zd_X10_row_92 : decode cX10_row 92 = .ok (.iload_n 1, 1) := by decide +kernel
theorem zd_X10_row_93 : decode cX10_row 93 = .ok (.imul, 1) := by decide +kernel
theorem zd_X10_row_94 : decode cX10_row 94 = .ok (.iload 4, 2) := by decide +kernel
theorem zd_X10_row_96 : decode cX10_row 96 = .ok (.iadd, 1) := by decide +kernel
theorem zd_X10_row_97 : decode cX10_row 97 = .ok (.lconst 0, 1) := by decide +kernel
theorem zd_X10_row_98 : decode cX10_row 98 = .ok (.lastore, 1) := by decide +kernel
theorem zd_X10_row_99 : decode cX10_row 99 = .ok (.iinc 4 1, 3) := by decide +kernel
theorem zd_X10_row_102 : decode cX10_row 102 = .ok (.goto (-25), 3) := by decide +kernel
theorem zd_X10_row_105 : decode cX10_row 105 = .ok (.iconst 1, 1) := by decide +kernel
theorem zd_X10_row_106 : decode cX10_row 106 = .ok (.ireturn, 1) := by decide +kernel
theorem zd_X10_noRow_0 : decode cX10_noRow 0 = .ok (.iload_n 1, 1) := by decide +kernel
theorem zd_X10_noRow_1 : decode cX10_noRow 1 = .ok (.iconst 0, 1) := by decide +kernel
theorem zd_X10_noRow_2 : decode cX10_noRow 2 = .ok (.bipush 7, 2) := by decide +kernel
theorem zd_X10_noRow_4 : decode cX10_noRow 4 = .ok (.invokestatic 89, 3) := by decide +kernel
theorem zd_X10_noRow_7 : decode cX10_noRow 7 = .ok (.ifCond .ne 5, 3) := by decide +kernel
theorem zd_X10_noRow_10 : decode cX10_noRow 10 = .ok (.iconst (-1), 1) := by decide +kernel
theorem zd_X10_noRow_11 : decode cX10_noRow 11 = .ok (.ireturn, 1) := by decide +kernel
theorem zd_X10_noRow_12 : decode cX10_noRow 12 = .ok (.aload_n 0, 1) := by decide +kernel
theorem zd_X10_noRow_13 : decode cX10_noRow 13 = .ok (.getfield 29, 3) := by decide +kernel
theorem zd_X10_noRow_16 : decode cX10_noRow 16 = .ok (.iload_n 1, 1) := by decide +kernel
theorem zd_X10_noRow_17 : decode cX10_noRow 17 = .ok (.iaload, 1) := by decide +kernel
theorem zd_X10_noRow_18 : decode cX10_noRow 18 = .ok (.ifCond .lt 14, 3) := by decide +kernel
theorem zd_X10_noRow_21 : decode cX10_noRow 21 = .ok (.aload_n 0, 1) := by decide +kernel
theorem zd_X10_noRow_22 : decode cX10_noRow 22 = .ok (.iload_n 1, 1) := by decide +kernel
theorem zd_X10_noRow_23 : decode cX10_noRow 23 = .ok (.invokevirtual 96, 3) := by decide +kernel
theorem zd_X10_noRow_26 : decode cX10_noRow 26 = .ok (.ifCond .ne 6, 3) := by decide +kernel
theorem zd_X10_noRow_29 : decode cX10_noRow 29 = .ok (.bipush (-2), 2) := by decide +kernel
theorem zd_X10_noRow_31 : decode cX10_noRow 31 = .ok (.ireturn, 1) := by decide +kernel
theorem zd_X10_noRow_32 : decode cX10_noRow 32 = .ok (.aload_n 0, 1) := by decide +kernel
theorem zd_X10_noRow_33 : decode cX10_noRow 33 = .ok (.getfield 29, 3) := by decide +kernel
theorem zd_X10_noRow_36 : decode cX10_noRow 36 = .ok (.iload_n 1, 1) := by decide +kernel
theorem zd_X10_noRow_37 : decode cX10_noRow 37 = .ok (.iaload, 1) := by decide +kernel
theorem zd_X10_noRow_38 : decode cX10_noRow 38 = .ok (.ifCond .ge 8, 3) := by decide +kernel
theorem zd_X10_noRow_41 : decode cX10_noRow 41 = .ok (.bipush (-3), 2) := by decide +kernel
theorem zd_X10_noRow_43 : decode cX10_noRow 43 = .ok (.goto 4, 3) := by decide +kernel
theorem zd_X10_noRow_46 : decode cX10_noRow 46 = .ok (.iconst 0, 1) := by decide +kernel
theorem zd_X10_noRow_47 : decode cX10_noRow 47 = .ok (.ireturn, 1) := by decide +kernel
theorem zd_X10_set_0 : decode cX10_set 0 = .ok (.aload_n 0, 1) := by decide +kernel
theorem zd_X10_set_1 : decode cX10_set 1 = .ok (.iload_n 1, 1) := by decide +kernel
theorem zd_X10_set_2 : decode cX10_set 2 = .ok (.invokevirtual 100, 3) := by decide +kernel
theorem zd_X10_set_5 : decode cX10_set 5 = .ok (.istore 5, 2) := by decide +kernel
theorem zd_X10_set_7 : decode cX10_set 7 = .ok (.iload 5, 2) := by decide +kernel
theorem zd_X10_set_9 : decode cX10_set 9 = .ok (.ifCond .ge 10, 3) := by decide +kernel
theorem zd_X10_set_12 : decode cX10_set 12 = .ok (.aload_n 0, 1) := by decide +kernel
theorem zd_X10_set_13 : decode cX10_set 13 = .ok (.iload 5, 2) := by decide +kernel
theorem zd_X10_set_15 : decode cX10_set 15 = .ok (.invokevirtual 82, 3) := by decide +kernel
theorem zd_X10_set_18 : decode cX10_set 18 = .ok (.ireturn, 1) := by decide +kernel
theorem zd_X10_set_19 : decode cX10_set 19 = .ok (.iload_n 2, 1) := by decide +kernel
theorem zd_X10_set_20 : decode cX10_set 20 = .ok (.iconst 0, 1) := by decide +kernel
theorem zd_X10_set_21 : decode cX10_set 21 = .ok (.aload_n 0, 1) := by decide +kernel
theorem zd_X10_set_22 : decode cX10_set 22 = .ok (.getfield 32, 3) := by decide +kernel
theorem zd_X10_set_25 : decode cX10_set 25 = .ok (.iload_n 1, 1) := by decide +kernel
theorem zd_X10_set_26 : decode cX10_set 26 = .ok (.iaload, 1) := by decide +kernel
theorem zd_X10_set_27 : decode cX10_set 27 = .ok (.iconst 1, 1) := by decide +kernel
theorem zd_X10_set_28 : decode cX10_set 28 = .ok (.isub, 1) := by decide +kernel
theorem zd_X10_set_29 : decode cX10_set 29 = .ok (.invokestatic 89, 3) := by decide +kernel
theorem zd_X10_set_32 : decode cX10_set 32 = .ok (.ifCond .ne 10, 3) := by decide +kernel
theorem zd_X10_set_35 : decode cX10_set 35 = .ok (.aload_n 0, 1) := by decide +kernel
theorem zd_X10_set_36 : decode cX10_set 36 = .ok (.bipush (-5), 2) := by decide +kernel
theorem zd_X10_set_38 : decode cX10_set 38 = .ok (.invokevirtual 82, 3) := by decide +kernel
theorem zd_X10_set_41 : decode cX10_set 41 = .ok (.ireturn, 1) := by decide +kernel
theorem zd_X10_set_42 : decode cX10_set 42 = .ok (.aload_n 0, 1) := by decide +kernel
theorem zd_X10_set_43 : decode cX10_set 43 = .ok (.getfield 29, 3) := by decide +kernel
theorem zd_X10_set_46 : decode cX10_set 46 = .ok (.iload_n 1, 1) := by decide +kernel
theorem zd_X10_set_47 : decode cX10_set 47 = .ok (.iaload, 1) := by decide +kernel
theorem zd_X10_set_48 : decode cX10_set 48 = .ok (.bipush 100, 2) := by decide +kernel
theorem zd_X10_set_50 : decode cX10_set 50 = .ok (.isub, 1) := by decide +kernel
theorem zd_X10_set_51 : decode cX10_set 51 = .ok (.istore 6, 2) := by decide +kernel
theorem zd_X10_set_53 : decode cX10_set 53 = .ok (.aload_n 0, 1) := by decide +kernel
theorem zd_X10_set_54 : decode cX10_set 54 = .ok (.getfield 35, 3) := by decide +kernel
theorem zd_X10_set_57 : decode cX10_set 57 = .ok (.sipush 160, 3) := by decide +kernel
theorem zd_X10_set_60 : decode cX10_set 60 = .ok (.iload_n 1, 1) := by decide +kernel
theorem zd_X10_set_61 : decode cX10_set 61 = .ok (.imul, 1) := by decide +kernel
theorem zd_X10_set_62 : decode cX10_set 62 = .ok (.iload_n 2, 1) := by decide +kernel
theorem zd_X10_set_63 : decode cX10_set 63 = .ok (.iadd, 1) := by decide +kernel
theorem zd_X10_set_64 : decode cX10_set 64 = .ok (.iload 6, 2) := by decide +kernel
theorem zd_X10_set_66 : decode cX10_set 66 = .ok (.ifCond .ne 10, 3) := by decide +kernel
theorem zd_X10_set_69 : decode cX10_set 69 = .ok (.lload_n 3, 1) := by decide +kernel
theorem zd_X10_set_70 : decode cX10_set 70 = .ok (.l2i, 1) := by decide +kernel
theorem zd_X10_set_71 : decode cX10_set 71 = .ok (.i2b, 1) := by decide +kernel
theorem zd_X10_set_72 : decode cX10_set 72 = .ok (.i2l, 1) := by decide +kernel
theorem zd_X10_set_73 : decode cX10_set 73 = .ok (.goto 29, 3) := by decide +kernel
theorem zd_X10_set_76 : decode cX10_set 76 = .ok (.iload 6, 2) := by decide +kernel
theorem zd_X10_set_78 : decode cX10_set 78 = .ok (.iconst 1, 1) := by decide +kernel
theorem zd_X10_set_79 : decode cX10_set 79 = .ok (.if_icmp .ne 10, 3) := by decide +kernel
theorem zd_X10_set_82 : decode cX10_set 82 = .ok (.lload_n 3, 1) := by decide +kernel
theorem zd_X10_set_83 : decode cX10_set 83 = .ok (.l2i, 1) := by decide +kernel
theorem zd_X10_set_84 : decode cX10_set 84 = .ok (.i2s, 1) := by decide +kernel
theorem zd_X10_set_85 : decode cX10_set 85 = .ok (.i2l, 1) := by decide +kernel
theorem zd_X10_set_86 : decode cX10_set 86 = .ok (.goto 16, 3) := by decide +kernel
theorem zd_X10_set_89 : decode cX10_set 89 = .ok (.iload 6, 2) := by decide +kernel
theorem zd_X10_set_91 : decode cX10_set 91 = .ok (.iconst 2, 1) := by decide +kernel
theorem zd_X10_set_92 : decode cX10_set 92 = .ok (.if_icmp .ne 9, 3) := by decide +kernel
theorem zd_X10_set_95 : decode cX10_set 95 = .ok (.lload_n 3, 1) := by decide +kernel
theorem zd_X10_set_96 : decode cX10_set 96 = .ok (.l2i, 1) := by decide +kernel
theorem zd_X10_set_97 : decode cX10_set 97 = .ok (.i2l, 1) := by decide +kernel
theorem zd_X10_set_98 : decode cX10_set 98 = .ok (.goto 4, 3) := by decide +kernel
theorem zd_X10_set_101 : decode cX10_set 101 = .ok (.lload_n 3, 1) := by decide +kernel
theorem zd_X10_set_102 : decode cX10_set 102 = .ok (.lastore, 1) := by decide +kernel
theorem zd_X10_set_103 : decode cX10_set 103 = .ok (.iconst 1, 1) := by decide +kernel
theorem zd_X10_set_104 : decode cX10_set 104 = .ok (.ireturn, 1) := by decide +kernel
theorem zd_X10_copy_0 : decode cX10_copy 0 = .ok (.iload_n 1, 1) := by decide +kernel
theorem zd_X10_copy_1 : decode cX10_copy 1 = .ok (.iconst 0, 1) := by decide +kernel
theorem zd_X10_copy_2 : decode cX10_copy 2 = .ok (.bipush 7, 2) := by decide +kernel
theorem zd_X10_copy_4 : decode cX10_copy 4 = .ok (.invokestatic 89, 3) := by decide +kernel
theorem zd_X10_copy_7 : decode cX10_copy 7 = .ok (.ifCond .eq 13, 3) := by decide +kernel
theorem zd_X10_copy_10 : decode cX10_copy 10 = .ok (.iload_n 2, 1) := by decide +kernel
theorem zd_X10_copy_11 : decode cX10_copy 11 = .ok (.iconst 0, 1) := by decide +kernel
theorem zd_X10_copy_12 : decode cX10_copy 12 = .ok (.bipush 7, 2) := by decide +kernel
theorem zd_X10_copy_14 : decode cX10_copy 14 = .ok (.invokestatic 89, 3) := by decide +kernel
theorem zd_X10_copy_17 : decode cX10_copy 17 = .ok (.ifCond .ne 9, 3) := by decide +kernel
theorem zd_X10_copy_20 : decode cX10_copy 20 = .ok (.aload_n 0, 1) := by decide +kernel
theorem zd_X10_copy_21 : decode cX10_copy 21 = .ok (.iconst (-1), 1) := by decide +kernel
theorem zd_X10_copy_22 : decode cX10_copy 22 = .ok (.invokevirtual 82, 3) := by decide +kernel
theorem zd_X10_copy_25 : decode cX10_copy 25 = .ok (.ireturn, 1) := by decide +kernel
theorem zd_X10_copy_26 : decode cX10_copy 26 = .ok (.aload_n 0, 1) := by decide +kernel
theorem zd_X10_copy_27 : decode cX10_copy 27 = .ok (.getfield 29, 3) := by decide +kernel
theorem zd_X10_copy_30 : decode cX10_copy 30 = .ok (.iload_n 1, 1) := by decide +kernel
theorem zd_X10_copy_31 : decode cX10_copy 31 = .ok (.iaload, 1) := by decide +kernel
theorem zd_X10_copy_32 : decode cX10_copy 32 = .ok (.ifCond .lt 11, 3) := by decide +kernel
theorem zd_X10_copy_35 : decode cX10_copy 35 = .ok (.aload_n 0, 1) := by decide +kernel
theorem zd_X10_copy_36 : decode cX10_copy 36 = .ok (.iload_n 1, 1) := by decide +kernel
theorem zd_X10_copy_37 : decode cX10_copy 37 = .ok (.invokevirtual 96, 3) := by decide +kernel
theorem zd_X10_copy_40 : decode cX10_copy 40 = .ok (.ifCond .eq 51, 3) := by decide +kernel
theorem zd_X10_copy_43 : decode cX10_copy 43 = .ok (.aload_n 0, 1) := by decide +kernel
theorem zd_X10_copy_44 : decode cX10_copy 44 = .ok (.getfield 29, 3) := by decide +kernel
theorem zd_X10_copy_47 : decode cX10_copy 47 = .ok (.iload_n 2, 1) := by decide +kernel
theorem zd_X10_copy_48 : decode cX10_copy 48 = .ok (.iaload, 1) := by decide +kernel
theorem zd_X10_copy_49 : decode cX10_copy 49 = .ok (.ifCond .lt 11, 3) := by decide +kernel
theorem zd_X10_copy_52 : decode cX10_copy 52 = .ok (.aload_n 0, 1) := by decide +kernel
theorem zd_X10_copy_53 : decode cX10_copy 53 = .ok (.iload_n 2, 1) := by decide +kernel
theorem zd_X10_copy_54 : decode cX10_copy 54 = .ok (.invokevirtual 96, 3) := by decide +kernel
theorem zd_X10_copy_57 : decode cX10_copy 57 = .ok (.ifCond .eq 34, 3) := by decide +kernel
theorem zd_X10_copy_60 : decode cX10_copy 60 = .ok (.aload_n 0, 1) := by decide +kernel
theorem zd_X10_copy_61 : decode cX10_copy 61 = .ok (.iload_n 1, 1) := by decide +kernel
theorem zd_X10_copy_62 : decode cX10_copy 62 = .ok (.invokevirtual 96, 3) := by decide +kernel
theorem zd_X10_copy_65 : decode cX10_copy 65 = .ok (.ifCond .eq 33, 3) := by decide +kernel
theorem zd_X10_copy_68 : decode cX10_copy 68 = .ok (.aload_n 0, 1) := by decide +kernel
theorem zd_X10_copy_69 : decode cX10_copy 69 = .ok (.iload_n 2, 1) := by decide +kernel
theorem zd_X10_copy_70 : decode cX10_copy 70 = .ok (.invokevirtual 96, 3) := by decide +kernel
theorem zd_X10_copy_73 : decode cX10_copy 73 = .ok (.ifCond .eq 25, 3) := by decide +kernel
theorem zd_X10_copy_76 : decode cX10_copy 76 = .ok (.aload_n 0, 1) := by decide +kernel
theorem zd_X10_copy_77 : decode cX10_copy 77 = .ok (.getfield 29, 3) := by decide +kernel
theorem zd_X10_copy_80 : decode cX10_copy 80 = .ok (.iload_n 1, 1) := by decide +kernel
theorem zd_X10_copy_81 : decode cX10_copy 81 = .ok (.iaload, 1) := by decide +kernel
theorem zd_X10_copy_82 : decode cX10_copy 82 = .ok (.aload_n 0, 1) := by decide +kernel
theorem zd_X10_copy_83 : decode cX10_copy 83 = .ok (.getfield 29, 3) := by decide +kernel
theorem zd_X10_copy_86 : decode cX10_copy 86 = .ok (.iload_n 2, 1) := by decide +kernel
theorem zd_X10_copy_87 : decode cX10_copy 87 = .ok (.iaload, 1) := by decide +kernel
theorem zd_X10_copy_88 : decode cX10_copy 88 = .ok (.if_icmp .eq 10, 3) := by decide +kernel
theorem zd_X10_copy_91 : decode cX10_copy 91 = .ok (.aload_n 0, 1) := by decide +kernel
theorem zd_X10_copy_92 : decode cX10_copy 92 = .ok (.bipush (-2), 2) := by decide +kernel
theorem zd_X10_copy_94 : decode cX10_copy 94 = .ok (.invokevirtual 82, 3) := by decide +kernel
theorem zd_X10_copy_97 : decode cX10_copy 97 = .ok (.ireturn, 1) := by decide +kernel
theorem zd_X10_copy_98 : decode cX10_copy 98 = .ok (.aload_n 0, 1) := by decide +kernel
theorem zd_X10_copy_99 : decode cX10_copy 99 = .ok (.getfield 29, 3) := by decide +kernel
theorem zd_X10_copy_102 : decode cX10_copy 102 = .ok (.iload_n 1, 1) := by decide +kernel
theorem zd_X10_copy_103 : decode cX10_copy 103 = .ok (.iaload, 1) := by decide +kernel
theorem zd_X10_copy_104 : decode cX10_copy 104 = .ok (.ifCond .lt 12, 3) := by decide +kernel
theorem zd_X10_copy_107 : decode cX10_copy 107 = .ok (.aload_n 0, 1) := by decide +kernel
theorem zd_X10_copy_108 : decode cX10_copy 108 = .ok (.getfield 29, 3) := by decide +kernel
theorem zd_X10_copy_111 : decode cX10_copy 111 = .ok (.iload_n 2, 1) := by decide +kernel
theorem zd_X10_copy_112 : decode cX10_copy 112 = .ok (.iaload, 1) := by decide +kernel
theorem zd_X10_copy_113 : decode cX10_copy 113 = .ok (.ifCond .ge 10, 3) := by decide +kernel
theorem zd_X10_copy_116 : decode cX10_copy 116 = .ok (.aload_n 0, 1) := by decide +kernel
theorem zd_X10_copy_117 : decode cX10_copy 117 = .ok (.bipush (-3), 2) := by decide +kernel
theorem zd_X10_copy_119 : decode cX10_copy 119 = .ok (.invokevirtual 82, 3) := by decide +kernel
theorem zd_X10_copy_122 : decode cX10_copy 122 = .ok (.ireturn, 1) := by decide +kernel
theorem zd_X10_copy_123 : decode cX10_copy 123 = .ok (.iload 5, 2) := by decide +kernel
theorem zd_X10_copy_125 : decode cX10_copy 125 = .ok (.ifCond .ge 10, 3) := by decide +kernel
theorem zd_X10_copy_128 : decode cX10_copy 128 = .ok (.aload_n 0, 1) := by decide +kernel
theorem zd_X10_copy_129 : decode cX10_copy 129 = .ok (.bipush (-4), 2) := by decide +kernel
theorem zd_X10_copy_131 : decode cX10_copy 131 = .ok (.invokevirtual 82, 3) := by decide +kernel
theorem zd_X10_copy_134 : decode cX10_copy 134 = .ok (.ireturn, 1) := by decide +kernel
theorem zd_X10_copy_135 : decode cX10_copy 135 = .ok (.iload_n 3, 1) := by decide +kernel
theorem zd_X10_copy_136 : decode cX10_copy 136 = .ok (.ifCond .lt 43, 3) := by decide +kernel
theorem zd_X10_copy_139 : decode cX10_copy 139 = .ok (.iload 4, 2) := by decide +kernel
theorem zd_X10_copy_141 : decode cX10_copy 141 = .ok (.ifCond .lt 38, 3) := by decide +kernel
theorem zd_X10_copy_144 : decode cX10_copy 144 = .ok (.iload_n 3, 1) := by decide +kernel
theorem zd_X10_copy_145 : decode cX10_copy 145 = .ok (.i2l, 1) := by decide +kernel
theorem zd_X10_copy_146 : decode cX10_copy 146 = .ok (.iload 5, 2) := by decide +kernel
theorem zd_X10_copy_148 : decode cX10_copy 148 = .ok (.i2l, 1) := by decide +kernel
theorem zd_X10_copy_149 : decode cX10_copy 149 = .ok (.ladd, 1) := by decide +kernel
theorem zd_X10_copy_150 : decode cX10_copy 150 = .ok (.aload_n 0, 1) := by decide +kernel
theorem zd_X10_copy_151 : decode cX10_copy 151 = .ok (.getfield 32, 3) := by decide +kernel
theorem zd_X10_copy_154 : decode cX10_copy 154 = .ok (.iload_n 1, 1) := by decide +kernel
theorem zd_X10_copy_155 : decode cX10_copy 155 = .ok (.iaload, 1) := by decide +kernel
theorem zd_X10_copy_156 : decode cX10_copy 156 = .ok (.i2l, 1) := by decide +kernel
theorem zd_X10_copy_157 : decode cX10_copy 157 = .ok (.lcmp, 1) := by decide +kernel
theorem zd_X10_copy_158 : decode cX10_copy 158 = .ok (.ifCond .gt 21, 3) := by decide +kernel
theorem zd_X10_copy_161 : decode cX10_copy 161 = .ok (.iload 4, 2) := by decide +kernel
theorem zd_X10_copy_163 : decode cX10_copy 163 = .ok (.i2l, 1) := by decide +kernel
theorem zd_X10_copy_164 : decode cX10_copy 164 = .ok (.iload 5, 2) := by decide +kernel
theorem zd_X10_copy_166 : decode cX10_copy 166 = .ok (.i2l, 1) := by decide +kernel
theorem zd_X10_copy_167 : decode cX10_copy 167 = .ok (.ladd, 1) := by decide +kernel
theorem zd_X10_copy_168 : decode cX10_copy 168 = .ok (.aload_n 0, 1) := by decide +kernel
theorem zd_X10_copy_169 : decode cX10_copy 169 = .ok (.getfield 32, 3) := by decide +kernel
theorem zd_X10_copy_172 : decode cX10_copy 172 = .ok (.iload_n 2, 1) := by decide +kernel
theorem zd_X10_copy_173 : decode cX10_copy 173 = .ok (.iaload, 1) := by decide +kernel
theorem zd_X10_copy_174 : decode cX10_copy 174 = .ok (.i2l, 1) := by decide +kernel
theorem zd_X10_copy_175 : decode cX10_copy 175 = .ok (.lcmp, 1) := by decide +kernel
theorem zd_X10_copy_176 : decode cX10_copy 176 = .ok (.ifCond .le 10, 3) := by decide +kernel
theorem zd_X10_copy_179 : decode cX10_copy 179 = .ok (.aload_n 0, 1) := by decide +kernel
theorem zd_X10_copy_180 : decode cX10_copy 180 = .ok (.bipush (-5), 2) := by decide +kernel
theorem zd_X10_copy_182 : decode cX10_copy 182 = .ok (.invokevirtual 82, 3) := by decide +kernel
theorem zd_X10_copy_185 : decode cX10_copy 185 = .ok (.ireturn, 1) := by decide +kernel
theorem zd_X10_copy_186 : decode cX10_copy 186 = .ok (.iload_n 1, 1) := by decide +kernel
theorem zd_X10_copy_187 : decode cX10_copy 187 = .ok (.iload_n 2, 1) := by decide +kernel
theorem zd_X10_copy_188 : decode cX10_copy 188 = .ok (.if_icmp .ne 60, 3) := by decide +kernel
theorem zd_X10_copy_191 : decode cX10_copy 191 = .ok (.iload_n 3, 1) := by decide +kernel
theorem zd_X10_copy_192 : decode cX10_copy 192 = .ok (.iload 4, 2) := by decide +kernel
theorem zd_X10_copy_194 : decode cX10_copy 194 = .ok (.if_icmp .ge 54, 3) := by decide +kernel
theorem zd_X10_copy_197 : decode cX10_copy 197 = .ok (.iload 5, 2) := by decide +kernel
theorem zd_X10_copy_199 : decode cX10_copy 199 = .ok (.iconst 1, 1) := by decide +kernel
theorem zd_X10_copy_200 : decode cX10_copy 200 = .ok (.isub, 1) := by decide +kernel
theorem zd_X10_copy_201 : decode cX10_copy 201 = .ok (.istore 6, 2) := by decide +kernel
theorem zd_X10_copy_203 : decode cX10_copy 203 = .ok (.iload 6, 2) := by decide +kernel
theorem zd_X10_copy_205 : decode cX10_copy 205 = .ok (.ifCond .lt 40, 3) := by decide +kernel
theorem zd_X10_copy_208 : decode cX10_copy 208 = .ok (.aload_n 0, 1) := by decide +kernel
theorem zd_X10_copy_209 : decode cX10_copy 209 = .ok (.getfield 35, 3) := by decide +kernel
theorem zd_X10_copy_212 : decode cX10_copy 212 = .ok (.sipush 160, 3) := by decide +kernel
theorem zd_X10_copy_215 : decode cX10_copy 215 = .ok (.iload_n 2, 1) := by decide +kernel
theorem zd_X10_copy_216 : decode cX10_copy 216 = .ok (.imul, 1) := by decide +kernel
theorem zd_X10_copy_217 : decode cX10_copy 217 = .ok (.iload 4, 2) := by decide +kernel
theorem zd_X10_copy_219 : decode cX10_copy 219 = .ok (.iadd, 1) := by decide +kernel
theorem zd_X10_copy_220 : decode cX10_copy 220 = .ok (.iload 6, 2) := by decide +kernel
theorem zd_X10_copy_222 : decode cX10_copy 222 = .ok (.iadd, 1) := by decide +kernel
theorem zd_X10_copy_223 : decode cX10_copy 223 = .ok (.aload_n 0, 1) := by decide +kernel
theorem zd_X10_copy_224 : decode cX10_copy 224 = .ok (.getfield 35, 3) := by decide +kernel
theorem zd_X10_copy_227 : decode cX10_copy 227 = .ok (.sipush 160, 3) := by decide +kernel
theorem zd_X10_copy_230 : decode cX10_copy 230 = .ok (.iload_n 1, 1) := by decide +kernel
theorem zd_X10_copy_231 : decode cX10_copy 231 = .ok (.imul, 1) := by decide +kernel
theorem zd_X10_copy_232 : decode cX10_copy 232 = .ok (.iload_n 3, 1) := by decide +kernel
theorem zd_X10_copy_233 : decode cX10_copy 233 = .ok (.iadd, 1) := by decide +kernel
theorem zd_X10_copy_234 : decode cX10_copy 234 = .ok (.iload 6, 2) := by decide +kernel
theorem zd_X10_copy_236 : decode cX10_copy 236 = .ok (.iadd, 1) := by decide +kernel
theorem zd_X10_copy_237 : decode cX10_copy 237 = .ok (.laload, 1) := by decide +kernel
theorem zd_X10_copy_238 : decode cX10_copy 238 = .ok (.lastore, 1) := by decide +kernel
theorem zd_X10_copy_239 : decode cX10_copy 239 = .ok (.iinc 6 (-1), 3) := by decide +kernel
theorem zd_X10_copy_242 : decode cX10_copy 242 = .ok (.goto (-39), 3) := by decide +kernel
theorem zd_X10_copy_245 : decode cX10_copy 245 = .ok (.goto 50, 3) := by decide +kernel
theorem zd_X10_copy_248 : decode cX10_copy 248 = .ok (.iconst 0, 1) := by decide +kernel
theorem zd_X10_copy_249 : decode cX10_copy 249 = .ok (.istore 6, 2) := by decide +kernel
theorem zd_X10_copy_251 : decode cX10_copy 251 = .ok (.iload 6, 2) := by decide +kernel
theorem zd_X10_copy_253 : decode cX10_copy 253 = .ok (.iload 5, 2) := by decide +kernel
theorem zd_X10_copy_255 : decode cX10_copy 255 = .ok (.if_icmp .ge 40, 3) := by decide +kernel
theorem zd_X10_copy_258 : decode cX10_copy 258 = .ok (.aload_n 0, 1) := by decide +kernel
theorem zd_X10_copy_259 : decode cX10_copy 259 = .ok (.getfield 35, 3) := by decide +kernel
theorem zd_X10_copy_262 : decode cX10_copy 262 = .ok (.sipush 160, 3) := by decide +kernel
theorem zd_X10_copy_265 : decode cX10_copy 265 = .ok (.iload_n 2, 1) := by decide +kernel
theorem zd_X10_copy_266 : decode cX10_copy 266 = .ok (.imul, 1) := by decide +kernel
theorem zd_X10_copy_267 : decode cX10_copy 267 = .ok (.iload 4, 2) := by decide +kernel
theorem zd_X10_copy_269 : decode cX10_copy 269 = .ok (.iadd, 1) := by decide +kernel
theorem zd_X10_copy_270 : decode cX10_copy 270 = .ok (.iload 6, 2) := by decide +kernel
theorem zd_X10_copy_272 : decode cX10_copy 272 = .ok (.iadd, 1) := by decide +kernel
theorem zd_X10_copy_273 : decode cX10_copy 273 = .ok (.aload_n 0, 1) := by decide +kernel
theorem zd_X10_copy_274 : decode cX10_copy 274 = .ok (.getfield 35, 3) := by decide +kernel
theorem zd_X10_copy_277 : decode cX10_copy 277 = .ok (.sipush 160, 3) := by decide +kernel
theorem zd_X10_copy_280 : decode cX10_copy 280 = .ok (.iload_n 1, 1) := by decide +kernel
theorem zd_X10_copy_281 : decode cX10_copy 281 = .ok (.imul, 1) := by decide +kernel
theorem zd_X10_copy_282 : decode cX10_copy 282 = .ok (.iload_n 3, 1) := by decide +kernel
theorem zd_X10_copy_283 : decode cX10_copy 283 = .ok (.iadd, 1) := by decide +kernel
theorem zd_X10_copy_284 : decode cX10_copy 284 = .ok (.iload 6, 2) := by decide +kernel
theorem zd_X10_copy_286 : decode cX10_copy 286 = .ok (.iadd, 1) := by decide +kernel
theorem zd_X10_copy_287 : decode cX10_copy 287 = .ok (.laload, 1) := by decide +kernel
theorem zd_X10_copy_288 : decode cX10_copy 288 = .ok (.lastore, 1) := by decide +kernel
theorem zd_X10_copy_289 : decode cX10_copy 289 = .ok (.iinc 6 1, 3) := by decide +kernel
theorem zd_X10_copy_292 : decode cX10_copy 292 = .ok (.goto (-41), 3) := by decide +kernel
theorem zd_X10_copy_295 : decode cX10_copy 295 = .ok (.iconst 1, 1) := by decide +kernel
theorem zd_X10_copy_296 : decode cX10_copy 296 = .ok (.ireturn, 1) := by decide +kernel
theorem zd_X10_element_0 : decode cX10_element 0 = .ok (.iload_n 1, 1) := by decide +kernel
theorem zd_X10_element_1 : decode cX10_element 1 = .ok (.iconst 0, 1) := by decide +kernel
theorem zd_X10_element_2 : decode cX10_element 2 = .ok (.bipush 7, 2) := by decide +kernel
theorem zd_X10_element_4 : decode cX10_element 4 = .ok (.invokestatic 89, 3) := by decide +kernel
theorem zd_X10_element_7 : decode cX10_element 7 = .ok (.ifCond .eq 42, 3) := by decide +kernel
theorem zd_X10_element_10 : decode cX10_element 10 = .ok (.aload_n 0, 1) := by decide +kernel
theorem zd_X10_element_11 : decode cX10_element 11 = .ok (.iload_n 1, 1) := by decide +kernel
theorem zd_X10_element_12 : decode cX10_element 12 = .ok (.invokevirtual 96, 3) := by decide +kernel
theorem zd_X10_element_15 : decode cX10_element 15 = .ok (.ifCond .eq 34, 3) := by decide +kernel
theorem zd_X10_element_18 : decode cX10_element 18 = .ok (.iload_n 2, 1) := by decide +kernel
theorem zd_X10_element_19 : decode cX10_element 19 = .ok (.iconst 0, 1) := by decide +kernel
theorem zd_X10_element_20 : decode cX10_element 20 = .ok (.aload_n 0, 1) := by decide +kernel
theorem zd_X10_element_21 : decode cX10_element 21 = .ok (.getfield 32, 3) := by decide +kernel
theorem zd_X10_element_24 : decode cX10_element 24 = .ok (.iload_n 1, 1) := by decide +kernel
theorem zd_X10_element_25 : decode cX10_element 25 = .ok (.iaload, 1) := by decide +kernel
theorem zd_X10_element_26 : decode cX10_element 26 = .ok (.iconst 1, 1) := by decide +kernel
theorem zd_X10_element_27 : decode cX10_element 27 = .ok (.isub, 1) := by decide +kernel
theorem zd_X10_element_28 : decode cX10_element 28 = .ok (.invokestatic 89, 3) := by decide +kernel
theorem zd_X10_element_31 : decode cX10_element 31 = .ok (.ifCond .eq 18, 3) := by decide +kernel
theorem zd_X10_element_34 : decode cX10_element 34 = .ok (.aload_n 0, 1) := by decide +kernel
theorem zd_X10_element_35 : decode cX10_element 35 = .ok (.getfield 35, 3) := by decide +kernel
theorem zd_X10_element_38 : decode cX10_element 38 = .ok (.sipush 160, 3) := by decide +kernel
theorem zd_X10_element_41 : decode cX10_element 41 = .ok (.iload_n 1, 1) := by decide +kernel
theorem zd_X10_element_42 : decode cX10_element 42 = .ok (.imul, 1) := by decide +kernel
theorem zd_X10_element_43 : decode cX10_element 43 = .ok (.iload_n 2, 1) := by decide +kernel
theorem zd_X10_element_44 : decode cX10_element 44 = .ok (.iadd, 1) := by decide +kernel
theorem zd_X10_element_45 : decode cX10_element 45 = .ok (.laload, 1) := by decide +kernel
theorem zd_X10_element_46 : decode cX10_element 46 = .ok (.goto 4, 3) := by decide +kernel
theorem zd_X10_element_49 : decode cX10_element 49 = .ok (.lconst 0, 1) := by decide +kernel
theorem zd_X10_element_50 : decode cX10_element 50 = .ok (.lreturn, 1) := by decide +kernel
theorem zd_X10_show_0 : decode cX10_show 0 = .ok (.iload_n 1, 1) := by decide +kernel
theorem zd_X10_show_1 : decode cX10_show 1 = .ok (.iconst 0, 1) := by decide +kernel
theorem zd_X10_show_2 : decode cX10_show 2 = .ok (.bipush 7, 2) := by decide +kernel
theorem zd_X10_show_4 : decode cX10_show 4 = .ok (.invokestatic 89, 3) := by decide +kernel
theorem zd_X10_show_7 : decode cX10_show 7 = .ok (.ifCond .eq 16, 3) := by decide +kernel
theorem zd_X10_show_10 : decode cX10_show 10 = .ok (.iload_n 2, 1) := by decide +kernel
theorem zd_X10_show_11 : decode cX10_show 11 = .ok (.iconst (-1), 1) := by decide +kernel
theorem zd_X10_show_12 : decode cX10_show 12 = .ok (.if_icmp .eq 17, 3) := by decide +kernel
theorem zd_X10_show_15 : decode cX10_show 15 = .ok (.aload_n 0, 1) := by decide +kernel
theorem zd_X10_show_16 : decode cX10_show 16 = .ok (.iload_n 2, 1) := by decide +kernel
theorem zd_X10_show_17 : decode cX10_show 17 = .ok (.invokevirtual 103, 3) := by decide +kernel
theorem zd_X10_show_20 : decode cX10_show 20 = .ok (.ifCond .ne 9, 3) := by decide +kernel
theorem zd_X10_show_23 : decode cX10_show 23 = .ok (.aload_n 0, 1) := by decide +kernel
theorem zd_X10_show_24 : decode cX10_show 24 = .ok (.iconst (-1), 1) := by decide +kernel
theorem zd_X10_show_25 : decode cX10_show 25 = .ok (.invokevirtual 82, 3) := by decide +kernel
theorem zd_X10_show_28 : decode cX10_show 28 = .ok (.ireturn, 1) := by decide +kernel
theorem zd_X10_show_29 : decode cX10_show 29 = .ok (.aload_n 0, 1) := by decide +kernel
theorem zd_X10_show_30 : decode cX10_show 30 = .ok (.getfield 29, 3) := by decide +kernel
theorem zd_X10_show_33 : decode cX10_show 33 = .ok (.iload_n 1, 1) := by decide +kernel
theorem zd_X10_show_34 : decode cX10_show 34 = .ok (.iload_n 2, 1) := by decide +kernel
theorem zd_X10_show_35 : decode cX10_show 35 = .ok (.iastore, 1) := by decide +kernel
theorem zd_X10_show_36 : decode cX10_show 36 = .ok (.iload_n 2, 1) := by decide +kernel
theorem zd_X10_show_37 : decode cX10_show 37 = .ok (.iconst (-1), 1) := by decide +kernel
theorem zd_X10_show_38 : decode cX10_show 38 = .ok (.if_icmp .ne 7, 3) := by decide +kernel
theorem zd_X10_show_41 : decode cX10_show 41 = .ok (.iconst 0, 1) := by decide +kernel
theorem zd_X10_show_42 : decode cX10_show 42 = .ok (.goto 4, 3) := by decide +kernel
theorem zd_X10_show_45 : decode cX10_show 45 = .ok (.iconst 1, 1) := by decide +kernel
theorem zd_X10_show_46 : decode cX10_show 46 = .ok (.ireturn, 1) := by decide +kernel
theorem zd_X10_holds_0 : decode cX10_holds 0 = .ok (.iload_n 1, 1) := by decide +kernel
theorem zd_X10_holds_1 : decode cX10_holds 1 = .ok (.iconst 0, 1) := by decide +kernel
theorem zd_X10_holds_2 : decode cX10_holds 2 = .ok (.bipush 7, 2) := by decide +kernel
theorem zd_X10_holds_4 : decode cX10_holds 4 = .ok (.invokestatic 89, 3) := by decide +kernel
theorem zd_X10_holds_7 : decode cX10_holds 7 = .ok (.ifCond .eq 12, 3) := by decide +kernel
theorem zd_X10_holds_10 : decode cX10_holds 10 = .ok (.aload_n 0, 1) := by decide +kernel
theorem zd_X10_holds_11 : decode cX10_holds 11 = .ok (.getfield 29, 3) := by decide +kernel
theorem zd_X10_holds_14 : decode cX10_holds 14 = .ok (.iload_n 1, 1) := by decide +kernel
theorem zd_X10_holds_15 : decode cX10_holds 15 = .ok (.iaload, 1) := by decide +kernel
theorem zd_X10_holds_16 : decode cX10_holds 16 = .ok (.goto 4, 3) := by decide +kernel
theorem zd_X10_holds_19 : decode cX10_holds 19 = .ok (.iconst (-1), 1) := by decide +kernel
theorem zd_X10_holds_20 : decode cX10_holds 20 = .ok (.ireturn, 1) := by decide +kernel
theorem zd_X10_above_0 : decode cX10_above 0 = .ok (.iload_n 0, 1) := by decide +kernel
theorem zd_X10_above_1 : decode cX10_above 1 = .ok (.iconst 3, 1) := by decide +kernel
theorem zd_X10_above_2 : decode cX10_above 2 = .ok (.if_icmp .ne 7, 3) := by decide +kernel
theorem zd_X10_above_5 : decode cX10_above 5 = .ok (.iconst 1, 1) := by decide +kernel
theorem zd_X10_above_6 : decode cX10_above 6 = .ok (.goto 23, 3) := by decide +kernel
theorem zd_X10_above_9 : decode cX10_above 9 = .ok (.iload_n 0, 1) := by decide +kernel
theorem zd_X10_above_10 : decode cX10_above 10 = .ok (.iconst 5, 1) := by decide +kernel
theorem zd_X10_above_11 : decode cX10_above 11 = .ok (.if_icmp .ne 7, 3) := by decide +kernel
theorem zd_X10_above_14 : decode cX10_above 14 = .ok (.iconst 2, 1) := by decide +kernel
theorem zd_X10_above_15 : decode cX10_above 15 = .ok (.goto 14, 3) := by decide +kernel
theorem zd_X10_above_18 : decode cX10_above 18 = .ok (.iload_n 0, 1) := by decide +kernel
theorem zd_X10_above_19 : decode cX10_above 19 = .ok (.bipush 6, 2) := by decide +kernel
theorem zd_X10_above_21 : decode cX10_above 21 = .ok (.if_icmp .ne 7, 3) := by decide +kernel
theorem zd_X10_above_24 : decode cX10_above 24 = .ok (.iconst 3, 1) := by decide +kernel
theorem zd_X10_above_25 : decode cX10_above 25 = .ok (.goto 4, 3) := by decide +kernel
theorem zd_X10_above_28 : decode cX10_above 28 = .ok (.iconst 0, 1) := by decide +kernel
theorem zd_X10_above_29 : decode cX10_above 29 = .ok (.ireturn, 1) := by decide +kernel
theorem zd_X10_isUnder_0 : decode cX10_isUnder 0 = .ok (.iload_n 0, 1) := by decide +kernel
theorem zd_X10_isUnder_1 : decode cX10_isUnder 1 = .ok (.istore_n 2, 1) := by decide +kernel
theorem zd_X10_isUnder_2 : decode cX10_isUnder 2 = .ok (.iload_n 2, 1) := by decide +kernel
theorem zd_X10_isUnder_3 : decode cX10_isUnder 3 = .ok (.iload_n 1, 1) := by decide +kernel
theorem zd_X10_isUnder_4 : decode cX10_isUnder 4 = .ok (.if_icmp .eq 15, 3) := by decide +kernel
theorem zd_X10_isUnder_7 : decode cX10_isUnder 7 = .ok (.iload_n 2, 1) := by decide +kernel
theorem zd_X10_isUnder_8 : decode cX10_isUnder 8 = .ok (.ifCond .le 11, 3) := by decide +kernel
theorem zd_X10_isUnder_11 : decode cX10_isUnder 11 = .ok (.iload_n 2, 1) := by decide +kernel
theorem zd_X10_isUnder_12 : decode cX10_isUnder 12 = .ok (.invokestatic 106, 3) := by decide +kernel
theorem zd_X10_isUnder_15 : decode cX10_isUnder 15 = .ok (.istore_n 2, 1) := by decide +kernel
theorem zd_X10_isUnder_16 : decode cX10_isUnder 16 = .ok (.goto (-14), 3) := by decide +kernel
theorem zd_X10_isUnder_19 : decode cX10_isUnder 19 = .ok (.iload_n 2, 1) := by decide +kernel
theorem zd_X10_isUnder_20 : decode cX10_isUnder 20 = .ok (.iload_n 1, 1) := by decide +kernel
theorem zd_X10_isUnder_21 : decode cX10_isUnder 21 = .ok (.if_icmp .ne 7, 3) := by decide +kernel
theorem zd_X10_isUnder_24 : decode cX10_isUnder 24 = .ok (.iconst 1, 1) := by decide +kernel
theorem zd_X10_isUnder_25 : decode cX10_isUnder 25 = .ok (.goto 4, 3) := by decide +kernel
theorem zd_X10_isUnder_28 : decode cX10_isUnder 28 = .ok (.iconst 0, 1) := by decide +kernel
theorem zd_X10_isUnder_29 : decode cX10_isUnder 29 = .ok (.ireturn, 1) := by decide +kernel
theorem zd_X10_of_0 : decode cX10_of 0 = .ok (.aload_n 0, 1) := by decide +kernel
theorem zd_X10_of_1 : decode cX10_of 1 = .ok (.getfield 23, 3) := by decide +kernel
theorem zd_X10_of_4 : decode cX10_of 4 = .ok (.bipush 16, 2) := by decide +kernel
theorem zd_X10_of_6 : decode cX10_of 6 = .ok (.iload_n 1, 1) := by decide +kernel
theorem zd_X10_of_7 : decode cX10_of 7 = .ok (.imul, 1) := by decide +kernel
theorem zd_X10_of_8 : decode cX10_of 8 = .ok (.iload_n 2, 1) := by decide +kernel
theorem zd_X10_of_9 : decode cX10_of 9 = .ok (.iadd, 1) := by decide +kernel
theorem zd_X10_of_10 : decode cX10_of 10 = .ok (.iaload, 1) := by decide +kernel
theorem zd_X10_of_11 : decode cX10_of 11 = .ok (.ireturn, 1) := by decide +kernel
theorem zd_X10_says_0 : decode cX10_says 0 = .ok (.iload_n 1, 1) := by decide +kernel
theorem zd_X10_says_1 : decode cX10_says 1 = .ok (.iconst 0, 1) := by decide +kernel
theorem zd_X10_says_2 : decode cX10_says 2 = .ok (.bipush 7, 2) := by decide +kernel
theorem zd_X10_says_4 : decode cX10_says 4 = .ok (.invokestatic 89, 3) := by decide +kernel
theorem zd_X10_says_7 : decode cX10_says 7 = .ok (.ifCond .eq 13, 3) := by decide +kernel
theorem zd_X10_says_10 : decode cX10_says 10 = .ok (.iload_n 2, 1) := by decide +kernel
theorem zd_X10_says_11 : decode cX10_says 11 = .ok (.iconst 0, 1) := by decide +kernel
theorem zd_X10_says_12 : decode cX10_says 12 = .ok (.bipush 6, 2) := by decide +kernel
theorem zd_X10_says_14 : decode cX10_says 14 = .ok (.invokestatic 89, 3) := by decide +kernel
theorem zd_X10_says_17 : decode cX10_says 17 = .ok (.ifCond .ne 9, 3) := by decide +kernel
theorem zd_X10_says_20 : decode cX10_says 20 = .ok (.aload_n 0, 1) := by decide +kernel
theorem zd_X10_says_21 : decode cX10_says 21 = .ok (.iconst (-1), 1) := by decide +kernel
theorem zd_X10_says_22 : decode cX10_says 22 = .ok (.invokevirtual 82, 3) := by decide +kernel
theorem zd_X10_says_25 : decode cX10_says 25 = .ok (.ireturn, 1) := by decide +kernel
theorem zd_X10_says_26 : decode cX10_says 26 = .ok (.aload_n 0, 1) := by decide +kernel
theorem zd_X10_says_27 : decode cX10_says 27 = .ok (.getfield 29, 3) := by decide +kernel
theorem zd_X10_says_30 : decode cX10_says 30 = .ok (.iload_n 1, 1) := by decide +kernel
theorem zd_X10_says_31 : decode cX10_says 31 = .ok (.iaload, 1) := by decide +kernel
theorem zd_X10_says_32 : decode cX10_says 32 = .ok (.istore_n 3, 1) := by decide +kernel
theorem zd_X10_says_33 : decode cX10_says 33 = .ok (.iload_n 3, 1) := by decide +kernel
theorem zd_X10_says_34 : decode cX10_says 34 = .ok (.ifCond .lt 31, 3) := by decide +kernel
theorem zd_X10_says_37 : decode cX10_says 37 = .ok (.aload_n 0, 1) := by decide +kernel
theorem zd_X10_says_38 : decode cX10_says 38 = .ok (.iload_n 1, 1) := by decide +kernel
theorem zd_X10_says_39 : decode cX10_says 39 = .ok (.invokevirtual 96, 3) := by decide +kernel
theorem zd_X10_says_42 : decode cX10_says 42 = .ok (.ifCond .ne 16, 3) := by decide +kernel
theorem zd_X10_says_45 : decode cX10_says 45 = .ok (.aload_n 0, 1) := by decide +kernel
theorem zd_X10_says_46 : decode cX10_says 46 = .ok (.iconst 0, 1) := by decide +kernel
theorem zd_X10_says_47 : decode cX10_says 47 = .ok (.iload_n 3, 1) := by decide +kernel
theorem zd_X10_says_48 : decode cX10_says 48 = .ok (.invokevirtual 109, 3) := by decide +kernel
theorem zd_X10_says_51 : decode cX10_says 51 = .ok (.iload_n 2, 1) := by decide +kernel
theorem zd_X10_says_52 : decode cX10_says 52 = .ok (.invokestatic 113, 3) := by decide +kernel
theorem zd_X10_says_55 : decode cX10_says 55 = .ok (.ifCond .ne 10, 3) := by decide +kernel
theorem zd_X10_says_58 : decode cX10_says 58 = .ok (.aload_n 0, 1) := by decide +kernel
theorem zd_X10_says_59 : decode cX10_says 59 = .ok (.bipush (-2), 2) := by decide +kernel
theorem zd_X10_says_61 : decode cX10_says 61 = .ok (.invokevirtual 82, 3) := by decide +kernel
theorem zd_X10_says_64 : decode cX10_says 64 = .ok (.ireturn, 1) := by decide +kernel
theorem zd_X10_says_65 : decode cX10_says 65 = .ok (.iload_n 3, 1) := by decide +kernel
theorem zd_X10_says_66 : decode cX10_says 66 = .ok (.ifCond .ge 10, 3) := by decide +kernel
theorem zd_X10_says_69 : decode cX10_says 69 = .ok (.aload_n 0, 1) := by decide +kernel
theorem zd_X10_says_70 : decode cX10_says 70 = .ok (.bipush (-3), 2) := by decide +kernel
theorem zd_X10_says_72 : decode cX10_says 72 = .ok (.invokevirtual 82, 3) := by decide +kernel
theorem zd_X10_says_75 : decode cX10_says 75 = .ok (.ireturn, 1) := by decide +kernel
theorem zd_X10_says_76 : decode cX10_says 76 = .ok (.iload_n 2, 1) := by decide +kernel
theorem zd_X10_says_77 : decode cX10_says 77 = .ok (.tableswitch 71 0 6 #[43, 50, 71, 50, 57, 71, 64], 43) := by decide +kernel
theorem zd_X10_says_120 : decode cX10_says 120 = .ok (.aload_n 0, 1) := by decide +kernel
theorem zd_X10_says_121 : decode cX10_says 121 = .ok (.iconst 3, 1) := by decide +kernel
theorem zd_X10_says_122 : decode cX10_says 122 = .ok (.iload_n 3, 1) := by decide +kernel
theorem zd_X10_says_123 : decode cX10_says 123 = .ok (.invokevirtual 109, 3) := by decide +kernel
theorem zd_X10_says_126 : decode cX10_says 126 = .ok (.ireturn, 1) := by decide +kernel
theorem zd_X10_says_127 : decode cX10_says 127 = .ok (.aload_n 0, 1) := by decide +kernel
theorem zd_X10_says_128 : decode cX10_says 128 = .ok (.iconst 1, 1) := by decide +kernel
theorem zd_X10_says_129 : decode cX10_says 129 = .ok (.iload_n 3, 1) := by decide +kernel
theorem zd_X10_says_130 : decode cX10_says 130 = .ok (.invokevirtual 109, 3) := by decide +kernel
theorem zd_X10_says_133 : decode cX10_says 133 = .ok (.ireturn, 1) := by decide +kernel
theorem zd_X10_says_134 : decode cX10_says 134 = .ok (.aload_n 0, 1) := by decide +kernel
theorem zd_X10_says_135 : decode cX10_says 135 = .ok (.iconst 4, 1) := by decide +kernel
theorem zd_X10_says_136 : decode cX10_says 136 = .ok (.iload_n 3, 1) := by decide +kernel
theorem zd_X10_says_137 : decode cX10_says 137 = .ok (.invokevirtual 109, 3) := by decide +kernel
theorem zd_X10_says_140 : decode cX10_says 140 = .ok (.ireturn, 1) := by decide +kernel
theorem zd_X10_says_141 : decode cX10_says 141 = .ok (.aload_n 0, 1) := by decide +kernel
theorem zd_X10_says_142 : decode cX10_says 142 = .ok (.iconst 2, 1) := by decide +kernel
theorem zd_X10_says_143 : decode cX10_says 143 = .ok (.iload_n 3, 1) := by decide +kernel
theorem zd_X10_says_144 : decode cX10_says 144 = .ok (.invokevirtual 109, 3) := by decide +kernel
theorem zd_X10_says_147 : decode cX10_says 147 = .ok (.ireturn, 1) := by decide +kernel
theorem zd_X10_says_148 : decode cX10_says 148 = .ok (.aload_n 0, 1) := by decide +kernel
theorem zd_X10_says_149 : decode cX10_says 149 = .ok (.iconst 4, 1) := by decide +kernel
theorem zd_X10_says_150 : decode cX10_says 150 = .ok (.iload_n 3, 1) := by decide +kernel
theorem zd_X10_says_151 : decode cX10_says 151 = .ok (.invokevirtual 109, 3) := by decide +kernel
theorem zd_X10_says_154 : decode cX10_says 154 = .ok (.aload_n 0, 1) := by decide +kernel
theorem zd_X10_says_155 : decode cX10_says 155 = .ok (.iconst 3, 1) := by decide +kernel
theorem zd_X10_says_156 : decode cX10_says 156 = .ok (.iload_n 3, 1) := by decide +kernel
theorem zd_X10_says_157 : decode cX10_says 157 = .ok (.invokevirtual 109, 3) := by decide +kernel
theorem zd_X10_says_160 : decode cX10_says 160 = .ok (.isub, 1) := by decide +kernel
theorem zd_X10_says_161 : decode cX10_says 161 = .ok (.iconst 1, 1) := by decide +kernel
theorem zd_X10_says_162 : decode cX10_says 162 = .ok (.iadd, 1) := by decide +kernel
theorem zd_X10_says_163 : decode cX10_says 163 = .ok (.ireturn, 1) := by decide +kernel
theorem zd_X10_read_0 : decode cX10_read 0 = .ok (.aload_n 0, 1) := by decide +kernel
theorem zd_X10_read_1 : decode cX10_read 1 = .ok (.getfield 35, 3) := by decide +kernel
theorem zd_X10_read_4 : decode cX10_read 4 = .ok (.sipush 160, 3) := by decide +kernel
theorem zd_X10_read_7 : decode cX10_read 7 = .ok (.iload_n 1, 1) := by decide +kernel
theorem zd_X10_read_8 : decode cX10_read 8 = .ok (.imul, 1) := by decide +kernel
theorem zd_X10_read_9 : decode cX10_read 9 = .ok (.iload_n 2, 1) := by decide +kernel
theorem zd_X10_read_10 : decode cX10_read 10 = .ok (.iadd, 1) := by decide +kernel
theorem zd_X10_read_11 : decode cX10_read 11 = .ok (.laload, 1) := by decide +kernel
theorem zd_X10_read_12 : decode cX10_read 12 = .ok (.l2i, 1) := by decide +kernel
theorem zd_X10_read_13 : decode cX10_read 13 = .ok (.ireturn, 1) := by decide +kernel
theorem zd_X10_reads_0 : decode cX10_reads 0 = .ok (.aload_n 0, 1) := by decide +kernel
theorem zd_X10_reads_1 : decode cX10_reads 1 = .ok (.getfield 32, 3) := by decide +kernel
theorem zd_X10_reads_4 : decode cX10_reads 4 = .ok (.iload_n 1, 1) := by decide +kernel
theorem zd_X10_reads_5 : decode cX10_reads 5 = .ok (.iaload, 1) := by decide +kernel
theorem zd_X10_reads_6 : decode cX10_reads 6 = .ok (.istore_n 2, 1) := by decide +kernel
theorem zd_X10_reads_7 : decode cX10_reads 7 = .ok (.iconst 0, 1) := by decide +kernel
theorem zd_X10_reads_8 : decode cX10_reads 8 = .ok (.istore_n 3, 1) := by decide +kernel
theorem zd_X10_reads_9 : decode cX10_reads 9 = .ok (.iconst 0, 1) := by decide +kernel
theorem zd_X10_reads_10 : decode cX10_reads 10 = .ok (.istore 4, 2) := by decide +kernel
theorem zd_X10_reads_12 : decode cX10_reads 12 = .ok (.lconst 0, 1) := by decide +kernel
theorem zd_X10_reads_13 : decode cX10_reads 13 = .ok (.lstore 5, 2) := by decide +kernel
theorem zd_X10_reads_15 : decode cX10_reads 15 = .ok (.iconst 0, 1) := by decide +kernel
theorem zd_X10_reads_16 : decode cX10_reads 16 = .ok (.istore 7, 2) := by decide +kernel
theorem zd_X10_reads_18 : decode cX10_reads 18 = .ok (.iload 7, 2) := by decide +kernel
theorem zd_X10_reads_20 : decode cX10_reads 20 = .ok (.iload_n 2, 1) := by decide +kernel
theorem zd_X10_reads_21 : decode cX10_reads 21 = .ok (.if_icmp .ge 120, 3) := by decide +kernel
theorem zd_X10_reads_24 : decode cX10_reads 24 = .ok (.aload_n 0, 1) := by decide +kernel
theorem zd_X10_reads_25 : decode cX10_reads 25 = .ok (.iload_n 1, 1) := by decide +kernel
theorem zd_X10_reads_26 : decode cX10_reads 26 = .ok (.iload 7, 2) := by decide +kernel
theorem zd_X10_reads_28 : decode cX10_reads 28 = .ok (.invokevirtual 117, 3) := by decide +kernel
theorem zd_X10_reads_31 : decode cX10_reads 31 = .ok (.istore 8, 2) := by decide +kernel
theorem zd_X10_reads_33 : decode cX10_reads 33 = .ok (.iload 8, 2) := by decide +kernel
theorem zd_X10_reads_35 : decode cX10_reads 35 = .ok (.bipush 47, 2) := by decide +kernel
theorem zd_X10_reads_37 : decode cX10_reads 37 = .ok (.if_icmp .ne 18, 3) := by decide +kernel
theorem zd_X10_reads_40 : decode cX10_reads 40 = .ok (.iload 4, 2) := by decide +kernel
theorem zd_X10_reads_42 : decode cX10_reads 42 = .ok (.ifCond .le 13, 3) := by decide +kernel
theorem zd_X10_reads_45 : decode cX10_reads 45 = .ok (.iload_n 3, 1) := by decide +kernel
theorem zd_X10_reads_46 : decode cX10_reads 46 = .ok (.bipush 23, 2) := by decide +kernel
theorem zd_X10_reads_48 : decode cX10_reads 48 = .ok (.if_icmp .ge 7, 3) := by decide +kernel
theorem zd_X10_reads_51 : decode cX10_reads 51 = .ok (.iconst 1, 1) := by decide +kernel
theorem zd_X10_reads_52 : decode cX10_reads 52 = .ok (.goto 4, 3) := by decide +kernel
theorem zd_X10_reads_55 : decode cX10_reads 55 = .ok (.iconst 0, 1) := by decide +kernel
theorem zd_X10_reads_56 : decode cX10_reads 56 = .ok (.istore 9, 2) := by decide +kernel
theorem zd_X10_reads_58 : decode cX10_reads 58 = .ok (.iload 9, 2) := by decide +kernel
theorem zd_X10_reads_60 : decode cX10_reads 60 = .ok (.ifCond .ne 25, 3) := by decide +kernel
theorem zd_X10_reads_63 : decode cX10_reads 63 = .ok (.iload 8, 2) := by decide +kernel
theorem zd_X10_reads_65 : decode cX10_reads 65 = .ok (.bipush 97, 2) := by decide +kernel
theorem zd_X10_reads_67 : decode cX10_reads 67 = .ok (.bipush 122, 2) := by decide +kernel
theorem zd_X10_reads_69 : decode cX10_reads 69 = .ok (.invokestatic 89, 3) := by decide +kernel
theorem zd_X10_reads_72 : decode cX10_reads 72 = .ok (.ifCond .eq 10, 3) := by decide +kernel
theorem zd_X10_reads_75 : decode cX10_reads 75 = .ok (.iload 4, 2) := by decide +kernel
theorem zd_X10_reads_77 : decode cX10_reads 77 = .ok (.bipush 8, 2) := by decide +kernel
theorem zd_X10_reads_79 : decode cX10_reads 79 = .ok (.if_icmp .ne 6, 3) := by decide +kernel
theorem zd_X10_reads_82 : decode cX10_reads 82 = .ok (.iload 7, 2) := by decide +kernel
theorem zd_X10_reads_84 : decode cX10_reads 84 = .ok (.ireturn, 1) := by decide +kernel
theorem zd_X10_reads_85 : decode cX10_reads 85 = .ok (.iload 9, 2) := by decide +kernel
theorem zd_X10_reads_87 : decode cX10_reads 87 = .ok (.ifCond .eq 31, 3) := by decide +kernel
theorem zd_X10_reads_90 : decode cX10_reads 90 = .ok (.aload_n 0, 1) := by decide +kernel
theorem zd_X10_reads_91 : decode cX10_reads 91 = .ok (.getfield 16, 3) := by decide +kernel
theorem zd_X10_reads_94 : decode cX10_reads 94 = .ok (.bipush 24, 2) := by decide +kernel
theorem zd_X10_reads_96 : decode cX10_reads 96 = .ok (.aload_n 0, 1) := by decide +kernel
theorem zd_X10_reads_97 : decode cX10_reads 97 = .ok (.getfield 86, 3) := by decide +kernel
theorem zd_X10_reads_100 : decode cX10_reads 100 = .ok (.imul, 1) := by decide +kernel
theorem zd_X10_reads_101 : decode cX10_reads 101 = .ok (.iload_n 3, 1) := by decide +kernel
theorem zd_X10_reads_102 : decode cX10_reads 102 = .ok (.iadd, 1) := by decide +kernel
theorem zd_X10_reads_103 : decode cX10_reads 103 = .ok (.lload 5, 2) := by decide +kernel
theorem zd_X10_reads_105 : decode cX10_reads 105 = .ok (.lastore, 1) := by decide +kernel
theorem zd_X10_reads_106 : decode cX10_reads 106 = .ok (.iinc 3 1, 3) := by decide +kernel
theorem zd_X10_reads_109 : decode cX10_reads 109 = .ok (.iconst 0, 1) := by decide +kernel
theorem zd_X10_reads_110 : decode cX10_reads 110 = .ok (.istore 4, 2) := by decide +kernel
theorem zd_X10_reads_112 : decode cX10_reads 112 = .ok (.lconst 0, 1) := by decide +kernel
theorem zd_X10_reads_113 : decode cX10_reads 113 = .ok (.lstore 5, 2) := by decide +kernel
theorem zd_X10_reads_115 : decode cX10_reads 115 = .ok (.goto 20, 3) := by decide +kernel
theorem zd_X10_reads_118 : decode cX10_reads 118 = .ok (.lload 5, 2) := by decide +kernel
theorem zd_X10_reads_120 : decode cX10_reads 120 = .ok (.iload 8, 2) := by decide +kernel
theorem zd_X10_reads_122 : decode cX10_reads 122 = .ok (.i2l, 1) := by decide +kernel
theorem zd_X10_reads_123 : decode cX10_reads 123 = .ok (.bipush 8, 2) := by decide +kernel
theorem zd_X10_reads_125 : decode cX10_reads 125 = .ok (.iload 4, 2) := by decide +kernel
theorem zd_X10_reads_127 : decode cX10_reads 127 = .ok (.imul, 1) := by decide +kernel
theorem zd_X10_reads_128 : decode cX10_reads 128 = .ok (.lshl, 1) := by decide +kernel
theorem zd_X10_reads_129 : decode cX10_reads 129 = .ok (.lor, 1) := by decide +kernel
theorem zd_X10_reads_130 : decode cX10_reads 130 = .ok (.lstore 5, 2) := by decide +kernel
theorem zd_X10_reads_132 : decode cX10_reads 132 = .ok (.iinc 4 1, 3) := by decide +kernel
theorem zd_X10_reads_135 : decode cX10_reads 135 = .ok (.iinc 7 1, 3) := by decide +kernel
theorem zd_X10_reads_138 : decode cX10_reads 138 = .ok (.goto (-120), 3) := by decide +kernel
theorem zd_X10_reads_141 : decode cX10_reads 141 = .ok (.iload_n 2, 1) := by decide +kernel
theorem zd_X10_reads_142 : decode cX10_reads 142 = .ok (.ifCond .le 10, 3) := by decide +kernel
theorem zd_X10_reads_145 : decode cX10_reads 145 = .ok (.iload 4, 2) := by decide +kernel
theorem zd_X10_reads_147 : decode cX10_reads 147 = .ok (.ifCond .ne 5, 3) := by decide +kernel
theorem zd_X10_reads_150 : decode cX10_reads 150 = .ok (.iload_n 2, 1) := by decide +kernel
theorem zd_X10_reads_151 : decode cX10_reads 151 = .ok (.ireturn, 1) := by decide +kernel
theorem zd_X10_reads_152 : decode cX10_reads 152 = .ok (.iload_n 2, 1) := by decide +kernel
theorem zd_X10_reads_153 : decode cX10_reads 153 = .ok (.ifCond .le 19, 3) := by decide +kernel
theorem zd_X10_reads_156 : decode cX10_reads 156 = .ok (.aload_n 0, 1) := by decide +kernel
theorem zd_X10_reads_157 : decode cX10_reads 157 = .ok (.getfield 16, 3) := by decide +kernel
theorem zd_X10_reads_160 : decode cX10_reads 160 = .ok (.bipush 24, 2) := by decide +kernel
theorem zd_X10_reads_162 : decode cX10_reads 162 = .ok (.aload_n 0, 1) := by decide +kernel
theorem zd_X10_reads_163 : decode cX10_reads 163 = .ok (.getfield 86, 3) := by decide +kernel
theorem zd_X10_reads_166 : decode cX10_reads 166 = .ok (.imul, 1) := by decide +kernel
theorem zd_X10_reads_167 : decode cX10_reads 167 = .ok (.iload_n 3, 1) := by decide +kernel
theorem zd_X10_reads_168 : decode cX10_reads 168 = .ok (.iadd, 1) := by decide +kernel
theorem zd_X10_reads_169 : decode cX10_reads 169 = .ok (.lload 5, 2) := by decide +kernel
theorem zd_X10_reads_171 : decode cX10_reads 171 = .ok (.lastore, 1) := by decide +kernel
theorem zd_X10_reads_172 : decode cX10_reads 172 = .ok (.aload_n 0, 1) := by decide +kernel
theorem zd_X10_reads_173 : decode cX10_reads 173 = .ok (.getfield 13, 3) := by decide +kernel
theorem zd_X10_reads_176 : decode cX10_reads 176 = .ok (.aload_n 0, 1) := by decide +kernel
theorem zd_X10_reads_177 : decode cX10_reads 177 = .ok (.getfield 86, 3) := by decide +kernel
theorem zd_X10_reads_180 : decode cX10_reads 180 = .ok (.iload_n 2, 1) := by decide +kernel
theorem zd_X10_reads_181 : decode cX10_reads 181 = .ok (.ifCond .le 9, 3) := by decide +kernel
theorem zd_X10_reads_184 : decode cX10_reads 184 = .ok (.iload_n 3, 1) := by decide +kernel
theorem zd_X10_reads_185 : decode cX10_reads 185 = .ok (.iconst 1, 1) := by decide +kernel
theorem zd_X10_reads_186 : decode cX10_reads 186 = .ok (.iadd, 1) := by decide +kernel
theorem zd_X10_reads_187 : decode cX10_reads 187 = .ok (.goto 4, 3) := by decide +kernel
theorem zd_X10_reads_190 : decode cX10_reads 190 = .ok (.iconst 0, 1) := by decide +kernel
theorem zd_X10_reads_191 : decode cX10_reads 191 = .ok (.iastore, 1) := by decide +kernel
theorem zd_X10_reads_192 : decode cX10_reads 192 = .ok (.iconst (-1), 1) := by decide +kernel
theorem zd_X10_reads_193 : decode cX10_reads 193 = .ok (.ireturn, 1) := by decide +kernel
theorem zd_X10_isAlike_0 : decode cX10_isAlike 0 = .ok (.aload_n 0, 1) := by decide +kernel
theorem zd_X10_isAlike_1 : decode cX10_isAlike 1 = .ok (.getfield 16, 3) := by decide +kernel
theorem zd_X10_isAlike_4 : decode cX10_isAlike 4 = .ok (.bipush 24, 2) := by decide +kernel
theorem zd_X10_isAlike_6 : decode cX10_isAlike 6 = .ok (.iload_n 1, 1) := by decide +kernel
theorem zd_X10_isAlike_7 : decode cX10_isAlike 7 = .ok (.imul, 1) := by decide +kernel
theorem zd_X10_isAlike_8 : decode cX10_isAlike 8 = .ok (.iload_n 2, 1) := by decide +kernel
theorem zd_X10_isAlike_9 : decode cX10_isAlike 9 = .ok (.iadd, 1) := by decide +kernel
theorem zd_X10_isAlike_10 : decode cX10_isAlike 10 = .ok (.laload, 1) := by decide +kernel
theorem zd_X10_isAlike_11 : decode cX10_isAlike 11 = .ok (.aload_n 0, 1) := by decide +kernel
theorem zd_X10_isAlike_12 : decode cX10_isAlike 12 = .ok (.getfield 16, 3) := by decide +kernel
theorem zd_X10_isAlike_15 : decode cX10_isAlike 15 = .ok (.bipush 24, 2) := by decide +kernel
theorem zd_X10_isAlike_17 : decode cX10_isAlike 17 = .ok (.iload_n 3, 1) := by decide +kernel
theorem zd_X10_isAlike_18 : decode cX10_isAlike 18 = .ok (.imul, 1) := by decide +kernel
theorem zd_X10_isAlike_19 : decode cX10_isAlike 19 = .ok (.iload 4, 2) := by decide +kernel
theorem zd_X10_isAlike_21 : decode cX10_isAlike 21 = .ok (.iadd, 1) := by decide +kernel
theorem zd_X10_isAlike_22 : decode cX10_isAlike 22 = .ok (.laload, 1) := by decide +kernel
theorem zd_X10_isAlike_23 : decode cX10_isAlike 23 = .ok (.lcmp, 1) := by decide +kernel
theorem zd_X10_isAlike_24 : decode cX10_isAlike 24 = .ok (.ifCond .ne 7, 3) := by decide +kernel
theorem zd_X10_isAlike_27 : decode cX10_isAlike 27 = .ok (.iconst 1, 1) := by decide +kernel
theorem zd_X10_isAlike_28 : decode cX10_isAlike 28 = .ok (.goto 4, 3) := by decide +kernel
theorem zd_X10_isAlike_31 : decode cX10_isAlike 31 = .ok (.iconst 0, 1) := by decide +kernel
theorem zd_X10_isAlike_32 : decode cX10_isAlike 32 = .ok (.ireturn, 1) := by decide +kernel
theorem zd_X10_pairs_0 : decode cX10_pairs 0 = .ok (.aload_n 0, 1) := by decide +kernel
theorem zd_X10_pairs_1 : decode cX10_pairs 1 = .ok (.getfield 13, 3) := by decide +kernel
theorem zd_X10_pairs_4 : decode cX10_pairs 4 = .ok (.iload_n 1, 1) := by decide +kernel
theorem zd_X10_pairs_5 : decode cX10_pairs 5 = .ok (.iaload, 1) := by decide +kernel
theorem zd_X10_pairs_6 : decode cX10_pairs 6 = .ok (.istore_n 3, 1) := by decide +kernel
theorem zd_X10_pairs_7 : decode cX10_pairs 7 = .ok (.aload_n 0, 1) := by decide +kernel
theorem zd_X10_pairs_8 : decode cX10_pairs 8 = .ok (.getfield 13, 3) := by decide +kernel
theorem zd_X10_pairs_11 : decode cX10_pairs 11 = .ok (.iload_n 2, 1) := by decide +kernel
theorem zd_X10_pairs_12 : decode cX10_pairs 12 = .ok (.iaload, 1) := by decide +kernel
theorem zd_X10_pairs_13 : decode cX10_pairs 13 = .ok (.istore 4, 2) := by decide +kernel
theorem zd_X10_pairs_15 : decode cX10_pairs 15 = .ok (.iload_n 3, 1) := by decide +kernel
theorem zd_X10_pairs_16 : decode cX10_pairs 16 = .ok (.istore 5, 2) := by decide +kernel
theorem zd_X10_pairs_18 : decode cX10_pairs 18 = .ok (.iload 5, 2) := by decide +kernel
theorem zd_X10_pairs_20 : decode cX10_pairs 20 = .ok (.ifCond .lt 148, 3) := by decide +kernel
theorem zd_X10_pairs_23 : decode cX10_pairs 23 = .ok (.iload 4, 2) := by decide +kernel
theorem zd_X10_pairs_25 : decode cX10_pairs 25 = .ok (.istore 6, 2) := by decide +kernel
theorem zd_X10_pairs_27 : decode cX10_pairs 27 = .ok (.iload 6, 2) := by decide +kernel
theorem zd_X10_pairs_29 : decode cX10_pairs 29 = .ok (.ifCond .lt 133, 3) := by decide +kernel
theorem zd_X10_pairs_32 : decode cX10_pairs 32 = .ok (.iload 5, 2) := by decide +kernel
theorem zd_X10_pairs_34 : decode cX10_pairs 34 = .ok (.iload_n 3, 1) := by decide +kernel
theorem zd_X10_pairs_35 : decode cX10_pairs 35 = .ok (.if_icmp .eq 10, 3) := by decide +kernel
theorem zd_X10_pairs_38 : decode cX10_pairs 38 = .ok (.iload 6, 2) := by decide +kernel
theorem zd_X10_pairs_40 : decode cX10_pairs 40 = .ok (.iload 4, 2) := by decide +kernel
theorem zd_X10_pairs_42 : decode cX10_pairs 42 = .ok (.if_icmp .ne 20, 3) := by decide +kernel
theorem zd_X10_pairs_45 : decode cX10_pairs 45 = .ok (.aload_n 0, 1) := by decide +kernel
theorem zd_X10_pairs_46 : decode cX10_pairs 46 = .ok (.getfield 59, 3) := by decide +kernel
theorem zd_X10_pairs_49 : decode cX10_pairs 49 = .ok (.bipush 25, 2) := by decide +kernel
theorem zd_X10_pairs_51 : decode cX10_pairs 51 = .ok (.iload 5, 2) := by decide +kernel
theorem zd_X10_pairs_53 : decode cX10_pairs 53 = .ok (.imul, 1) := by decide +kernel
theorem zd_X10_pairs_54 : decode cX10_pairs 54 = .ok (.iload 6, 2) := by decide +kernel
theorem zd_X10_pairs_56 : decode cX10_pairs 56 = .ok (.iadd, 1) := by decide +kernel
theorem zd_X10_pairs_57 : decode cX10_pairs 57 = .ok (.iconst 0, 1) := by decide +kernel
theorem zd_X10_pairs_58 : decode cX10_pairs 58 = .ok (.iastore, 1) := by decide +kernel
theorem zd_X10_pairs_59 : decode cX10_pairs 59 = .ok (.goto 97, 3) := by decide +kernel
theorem zd_X10_pairs_62 : decode cX10_pairs 62 = .ok (.aload_n 0, 1) := by decide +kernel
theorem zd_X10_pairs_63 : decode cX10_pairs 63 = .ok (.iload_n 1, 1) := by decide +kernel
theorem zd_X10_pairs_64 : decode cX10_pairs 64 = .ok (.iload 5, 2) := by decide +kernel
theorem zd_X10_pairs_66 : decode cX10_pairs 66 = .ok (.iload_n 2, 1) := by decide +kernel
theorem zd_X10_pairs_67 : decode cX10_pairs 67 = .ok (.iload 6, 2) := by decide +kernel
theorem zd_X10_pairs_69 : decode cX10_pairs 69 = .ok (.invokevirtual 141, 3) := by decide +kernel
theorem zd_X10_pairs_72 : decode cX10_pairs 72 = .ok (.ifCond .eq 37, 3) := by decide +kernel
theorem zd_X10_pairs_75 : decode cX10_pairs 75 = .ok (.aload_n 0, 1) := by decide +kernel
theorem zd_X10_pairs_76 : decode cX10_pairs 76 = .ok (.getfield 59, 3) := by decide +kernel
theorem zd_X10_pairs_79 : decode cX10_pairs 79 = .ok (.bipush 25, 2) := by decide +kernel
theorem zd_X10_pairs_81 : decode cX10_pairs 81 = .ok (.iload 5, 2) := by decide +kernel
theorem zd_X10_pairs_83 : decode cX10_pairs 83 = .ok (.imul, 1) := by decide +kernel
theorem zd_X10_pairs_84 : decode cX10_pairs 84 = .ok (.iload 6, 2) := by decide +kernel
theorem zd_X10_pairs_86 : decode cX10_pairs 86 = .ok (.iadd, 1) := by decide +kernel
theorem zd_X10_pairs_87 : decode cX10_pairs 87 = .ok (.aload_n 0, 1) := by decide +kernel
theorem zd_X10_pairs_88 : decode cX10_pairs 88 = .ok (.getfield 59, 3) := by decide +kernel
theorem zd_X10_pairs_91 : decode cX10_pairs 91 = .ok (.bipush 25, 2) := by decide +kernel
theorem zd_X10_pairs_93 : decode cX10_pairs 93 = .ok (.iload 5, 2) := by decide +kernel
theorem zd_X10_pairs_95 : decode cX10_pairs 95 = .ok (.imul, 1) := by decide +kernel
theorem zd_X10_pairs_96 : decode cX10_pairs 96 = .ok (.iload 6, 2) := by decide +kernel
theorem zd_X10_pairs_98 : decode cX10_pairs 98 = .ok (.iadd, 1) := by decide +kernel
theorem zd_X10_pairs_99 : decode cX10_pairs 99 = .ok (.bipush 26, 2) := by decide +kernel
theorem zd_X10_pairs_101 : decode cX10_pairs 101 = .ok (.iadd, 1) := by decide +kernel
theorem zd_X10_pairs_102 : decode cX10_pairs 102 = .ok (.iaload, 1) := by decide +kernel
theorem zd_X10_pairs_103 : decode cX10_pairs 103 = .ok (.iconst 1, 1) := by decide +kernel
theorem zd_X10_pairs_104 : decode cX10_pairs 104 = .ok (.iadd, 1) := by decide +kernel
theorem zd_X10_pairs_105 : decode cX10_pairs 105 = .ok (.iastore, 1) := by decide +kernel
theorem zd_X10_pairs_106 : decode cX10_pairs 106 = .ok (.goto 50, 3) := by decide +kernel
theorem zd_X10_pairs_109 : decode cX10_pairs 109 = .ok (.aload_n 0, 1) := by decide +kernel
theorem zd_X10_pairs_110 : decode cX10_pairs 110 = .ok (.getfield 59, 3) := by decide +kernel
theorem zd_X10_pairs_113 : decode cX10_pairs 113 = .ok (.bipush 25, 2) := by decide +kernel
theorem zd_X10_pairs_115 : decode cX10_pairs 115 = .ok (.iload 5, 2) := by decide +kernel
theorem zd_X10_pairs_117 : decode cX10_pairs 117 = .ok (.imul, 1) := by decide +kernel
theorem zd_X10_pairs_118 : decode cX10_pairs 118 = .ok (.iload 6, 2) := by decide +kernel
theorem zd_X10_pairs_120 : decode cX10_pairs 120 = .ok (.iadd, 1) := by decide +kernel
theorem zd_X10_pairs_121 : decode cX10_pairs 121 = .ok (.aload_n 0, 1) := by decide +kernel
theorem zd_X10_pairs_122 : decode cX10_pairs 122 = .ok (.getfield 59, 3) := by decide +kernel
theorem zd_X10_pairs_125 : decode cX10_pairs 125 = .ok (.bipush 25, 2) := by decide +kernel
theorem zd_X10_pairs_127 : decode cX10_pairs 127 = .ok (.iload 5, 2) := by decide +kernel
theorem zd_X10_pairs_129 : decode cX10_pairs 129 = .ok (.imul, 1) := by decide +kernel
theorem zd_X10_pairs_130 : decode cX10_pairs 130 = .ok (.iload 6, 2) := by decide +kernel
theorem zd_X10_pairs_132 : decode cX10_pairs 132 = .ok (.iadd, 1) := by decide +kernel
theorem zd_X10_pairs_133 : decode cX10_pairs 133 = .ok (.bipush 25, 2) := by decide +kernel
theorem zd_X10_pairs_135 : decode cX10_pairs 135 = .ok (.iadd, 1) := by decide +kernel
theorem zd_X10_pairs_136 : decode cX10_pairs 136 = .ok (.iaload, 1) := by decide +kernel
theorem zd_X10_pairs_137 : decode cX10_pairs 137 = .ok (.aload_n 0, 1) := by decide +kernel
theorem zd_X10_pairs_138 : decode cX10_pairs 138 = .ok (.getfield 59, 3) := by decide +kernel
theorem zd_X10_pairs_141 : decode cX10_pairs 141 = .ok (.bipush 25, 2) := by decide +kernel
theorem zd_X10_pairs_143 : decode cX10_pairs 143 = .ok (.iload 5, 2) := by decide +kernel
theorem zd_X10_pairs_145 : decode cX10_pairs 145 = .ok (.imul, 1) := by decide +kernel
theorem zd_X10_pairs_146 : decode cX10_pairs 146 = .ok (.iload 6, 2) := by decide +kernel
theorem zd_X10_pairs_148 : decode cX10_pairs 148 = .ok (.iadd, 1) := by decide +kernel
theorem zd_X10_pairs_149 : decode cX10_pairs 149 = .ok (.iconst 1, 1) := by decide +kernel
theorem zd_X10_pairs_150 : decode cX10_pairs 150 = .ok (.iadd, 1) := by decide +kernel
theorem zd_X10_pairs_151 : decode cX10_pairs 151 = .ok (.iaload, 1) := by decide +kernel
theorem zd_X10_pairs_152 : decode cX10_pairs 152 = .ok (.invokestatic 145, 3) := by decide +kernel
theorem zd_X10_pairs_155 : decode cX10_pairs 155 = .ok (.iastore, 1) := by decide +kernel
theorem zd_X10_pairs_156 : decode cX10_pairs 156 = .ok (.iinc 6 (-1), 3) := by decide +kernel
theorem zd_X10_pairs_159 : decode cX10_pairs 159 = .ok (.goto (-132), 3) := by decide +kernel
theorem zd_X10_pairs_162 : decode cX10_pairs 162 = .ok (.iinc 5 (-1), 3) := by decide +kernel
theorem zd_X10_pairs_165 : decode cX10_pairs 165 = .ok (.goto (-147), 3) := by decide +kernel
theorem zd_X10_pairs_168 : decode cX10_pairs 168 = .ok (.iconst 0, 1) := by decide +kernel
theorem zd_X10_pairs_169 : decode cX10_pairs 169 = .ok (.istore 5, 2) := by decide +kernel
theorem zd_X10_pairs_171 : decode cX10_pairs 171 = .ok (.iconst 0, 1) := by decide +kernel
theorem zd_X10_pairs_172 : decode cX10_pairs 172 = .ok (.istore 6, 2) := by decide +kernel
theorem zd_X10_pairs_174 : decode cX10_pairs 174 = .ok (.iload 5, 2) := by decide +kernel
theorem zd_X10_pairs_176 : decode cX10_pairs 176 = .ok (.iload_n 3, 1) := by decide +kernel
theorem zd_X10_pairs_177 : decode cX10_pairs 177 = .ok (.if_icmp .ge 105, 3) := by decide +kernel
theorem zd_X10_pairs_180 : decode cX10_pairs 180 = .ok (.iload 6, 2) := by decide +kernel
theorem zd_X10_pairs_182 : decode cX10_pairs 182 = .ok (.iload 4, 2) := by decide +kernel
theorem zd_X10_pairs_184 : decode cX10_pairs 184 = .ok (.if_icmp .ge 98, 3) := by decide +kernel
theorem zd_X10_pairs_187 : decode cX10_pairs 187 = .ok (.aload_n 0, 1) := by decide +kernel
theorem zd_X10_pairs_188 : decode cX10_pairs 188 = .ok (.iload_n 1, 1) := by decide +kernel
theorem zd_X10_pairs_189 : decode cX10_pairs 189 = .ok (.iload 5, 2) := by decide +kernel
theorem zd_X10_pairs_191 : decode cX10_pairs 191 = .ok (.iload_n 2, 1) := by decide +kernel
theorem zd_X10_pairs_192 : decode cX10_pairs 192 = .ok (.iload 6, 2) := by decide +kernel
theorem zd_X10_pairs_194 : decode cX10_pairs 194 = .ok (.invokevirtual 141, 3) := by decide +kernel
theorem zd_X10_pairs_197 : decode cX10_pairs 197 = .ok (.ifCond .eq 39, 3) := by decide +kernel
theorem zd_X10_pairs_200 : decode cX10_pairs 200 = .ok (.aload_n 0, 1) := by decide +kernel
theorem zd_X10_pairs_201 : decode cX10_pairs 201 = .ok (.getfield 62, 3) := by decide +kernel
theorem zd_X10_pairs_204 : decode cX10_pairs 204 = .ok (.iload 5, 2) := by decide +kernel
theorem zd_X10_pairs_206 : decode cX10_pairs 206 = .ok (.iload 6, 2) := by decide +kernel
theorem zd_X10_pairs_208 : decode cX10_pairs 208 = .ok (.iastore, 1) := by decide +kernel
theorem zd_X10_pairs_209 : decode cX10_pairs 209 = .ok (.aload_n 0, 1) := by decide +kernel
theorem zd_X10_pairs_210 : decode cX10_pairs 210 = .ok (.getfield 65, 3) := by decide +kernel
theorem zd_X10_pairs_213 : decode cX10_pairs 213 = .ok (.iload 6, 2) := by decide +kernel
theorem zd_X10_pairs_215 : decode cX10_pairs 215 = .ok (.iconst 1, 1) := by decide +kernel
theorem zd_X10_pairs_216 : decode cX10_pairs 216 = .ok (.bastore, 1) := by decide +kernel
theorem zd_X10_pairs_217 : decode cX10_pairs 217 = .ok (.aload_n 0, 1) := by decide +kernel
theorem zd_X10_pairs_218 : decode cX10_pairs 218 = .ok (.dup, 1) := by decide +kernel
theorem zd_X10_pairs_219 : decode cX10_pairs 219 = .ok (.getfield 150, 3) := by decide +kernel
theorem zd_X10_pairs_222 : decode cX10_pairs 222 = .ok (.iconst 1, 1) := by decide +kernel
theorem zd_X10_pairs_223 : decode cX10_pairs 223 = .ok (.iadd, 1) := by decide +kernel
theorem zd_X10_pairs_224 : decode cX10_pairs 224 = .ok (.putfield 150, 3) := by decide +kernel
theorem zd_X10_pairs_227 : decode cX10_pairs 227 = .ok (.iinc 5 1, 3) := by decide +kernel
theorem zd_X10_pairs_230 : decode cX10_pairs 230 = .ok (.iinc 6 1, 3) := by decide +kernel
theorem zd_X10_pairs_233 : decode cX10_pairs 233 = .ok (.goto (-59), 3) := by decide +kernel
theorem zd_X10_pairs_236 : decode cX10_pairs 236 = .ok (.aload_n 0, 1) := by decide +kernel
theorem zd_X10_pairs_237 : decode cX10_pairs 237 = .ok (.getfield 59, 3) := by decide +kernel
theorem zd_X10_pairs_240 : decode cX10_pairs 240 = .ok (.bipush 25, 2) := by decide +kernel
theorem zd_X10_pairs_242 : decode cX10_pairs 242 = .ok (.iload 5, 2) := by decide +kernel
theorem zd_X10_pairs_244 : decode cX10_pairs 244 = .ok (.imul, 1) := by decide +kernel
theorem zd_X10_pairs_245 : decode cX10_pairs 245 = .ok (.iload 6, 2) := by decide +kernel
theorem zd_X10_pairs_247 : decode cX10_pairs 247 = .ok (.iadd, 1) := by decide +kernel
theorem zd_X10_pairs_248 : decode cX10_pairs 248 = .ok (.bipush 25, 2) := by decide +kernel
theorem zd_X10_pairs_250 : decode cX10_pairs 250 = .ok (.iadd, 1) := by decide +kernel
theorem zd_X10_pairs_251 : decode cX10_pairs 251 = .ok (.iaload, 1) := by decide +kernel
theorem zd_X10_pairs_252 : decode cX10_pairs 252 = .ok (.aload_n 0, 1) := by decide +kernel
theorem zd_X10_pairs_253 : decode cX10_pairs 253 = .ok (.getfield 59, 3) := by decide +kernel
theorem zd_X10_pairs_256 : decode cX10_pairs 256 = .ok (.bipush 25, 2) := by decide +kernel
theorem zd_X10_pairs_258 : decode cX10_pairs 258 = .ok (.iload 5, 2) := by decide +kernel
theorem zd_X10_pairs_260 : decode cX10_pairs 260 = .ok (.imul, 1) := by decide +kernel
theorem zd_X10_pairs_261 : decode cX10_pairs 261 = .ok (.iload 6, 2) := by decide +kernel
theorem zd_X10_pairs_263 : decode cX10_pairs 263 = .ok (.iadd, 1) := by decide +kernel
theorem zd_X10_pairs_264 : decode cX10_pairs 264 = .ok (.iconst 1, 1) := by decide +kernel
theorem zd_X10_pairs_265 : decode cX10_pairs 265 = .ok (.iadd, 1) := by decide +kernel
theorem zd_X10_pairs_266 : decode cX10_pairs 266 = .ok (.iaload, 1) := by decide +kernel
theorem zd_X10_pairs_267 : decode cX10_pairs 267 = .ok (.if_icmp .lt 9, 3) := by decide +kernel
theorem zd_X10_pairs_270 : decode cX10_pairs 270 = .ok (.iinc 5 1, 3) := by decide +kernel
theorem zd_X10_pairs_273 : decode cX10_pairs 273 = .ok (.goto (-99), 3) := by decide +kernel
theorem zd_X10_pairs_276 : decode cX10_pairs 276 = .ok (.iinc 6 1, 3) := by decide +kernel
theorem zd_X10_pairs_279 : decode cX10_pairs 279 = .ok (.goto (-105), 3) := by decide +kernel
theorem zd_X10_pairs_282 : decode cX10_pairs 282 = .ok (.return_, 1) := by decide +kernel
theorem zd_X10_run_0 : decode cX10_run 0 = .ok (.iconst 0, 1) := by decide +kernel
theorem zd_X10_run_1 : decode cX10_run 1 = .ok (.istore 5, 2) := by decide +kernel
theorem zd_X10_run_3 : decode cX10_run 3 = .ok (.iload_n 2, 1) := by decide +kernel
theorem zd_X10_run_4 : decode cX10_run 4 = .ok (.iload 5, 2) := by decide +kernel
theorem zd_X10_run_6 : decode cX10_run 6 = .ok (.iadd, 1) := by decide +kernel
theorem zd_X10_run_7 : decode cX10_run 7 = .ok (.aload_n 0, 1) := by decide +kernel
theorem zd_X10_run_8 : decode cX10_run 8 = .ok (.getfield 13, 3) := by decide +kernel
theorem zd_X10_run_11 : decode cX10_run 11 = .ok (.iload_n 1, 1) := by decide +kernel
theorem zd_X10_run_12 : decode cX10_run 12 = .ok (.iaload, 1) := by decide +kernel
theorem zd_X10_run_13 : decode cX10_run 13 = .ok (.if_icmp .ge 67, 3) := by decide +kernel
theorem zd_X10_run_16 : decode cX10_run 16 = .ok (.iload 4, 2) := by decide +kernel
theorem zd_X10_run_18 : decode cX10_run 18 = .ok (.iload 5, 2) := by decide +kernel
theorem zd_X10_run_20 : decode cX10_run 20 = .ok (.iadd, 1) := by decide +kernel
theorem zd_X10_run_21 : decode cX10_run 21 = .ok (.aload_n 0, 1) := by decide +kernel
theorem zd_X10_run_22 : decode cX10_run 22 = .ok (.getfield 13, 3) := by decide +kernel
theorem zd_X10_run_25 : decode cX10_run 25 = .ok (.iload_n 3, 1) := by decide +kernel
theorem zd_X10_run_26 : decode cX10_run 26 = .ok (.iaload, 1) := by decide +kernel
theorem zd_X10_run_27 : decode cX10_run 27 = .ok (.if_icmp .ge 53, 3) := by decide +kernel
theorem zd_X10_run_30 : decode cX10_run 30 = .ok (.aload_n 0, 1) := by decide +kernel
theorem zd_X10_run_31 : decode cX10_run 31 = .ok (.getfield 62, 3) := by decide +kernel
theorem zd_X10_run_34 : decode cX10_run 34 = .ok (.iload_n 2, 1) := by decide +kernel
theorem zd_X10_run_35 : decode cX10_run 35 = .ok (.iload 5, 2) := by decide +kernel
theorem zd_X10_run_37 : decode cX10_run 37 = .ok (.iadd, 1) := by decide +kernel
theorem zd_X10_run_38 : decode cX10_run 38 = .ok (.iaload, 1) := by decide +kernel
theorem zd_X10_run_39 : decode cX10_run 39 = .ok (.iconst (-1), 1) := by decide +kernel
theorem zd_X10_run_40 : decode cX10_run 40 = .ok (.if_icmp .ne 40, 3) := by decide +kernel
theorem zd_X10_run_43 : decode cX10_run 43 = .ok (.aload_n 0, 1) := by decide +kernel
theorem zd_X10_run_44 : decode cX10_run 44 = .ok (.getfield 65, 3) := by decide +kernel
theorem zd_X10_run_47 : decode cX10_run 47 = .ok (.iload 4, 2) := by decide +kernel
theorem zd_X10_run_49 : decode cX10_run 49 = .ok (.iload 5, 2) := by decide +kernel
theorem zd_X10_run_51 : decode cX10_run 51 = .ok (.iadd, 1) := by decide +kernel
theorem zd_X10_run_52 : decode cX10_run 52 = .ok (.baload, 1) := by decide +kernel
theorem zd_X10_run_53 : decode cX10_run 53 = .ok (.ifCond .ne 27, 3) := by decide +kernel
theorem zd_X10_run_56 : decode cX10_run 56 = .ok (.aload_n 0, 1) := by decide +kernel
theorem zd_X10_run_57 : decode cX10_run 57 = .ok (.iload_n 1, 1) := by decide +kernel
theorem zd_X10_run_58 : decode cX10_run 58 = .ok (.iload_n 2, 1) := by decide +kernel
theorem zd_X10_run_59 : decode cX10_run 59 = .ok (.iload 5, 2) := by decide +kernel
theorem zd_X10_run_61 : decode cX10_run 61 = .ok (.iadd, 1) := by decide +kernel
theorem zd_X10_run_62 : decode cX10_run 62 = .ok (.iload_n 3, 1) := by decide +kernel
theorem zd_X10_run_63 : decode cX10_run 63 = .ok (.iload 4, 2) := by decide +kernel
theorem zd_X10_run_65 : decode cX10_run 65 = .ok (.iload 5, 2) := by decide +kernel
theorem zd_X10_run_67 : decode cX10_run 67 = .ok (.iadd, 1) := by decide +kernel
theorem zd_X10_run_68 : decode cX10_run 68 = .ok (.invokevirtual 141, 3) := by decide +kernel
theorem zd_X10_run_71 : decode cX10_run 71 = .ok (.ifCond .eq 9, 3) := by decide +kernel
theorem zd_X10_run_74 : decode cX10_run 74 = .ok (.iinc 5 1, 3) := by decide +kernel
theorem zd_X10_run_77 : decode cX10_run 77 = .ok (.goto (-74), 3) := by decide +kernel
theorem zd_X10_run_80 : decode cX10_run 80 = .ok (.iload 5, 2) := by decide +kernel
theorem zd_X10_run_82 : decode cX10_run 82 = .ok (.ireturn, 1) := by decide +kernel
theorem zd_X10_moves_0 : decode cX10_moves 0 = .ok (.iconst 0, 1) := by decide +kernel
theorem zd_X10_moves_1 : decode cX10_moves 1 = .ok (.istore_n 3, 1) := by decide +kernel
theorem zd_X10_moves_2 : decode cX10_moves 2 = .ok (.iconst 0, 1) := by decide +kernel
theorem zd_X10_moves_3 : decode cX10_moves 3 = .ok (.istore 4, 2) := by decide +kernel
theorem zd_X10_moves_5 : decode cX10_moves 5 = .ok (.iconst 0, 1) := by decide +kernel
theorem zd_X10_moves_6 : decode cX10_moves 6 = .ok (.istore 5, 2) := by decide +kernel
theorem zd_X10_moves_8 : decode cX10_moves 8 = .ok (.iconst 0, 1) := by decide +kernel
theorem zd_X10_moves_9 : decode cX10_moves 9 = .ok (.istore 6, 2) := by decide +kernel
theorem zd_X10_moves_11 : decode cX10_moves 11 = .ok (.iload 6, 2) := by decide +kernel
theorem zd_X10_moves_13 : decode cX10_moves 13 = .ok (.aload_n 0, 1) := by decide +kernel
theorem zd_X10_moves_14 : decode cX10_moves 14 = .ok (.getfield 13, 3) := by decide +kernel
theorem zd_X10_moves_17 : decode cX10_moves 17 = .ok (.iload_n 1, 1) := by decide +kernel
theorem zd_X10_moves_18 : decode cX10_moves 18 = .ok (.iaload, 1) := by decide +kernel
theorem zd_X10_moves_19 : decode cX10_moves 19 = .ok (.if_icmp .ge 61, 3) := by decide +kernel
theorem zd_X10_moves_22 : decode cX10_moves 22 = .ok (.iconst 0, 1) := by decide +kernel
theorem zd_X10_moves_23 : decode cX10_moves 23 = .ok (.istore 7, 2) := by decide +kernel
theorem zd_X10_moves_25 : decode cX10_moves 25 = .ok (.iload 7, 2) := by decide +kernel
theorem zd_X10_moves_27 : decode cX10_moves 27 = .ok (.aload_n 0, 1) := by decide +kernel
theorem zd_X10_moves_28 : decode cX10_moves 28 = .ok (.getfield 13, 3) := by decide +kernel
theorem zd_X10_moves_31 : decode cX10_moves 31 = .ok (.iload_n 2, 1) := by decide +kernel
theorem zd_X10_moves_32 : decode cX10_moves 32 = .ok (.iaload, 1) := by decide +kernel
theorem zd_X10_moves_33 : decode cX10_moves 33 = .ok (.if_icmp .ge 41, 3) := by decide +kernel
theorem zd_X10_moves_36 : decode cX10_moves 36 = .ok (.aload_n 0, 1) := by decide +kernel
theorem zd_X10_moves_37 : decode cX10_moves 37 = .ok (.iload_n 1, 1) := by decide +kernel
theorem zd_X10_moves_38 : decode cX10_moves 38 = .ok (.iload 6, 2) := by decide +kernel
theorem zd_X10_moves_40 : decode cX10_moves 40 = .ok (.iload_n 2, 1) := by decide +kernel
theorem zd_X10_moves_41 : decode cX10_moves 41 = .ok (.iload 7, 2) := by decide +kernel
theorem zd_X10_moves_43 : decode cX10_moves 43 = .ok (.invokevirtual 153, 3) := by decide +kernel
theorem zd_X10_moves_46 : decode cX10_moves 46 = .ok (.istore 8, 2) := by decide +kernel
theorem zd_X10_moves_48 : decode cX10_moves 48 = .ok (.iload 8, 2) := by decide +kernel
theorem zd_X10_moves_50 : decode cX10_moves 50 = .ok (.iload_n 3, 1) := by decide +kernel
theorem zd_X10_moves_51 : decode cX10_moves 51 = .ok (.if_icmp .gt 6, 3) := by decide +kernel
theorem zd_X10_moves_54 : decode cX10_moves 54 = .ok (.goto 14, 3) := by decide +kernel
theorem zd_X10_moves_57 : decode cX10_moves 57 = .ok (.iload 8, 2) := by decide +kernel
theorem zd_X10_moves_59 : decode cX10_moves 59 = .ok (.istore_n 3, 1) := by decide +kernel
theorem zd_X10_moves_60 : decode cX10_moves 60 = .ok (.iload 6, 2) := by decide +kernel
theorem zd_X10_moves_62 : decode cX10_moves 62 = .ok (.istore 4, 2) := by decide +kernel
theorem zd_X10_moves_64 : decode cX10_moves 64 = .ok (.iload 7, 2) := by decide +kernel
theorem zd_X10_moves_66 : decode cX10_moves 66 = .ok (.istore 5, 2) := by decide +kernel
theorem zd_X10_moves_68 : decode cX10_moves 68 = .ok (.iinc 7 1, 3) := by decide +kernel
theorem zd_X10_moves_71 : decode cX10_moves 71 = .ok (.goto (-46), 3) := by decide +kernel
theorem zd_X10_moves_74 : decode cX10_moves 74 = .ok (.iinc 6 1, 3) := by decide +kernel
theorem zd_X10_moves_77 : decode cX10_moves 77 = .ok (.goto (-66), 3) := by decide +kernel
theorem zd_X10_moves_80 : decode cX10_moves 80 = .ok (.iload_n 3, 1) := by decide +kernel
theorem zd_X10_moves_81 : decode cX10_moves 81 = .ok (.aload_n 0, 1) := by decide +kernel
theorem zd_X10_moves_82 : decode cX10_moves 82 = .ok (.getfield 26, 3) := by decide +kernel
theorem zd_X10_moves_85 : decode cX10_moves 85 = .ok (.iconst 0, 1) := by decide +kernel
theorem zd_X10_moves_86 : decode cX10_moves 86 = .ok (.iaload, 1) := by decide +kernel
theorem zd_X10_moves_87 : decode cX10_moves 87 = .ok (.if_icmp .ge 5, 3) := by decide +kernel
theorem zd_X10_moves_90 : decode cX10_moves 90 = .ok (.iconst 0, 1) := by decide +kernel
theorem zd_X10_moves_91 : decode cX10_moves 91 = .ok (.ireturn, 1) := by decide +kernel
theorem zd_X10_moves_92 : decode cX10_moves 92 = .ok (.iconst 0, 1) := by decide +kernel
theorem zd_X10_moves_93 : decode cX10_moves 93 = .ok (.istore 6, 2) := by decide +kernel
theorem zd_X10_moves_95 : decode cX10_moves 95 = .ok (.iload 6, 2) := by decide +kernel
theorem zd_X10_moves_97 : decode cX10_moves 97 = .ok (.iload_n 3, 1) := by decide +kernel
theorem zd_X10_moves_98 : decode cX10_moves 98 = .ok (.if_icmp .ge 35, 3) := by decide +kernel
theorem zd_X10_moves_101 : decode cX10_moves 101 = .ok (.aload_n 0, 1) := by decide +kernel
theorem zd_X10_moves_102 : decode cX10_moves 102 = .ok (.getfield 62, 3) := by decide +kernel
theorem zd_X10_moves_105 : decode cX10_moves 105 = .ok (.iload 4, 2) := by decide +kernel
theorem zd_X10_moves_107 : decode cX10_moves 107 = .ok (.iload 6, 2) := by decide +kernel
theorem zd_X10_moves_109 : decode cX10_moves 109 = .ok (.iadd, 1) := by decide +kernel
theorem zd_X10_moves_110 : decode cX10_moves 110 = .ok (.iload 5, 2) := by decide +kernel
theorem zd_X10_moves_112 : decode cX10_moves 112 = .ok (.iload 6, 2) := by decide +kernel
theorem zd_X10_moves_114 : decode cX10_moves 114 = .ok (.iadd, 1) := by decide +kernel
theorem zd_X10_moves_115 : decode cX10_moves 115 = .ok (.iastore, 1) := by decide +kernel
theorem zd_X10_moves_116 : decode cX10_moves 116 = .ok (.aload_n 0, 1) := by decide +kernel
theorem zd_X10_moves_117 : decode cX10_moves 117 = .ok (.getfield 65, 3) := by decide +kernel
theorem zd_X10_moves_120 : decode cX10_moves 120 = .ok (.iload 5, 2) := by decide +kernel
theorem zd_X10_moves_122 : decode cX10_moves 122 = .ok (.iload 6, 2) := by decide +kernel
theorem zd_X10_moves_124 : decode cX10_moves 124 = .ok (.iadd, 1) := by decide +kernel
theorem zd_X10_moves_125 : decode cX10_moves 125 = .ok (.iconst 1, 1) := by decide +kernel
theorem zd_X10_moves_126 : decode cX10_moves 126 = .ok (.bastore, 1) := by decide +kernel
theorem zd_X10_moves_127 : decode cX10_moves 127 = .ok (.iinc 6 1, 3) := by decide +kernel
theorem zd_X10_moves_130 : decode cX10_moves 130 = .ok (.goto (-35), 3) := by decide +kernel
theorem zd_X10_moves_133 : decode cX10_moves 133 = .ok (.aload_n 0, 1) := by decide +kernel
theorem zd_X10_moves_134 : decode cX10_moves 134 = .ok (.dup, 1) := by decide +kernel
theorem zd_X10_moves_135 : decode cX10_moves 135 = .ok (.getfield 157, 3) := by decide +kernel
theorem zd_X10_moves_138 : decode cX10_moves 138 = .ok (.iload_n 3, 1) := by decide +kernel
theorem zd_X10_moves_139 : decode cX10_moves 139 = .ok (.iadd, 1) := by decide +kernel
theorem zd_X10_moves_140 : decode cX10_moves 140 = .ok (.putfield 157, 3) := by decide +kernel
theorem zd_X10_moves_143 : decode cX10_moves 143 = .ok (.iconst 1, 1) := by decide +kernel
theorem zd_X10_moves_144 : decode cX10_moves 144 = .ok (.ireturn, 1) := by decide +kernel
theorem zd_X10_places_0 : decode cX10_places 0 = .ok (.aload_n 0, 1) := by decide +kernel
theorem zd_X10_places_1 : decode cX10_places 1 = .ok (.iconst 0, 1) := by decide +kernel
theorem zd_X10_places_2 : decode cX10_places 2 = .ok (.putfield 150, 3) := by decide +kernel
theorem zd_X10_places_5 : decode cX10_places 5 = .ok (.aload_n 0, 1) := by decide +kernel
theorem zd_X10_places_6 : decode cX10_places 6 = .ok (.iconst 0, 1) := by decide +kernel
theorem zd_X10_places_7 : decode cX10_places 7 = .ok (.putfield 157, 3) := by decide +kernel
theorem zd_X10_places_10 : decode cX10_places 10 = .ok (.iconst 0, 1) := by decide +kernel
theorem zd_X10_places_11 : decode cX10_places 11 = .ok (.istore_n 3, 1) := by decide +kernel
theorem zd_X10_places_12 : decode cX10_places 12 = .ok (.iload_n 3, 1) := by decide +kernel
theorem zd_X10_places_13 : decode cX10_places 13 = .ok (.bipush 24, 2) := by decide +kernel
theorem zd_X10_places_15 : decode cX10_places 15 = .ok (.if_icmp .ge 23, 3) := by decide +kernel
theorem zd_X10_places_18 : decode cX10_places 18 = .ok (.aload_n 0, 1) := by decide +kernel
theorem zd_X10_places_19 : decode cX10_places 19 = .ok (.getfield 62, 3) := by decide +kernel
theorem zd_X10_places_22 : decode cX10_places 22 = .ok (.iload_n 3, 1) := by decide +kernel
theorem zd_X10_places_23 : decode cX10_places 23 = .ok (.iconst (-1), 1) := by decide +kernel
theorem zd_X10_places_24 : decode cX10_places 24 = .ok (.iastore, 1) := by decide +kernel
theorem zd_X10_places_25 : decode cX10_places 25 = .ok (.aload_n 0, 1) := by decide +kernel
theorem zd_X10_places_26 : decode cX10_places 26 = .ok (.getfield 65, 3) := by decide +kernel
theorem zd_X10_places_29 : decode cX10_places 29 = .ok (.iload_n 3, 1) := by decide +kernel
theorem zd_X10_places_30 : decode cX10_places 30 = .ok (.iconst 0, 1) := by decide +kernel
theorem zd_X10_places_31 : decode cX10_places 31 = .ok (.bastore, 1) := by decide +kernel
theorem zd_X10_places_32 : decode cX10_places 32 = .ok (.iinc 3 1, 3) := by decide +kernel
theorem zd_X10_places_35 : decode cX10_places 35 = .ok (.goto (-23), 3) := by decide +kernel
theorem zd_X10_places_38 : decode cX10_places 38 = .ok (.aload_n 0, 1) := by decide +kernel
theorem zd_X10_places_39 : decode cX10_places 39 = .ok (.iload_n 1, 1) := by decide +kernel
theorem zd_X10_places_40 : decode cX10_places 40 = .ok (.iload_n 2, 1) := by decide +kernel
theorem zd_X10_places_41 : decode cX10_places 41 = .ok (.invokevirtual 160, 3) := by decide +kernel
theorem zd_X10_places_44 : decode cX10_places 44 = .ok (.iconst 1, 1) := by decide +kernel
theorem zd_X10_places_45 : decode cX10_places 45 = .ok (.istore_n 3, 1) := by decide +kernel
theorem zd_X10_places_46 : decode cX10_places 46 = .ok (.iload_n 3, 1) := by decide +kernel
theorem zd_X10_places_47 : decode cX10_places 47 = .ok (.ifCond .eq 13, 3) := by decide +kernel
theorem zd_X10_places_50 : decode cX10_places 50 = .ok (.aload_n 0, 1) := by decide +kernel
theorem zd_X10_places_51 : decode cX10_places 51 = .ok (.iload_n 1, 1) := by decide +kernel
theorem zd_X10_places_52 : decode cX10_places 52 = .ok (.iload_n 2, 1) := by decide +kernel
theorem zd_X10_places_53 : decode cX10_places 53 = .ok (.invokevirtual 163, 3) := by decide +kernel
theorem zd_X10_places_56 : decode cX10_places 56 = .ok (.istore_n 3, 1) := by decide +kernel
theorem zd_X10_places_57 : decode cX10_places 57 = .ok (.goto (-11), 3) := by decide +kernel
theorem zd_X10_places_60 : decode cX10_places 60 = .ok (.return_, 1) := by decide +kernel
theorem zd_X10_learns_0 : decode cX10_learns 0 = .ok (.aload_n 0, 1) := by decide +kernel
theorem zd_X10_learns_1 : decode cX10_learns 1 = .ok (.getfield 7, 3) := by decide +kernel
theorem zd_X10_learns_4 : decode cX10_learns 4 = .ok (.iload_n 1, 1) := by decide +kernel
theorem zd_X10_learns_5 : decode cX10_learns 5 = .ok (.iaload, 1) := by decide +kernel
theorem zd_X10_learns_6 : decode cX10_learns 6 = .ok (.iconst (-1), 1) := by decide +kernel
theorem zd_X10_learns_7 : decode cX10_learns 7 = .ok (.if_icmp .ne 4, 3) := by decide +kernel
theorem zd_X10_learns_10 : decode cX10_learns 10 = .ok (.return_, 1) := by decide +kernel
theorem zd_X10_learns_11 : decode cX10_learns 11 = .ok (.aload_n 0, 1) := by decide +kernel
theorem zd_X10_learns_12 : decode cX10_learns 12 = .ok (.aload_n 0, 1) := by decide +kernel
theorem zd_X10_learns_13 : decode cX10_learns 13 = .ok (.getfield 7, 3) := by decide +kernel
theorem zd_X10_learns_16 : decode cX10_learns 16 = .ok (.iload_n 1, 1) := by decide +kernel
theorem zd_X10_learns_17 : decode cX10_learns 17 = .ok (.iaload, 1) := by decide +kernel
theorem zd_X10_learns_18 : decode cX10_learns 18 = .ok (.iload_n 1, 1) := by decide +kernel
theorem zd_X10_learns_19 : decode cX10_learns 19 = .ok (.invokevirtual 166, 3) := by decide +kernel
theorem zd_X10_learns_22 : decode cX10_learns 22 = .ok (.iconst 0, 1) := by decide +kernel
theorem zd_X10_learns_23 : decode cX10_learns 23 = .ok (.istore_n 2, 1) := by decide +kernel
theorem zd_X10_learns_24 : decode cX10_learns 24 = .ok (.iload_n 2, 1) := by decide +kernel
theorem zd_X10_learns_25 : decode cX10_learns 25 = .ok (.bipush 24, 2) := by decide +kernel
theorem zd_X10_learns_27 : decode cX10_learns 27 = .ok (.if_icmp .ge 26, 3) := by decide +kernel
theorem zd_X10_learns_30 : decode cX10_learns 30 = .ok (.aload_n 0, 1) := by decide +kernel
theorem zd_X10_learns_31 : decode cX10_learns 31 = .ok (.getfield 20, 3) := by decide +kernel
theorem zd_X10_learns_34 : decode cX10_learns 34 = .ok (.bipush 24, 2) := by decide +kernel
theorem zd_X10_learns_36 : decode cX10_learns 36 = .ok (.iload_n 1, 1) := by decide +kernel
theorem zd_X10_learns_37 : decode cX10_learns 37 = .ok (.imul, 1) := by decide +kernel
theorem zd_X10_learns_38 : decode cX10_learns 38 = .ok (.iload_n 2, 1) := by decide +kernel
theorem zd_X10_learns_39 : decode cX10_learns 39 = .ok (.iadd, 1) := by decide +kernel
theorem zd_X10_learns_40 : decode cX10_learns 40 = .ok (.aload_n 0, 1) := by decide +kernel
theorem zd_X10_learns_41 : decode cX10_learns 41 = .ok (.getfield 62, 3) := by decide +kernel
theorem zd_X10_learns_44 : decode cX10_learns 44 = .ok (.iload_n 2, 1) := by decide +kernel
theorem zd_X10_learns_45 : decode cX10_learns 45 = .ok (.iaload, 1) := by decide +kernel
theorem zd_X10_learns_46 : decode cX10_learns 46 = .ok (.iastore, 1) := by decide +kernel
theorem zd_X10_learns_47 : decode cX10_learns 47 = .ok (.iinc 2 1, 3) := by decide +kernel
theorem zd_X10_learns_50 : decode cX10_learns 50 = .ok (.goto (-26), 3) := by decide +kernel
theorem zd_X10_learns_53 : decode cX10_learns 53 = .ok (.return_, 1) := by decide +kernel
theorem zd_X10_comesTo_0 : decode cX10_comesTo 0 = .ok (.aload_n 0, 1) := by decide +kernel
theorem zd_X10_comesTo_1 : decode cX10_comesTo 1 = .ok (.getfield 7, 3) := by decide +kernel
theorem zd_X10_comesTo_4 : decode cX10_comesTo 4 = .ok (.aload_n 0, 1) := by decide +kernel
theorem zd_X10_comesTo_5 : decode cX10_comesTo 5 = .ok (.getfield 86, 3) := by decide +kernel
theorem zd_X10_comesTo_8 : decode cX10_comesTo 8 = .ok (.iload_n 1, 1) := by decide +kernel
theorem zd_X10_comesTo_9 : decode cX10_comesTo 9 = .ok (.iastore, 1) := by decide +kernel
theorem zd_X10_comesTo_10 : decode cX10_comesTo 10 = .ok (.aload_n 0, 1) := by decide +kernel
theorem zd_X10_comesTo_11 : decode cX10_comesTo 11 = .ok (.aload_n 0, 1) := by decide +kernel
theorem zd_X10_comesTo_12 : decode cX10_comesTo 12 = .ok (.getfield 86, 3) := by decide +kernel
theorem zd_X10_comesTo_15 : decode cX10_comesTo 15 = .ok (.invokevirtual 120, 3) := by decide +kernel
theorem zd_X10_comesTo_18 : decode cX10_comesTo 18 = .ok (.aload_n 0, 1) := by decide +kernel
theorem zd_X10_comesTo_19 : decode cX10_comesTo 19 = .ok (.dup, 1) := by decide +kernel
theorem zd_X10_comesTo_20 : decode cX10_comesTo 20 = .ok (.getfield 86, 3) := by decide +kernel
theorem zd_X10_comesTo_23 : decode cX10_comesTo 23 = .ok (.dup_x1, 1) := by decide +kernel
theorem zd_X10_comesTo_24 : decode cX10_comesTo 24 = .ok (.iconst 1, 1) := by decide +kernel
theorem zd_X10_comesTo_25 : decode cX10_comesTo 25 = .ok (.iadd, 1) := by decide +kernel
theorem zd_X10_comesTo_26 : decode cX10_comesTo 26 = .ok (.putfield 86, 3) := by decide +kernel
theorem zd_X10_comesTo_29 : decode cX10_comesTo 29 = .ok (.ireturn, 1) := by decide +kernel
theorem zd_X10_revise_0 : decode cX10_revise 0 = .ok (.aload_n 0, 1) := by decide +kernel
theorem zd_X10_revise_1 : decode cX10_revise 1 = .ok (.iload_n 1, 1) := by decide +kernel
theorem zd_X10_revise_2 : decode cX10_revise 2 = .ok (.invokevirtual 100, 3) := by decide +kernel
theorem zd_X10_revise_5 : decode cX10_revise 5 = .ok (.istore_n 3, 1) := by decide +kernel
theorem zd_X10_revise_6 : decode cX10_revise 6 = .ok (.iload_n 3, 1) := by decide +kernel
theorem zd_X10_revise_7 : decode cX10_revise 7 = .ok (.iconst (-1), 1) := by decide +kernel
theorem zd_X10_revise_8 : decode cX10_revise 8 = .ok (.if_icmp .eq 16, 3) := by decide +kernel
theorem zd_X10_revise_11 : decode cX10_revise 11 = .ok (.iload_n 2, 1) := by decide +kernel
theorem zd_X10_revise_12 : decode cX10_revise 12 = .ok (.iconst (-1), 1) := by decide +kernel
theorem zd_X10_revise_13 : decode cX10_revise 13 = .ok (.if_icmp .eq 17, 3) := by decide +kernel
theorem zd_X10_revise_16 : decode cX10_revise 16 = .ok (.aload_n 0, 1) := by decide +kernel
theorem zd_X10_revise_17 : decode cX10_revise 17 = .ok (.iload_n 2, 1) := by decide +kernel
theorem zd_X10_revise_18 : decode cX10_revise 18 = .ok (.invokevirtual 124, 3) := by decide +kernel
theorem zd_X10_revise_21 : decode cX10_revise 21 = .ok (.ifCond .ne 9, 3) := by decide +kernel
theorem zd_X10_revise_24 : decode cX10_revise 24 = .ok (.aload_n 0, 1) := by decide +kernel
theorem zd_X10_revise_25 : decode cX10_revise 25 = .ok (.iconst (-1), 1) := by decide +kernel
theorem zd_X10_revise_26 : decode cX10_revise 26 = .ok (.invokevirtual 82, 3) := by decide +kernel
theorem zd_X10_revise_29 : decode cX10_revise 29 = .ok (.ireturn, 1) := by decide +kernel
theorem zd_X10_revise_30 : decode cX10_revise 30 = .ok (.iload_n 3, 1) := by decide +kernel
theorem zd_X10_revise_31 : decode cX10_revise 31 = .ok (.ifCond .ge 9, 3) := by decide +kernel
theorem zd_X10_revise_34 : decode cX10_revise 34 = .ok (.aload_n 0, 1) := by decide +kernel
theorem zd_X10_revise_35 : decode cX10_revise 35 = .ok (.iload_n 3, 1) := by decide +kernel
theorem zd_X10_revise_36 : decode cX10_revise 36 = .ok (.invokevirtual 82, 3) := by decide +kernel
theorem zd_X10_revise_39 : decode cX10_revise 39 = .ok (.ireturn, 1) := by decide +kernel
theorem zd_X10_revise_40 : decode cX10_revise 40 = .ok (.aload_n 0, 1) := by decide +kernel
theorem zd_X10_revise_41 : decode cX10_revise 41 = .ok (.aload_n 0, 1) := by decide +kernel
theorem zd_X10_revise_42 : decode cX10_revise 42 = .ok (.iload_n 1, 1) := by decide +kernel
theorem zd_X10_revise_43 : decode cX10_revise 43 = .ok (.invokevirtual 127, 3) := by decide +kernel
theorem zd_X10_revise_46 : decode cX10_revise 46 = .ok (.putfield 79, 3) := by decide +kernel
theorem zd_X10_revise_49 : decode cX10_revise 49 = .ok (.aload_n 0, 1) := by decide +kernel
theorem zd_X10_revise_50 : decode cX10_revise 50 = .ok (.getfield 79, 3) := by decide +kernel
theorem zd_X10_revise_53 : decode cX10_revise 53 = .ok (.iconst (-1), 1) := by decide +kernel
theorem zd_X10_revise_54 : decode cX10_revise 54 = .ok (.if_icmp .eq 10, 3) := by decide +kernel
theorem zd_X10_revise_57 : decode cX10_revise 57 = .ok (.aload_n 0, 1) := by decide +kernel
theorem zd_X10_revise_58 : decode cX10_revise 58 = .ok (.bipush (-6), 2) := by decide +kernel
theorem zd_X10_revise_60 : decode cX10_revise 60 = .ok (.invokevirtual 82, 3) := by decide +kernel
theorem zd_X10_revise_63 : decode cX10_revise 63 = .ok (.ireturn, 1) := by decide +kernel
theorem zd_X10_revise_64 : decode cX10_revise 64 = .ok (.aload_n 0, 1) := by decide +kernel
theorem zd_X10_revise_65 : decode cX10_revise 65 = .ok (.getfield 86, 3) := by decide +kernel
theorem zd_X10_revise_68 : decode cX10_revise 68 = .ok (.bipush 16, 2) := by decide +kernel
theorem zd_X10_revise_70 : decode cX10_revise 70 = .ok (.if_icmp .ne 10, 3) := by decide +kernel
theorem zd_X10_revise_73 : decode cX10_revise 73 = .ok (.aload_n 0, 1) := by decide +kernel
theorem zd_X10_revise_74 : decode cX10_revise 74 = .ok (.bipush (-7), 2) := by decide +kernel
theorem zd_X10_revise_76 : decode cX10_revise 76 = .ok (.invokevirtual 82, 3) := by decide +kernel
theorem zd_X10_revise_79 : decode cX10_revise 79 = .ok (.ireturn, 1) := by decide +kernel
theorem zd_X10_revise_80 : decode cX10_revise 80 = .ok (.aload_n 0, 1) := by decide +kernel
theorem zd_X10_revise_81 : decode cX10_revise 81 = .ok (.iload_n 2, 1) := by decide +kernel
theorem zd_X10_revise_82 : decode cX10_revise 82 = .ok (.invokevirtual 130, 3) := by decide +kernel
theorem zd_X10_revise_85 : decode cX10_revise 85 = .ok (.ireturn, 1) := by decide +kernel
theorem zd_X10_fault_0 : decode cX10_fault 0 = .ok (.aload_n 0, 1) := by decide +kernel
theorem zd_X10_fault_1 : decode cX10_fault 1 = .ok (.getfield 79, 3) := by decide +kernel
theorem zd_X10_fault_4 : decode cX10_fault 4 = .ok (.ireturn, 1) := by decide +kernel
theorem zd_X10_lines_0 : decode cX10_lines 0 = .ok (.aload_n 0, 1) := by decide +kernel
theorem zd_X10_lines_1 : decode cX10_lines 1 = .ok (.iload_n 1, 1) := by decide +kernel
theorem zd_X10_lines_2 : decode cX10_lines 2 = .ok (.invokevirtual 124, 3) := by decide +kernel
theorem zd_X10_lines_5 : decode cX10_lines 5 = .ok (.ifCond .eq 12, 3) := by decide +kernel
theorem zd_X10_lines_8 : decode cX10_lines 8 = .ok (.aload_n 0, 1) := by decide +kernel
theorem zd_X10_lines_9 : decode cX10_lines 9 = .ok (.getfield 13, 3) := by decide +kernel
theorem zd_X10_lines_12 : decode cX10_lines 12 = .ok (.iload_n 1, 1) := by decide +kernel
theorem zd_X10_lines_13 : decode cX10_lines 13 = .ok (.iaload, 1) := by decide +kernel
theorem zd_X10_lines_14 : decode cX10_lines 14 = .ok (.goto 8, 3) := by decide +kernel
theorem zd_X10_lines_17 : decode cX10_lines 17 = .ok (.aload_n 0, 1) := by decide +kernel
theorem zd_X10_lines_18 : decode cX10_lines 18 = .ok (.iconst (-1), 1) := by decide +kernel
theorem zd_X10_lines_19 : decode cX10_lines 19 = .ok (.invokevirtual 82, 3) := by decide +kernel
theorem zd_X10_lines_22 : decode cX10_lines 22 = .ok (.ireturn, 1) := by decide +kernel
theorem zd_X10_letter_0 : decode cX10_letter 0 = .ok (.aload_n 0, 1) := by decide +kernel
theorem zd_X10_letter_1 : decode cX10_letter 1 = .ok (.iload_n 1, 1) := by decide +kernel
theorem zd_X10_letter_2 : decode cX10_letter 2 = .ok (.invokevirtual 124, 3) := by decide +kernel
theorem zd_X10_letter_5 : decode cX10_letter 5 = .ok (.ifCond .ne 9, 3) := by decide +kernel
theorem zd_X10_letter_8 : decode cX10_letter 8 = .ok (.aload_n 0, 1) := by decide +kernel
theorem zd_X10_letter_9 : decode cX10_letter 9 = .ok (.iconst (-1), 1) := by decide +kernel
theorem zd_X10_letter_10 : decode cX10_letter 10 = .ok (.invokevirtual 82, 3) := by decide +kernel
theorem zd_X10_letter_13 : decode cX10_letter 13 = .ok (.ireturn, 1) := by decide +kernel
theorem zd_X10_letter_14 : decode cX10_letter 14 = .ok (.aload_n 0, 1) := by decide +kernel
theorem zd_X10_letter_15 : decode cX10_letter 15 = .ok (.iload_n 1, 1) := by decide +kernel
theorem zd_X10_letter_16 : decode cX10_letter 16 = .ok (.iload_n 2, 1) := by decide +kernel
theorem zd_X10_letter_17 : decode cX10_letter 17 = .ok (.invokevirtual 133, 3) := by decide +kernel
theorem zd_X10_letter_20 : decode cX10_letter 20 = .ok (.ifCond .eq 13, 3) := by decide +kernel
theorem zd_X10_letter_23 : decode cX10_letter 23 = .ok (.iload_n 3, 1) := by decide +kernel
theorem zd_X10_letter_24 : decode cX10_letter 24 = .ok (.iconst 0, 1) := by decide +kernel
theorem zd_X10_letter_25 : decode cX10_letter 25 = .ok (.bipush 8, 2) := by decide +kernel
theorem zd_X10_letter_27 : decode cX10_letter 27 = .ok (.invokestatic 89, 3) := by decide +kernel
theorem zd_X10_letter_30 : decode cX10_letter 30 = .ok (.ifCond .ne 10, 3) := by decide +kernel
theorem zd_X10_letter_33 : decode cX10_letter 33 = .ok (.aload_n 0, 1) := by decide +kernel
theorem zd_X10_letter_34 : decode cX10_letter 34 = .ok (.bipush (-5), 2) := by decide +kernel
theorem zd_X10_letter_36 : decode cX10_letter 36 = .ok (.invokevirtual 82, 3) := by decide +kernel
theorem zd_X10_letter_39 : decode cX10_letter 39 = .ok (.ireturn, 1) := by decide +kernel
theorem zd_X10_letter_40 : decode cX10_letter 40 = .ok (.iload_n 3, 1) := by decide +kernel
theorem zd_X10_letter_41 : decode cX10_letter 41 = .ok (.bipush 8, 2) := by decide +kernel
theorem zd_X10_letter_43 : decode cX10_letter 43 = .ok (.if_icmp .ne 7, 3) := by decide +kernel
theorem zd_X10_letter_46 : decode cX10_letter 46 = .ok (.iconst 0, 1) := by decide +kernel
theorem zd_X10_letter_47 : decode cX10_letter 47 = .ok (.goto 24, 3) := by decide +kernel
theorem zd_X10_letter_50 : decode cX10_letter 50 = .ok (.aload_n 0, 1) := by decide +kernel
theorem zd_X10_letter_51 : decode cX10_letter 51 = .ok (.getfield 16, 3) := by decide +kernel
theorem zd_X10_letter_54 : decode cX10_letter 54 = .ok (.bipush 24, 2) := by decide +kernel
theorem zd_X10_letter_56 : decode cX10_letter 56 = .ok (.iload_n 1, 1) := by decide +kernel
theorem zd_X10_letter_57 : decode cX10_letter 57 = .ok (.imul, 1) := by decide +kernel
theorem zd_X10_letter_58 : decode cX10_letter 58 = .ok (.iload_n 2, 1) := by decide +kernel
theorem zd_X10_letter_59 : decode cX10_letter 59 = .ok (.iadd, 1) := by decide +kernel
theorem zd_X10_letter_60 : decode cX10_letter 60 = .ok (.laload, 1) := by decide +kernel
theorem zd_X10_letter_61 : decode cX10_letter 61 = .ok (.bipush 8, 2) := by decide +kernel
theorem zd_X10_letter_63 : decode cX10_letter 63 = .ok (.iload_n 3, 1) := by decide +kernel
theorem zd_X10_letter_64 : decode cX10_letter 64 = .ok (.imul, 1) := by decide +kernel
theorem zd_X10_letter_65 : decode cX10_letter 65 = .ok (.lushr, 1) := by decide +kernel
theorem zd_X10_letter_66 : decode cX10_letter 66 = .ok (.ldc2_w 136, 3) := by decide +kernel
theorem zd_X10_letter_69 : decode cX10_letter 69 = .ok (.land, 1) := by decide +kernel
theorem zd_X10_letter_70 : decode cX10_letter 70 = .ok (.l2i, 1) := by decide +kernel
theorem zd_X10_letter_71 : decode cX10_letter 71 = .ok (.ireturn, 1) := by decide +kernel
theorem zd_X10_former_0 : decode cX10_former 0 = .ok (.aload_n 0, 1) := by decide +kernel
theorem zd_X10_former_1 : decode cX10_former 1 = .ok (.iload_n 1, 1) := by decide +kernel
theorem zd_X10_former_2 : decode cX10_former 2 = .ok (.invokevirtual 124, 3) := by decide +kernel
theorem zd_X10_former_5 : decode cX10_former 5 = .ok (.ifCond .eq 12, 3) := by decide +kernel
theorem zd_X10_former_8 : decode cX10_former 8 = .ok (.aload_n 0, 1) := by decide +kernel
theorem zd_X10_former_9 : decode cX10_former 9 = .ok (.getfield 7, 3) := by decide +kernel
theorem zd_X10_former_12 : decode cX10_former 12 = .ok (.iload_n 1, 1) := by decide +kernel
theorem zd_X10_former_13 : decode cX10_former 13 = .ok (.iaload, 1) := by decide +kernel
theorem zd_X10_former_14 : decode cX10_former 14 = .ok (.goto 8, 3) := by decide +kernel
theorem zd_X10_former_17 : decode cX10_former 17 = .ok (.aload_n 0, 1) := by decide +kernel
theorem zd_X10_former_18 : decode cX10_former 18 = .ok (.iconst (-1), 1) := by decide +kernel
theorem zd_X10_former_19 : decode cX10_former 19 = .ok (.invokevirtual 138, 3) := by decide +kernel
theorem zd_X10_former_22 : decode cX10_former 22 = .ok (.ireturn, 1) := by decide +kernel
theorem zd_X10_rule_0 : decode cX10_rule 0 = .ok (.iload_n 1, 1) := by decide +kernel
theorem zd_X10_rule_1 : decode cX10_rule 1 = .ok (.iconst 0, 1) := by decide +kernel
theorem zd_X10_rule_2 : decode cX10_rule 2 = .ok (.iconst 2, 1) := by decide +kernel
theorem zd_X10_rule_3 : decode cX10_rule 3 = .ok (.invokestatic 89, 3) := by decide +kernel
theorem zd_X10_rule_6 : decode cX10_rule 6 = .ok (.ifCond .eq 40, 3) := by decide +kernel
theorem zd_X10_rule_9 : decode cX10_rule 9 = .ok (.iload_n 2, 1) := by decide +kernel
theorem zd_X10_rule_10 : decode cX10_rule 10 = .ok (.iload_n 1, 1) := by decide +kernel
theorem zd_X10_rule_11 : decode cX10_rule 11 = .ok (.ifCond .ne 7, 3) := by decide +kernel
theorem zd_X10_rule_14 : decode cX10_rule 14 = .ok (.iconst 1, 1) := by decide +kernel
theorem zd_X10_rule_15 : decode cX10_rule 15 = .ok (.goto 4, 3) := by decide +kernel
theorem zd_X10_rule_18 : decode cX10_rule 18 = .ok (.iconst 0, 1) := by decide +kernel
theorem zd_X10_rule_19 : decode cX10_rule 19 = .ok (.iload_n 1, 1) := by decide +kernel
theorem zd_X10_rule_20 : decode cX10_rule 20 = .ok (.ifCond .ne 8, 3) := by decide +kernel
theorem zd_X10_rule_23 : decode cX10_rule 23 = .ok (.bipush 9, 2) := by decide +kernel
theorem zd_X10_rule_25 : decode cX10_rule 25 = .ok (.goto 15, 3) := by decide +kernel
theorem zd_X10_rule_28 : decode cX10_rule 28 = .ok (.iload_n 1, 1) := by decide +kernel
theorem zd_X10_rule_29 : decode cX10_rule 29 = .ok (.iconst 1, 1) := by decide +kernel
theorem zd_X10_rule_30 : decode cX10_rule 30 = .ok (.if_icmp .ne 8, 3) := by decide +kernel
theorem zd_X10_rule_33 : decode cX10_rule 33 = .ok (.bipush 99, 2) := by decide +kernel
theorem zd_X10_rule_35 : decode cX10_rule 35 = .ok (.goto 5, 3) := by decide +kernel
theorem zd_X10_rule_38 : decode cX10_rule 38 = .ok (.bipush 20, 2) := by decide +kernel
theorem zd_X10_rule_40 : decode cX10_rule 40 = .ok (.invokestatic 89, 3) := by decide +kernel
theorem zd_X10_rule_43 : decode cX10_rule 43 = .ok (.ifCond .ne 10, 3) := by decide +kernel
theorem zd_X10_rule_46 : decode cX10_rule 46 = .ok (.aload_n 0, 1) := by decide +kernel
theorem zd_X10_rule_47 : decode cX10_rule 47 = .ok (.bipush (-6), 2) := by decide +kernel
theorem zd_X10_rule_49 : decode cX10_rule 49 = .ok (.invokevirtual 82, 3) := by decide +kernel
theorem zd_X10_rule_52 : decode cX10_rule 52 = .ok (.ireturn, 1) := by decide +kernel
theorem zd_X10_rule_53 : decode cX10_rule 53 = .ok (.aload_n 0, 1) := by decide +kernel
theorem zd_X10_rule_54 : decode cX10_rule 54 = .ok (.getfield 26, 3) := by decide +kernel
theorem zd_X10_rule_57 : decode cX10_rule 57 = .ok (.iload_n 1, 1) := by decide +kernel
theorem zd_X10_rule_58 : decode cX10_rule 58 = .ok (.iaload, 1) := by decide +kernel
theorem zd_X10_rule_59 : decode cX10_rule 59 = .ok (.istore_n 3, 1) := by decide +kernel
theorem zd_X10_rule_60 : decode cX10_rule 60 = .ok (.aload_n 0, 1) := by decide +kernel
theorem zd_X10_rule_61 : decode cX10_rule 61 = .ok (.getfield 26, 3) := by decide +kernel
theorem zd_X10_rule_64 : decode cX10_rule 64 = .ok (.iload_n 1, 1) := by decide +kernel
theorem zd_X10_rule_65 : decode cX10_rule 65 = .ok (.iload_n 2, 1) := by decide +kernel
theorem zd_X10_rule_66 : decode cX10_rule 66 = .ok (.iastore, 1) := by decide +kernel
theorem zd_X10_rule_67 : decode cX10_rule 67 = .ok (.iload_n 1, 1) := by decide +kernel
theorem zd_X10_rule_68 : decode cX10_rule 68 = .ok (.ifCond .ne 27, 3) := by decide +kernel
theorem zd_X10_rule_71 : decode cX10_rule 71 = .ok (.iconst 0, 1) := by decide +kernel
theorem zd_X10_rule_72 : decode cX10_rule 72 = .ok (.istore 4, 2) := by decide +kernel
theorem zd_X10_rule_74 : decode cX10_rule 74 = .ok (.iload 4, 2) := by decide +kernel
theorem zd_X10_rule_76 : decode cX10_rule 76 = .ok (.aload_n 0, 1) := by decide +kernel
theorem zd_X10_rule_77 : decode cX10_rule 77 = .ok (.getfield 86, 3) := by decide +kernel
theorem zd_X10_rule_80 : decode cX10_rule 80 = .ok (.if_icmp .ge 15, 3) := by decide +kernel
theorem zd_X10_rule_83 : decode cX10_rule 83 = .ok (.aload_n 0, 1) := by decide +kernel
theorem zd_X10_rule_84 : decode cX10_rule 84 = .ok (.iload 4, 2) := by decide +kernel
theorem zd_X10_rule_86 : decode cX10_rule 86 = .ok (.invokevirtual 120, 3) := by decide +kernel
theorem zd_X10_rule_89 : decode cX10_rule 89 = .ok (.iinc 4 1, 3) := by decide +kernel
theorem zd_X10_rule_92 : decode cX10_rule 92 = .ok (.goto (-18), 3) := by decide +kernel
theorem zd_X10_rule_95 : decode cX10_rule 95 = .ok (.iload_n 3, 1) := by decide +kernel
theorem zd_X10_rule_96 : decode cX10_rule 96 = .ok (.ireturn, 1) := by decide +kernel
theorem zd_X10_place_0 : decode cX10_place 0 = .ok (.aload_n 0, 1) := by decide +kernel
theorem zd_X10_place_1 : decode cX10_place 1 = .ok (.iload_n 1, 1) := by decide +kernel
theorem zd_X10_place_2 : decode cX10_place 2 = .ok (.invokevirtual 124, 3) := by decide +kernel
theorem zd_X10_place_5 : decode cX10_place 5 = .ok (.ifCond .eq 11, 3) := by decide +kernel
theorem zd_X10_place_8 : decode cX10_place 8 = .ok (.aload_n 0, 1) := by decide +kernel
theorem zd_X10_place_9 : decode cX10_place 9 = .ok (.iload_n 2, 1) := by decide +kernel
theorem zd_X10_place_10 : decode cX10_place 10 = .ok (.invokevirtual 124, 3) := by decide +kernel
theorem zd_X10_place_13 : decode cX10_place 13 = .ok (.ifCond .ne 9, 3) := by decide +kernel
theorem zd_X10_place_16 : decode cX10_place 16 = .ok (.aload_n 0, 1) := by decide +kernel
theorem zd_X10_place_17 : decode cX10_place 17 = .ok (.iconst (-1), 1) := by decide +kernel
theorem zd_X10_place_18 : decode cX10_place 18 = .ok (.invokevirtual 138, 3) := by decide +kernel
theorem zd_X10_place_21 : decode cX10_place 21 = .ok (.ireturn, 1) := by decide +kernel
theorem zd_X10_place_22 : decode cX10_place 22 = .ok (.aload_n 0, 1) := by decide +kernel
theorem zd_X10_place_23 : decode cX10_place 23 = .ok (.iload_n 1, 1) := by decide +kernel
theorem zd_X10_place_24 : decode cX10_place 24 = .ok (.iload_n 3, 1) := by decide +kernel
theorem zd_X10_place_25 : decode cX10_place 25 = .ok (.invokevirtual 133, 3) := by decide +kernel
theorem zd_X10_place_28 : decode cX10_place 28 = .ok (.ifCond .ne 10, 3) := by decide +kernel
theorem zd_X10_place_31 : decode cX10_place 31 = .ok (.aload_n 0, 1) := by decide +kernel
theorem zd_X10_place_32 : decode cX10_place 32 = .ok (.bipush (-5), 2) := by decide +kernel
theorem zd_X10_place_34 : decode cX10_place 34 = .ok (.invokevirtual 138, 3) := by decide +kernel
theorem zd_X10_place_37 : decode cX10_place 37 = .ok (.ireturn, 1) := by decide +kernel
theorem zd_X10_place_38 : decode cX10_place 38 = .ok (.aload_n 0, 1) := by decide +kernel
theorem zd_X10_place_39 : decode cX10_place 39 = .ok (.iload_n 1, 1) := by decide +kernel
theorem zd_X10_place_40 : decode cX10_place 40 = .ok (.iload_n 2, 1) := by decide +kernel
theorem zd_X10_place_41 : decode cX10_place 41 = .ok (.invokevirtual 166, 3) := by decide +kernel
theorem zd_X10_place_44 : decode cX10_place 44 = .ok (.aload_n 0, 1) := by decide +kernel
theorem zd_X10_place_45 : decode cX10_place 45 = .ok (.getfield 62, 3) := by decide +kernel
theorem zd_X10_place_48 : decode cX10_place 48 = .ok (.iload_n 3, 1) := by decide +kernel
theorem zd_X10_place_49 : decode cX10_place 49 = .ok (.iaload, 1) := by decide +kernel
theorem zd_X10_place_50 : decode cX10_place 50 = .ok (.ireturn, 1) := by decide +kernel
theorem zd_X10_matched_0 : decode cX10_matched 0 = .ok (.aload_n 0, 1) := by decide +kernel
theorem zd_X10_matched_1 : decode cX10_matched 1 = .ok (.iload_n 1, 1) := by decide +kernel
theorem zd_X10_matched_2 : decode cX10_matched 2 = .ok (.invokevirtual 124, 3) := by decide +kernel
theorem zd_X10_matched_5 : decode cX10_matched 5 = .ok (.ifCond .eq 11, 3) := by decide +kernel
theorem zd_X10_matched_8 : decode cX10_matched 8 = .ok (.aload_n 0, 1) := by decide +kernel
theorem zd_X10_matched_9 : decode cX10_matched 9 = .ok (.iload_n 2, 1) := by decide +kernel
theorem zd_X10_matched_10 : decode cX10_matched 10 = .ok (.invokevirtual 124, 3) := by decide +kernel
theorem zd_X10_matched_13 : decode cX10_matched 13 = .ok (.ifCond .ne 9, 3) := by decide +kernel
theorem zd_X10_matched_16 : decode cX10_matched 16 = .ok (.aload_n 0, 1) := by decide +kernel
theorem zd_X10_matched_17 : decode cX10_matched 17 = .ok (.iconst (-1), 1) := by decide +kernel
theorem zd_X10_matched_18 : decode cX10_matched 18 = .ok (.invokevirtual 82, 3) := by decide +kernel
theorem zd_X10_matched_21 : decode cX10_matched 21 = .ok (.ireturn, 1) := by decide +kernel
theorem zd_X10_matched_22 : decode cX10_matched 22 = .ok (.iload_n 3, 1) := by decide +kernel
theorem zd_X10_matched_23 : decode cX10_matched 23 = .ok (.iconst 0, 1) := by decide +kernel
theorem zd_X10_matched_24 : decode cX10_matched 24 = .ok (.iconst 1, 1) := by decide +kernel
theorem zd_X10_matched_25 : decode cX10_matched 25 = .ok (.invokestatic 89, 3) := by decide +kernel
theorem zd_X10_matched_28 : decode cX10_matched 28 = .ok (.ifCond .ne 10, 3) := by decide +kernel
theorem zd_X10_matched_31 : decode cX10_matched 31 = .ok (.aload_n 0, 1) := by decide +kernel
theorem zd_X10_matched_32 : decode cX10_matched 32 = .ok (.bipush (-5), 2) := by decide +kernel
theorem zd_X10_matched_34 : decode cX10_matched 34 = .ok (.invokevirtual 82, 3) := by decide +kernel
theorem zd_X10_matched_37 : decode cX10_matched 37 = .ok (.ireturn, 1) := by decide +kernel
theorem zd_X10_matched_38 : decode cX10_matched 38 = .ok (.aload_n 0, 1) := by decide +kernel
theorem zd_X10_matched_39 : decode cX10_matched 39 = .ok (.iload_n 1, 1) := by decide +kernel
theorem zd_X10_matched_40 : decode cX10_matched 40 = .ok (.iload_n 2, 1) := by decide +kernel
theorem zd_X10_matched_41 : decode cX10_matched 41 = .ok (.invokevirtual 166, 3) := by decide +kernel
theorem zd_X10_matched_44 : decode cX10_matched 44 = .ok (.iload_n 3, 1) := by decide +kernel
theorem zd_X10_matched_45 : decode cX10_matched 45 = .ok (.ifCond .ne 10, 3) := by decide +kernel
theorem zd_X10_matched_48 : decode cX10_matched 48 = .ok (.aload_n 0, 1) := by decide +kernel
theorem zd_X10_matched_49 : decode cX10_matched 49 = .ok (.getfield 150, 3) := by decide +kernel
theorem zd_X10_matched_52 : decode cX10_matched 52 = .ok (.goto 7, 3) := by decide +kernel
theorem zd_X10_matched_55 : decode cX10_matched 55 = .ok (.aload_n 0, 1) := by decide +kernel
theorem zd_X10_matched_56 : decode cX10_matched 56 = .ok (.getfield 157, 3) := by decide +kernel
theorem zd_X10_matched_59 : decode cX10_matched 59 = .ok (.ireturn, 1) := by decide +kernel
theorem zd_X10_behind_0 : decode cX10_behind 0 = .ok (.iconst 0, 1) := by decide +kernel
theorem zd_X10_behind_1 : decode cX10_behind 1 = .ok (.istore_n 3, 1) := by decide +kernel
theorem zd_X10_behind_2 : decode cX10_behind 2 = .ok (.iload_n 1, 1) := by decide +kernel
theorem zd_X10_behind_3 : decode cX10_behind 3 = .ok (.istore 4, 2) := by decide +kernel
theorem zd_X10_behind_5 : decode cX10_behind 5 = .ok (.iload 4, 2) := by decide +kernel
theorem zd_X10_behind_7 : decode cX10_behind 7 = .ok (.iconst (-1), 1) := by decide +kernel
theorem zd_X10_behind_8 : decode cX10_behind 8 = .ok (.if_icmp .eq 34, 3) := by decide +kernel
theorem zd_X10_behind_11 : decode cX10_behind 11 = .ok (.aload_n 0, 1) := by decide +kernel
theorem zd_X10_behind_12 : decode cX10_behind 12 = .ok (.getfield 69, 3) := by decide +kernel
theorem zd_X10_behind_15 : decode cX10_behind 15 = .ok (.iload_n 3, 1) := by decide +kernel
theorem zd_X10_behind_16 : decode cX10_behind 16 = .ok (.iload 4, 2) := by decide +kernel
theorem zd_X10_behind_18 : decode cX10_behind 18 = .ok (.iastore, 1) := by decide +kernel
theorem zd_X10_behind_19 : decode cX10_behind 19 = .ok (.iload 4, 2) := by decide +kernel
theorem zd_X10_behind_21 : decode cX10_behind 21 = .ok (.iload_n 2, 1) := by decide +kernel
theorem zd_X10_behind_22 : decode cX10_behind 22 = .ok (.if_icmp .ne 5, 3) := by decide +kernel
theorem zd_X10_behind_25 : decode cX10_behind 25 = .ok (.iload_n 3, 1) := by decide +kernel
theorem zd_X10_behind_26 : decode cX10_behind 26 = .ok (.ireturn, 1) := by decide +kernel
theorem zd_X10_behind_27 : decode cX10_behind 27 = .ok (.iinc 3 1, 3) := by decide +kernel
theorem zd_X10_behind_30 : decode cX10_behind 30 = .ok (.aload_n 0, 1) := by decide +kernel
theorem zd_X10_behind_31 : decode cX10_behind 31 = .ok (.getfield 7, 3) := by decide +kernel
theorem zd_X10_behind_34 : decode cX10_behind 34 = .ok (.iload 4, 2) := by decide +kernel
theorem zd_X10_behind_36 : decode cX10_behind 36 = .ok (.iaload, 1) := by decide +kernel
theorem zd_X10_behind_37 : decode cX10_behind 37 = .ok (.istore 4, 2) := by decide +kernel
theorem zd_X10_behind_39 : decode cX10_behind 39 = .ok (.goto (-34), 3) := by decide +kernel
theorem zd_X10_behind_42 : decode cX10_behind 42 = .ok (.iconst (-1), 1) := by decide +kernel
theorem zd_X10_behind_43 : decode cX10_behind 43 = .ok (.ireturn, 1) := by decide +kernel
theorem zd_X10_through_0 : decode cX10_through 0 = .ok (.aload_n 0, 1) := by decide +kernel
theorem zd_X10_through_1 : decode cX10_through 1 = .ok (.iload_n 1, 1) := by decide +kernel
theorem zd_X10_through_2 : decode cX10_through 2 = .ok (.invokevirtual 124, 3) := by decide +kernel
theorem zd_X10_through_5 : decode cX10_through 5 = .ok (.ifCond .eq 11, 3) := by decide +kernel
theorem zd_X10_through_8 : decode cX10_through 8 = .ok (.aload_n 0, 1) := by decide +kernel
theorem zd_X10_through_9 : decode cX10_through 9 = .ok (.iload_n 2, 1) := by decide +kernel
theorem zd_X10_through_10 : decode cX10_through 10 = .ok (.invokevirtual 124, 3) := by decide +kernel
theorem zd_X10_through_13 : decode cX10_through 13 = .ok (.ifCond .ne 9, 3) := by decide +kernel
theorem zd_X10_through_16 : decode cX10_through 16 = .ok (.aload_n 0, 1) := by decide +kernel
theorem zd_X10_through_17 : decode cX10_through 17 = .ok (.iconst (-1), 1) := by decide +kernel
theorem zd_X10_through_18 : decode cX10_through 18 = .ok (.invokevirtual 138, 3) := by decide +kernel
theorem zd_X10_through_21 : decode cX10_through 21 = .ok (.ireturn, 1) := by decide +kernel
theorem zd_X10_through_22 : decode cX10_through 22 = .ok (.aload_n 0, 1) := by decide +kernel
theorem zd_X10_through_23 : decode cX10_through 23 = .ok (.iload_n 1, 1) := by decide +kernel
theorem zd_X10_through_24 : decode cX10_through 24 = .ok (.iload_n 3, 1) := by decide +kernel
theorem zd_X10_through_25 : decode cX10_through 25 = .ok (.invokevirtual 133, 3) := by decide +kernel
theorem zd_X10_through_28 : decode cX10_through 28 = .ok (.ifCond .ne 10, 3) := by decide +kernel
theorem zd_X10_through_31 : decode cX10_through 31 = .ok (.aload_n 0, 1) := by decide +kernel
theorem zd_X10_through_32 : decode cX10_through 32 = .ok (.bipush (-5), 2) := by decide +kernel
theorem zd_X10_through_34 : decode cX10_through 34 = .ok (.invokevirtual 138, 3) := by decide +kernel
theorem zd_X10_through_37 : decode cX10_through 37 = .ok (.ireturn, 1) := by decide +kernel
theorem zd_X10_through_38 : decode cX10_through 38 = .ok (.aload_n 0, 1) := by decide +kernel
theorem zd_X10_through_39 : decode cX10_through 39 = .ok (.iload_n 2, 1) := by decide +kernel
theorem zd_X10_through_40 : decode cX10_through 40 = .ok (.iload_n 1, 1) := by decide +kernel
theorem zd_X10_through_41 : decode cX10_through 41 = .ok (.invokevirtual 169, 3) := by decide +kernel
theorem zd_X10_through_44 : decode cX10_through 44 = .ok (.istore 4, 2) := by decide +kernel
theorem zd_X10_through_46 : decode cX10_through 46 = .ok (.iload 4, 2) := by decide +kernel
theorem zd_X10_through_48 : decode cX10_through 48 = .ok (.iconst (-1), 1) := by decide +kernel
theorem zd_X10_through_49 : decode cX10_through 49 = .ok (.if_icmp .ne 10, 3) := by decide +kernel
theorem zd_X10_through_52 : decode cX10_through 52 = .ok (.aload_n 0, 1) := by decide +kernel
theorem zd_X10_through_53 : decode cX10_through 53 = .ok (.bipush (-6), 2) := by decide +kernel
theorem zd_X10_through_55 : decode cX10_through 55 = .ok (.invokevirtual 138, 3) := by decide +kernel
theorem zd_X10_through_58 : decode cX10_through 58 = .ok (.ireturn, 1) := by decide +kernel
theorem zd_X10_through_59 : decode cX10_through 59 = .ok (.iload_n 3, 1) := by decide +kernel
theorem zd_X10_through_60 : decode cX10_through 60 = .ok (.istore 5, 2) := by decide +kernel
theorem zd_X10_through_62 : decode cX10_through 62 = .ok (.iload 4, 2) := by decide +kernel
theorem zd_X10_through_64 : decode cX10_through 64 = .ok (.iconst 1, 1) := by decide +kernel
theorem zd_X10_through_65 : decode cX10_through 65 = .ok (.isub, 1) := by decide +kernel
theorem zd_X10_through_66 : decode cX10_through 66 = .ok (.istore 6, 2) := by decide +kernel
theorem zd_X10_through_68 : decode cX10_through 68 = .ok (.iload 6, 2) := by decide +kernel
theorem zd_X10_through_70 : decode cX10_through 70 = .ok (.ifCond .lt 35, 3) := by decide +kernel
theorem zd_X10_through_73 : decode cX10_through 73 = .ok (.iload 5, 2) := by decide +kernel
theorem zd_X10_through_75 : decode cX10_through 75 = .ok (.iconst (-1), 1) := by decide +kernel
theorem zd_X10_through_76 : decode cX10_through 76 = .ok (.if_icmp .eq 29, 3) := by decide +kernel
theorem zd_X10_through_79 : decode cX10_through 79 = .ok (.aload_n 0, 1) := by decide +kernel
theorem zd_X10_through_80 : decode cX10_through 80 = .ok (.getfield 20, 3) := by decide +kernel
theorem zd_X10_through_83 : decode cX10_through 83 = .ok (.bipush 24, 2) := by decide +kernel
theorem zd_X10_through_85 : decode cX10_through 85 = .ok (.aload_n 0, 1) := by decide +kernel
theorem zd_X10_through_86 : decode cX10_through 86 = .ok (.getfield 69, 3) := by decide +kernel
theorem zd_X10_through_89 : decode cX10_through 89 = .ok (.iload 6, 2) := by decide +kernel
theorem zd_X10_through_91 : decode cX10_through 91 = .ok (.iaload, 1) := by decide +kernel
theorem zd_X10_through_92 : decode cX10_through 92 = .ok (.imul, 1) := by decide +kernel
theorem zd_X10_through_93 : decode cX10_through 93 = .ok (.iload 5, 2) := by decide +kernel
theorem zd_X10_through_95 : decode cX10_through 95 = .ok (.iadd, 1) := by decide +kernel
theorem zd_X10_through_96 : decode cX10_through 96 = .ok (.iaload, 1) := by decide +kernel
theorem zd_X10_through_97 : decode cX10_through 97 = .ok (.istore 5, 2) := by decide +kernel
theorem zd_X10_through_99 : decode cX10_through 99 = .ok (.iinc 6 (-1), 3) := by decide +kernel
theorem zd_X10_through_102 : decode cX10_through 102 = .ok (.goto (-34), 3) := by decide +kernel
theorem zd_X10_through_105 : decode cX10_through 105 = .ok (.iload 5, 2) := by decide +kernel
theorem zd_X10_through_107 : decode cX10_through 107 = .ok (.ireturn, 1) := by decide +kernel
theorem zd_X10_comesFrom_0 : decode cX10_comesFrom 0 = .ok (.aload_n 0, 1) := by decide +kernel
theorem zd_X10_comesFrom_1 : decode cX10_comesFrom 1 = .ok (.getfield 7, 3) := by decide +kernel
theorem zd_X10_comesFrom_4 : decode cX10_comesFrom 4 = .ok (.iload_n 1, 1) := by decide +kernel
theorem zd_X10_comesFrom_5 : decode cX10_comesFrom 5 = .ok (.iaload, 1) := by decide +kernel
theorem zd_X10_comesFrom_6 : decode cX10_comesFrom 6 = .ok (.iconst (-1), 1) := by decide +kernel
theorem zd_X10_comesFrom_7 : decode cX10_comesFrom 7 = .ok (.if_icmp .ne 5, 3) := by decide +kernel
theorem zd_X10_comesFrom_10 : decode cX10_comesFrom 10 = .ok (.iconst (-1), 1) := by decide +kernel
theorem zd_X10_comesFrom_11 : decode cX10_comesFrom 11 = .ok (.ireturn, 1) := by decide +kernel
theorem zd_X10_comesFrom_12 : decode cX10_comesFrom 12 = .ok (.iconst 0, 1) := by decide +kernel
theorem zd_X10_comesFrom_13 : decode cX10_comesFrom 13 = .ok (.istore_n 3, 1) := by decide +kernel
theorem zd_X10_comesFrom_14 : decode cX10_comesFrom 14 = .ok (.iload_n 3, 1) := by decide +kernel
theorem zd_X10_comesFrom_15 : decode cX10_comesFrom 15 = .ok (.aload_n 0, 1) := by decide +kernel
theorem zd_X10_comesFrom_16 : decode cX10_comesFrom 16 = .ok (.getfield 13, 3) := by decide +kernel
theorem zd_X10_comesFrom_19 : decode cX10_comesFrom 19 = .ok (.aload_n 0, 1) := by decide +kernel
theorem zd_X10_comesFrom_20 : decode cX10_comesFrom 20 = .ok (.getfield 7, 3) := by decide +kernel
theorem zd_X10_comesFrom_23 : decode cX10_comesFrom 23 = .ok (.iload_n 1, 1) := by decide +kernel
theorem zd_X10_comesFrom_24 : decode cX10_comesFrom 24 = .ok (.iaload, 1) := by decide +kernel
theorem zd_X10_comesFrom_25 : decode cX10_comesFrom 25 = .ok (.iaload, 1) := by decide +kernel
theorem zd_X10_comesFrom_26 : decode cX10_comesFrom 26 = .ok (.if_icmp .ge 26, 3) := by decide +kernel
theorem zd_X10_comesFrom_29 : decode cX10_comesFrom 29 = .ok (.aload_n 0, 1) := by decide +kernel
theorem zd_X10_comesFrom_30 : decode cX10_comesFrom 30 = .ok (.getfield 20, 3) := by decide +kernel
theorem zd_X10_comesFrom_33 : decode cX10_comesFrom 33 = .ok (.bipush 24, 2) := by decide +kernel
theorem zd_X10_comesFrom_35 : decode cX10_comesFrom 35 = .ok (.iload_n 1, 1) := by decide +kernel
theorem zd_X10_comesFrom_36 : decode cX10_comesFrom 36 = .ok (.imul, 1) := by decide +kernel
theorem zd_X10_comesFrom_37 : decode cX10_comesFrom 37 = .ok (.iload_n 3, 1) := by decide +kernel
theorem zd_X10_comesFrom_38 : decode cX10_comesFrom 38 = .ok (.iadd, 1) := by decide +kernel
theorem zd_X10_comesFrom_39 : decode cX10_comesFrom 39 = .ok (.iaload, 1) := by decide +kernel
theorem zd_X10_comesFrom_40 : decode cX10_comesFrom 40 = .ok (.iload_n 2, 1) := by decide +kernel
theorem zd_X10_comesFrom_41 : decode cX10_comesFrom 41 = .ok (.if_icmp .ne 5, 3) := by decide +kernel
theorem zd_X10_comesFrom_44 : decode cX10_comesFrom 44 = .ok (.iload_n 3, 1) := by decide +kernel
theorem zd_X10_comesFrom_45 : decode cX10_comesFrom 45 = .ok (.ireturn, 1) := by decide +kernel
theorem zd_X10_comesFrom_46 : decode cX10_comesFrom 46 = .ok (.iinc 3 1, 3) := by decide +kernel
theorem zd_X10_comesFrom_49 : decode cX10_comesFrom 49 = .ok (.goto (-35), 3) := by decide +kernel
theorem zd_X10_comesFrom_52 : decode cX10_comesFrom 52 = .ok (.iconst (-1), 1) := by decide +kernel
theorem zd_X10_comesFrom_53 : decode cX10_comesFrom 53 = .ok (.ireturn, 1) := by decide +kernel
theorem zd_X10_origin_0 : decode cX10_origin 0 = .ok (.aload_n 0, 1) := by decide +kernel
theorem zd_X10_origin_1 : decode cX10_origin 1 = .ok (.iload_n 1, 1) := by decide +kernel
theorem zd_X10_origin_2 : decode cX10_origin 2 = .ok (.invokevirtual 124, 3) := by decide +kernel
theorem zd_X10_origin_5 : decode cX10_origin 5 = .ok (.ifCond .ne 9, 3) := by decide +kernel
theorem zd_X10_origin_8 : decode cX10_origin 8 = .ok (.aload_n 0, 1) := by decide +kernel
theorem zd_X10_origin_9 : decode cX10_origin 9 = .ok (.iconst (-1), 1) := by decide +kernel
theorem zd_X10_origin_10 : decode cX10_origin 10 = .ok (.invokevirtual 82, 3) := by decide +kernel
theorem zd_X10_origin_13 : decode cX10_origin 13 = .ok (.ireturn, 1) := by decide +kernel
theorem zd_X10_origin_14 : decode cX10_origin 14 = .ok (.aload_n 0, 1) := by decide +kernel
theorem zd_X10_origin_15 : decode cX10_origin 15 = .ok (.iload_n 1, 1) := by decide +kernel
theorem zd_X10_origin_16 : decode cX10_origin 16 = .ok (.iload_n 2, 1) := by decide +kernel
theorem zd_X10_origin_17 : decode cX10_origin 17 = .ok (.invokevirtual 133, 3) := by decide +kernel
theorem zd_X10_origin_20 : decode cX10_origin 20 = .ok (.ifCond .eq 12, 3) := by decide +kernel
theorem zd_X10_origin_23 : decode cX10_origin 23 = .ok (.iload_n 3, 1) := by decide +kernel
theorem zd_X10_origin_24 : decode cX10_origin 24 = .ok (.iconst 0, 1) := by decide +kernel
theorem zd_X10_origin_25 : decode cX10_origin 25 = .ok (.iconst 1, 1) := by decide +kernel
theorem zd_X10_origin_26 : decode cX10_origin 26 = .ok (.invokestatic 89, 3) := by decide +kernel
theorem zd_X10_origin_29 : decode cX10_origin 29 = .ok (.ifCond .ne 10, 3) := by decide +kernel
theorem zd_X10_origin_32 : decode cX10_origin 32 = .ok (.aload_n 0, 1) := by decide +kernel
theorem zd_X10_origin_33 : decode cX10_origin 33 = .ok (.bipush (-5), 2) := by decide +kernel
theorem zd_X10_origin_35 : decode cX10_origin 35 = .ok (.invokevirtual 82, 3) := by decide +kernel
theorem zd_X10_origin_38 : decode cX10_origin 38 = .ok (.ireturn, 1) := by decide +kernel
theorem zd_X10_origin_39 : decode cX10_origin 39 = .ok (.iload_n 1, 1) := by decide +kernel
theorem zd_X10_origin_40 : decode cX10_origin 40 = .ok (.istore 4, 2) := by decide +kernel
theorem zd_X10_origin_42 : decode cX10_origin 42 = .ok (.iload_n 2, 1) := by decide +kernel
theorem zd_X10_origin_43 : decode cX10_origin 43 = .ok (.istore 5, 2) := by decide +kernel
theorem zd_X10_origin_45 : decode cX10_origin 45 = .ok (.aload_n 0, 1) := by decide +kernel
theorem zd_X10_origin_46 : decode cX10_origin 46 = .ok (.iload 4, 2) := by decide +kernel
theorem zd_X10_origin_48 : decode cX10_origin 48 = .ok (.iload 5, 2) := by decide +kernel
theorem zd_X10_origin_50 : decode cX10_origin 50 = .ok (.invokevirtual 172, 3) := by decide +kernel
theorem zd_X10_origin_53 : decode cX10_origin 53 = .ok (.istore 6, 2) := by decide +kernel
theorem zd_X10_origin_55 : decode cX10_origin 55 = .ok (.iload 6, 2) := by decide +kernel
theorem zd_X10_origin_57 : decode cX10_origin 57 = .ok (.iconst (-1), 1) := by decide +kernel
theorem zd_X10_origin_58 : decode cX10_origin 58 = .ok (.if_icmp .eq 29, 3) := by decide +kernel
theorem zd_X10_origin_61 : decode cX10_origin 61 = .ok (.iload 6, 2) := by decide +kernel
theorem zd_X10_origin_63 : decode cX10_origin 63 = .ok (.istore 5, 2) := by decide +kernel
theorem zd_X10_origin_65 : decode cX10_origin 65 = .ok (.aload_n 0, 1) := by decide +kernel
theorem zd_X10_origin_66 : decode cX10_origin 66 = .ok (.getfield 7, 3) := by decide +kernel
theorem zd_X10_origin_69 : decode cX10_origin 69 = .ok (.iload 4, 2) := by decide +kernel
theorem zd_X10_origin_71 : decode cX10_origin 71 = .ok (.iaload, 1) := by decide +kernel
theorem zd_X10_origin_72 : decode cX10_origin 72 = .ok (.istore 4, 2) := by decide +kernel
theorem zd_X10_origin_74 : decode cX10_origin 74 = .ok (.aload_n 0, 1) := by decide +kernel
theorem zd_X10_origin_75 : decode cX10_origin 75 = .ok (.iload 4, 2) := by decide +kernel
theorem zd_X10_origin_77 : decode cX10_origin 77 = .ok (.iload 5, 2) := by decide +kernel
theorem zd_X10_origin_79 : decode cX10_origin 79 = .ok (.invokevirtual 172, 3) := by decide +kernel
theorem zd_X10_origin_82 : decode cX10_origin 82 = .ok (.istore 6, 2) := by decide +kernel
theorem zd_X10_origin_84 : decode cX10_origin 84 = .ok (.goto (-29), 3) := by decide +kernel
theorem zd_X10_origin_87 : decode cX10_origin 87 = .ok (.iload_n 3, 1) := by decide +kernel
theorem zd_X10_origin_88 : decode cX10_origin 88 = .ok (.ifCond .ne 8, 3) := by decide +kernel
theorem zd_X10_origin_91 : decode cX10_origin 91 = .ok (.iload 4, 2) := by decide +kernel
theorem zd_X10_origin_93 : decode cX10_origin 93 = .ok (.goto 5, 3) := by decide +kernel
theorem zd_X10_origin_96 : decode cX10_origin 96 = .ok (.iload 5, 2) := by decide +kernel
theorem zd_X10_origin_98 : decode cX10_origin 98 = .ok (.ireturn, 1) := by decide +kernel
theorem zd_X10_newRemark_0 : decode cX10_newRemark 0 = .ok (.aload_n 0, 1) := by decide +kernel
theorem zd_X10_newRemark_1 : decode cX10_newRemark 1 = .ok (.getfield 23, 3) := by decide +kernel
theorem zd_X10_newRemark_4 : decode cX10_newRemark 4 = .ok (.aload_n 0, 1) := by decide +kernel
theorem zd_X10_newRemark_5 : decode cX10_newRemark 5 = .ok (.getfield 93, 3) := by decide +kernel
theorem zd_X10_newRemark_8 : decode cX10_newRemark 8 = .ok (.iload_n 1, 1) := by decide +kernel
theorem zd_X10_newRemark_9 : decode cX10_newRemark 9 = .ok (.iastore, 1) := by decide +kernel
theorem zd_X10_newRemark_10 : decode cX10_newRemark 10 = .ok (.aload_n 0, 1) := by decide +kernel
theorem zd_X10_newRemark_11 : decode cX10_newRemark 11 = .ok (.getfield 23, 3) := by decide +kernel
theorem zd_X10_newRemark_14 : decode cX10_newRemark 14 = .ok (.bipush 16, 2) := by decide +kernel
theorem zd_X10_newRemark_16 : decode cX10_newRemark 16 = .ok (.aload_n 0, 1) := by decide +kernel
theorem zd_X10_newRemark_17 : decode cX10_newRemark 17 = .ok (.getfield 93, 3) := by decide +kernel
theorem zd_X10_newRemark_20 : decode cX10_newRemark 20 = .ok (.iadd, 1) := by decide +kernel
theorem zd_X10_newRemark_21 : decode cX10_newRemark 21 = .ok (.iload_n 2, 1) := by decide +kernel
theorem zd_X10_newRemark_22 : decode cX10_newRemark 22 = .ok (.iastore, 1) := by decide +kernel
theorem zd_X10_newRemark_23 : decode cX10_newRemark 23 = .ok (.aload_n 0, 1) := by decide +kernel
theorem zd_X10_newRemark_24 : decode cX10_newRemark 24 = .ok (.getfield 23, 3) := by decide +kernel
theorem zd_X10_newRemark_27 : decode cX10_newRemark 27 = .ok (.bipush 32, 2) := by decide +kernel
theorem zd_X10_newRemark_29 : decode cX10_newRemark 29 = .ok (.aload_n 0, 1) := by decide +kernel
theorem zd_X10_newRemark_30 : decode cX10_newRemark 30 = .ok (.getfield 93, 3) := by decide +kernel
theorem zd_X10_newRemark_33 : decode cX10_newRemark 33 = .ok (.iadd, 1) := by decide +kernel
theorem zd_X10_newRemark_34 : decode cX10_newRemark 34 = .ok (.iload_n 3, 1) := by decide +kernel
theorem zd_X10_newRemark_35 : decode cX10_newRemark 35 = .ok (.iastore, 1) := by decide +kernel
theorem zd_X10_newRemark_36 : decode cX10_newRemark 36 = .ok (.aload_n 0, 1) := by decide +kernel
theorem zd_X10_newRemark_37 : decode cX10_newRemark 37 = .ok (.getfield 23, 3) := by decide +kernel
theorem zd_X10_newRemark_40 : decode cX10_newRemark 40 = .ok (.bipush 48, 2) := by decide +kernel
theorem zd_X10_newRemark_42 : decode cX10_newRemark 42 = .ok (.aload_n 0, 1) := by decide +kernel
theorem zd_X10_newRemark_43 : decode cX10_newRemark 43 = .ok (.getfield 93, 3) := by decide +kernel
theorem zd_X10_newRemark_46 : decode cX10_newRemark 46 = .ok (.iadd, 1) := by decide +kernel
theorem zd_X10_newRemark_47 : decode cX10_newRemark 47 = .ok (.iload 4, 2) := by decide +kernel
theorem zd_X10_newRemark_49 : decode cX10_newRemark 49 = .ok (.iastore, 1) := by decide +kernel
theorem zd_X10_newRemark_50 : decode cX10_newRemark 50 = .ok (.aload_n 0, 1) := by decide +kernel
theorem zd_X10_newRemark_51 : decode cX10_newRemark 51 = .ok (.getfield 23, 3) := by decide +kernel
theorem zd_X10_newRemark_54 : decode cX10_newRemark 54 = .ok (.bipush 64, 2) := by decide +kernel
theorem zd_X10_newRemark_56 : decode cX10_newRemark 56 = .ok (.aload_n 0, 1) := by decide +kernel
theorem zd_X10_newRemark_57 : decode cX10_newRemark 57 = .ok (.getfield 93, 3) := by decide +kernel
theorem zd_X10_newRemark_60 : decode cX10_newRemark 60 = .ok (.iadd, 1) := by decide +kernel
theorem zd_X10_newRemark_61 : decode cX10_newRemark 61 = .ok (.iload 5, 2) := by decide +kernel
theorem zd_X10_newRemark_63 : decode cX10_newRemark 63 = .ok (.iastore, 1) := by decide +kernel
theorem zd_X10_newRemark_64 : decode cX10_newRemark 64 = .ok (.aload_n 0, 1) := by decide +kernel
theorem zd_X10_newRemark_65 : decode cX10_newRemark 65 = .ok (.getfield 23, 3) := by decide +kernel
theorem zd_X10_newRemark_68 : decode cX10_newRemark 68 = .ok (.bipush 80, 2) := by decide +kernel
theorem zd_X10_newRemark_70 : decode cX10_newRemark 70 = .ok (.aload_n 0, 1) := by decide +kernel
theorem zd_X10_newRemark_71 : decode cX10_newRemark 71 = .ok (.getfield 93, 3) := by decide +kernel
theorem zd_X10_newRemark_74 : decode cX10_newRemark 74 = .ok (.iadd, 1) := by decide +kernel
theorem zd_X10_newRemark_75 : decode cX10_newRemark 75 = .ok (.iload 6, 2) := by decide +kernel
theorem zd_X10_newRemark_77 : decode cX10_newRemark 77 = .ok (.iastore, 1) := by decide +kernel
theorem zd_X10_newRemark_78 : decode cX10_newRemark 78 = .ok (.aload_n 0, 1) := by decide +kernel
theorem zd_X10_newRemark_79 : decode cX10_newRemark 79 = .ok (.getfield 23, 3) := by decide +kernel
theorem zd_X10_newRemark_82 : decode cX10_newRemark 82 = .ok (.bipush 96, 2) := by decide +kernel
theorem zd_X10_newRemark_84 : decode cX10_newRemark 84 = .ok (.aload_n 0, 1) := by decide +kernel
theorem zd_X10_newRemark_85 : decode cX10_newRemark 85 = .ok (.getfield 93, 3) := by decide +kernel
theorem zd_X10_newRemark_88 : decode cX10_newRemark 88 = .ok (.iadd, 1) := by decide +kernel
theorem zd_X10_newRemark_89 : decode cX10_newRemark 89 = .ok (.iconst 0, 1) := by decide +kernel
theorem zd_X10_newRemark_90 : decode cX10_newRemark 90 = .ok (.iastore, 1) := by decide +kernel
theorem zd_X10_newRemark_91 : decode cX10_newRemark 91 = .ok (.aload_n 0, 1) := by decide +kernel
theorem zd_X10_newRemark_92 : decode cX10_newRemark 92 = .ok (.dup, 1) := by decide +kernel
theorem zd_X10_newRemark_93 : decode cX10_newRemark 93 = .ok (.getfield 93, 3) := by decide +kernel
theorem zd_X10_newRemark_96 : decode cX10_newRemark 96 = .ok (.dup_x1, 1) := by decide +kernel
theorem zd_X10_newRemark_97 : decode cX10_newRemark 97 = .ok (.iconst 1, 1) := by decide +kernel
theorem zd_X10_newRemark_98 : decode cX10_newRemark 98 = .ok (.iadd, 1) := by decide +kernel
theorem zd_X10_newRemark_99 : decode cX10_newRemark 99 = .ok (.putfield 93, 3) := by decide +kernel
theorem zd_X10_newRemark_102 : decode cX10_newRemark 102 = .ok (.ireturn, 1) := by decide +kernel
theorem zd_X10_remark_0 : decode cX10_remark 0 = .ok (.iload_n 1, 1) := by decide +kernel
theorem zd_X10_remark_1 : decode cX10_remark 1 = .ok (.iconst 0, 1) := by decide +kernel
theorem zd_X10_remark_2 : decode cX10_remark 2 = .ok (.bipush 6, 2) := by decide +kernel
theorem zd_X10_remark_4 : decode cX10_remark 4 = .ok (.invokestatic 89, 3) := by decide +kernel
theorem zd_X10_remark_7 : decode cX10_remark 7 = .ok (.ifCond .eq 26, 3) := by decide +kernel
theorem zd_X10_remark_10 : decode cX10_remark 10 = .ok (.aload_n 0, 1) := by decide +kernel
theorem zd_X10_remark_11 : decode cX10_remark 11 = .ok (.iload_n 3, 1) := by decide +kernel
theorem zd_X10_remark_12 : decode cX10_remark 12 = .ok (.invokevirtual 124, 3) := by decide +kernel
theorem zd_X10_remark_15 : decode cX10_remark 15 = .ok (.ifCond .eq 18, 3) := by decide +kernel
theorem zd_X10_remark_18 : decode cX10_remark 18 = .ok (.iload 6, 2) := by decide +kernel
theorem zd_X10_remark_20 : decode cX10_remark 20 = .ok (.iconst (-1), 1) := by decide +kernel
theorem zd_X10_remark_21 : decode cX10_remark 21 = .ok (.if_icmp .eq 18, 3) := by decide +kernel
theorem zd_X10_remark_24 : decode cX10_remark 24 = .ok (.aload_n 0, 1) := by decide +kernel
theorem zd_X10_remark_25 : decode cX10_remark 25 = .ok (.iload 6, 2) := by decide +kernel
theorem zd_X10_remark_27 : decode cX10_remark 27 = .ok (.invokevirtual 103, 3) := by decide +kernel
theorem zd_X10_remark_30 : decode cX10_remark 30 = .ok (.ifCond .ne 9, 3) := by decide +kernel
theorem zd_X10_remark_33 : decode cX10_remark 33 = .ok (.aload_n 0, 1) := by decide +kernel
theorem zd_X10_remark_34 : decode cX10_remark 34 = .ok (.iconst (-1), 1) := by decide +kernel
theorem zd_X10_remark_35 : decode cX10_remark 35 = .ok (.invokevirtual 82, 3) := by decide +kernel
theorem zd_X10_remark_38 : decode cX10_remark 38 = .ok (.ireturn, 1) := by decide +kernel
theorem zd_X10_remark_39 : decode cX10_remark 39 = .ok (.aload_n 0, 1) := by decide +kernel
theorem zd_X10_remark_40 : decode cX10_remark 40 = .ok (.iload_n 3, 1) := by decide +kernel
theorem zd_X10_remark_41 : decode cX10_remark 41 = .ok (.iload 4, 2) := by decide +kernel
theorem zd_X10_remark_43 : decode cX10_remark 43 = .ok (.invokevirtual 133, 3) := by decide +kernel
theorem zd_X10_remark_46 : decode cX10_remark 46 = .ok (.ifCond .eq 20, 3) := by decide +kernel
theorem zd_X10_remark_49 : decode cX10_remark 49 = .ok (.aload_n 0, 1) := by decide +kernel
theorem zd_X10_remark_50 : decode cX10_remark 50 = .ok (.iload_n 3, 1) := by decide +kernel
theorem zd_X10_remark_51 : decode cX10_remark 51 = .ok (.iload 5, 2) := by decide +kernel
theorem zd_X10_remark_53 : decode cX10_remark 53 = .ok (.invokevirtual 133, 3) := by decide +kernel
theorem zd_X10_remark_56 : decode cX10_remark 56 = .ok (.ifCond .eq 10, 3) := by decide +kernel
theorem zd_X10_remark_59 : decode cX10_remark 59 = .ok (.iload 5, 2) := by decide +kernel
theorem zd_X10_remark_61 : decode cX10_remark 61 = .ok (.iload 4, 2) := by decide +kernel
theorem zd_X10_remark_63 : decode cX10_remark 63 = .ok (.if_icmp .ge 10, 3) := by decide +kernel
theorem zd_X10_remark_66 : decode cX10_remark 66 = .ok (.aload_n 0, 1) := by decide +kernel
theorem zd_X10_remark_67 : decode cX10_remark 67 = .ok (.bipush (-5), 2) := by decide +kernel
theorem zd_X10_remark_69 : decode cX10_remark 69 = .ok (.invokevirtual 82, 3) := by decide +kernel
theorem zd_X10_remark_72 : decode cX10_remark 72 = .ok (.ireturn, 1) := by decide +kernel
theorem zd_X10_remark_73 : decode cX10_remark 73 = .ok (.iload_n 2, 1) := by decide +kernel
theorem zd_X10_remark_74 : decode cX10_remark 74 = .ok (.iconst 0, 1) := by decide +kernel
theorem zd_X10_remark_75 : decode cX10_remark 75 = .ok (.bipush 9, 2) := by decide +kernel
theorem zd_X10_remark_77 : decode cX10_remark 77 = .ok (.invokestatic 89, 3) := by decide +kernel
theorem zd_X10_remark_80 : decode cX10_remark 80 = .ok (.ifCond .ne 10, 3) := by decide +kernel
theorem zd_X10_remark_83 : decode cX10_remark 83 = .ok (.aload_n 0, 1) := by decide +kernel
theorem zd_X10_remark_84 : decode cX10_remark 84 = .ok (.bipush (-6), 2) := by decide +kernel
theorem zd_X10_remark_86 : decode cX10_remark 86 = .ok (.invokevirtual 82, 3) := by decide +kernel
theorem zd_X10_remark_89 : decode cX10_remark 89 = .ok (.ireturn, 1) := by decide +kernel
theorem zd_X10_remark_90 : decode cX10_remark 90 = .ok (.aload_n 0, 1) := by decide +kernel
theorem zd_X10_remark_91 : decode cX10_remark 91 = .ok (.getfield 93, 3) := by decide +kernel
theorem zd_X10_remark_94 : decode cX10_remark 94 = .ok (.bipush 16, 2) := by decide +kernel
theorem zd_X10_remark_96 : decode cX10_remark 96 = .ok (.if_icmp .ne 12, 3) := by decide +kernel
theorem zd_X10_remark_99 : decode cX10_remark 99 = .ok (.aload_n 0, 1) := by decide +kernel
theorem zd_X10_remark_100 : decode cX10_remark 100 = .ok (.bipush (-7), 2) := by decide +kernel
theorem zd_X10_remark_102 : decode cX10_remark 102 = .ok (.invokevirtual 82, 3) := by decide +kernel
theorem zd_X10_remark_105 : decode cX10_remark 105 = .ok (.goto 16, 3) := by decide +kernel
theorem zd_X10_remark_108 : decode cX10_remark 108 = .ok (.aload_n 0, 1) := by decide +kernel
theorem zd_X10_remark_109 : decode cX10_remark 109 = .ok (.iload_n 1, 1) := by decide +kernel
theorem zd_X10_remark_110 : decode cX10_remark 110 = .ok (.iload_n 2, 1) := by decide +kernel
theorem zd_X10_remark_111 : decode cX10_remark 111 = .ok (.iload_n 3, 1) := by decide +kernel
theorem zd_X10_remark_112 : decode cX10_remark 112 = .ok (.iload 4, 2) := by decide +kernel
theorem zd_X10_remark_114 : decode cX10_remark 114 = .ok (.iload 5, 2) := by decide +kernel
theorem zd_X10_remark_116 : decode cX10_remark 116 = .ok (.iload 6, 2) := by decide +kernel
theorem zd_X10_remark_118 : decode cX10_remark 118 = .ok (.invokevirtual 175, 3) := by decide +kernel
theorem zd_X10_remark_121 : decode cX10_remark 121 = .ok (.ireturn, 1) := by decide +kernel
theorem zd_X10_depth_0 : decode cX10_depth 0 = .ok (.iconst 0, 1) := by decide +kernel
theorem zd_X10_depth_1 : decode cX10_depth 1 = .ok (.istore_n 2, 1) := by decide +kernel
theorem zd_X10_depth_2 : decode cX10_depth 2 = .ok (.aload_n 0, 1) := by decide +kernel
theorem zd_X10_depth_3 : decode cX10_depth 3 = .ok (.iconst 5, 1) := by decide +kernel
theorem zd_X10_depth_4 : decode cX10_depth 4 = .ok (.iload_n 1, 1) := by decide +kernel
theorem zd_X10_depth_5 : decode cX10_depth 5 = .ok (.invokevirtual 109, 3) := by decide +kernel
theorem zd_X10_depth_8 : decode cX10_depth 8 = .ok (.istore_n 3, 1) := by decide +kernel
theorem zd_X10_depth_9 : decode cX10_depth 9 = .ok (.iload_n 3, 1) := by decide +kernel
theorem zd_X10_depth_10 : decode cX10_depth 10 = .ok (.iconst (-1), 1) := by decide +kernel
theorem zd_X10_depth_11 : decode cX10_depth 11 = .ok (.if_icmp .eq 16, 3) := by decide +kernel
theorem zd_X10_depth_14 : decode cX10_depth 14 = .ok (.iinc 2 1, 3) := by decide +kernel
theorem zd_X10_depth_17 : decode cX10_depth 17 = .ok (.aload_n 0, 1) := by decide +kernel
theorem zd_X10_depth_18 : decode cX10_depth 18 = .ok (.iconst 5, 1) := by decide +kernel
theorem zd_X10_depth_19 : decode cX10_depth 19 = .ok (.iload_n 3, 1) := by decide +kernel
theorem zd_X10_depth_20 : decode cX10_depth 20 = .ok (.invokevirtual 109, 3) := by decide +kernel
theorem zd_X10_depth_23 : decode cX10_depth 23 = .ok (.istore_n 3, 1) := by decide +kernel
theorem zd_X10_depth_24 : decode cX10_depth 24 = .ok (.goto (-15), 3) := by decide +kernel
theorem zd_X10_depth_27 : decode cX10_depth 27 = .ok (.iload_n 2, 1) := by decide +kernel
theorem zd_X10_depth_28 : decode cX10_depth 28 = .ok (.ireturn, 1) := by decide +kernel
theorem zd_X10_isIn_0 : decode cX10_isIn 0 = .ok (.aload_n 0, 1) := by decide +kernel
theorem zd_X10_isIn_1 : decode cX10_isIn 1 = .ok (.iconst 5, 1) := by decide +kernel
theorem zd_X10_isIn_2 : decode cX10_isIn 2 = .ok (.iload_n 1, 1) := by decide +kernel
theorem zd_X10_isIn_3 : decode cX10_isIn 3 = .ok (.invokevirtual 109, 3) := by decide +kernel
theorem zd_X10_isIn_6 : decode cX10_isIn 6 = .ok (.istore_n 3, 1) := by decide +kernel
theorem zd_X10_isIn_7 : decode cX10_isIn 7 = .ok (.iload_n 3, 1) := by decide +kernel
theorem zd_X10_isIn_8 : decode cX10_isIn 8 = .ok (.iconst (-1), 1) := by decide +kernel
theorem zd_X10_isIn_9 : decode cX10_isIn 9 = .ok (.if_icmp .eq 18, 3) := by decide +kernel
theorem zd_X10_isIn_12 : decode cX10_isIn 12 = .ok (.iload_n 3, 1) := by decide +kernel
theorem zd_X10_isIn_13 : decode cX10_isIn 13 = .ok (.iload_n 2, 1) := by decide +kernel
theorem zd_X10_isIn_14 : decode cX10_isIn 14 = .ok (.if_icmp .eq 13, 3) := by decide +kernel
theorem zd_X10_isIn_17 : decode cX10_isIn 17 = .ok (.aload_n 0, 1) := by decide +kernel
theorem zd_X10_isIn_18 : decode cX10_isIn 18 = .ok (.iconst 5, 1) := by decide +kernel
theorem zd_X10_isIn_19 : decode cX10_isIn 19 = .ok (.iload_n 3, 1) := by decide +kernel
theorem zd_X10_isIn_20 : decode cX10_isIn 20 = .ok (.invokevirtual 109, 3) := by decide +kernel
theorem zd_X10_isIn_23 : decode cX10_isIn 23 = .ok (.istore_n 3, 1) := by decide +kernel
theorem zd_X10_isIn_24 : decode cX10_isIn 24 = .ok (.goto (-17), 3) := by decide +kernel
theorem zd_X10_isIn_27 : decode cX10_isIn 27 = .ok (.iload_n 3, 1) := by decide +kernel
theorem zd_X10_isIn_28 : decode cX10_isIn 28 = .ok (.iload_n 2, 1) := by decide +kernel
theorem zd_X10_isIn_29 : decode cX10_isIn 29 = .ok (.if_icmp .ne 7, 3) := by decide +kernel
theorem zd_X10_isIn_32 : decode cX10_isIn 32 = .ok (.iconst 1, 1) := by decide +kernel
theorem zd_X10_isIn_33 : decode cX10_isIn 33 = .ok (.goto 4, 3) := by decide +kernel
theorem zd_X10_isIn_36 : decode cX10_isIn 36 = .ok (.iconst 0, 1) := by decide +kernel
theorem zd_X10_isIn_37 : decode cX10_isIn 37 = .ok (.ireturn, 1) := by decide +kernel
theorem zd_X10_thread_0 : decode cX10_thread 0 = .ok (.iconst 0, 1) := by decide +kernel
theorem zd_X10_thread_1 : decode cX10_thread 1 = .ok (.istore_n 2, 1) := by decide +kernel
theorem zd_X10_thread_2 : decode cX10_thread 2 = .ok (.iconst 0, 1) := by decide +kernel
theorem zd_X10_thread_3 : decode cX10_thread 3 = .ok (.istore_n 3, 1) := by decide +kernel
theorem zd_X10_thread_4 : decode cX10_thread 4 = .ok (.iload_n 3, 1) := by decide +kernel
theorem zd_X10_thread_5 : decode cX10_thread 5 = .ok (.aload_n 0, 1) := by decide +kernel
theorem zd_X10_thread_6 : decode cX10_thread 6 = .ok (.getfield 93, 3) := by decide +kernel
theorem zd_X10_thread_9 : decode cX10_thread 9 = .ok (.if_icmp .ge 21, 3) := by decide +kernel
theorem zd_X10_thread_12 : decode cX10_thread 12 = .ok (.aload_n 0, 1) := by decide +kernel
theorem zd_X10_thread_13 : decode cX10_thread 13 = .ok (.iload_n 3, 1) := by decide +kernel
theorem zd_X10_thread_14 : decode cX10_thread 14 = .ok (.iload_n 1, 1) := by decide +kernel
theorem zd_X10_thread_15 : decode cX10_thread 15 = .ok (.invokevirtual 179, 3) := by decide +kernel
theorem zd_X10_thread_18 : decode cX10_thread 18 = .ok (.ifCond .eq 6, 3) := by decide +kernel
theorem zd_X10_thread_21 : decode cX10_thread 21 = .ok (.iinc 2 1, 3) := by decide +kernel
theorem zd_X10_thread_24 : decode cX10_thread 24 = .ok (.iinc 3 1, 3) := by decide +kernel
theorem zd_X10_thread_27 : decode cX10_thread 27 = .ok (.goto (-23), 3) := by decide +kernel
theorem zd_X10_thread_30 : decode cX10_thread 30 = .ok (.iload_n 2, 1) := by decide +kernel
theorem zd_X10_thread_31 : decode cX10_thread 31 = .ok (.ireturn, 1) := by decide +kernel
theorem zd_X10_isOpen_0 : decode cX10_isOpen 0 = .ok (.iconst 0, 1) := by decide +kernel
theorem zd_X10_isOpen_1 : decode cX10_isOpen 1 = .ok (.istore_n 2, 1) := by decide +kernel
theorem zd_X10_isOpen_2 : decode cX10_isOpen 2 = .ok (.iload_n 2, 1) := by decide +kernel
theorem zd_X10_isOpen_3 : decode cX10_isOpen 3 = .ok (.aload_n 0, 1) := by decide +kernel
theorem zd_X10_isOpen_4 : decode cX10_isOpen 4 = .ok (.getfield 93, 3) := by decide +kernel
theorem zd_X10_isOpen_7 : decode cX10_isOpen 7 = .ok (.if_icmp .ge 35, 3) := by decide +kernel
theorem zd_X10_isOpen_10 : decode cX10_isOpen 10 = .ok (.iload_n 2, 1) := by decide +kernel
theorem zd_X10_isOpen_11 : decode cX10_isOpen 11 = .ok (.iload_n 1, 1) := by decide +kernel
theorem zd_X10_isOpen_12 : decode cX10_isOpen 12 = .ok (.if_icmp .eq 12, 3) := by decide +kernel
theorem zd_X10_isOpen_15 : decode cX10_isOpen 15 = .ok (.aload_n 0, 1) := by decide +kernel
theorem zd_X10_isOpen_16 : decode cX10_isOpen 16 = .ok (.iload_n 2, 1) := by decide +kernel
theorem zd_X10_isOpen_17 : decode cX10_isOpen 17 = .ok (.iload_n 1, 1) := by decide +kernel
theorem zd_X10_isOpen_18 : decode cX10_isOpen 18 = .ok (.invokevirtual 179, 3) := by decide +kernel
theorem zd_X10_isOpen_21 : decode cX10_isOpen 21 = .ok (.ifCond .eq 15, 3) := by decide +kernel
theorem zd_X10_isOpen_24 : decode cX10_isOpen 24 = .ok (.aload_n 0, 1) := by decide +kernel
theorem zd_X10_isOpen_25 : decode cX10_isOpen 25 = .ok (.bipush 6, 2) := by decide +kernel
theorem zd_X10_isOpen_27 : decode cX10_isOpen 27 = .ok (.iload_n 2, 1) := by decide +kernel
theorem zd_X10_isOpen_28 : decode cX10_isOpen 28 = .ok (.invokevirtual 109, 3) := by decide +kernel
theorem zd_X10_isOpen_31 : decode cX10_isOpen 31 = .ok (.ifCond .ne 5, 3) := by decide +kernel
theorem zd_X10_isOpen_34 : decode cX10_isOpen 34 = .ok (.iconst 1, 1) := by decide +kernel
theorem zd_X10_isOpen_35 : decode cX10_isOpen 35 = .ok (.ireturn, 1) := by decide +kernel
theorem zd_X10_isOpen_36 : decode cX10_isOpen 36 = .ok (.iinc 2 1, 3) := by decide +kernel
theorem zd_X10_isOpen_39 : decode cX10_isOpen 39 = .ok (.goto (-37), 3) := by decide +kernel
theorem zd_X10_isOpen_42 : decode cX10_isOpen 42 = .ok (.iconst 0, 1) := by decide +kernel
theorem zd_X10_isOpen_43 : decode cX10_isOpen 43 = .ok (.ireturn, 1) := by decide +kernel
theorem zd_X10_remarkOf_0 : decode cX10_remarkOf 0 = .ok (.aload_n 0, 1) := by decide +kernel
theorem zd_X10_remarkOf_1 : decode cX10_remarkOf 1 = .ok (.iload_n 1, 1) := by decide +kernel
theorem zd_X10_remarkOf_2 : decode cX10_remarkOf 2 = .ok (.invokevirtual 103, 3) := by decide +kernel
theorem zd_X10_remarkOf_5 : decode cX10_remarkOf 5 = .ok (.ifCond .ne 10, 3) := by decide +kernel
theorem zd_X10_remarkOf_8 : decode cX10_remarkOf 8 = .ok (.aload_n 0, 1) := by decide +kernel
theorem zd_X10_remarkOf_9 : decode cX10_remarkOf 9 = .ok (.bipush (-5), 2) := by decide +kernel
theorem zd_X10_remarkOf_11 : decode cX10_remarkOf 11 = .ok (.invokevirtual 82, 3) := by decide +kernel
theorem zd_X10_remarkOf_14 : decode cX10_remarkOf 14 = .ok (.ireturn, 1) := by decide +kernel
theorem zd_X10_remarkOf_15 : decode cX10_remarkOf 15 = .ok (.iload_n 2, 1) := by decide +kernel
theorem zd_X10_remarkOf_16 : decode cX10_remarkOf 16 = .ok (.iconst 0, 1) := by decide +kernel
theorem zd_X10_remarkOf_17 : decode cX10_remarkOf 17 = .ok (.bipush 6, 2) := by decide +kernel
theorem zd_X10_remarkOf_19 : decode cX10_remarkOf 19 = .ok (.invokestatic 89, 3) := by decide +kernel
theorem zd_X10_remarkOf_22 : decode cX10_remarkOf 22 = .ok (.ifCond .eq 10, 3) := by decide +kernel
theorem zd_X10_remarkOf_25 : decode cX10_remarkOf 25 = .ok (.aload_n 0, 1) := by decide +kernel
theorem zd_X10_remarkOf_26 : decode cX10_remarkOf 26 = .ok (.iload_n 2, 1) := by decide +kernel
theorem zd_X10_remarkOf_27 : decode cX10_remarkOf 27 = .ok (.iload_n 1, 1) := by decide +kernel
theorem zd_X10_remarkOf_28 : decode cX10_remarkOf 28 = .ok (.invokevirtual 109, 3) := by decide +kernel
theorem zd_X10_remarkOf_31 : decode cX10_remarkOf 31 = .ok (.ireturn, 1) := by decide +kernel
theorem zd_X10_remarkOf_32 : decode cX10_remarkOf 32 = .ok (.iload_n 2, 1) := by decide +kernel
theorem zd_X10_remarkOf_33 : decode cX10_remarkOf 33 = .ok (.tableswitch 53 7 9 #[27, 33, 39], 27) := by decide +kernel
theorem zd_X10_remarkOf_60 : decode cX10_remarkOf 60 = .ok (.aload_n 0, 1) := by decide +kernel
theorem zd_X10_remarkOf_61 : decode cX10_remarkOf 61 = .ok (.iload_n 1, 1) := by decide +kernel
theorem zd_X10_remarkOf_62 : decode cX10_remarkOf 62 = .ok (.invokevirtual 182, 3) := by decide +kernel
theorem zd_X10_remarkOf_65 : decode cX10_remarkOf 65 = .ok (.ireturn, 1) := by decide +kernel
theorem zd_X10_remarkOf_66 : decode cX10_remarkOf 66 = .ok (.aload_n 0, 1) := by decide +kernel
theorem zd_X10_remarkOf_67 : decode cX10_remarkOf 67 = .ok (.iload_n 1, 1) := by decide +kernel
theorem zd_X10_remarkOf_68 : decode cX10_remarkOf 68 = .ok (.invokevirtual 185, 3) := by decide +kernel
theorem zd_X10_remarkOf_71 : decode cX10_remarkOf 71 = .ok (.ireturn, 1) := by decide +kernel
theorem zd_X10_remarkOf_72 : decode cX10_remarkOf 72 = .ok (.aload_n 0, 1) := by decide +kernel
theorem zd_X10_remarkOf_73 : decode cX10_remarkOf 73 = .ok (.iload_n 1, 1) := by decide +kernel
theorem zd_X10_remarkOf_74 : decode cX10_remarkOf 74 = .ok (.invokevirtual 188, 3) := by decide +kernel
theorem zd_X10_remarkOf_77 : decode cX10_remarkOf 77 = .ok (.ifCond .eq 7, 3) := by decide +kernel
theorem zd_X10_remarkOf_80 : decode cX10_remarkOf 80 = .ok (.iconst 1, 1) := by decide +kernel
theorem zd_X10_remarkOf_81 : decode cX10_remarkOf 81 = .ok (.goto 4, 3) := by decide +kernel
theorem zd_X10_remarkOf_84 : decode cX10_remarkOf 84 = .ok (.iconst 0, 1) := by decide +kernel
theorem zd_X10_remarkOf_85 : decode cX10_remarkOf 85 = .ok (.ireturn, 1) := by decide +kernel
theorem zd_X10_remarkOf_86 : decode cX10_remarkOf 86 = .ok (.aload_n 0, 1) := by decide +kernel
theorem zd_X10_remarkOf_87 : decode cX10_remarkOf 87 = .ok (.bipush (-5), 2) := by decide +kernel
theorem zd_X10_remarkOf_89 : decode cX10_remarkOf 89 = .ok (.invokevirtual 82, 3) := by decide +kernel
theorem zd_X10_remarkOf_92 : decode cX10_remarkOf 92 = .ok (.ireturn, 1) := by decide +kernel
theorem zd_X10_settle_0 : decode cX10_settle 0 = .ok (.aload_n 0, 1) := by decide +kernel
theorem zd_X10_settle_1 : decode cX10_settle 1 = .ok (.iload_n 1, 1) := by decide +kernel
theorem zd_X10_settle_2 : decode cX10_settle 2 = .ok (.invokevirtual 103, 3) := by decide +kernel
theorem zd_X10_settle_5 : decode cX10_settle 5 = .ok (.ifCond .ne 9, 3) := by decide +kernel
theorem zd_X10_settle_8 : decode cX10_settle 8 = .ok (.aload_n 0, 1) := by decide +kernel
theorem zd_X10_settle_9 : decode cX10_settle 9 = .ok (.iconst (-1), 1) := by decide +kernel
theorem zd_X10_settle_10 : decode cX10_settle 10 = .ok (.invokevirtual 82, 3) := by decide +kernel
theorem zd_X10_settle_13 : decode cX10_settle 13 = .ok (.ireturn, 1) := by decide +kernel
theorem zd_X10_settle_14 : decode cX10_settle 14 = .ok (.aload_n 0, 1) := by decide +kernel
theorem zd_X10_settle_15 : decode cX10_settle 15 = .ok (.bipush 6, 2) := by decide +kernel
theorem zd_X10_settle_17 : decode cX10_settle 17 = .ok (.iload_n 1, 1) := by decide +kernel
theorem zd_X10_settle_18 : decode cX10_settle 18 = .ok (.invokevirtual 109, 3) := by decide +kernel
theorem zd_X10_settle_21 : decode cX10_settle 21 = .ok (.istore_n 3, 1) := by decide +kernel
theorem zd_X10_settle_22 : decode cX10_settle 22 = .ok (.aload_n 0, 1) := by decide +kernel
theorem zd_X10_settle_23 : decode cX10_settle 23 = .ok (.getfield 23, 3) := by decide +kernel
theorem zd_X10_settle_26 : decode cX10_settle 26 = .ok (.bipush 96, 2) := by decide +kernel
theorem zd_X10_settle_28 : decode cX10_settle 28 = .ok (.iload_n 1, 1) := by decide +kernel
theorem zd_X10_settle_29 : decode cX10_settle 29 = .ok (.iadd, 1) := by decide +kernel
theorem zd_X10_settle_30 : decode cX10_settle 30 = .ok (.iload_n 2, 1) := by decide +kernel
theorem zd_X10_settle_31 : decode cX10_settle 31 = .ok (.ifCond .eq 7, 3) := by decide +kernel
theorem zd_X10_settle_34 : decode cX10_settle 34 = .ok (.iconst 1, 1) := by decide +kernel
theorem zd_X10_settle_35 : decode cX10_settle 35 = .ok (.goto 4, 3) := by decide +kernel
theorem zd_X10_settle_38 : decode cX10_settle 38 = .ok (.iconst 0, 1) := by decide +kernel
theorem zd_X10_settle_39 : decode cX10_settle 39 = .ok (.iastore, 1) := by decide +kernel
theorem zd_X10_settle_40 : decode cX10_settle 40 = .ok (.iload_n 3, 1) := by decide +kernel
theorem zd_X10_settle_41 : decode cX10_settle 41 = .ok (.ireturn, 1) := by decide +kernel
theorem zd_X10_follows_0 : decode cX10_follows 0 = .ok (.iconst (-1), 1) := by decide +kernel
theorem zd_X10_follows_1 : decode cX10_follows 1 = .ok (.istore_n 2, 1) := by decide +kernel
theorem zd_X10_follows_2 : decode cX10_follows 2 = .ok (.iconst (-1), 1) := by decide +kernel
theorem zd_X10_follows_3 : decode cX10_follows 3 = .ok (.istore_n 3, 1) := by decide +kernel
theorem zd_X10_follows_4 : decode cX10_follows 4 = .ok (.iconst 0, 1) := by decide +kernel
theorem zd_X10_follows_5 : decode cX10_follows 5 = .ok (.istore 4, 2) := by decide +kernel
theorem zd_X10_follows_7 : decode cX10_follows 7 = .ok (.aload_n 0, 1) := by decide +kernel
theorem zd_X10_follows_8 : decode cX10_follows 8 = .ok (.getfield 191, 3) := by decide +kernel
theorem zd_X10_follows_11 : decode cX10_follows 11 = .ok (.istore 5, 2) := by decide +kernel
theorem zd_X10_follows_13 : decode cX10_follows 13 = .ok (.iload 5, 2) := by decide +kernel
theorem zd_X10_follows_15 : decode cX10_follows 15 = .ok (.aload_n 0, 1) := by decide +kernel
theorem zd_X10_follows_16 : decode cX10_follows 16 = .ok (.getfield 194, 3) := by decide +kernel
theorem zd_X10_follows_19 : decode cX10_follows 19 = .ok (.if_icmp .gt 59, 3) := by decide +kernel
theorem zd_X10_follows_22 : decode cX10_follows 22 = .ok (.aload_n 0, 1) := by decide +kernel
theorem zd_X10_follows_23 : decode cX10_follows 23 = .ok (.getfield 20, 3) := by decide +kernel
theorem zd_X10_follows_26 : decode cX10_follows 26 = .ok (.bipush 24, 2) := by decide +kernel
theorem zd_X10_follows_28 : decode cX10_follows 28 = .ok (.iload_n 1, 1) := by decide +kernel
theorem zd_X10_follows_29 : decode cX10_follows 29 = .ok (.imul, 1) := by decide +kernel
theorem zd_X10_follows_30 : decode cX10_follows 30 = .ok (.iload 5, 2) := by decide +kernel
theorem zd_X10_follows_32 : decode cX10_follows 32 = .ok (.iadd, 1) := by decide +kernel
theorem zd_X10_follows_33 : decode cX10_follows 33 = .ok (.iaload, 1) := by decide +kernel
theorem zd_X10_follows_34 : decode cX10_follows 34 = .ok (.istore 6, 2) := by decide +kernel
theorem zd_X10_follows_36 : decode cX10_follows 36 = .ok (.iload 6, 2) := by decide +kernel
theorem zd_X10_follows_38 : decode cX10_follows 38 = .ok (.iconst (-1), 1) := by decide +kernel
theorem zd_X10_follows_39 : decode cX10_follows 39 = .ok (.if_icmp .ne 6, 3) := by decide +kernel
theorem zd_X10_follows_42 : decode cX10_follows 42 = .ok (.goto 30, 3) := by decide +kernel
theorem zd_X10_follows_45 : decode cX10_follows 45 = .ok (.iload 4, 2) := by decide +kernel
theorem zd_X10_follows_47 : decode cX10_follows 47 = .ok (.ifCond .ne 8, 3) := by decide +kernel
theorem zd_X10_follows_50 : decode cX10_follows 50 = .ok (.iload 6, 2) := by decide +kernel
theorem zd_X10_follows_52 : decode cX10_follows 52 = .ok (.goto 9, 3) := by decide +kernel
theorem zd_X10_follows_55 : decode cX10_follows 55 = .ok (.iload_n 2, 1) := by decide +kernel
theorem zd_X10_follows_56 : decode cX10_follows 56 = .ok (.iload 6, 2) := by decide +kernel
theorem zd_X10_follows_58 : decode cX10_follows 58 = .ok (.invokestatic 197, 3) := by decide +kernel
theorem zd_X10_follows_61 : decode cX10_follows 61 = .ok (.istore_n 2, 1) := by decide +kernel
theorem zd_X10_follows_62 : decode cX10_follows 62 = .ok (.iload_n 3, 1) := by decide +kernel
theorem zd_X10_follows_63 : decode cX10_follows 63 = .ok (.iload 6, 2) := by decide +kernel
theorem zd_X10_follows_65 : decode cX10_follows 65 = .ok (.invokestatic 145, 3) := by decide +kernel
theorem zd_X10_follows_68 : decode cX10_follows 68 = .ok (.istore_n 3, 1) := by decide +kernel
theorem zd_X10_follows_69 : decode cX10_follows 69 = .ok (.iinc 4 1, 3) := by decide +kernel
theorem zd_X10_follows_72 : decode cX10_follows 72 = .ok (.iinc 5 1, 3) := by decide +kernel
theorem zd_X10_follows_75 : decode cX10_follows 75 = .ok (.goto (-62), 3) := by decide +kernel
theorem zd_X10_follows_78 : decode cX10_follows 78 = .ok (.aload_n 0, 1) := by decide +kernel
theorem zd_X10_follows_79 : decode cX10_follows 79 = .ok (.iload_n 2, 1) := by decide +kernel
theorem zd_X10_follows_80 : decode cX10_follows 80 = .ok (.putfield 191, 3) := by decide +kernel
theorem zd_X10_follows_83 : decode cX10_follows 83 = .ok (.aload_n 0, 1) := by decide +kernel
theorem zd_X10_follows_84 : decode cX10_follows 84 = .ok (.iload_n 3, 1) := by decide +kernel
theorem zd_X10_follows_85 : decode cX10_follows 85 = .ok (.putfield 194, 3) := by decide +kernel
theorem zd_X10_follows_88 : decode cX10_follows 88 = .ok (.iload 4, 2) := by decide +kernel
theorem zd_X10_follows_90 : decode cX10_follows 90 = .ok (.ireturn, 1) := by decide +kernel
theorem zd_X10_followsAsPoint_0 : decode cX10_followsAsPoint 0 = .ok (.aload_n 0, 1) := by decide +kernel
theorem zd_X10_followsAsPoint_1 : decode cX10_followsAsPoint 1 = .ok (.getfield 191, 3) := by decide +kernel
theorem zd_X10_followsAsPoint_4 : decode cX10_followsAsPoint 4 = .ok (.istore_n 3, 1) := by decide +kernel
theorem zd_X10_followsAsPoint_5 : decode cX10_followsAsPoint 5 = .ok (.iload_n 2, 1) := by decide +kernel
theorem zd_X10_followsAsPoint_6 : decode cX10_followsAsPoint 6 = .ok (.ifCond .eq 28, 3) := by decide +kernel
theorem zd_X10_followsAsPoint_9 : decode cX10_followsAsPoint 9 = .ok (.iload_n 3, 1) := by decide +kernel
theorem zd_X10_followsAsPoint_10 : decode cX10_followsAsPoint 10 = .ok (.ifCond .le 24, 3) := by decide +kernel
theorem zd_X10_followsAsPoint_13 : decode cX10_followsAsPoint 13 = .ok (.aload_n 0, 1) := by decide +kernel
theorem zd_X10_followsAsPoint_14 : decode cX10_followsAsPoint 14 = .ok (.getfield 20, 3) := by decide +kernel
theorem zd_X10_followsAsPoint_17 : decode cX10_followsAsPoint 17 = .ok (.bipush 24, 2) := by decide +kernel
theorem zd_X10_followsAsPoint_19 : decode cX10_followsAsPoint 19 = .ok (.iload_n 1, 1) := by decide +kernel
theorem zd_X10_followsAsPoint_20 : decode cX10_followsAsPoint 20 = .ok (.imul, 1) := by decide +kernel
theorem zd_X10_followsAsPoint_21 : decode cX10_followsAsPoint 21 = .ok (.iload_n 3, 1) := by decide +kernel
theorem zd_X10_followsAsPoint_22 : decode cX10_followsAsPoint 22 = .ok (.iadd, 1) := by decide +kernel
theorem zd_X10_followsAsPoint_23 : decode cX10_followsAsPoint 23 = .ok (.iaload, 1) := by decide +kernel
theorem zd_X10_followsAsPoint_24 : decode cX10_followsAsPoint 24 = .ok (.iconst (-1), 1) := by decide +kernel
theorem zd_X10_followsAsPoint_25 : decode cX10_followsAsPoint 25 = .ok (.if_icmp .ne 9, 3) := by decide +kernel
theorem zd_X10_followsAsPoint_28 : decode cX10_followsAsPoint 28 = .ok (.iinc 3 (-1), 3) := by decide +kernel
theorem zd_X10_followsAsPoint_31 : decode cX10_followsAsPoint 31 = .ok (.goto (-26), 3) := by decide +kernel
theorem zd_X10_followsAsPoint_34 : decode cX10_followsAsPoint 34 = .ok (.aload_n 0, 1) := by decide +kernel
theorem zd_X10_followsAsPoint_35 : decode cX10_followsAsPoint 35 = .ok (.aload_n 0, 1) := by decide +kernel
theorem zd_X10_followsAsPoint_36 : decode cX10_followsAsPoint 36 = .ok (.getfield 20, 3) := by decide +kernel
theorem zd_X10_followsAsPoint_39 : decode cX10_followsAsPoint 39 = .ok (.bipush 24, 2) := by decide +kernel
theorem zd_X10_followsAsPoint_41 : decode cX10_followsAsPoint 41 = .ok (.iload_n 1, 1) := by decide +kernel
theorem zd_X10_followsAsPoint_42 : decode cX10_followsAsPoint 42 = .ok (.imul, 1) := by decide +kernel
theorem zd_X10_followsAsPoint_43 : decode cX10_followsAsPoint 43 = .ok (.iload_n 3, 1) := by decide +kernel
theorem zd_X10_followsAsPoint_44 : decode cX10_followsAsPoint 44 = .ok (.iadd, 1) := by decide +kernel
theorem zd_X10_followsAsPoint_45 : decode cX10_followsAsPoint 45 = .ok (.iaload, 1) := by decide +kernel
theorem zd_X10_followsAsPoint_46 : decode cX10_followsAsPoint 46 = .ok (.putfield 191, 3) := by decide +kernel
theorem zd_X10_followsAsPoint_49 : decode cX10_followsAsPoint 49 = .ok (.aload_n 0, 1) := by decide +kernel
theorem zd_X10_followsAsPoint_50 : decode cX10_followsAsPoint 50 = .ok (.aload_n 0, 1) := by decide +kernel
theorem zd_X10_followsAsPoint_51 : decode cX10_followsAsPoint 51 = .ok (.getfield 191, 3) := by decide +kernel
theorem zd_X10_followsAsPoint_54 : decode cX10_followsAsPoint 54 = .ok (.putfield 194, 3) := by decide +kernel
theorem zd_X10_followsAsPoint_57 : decode cX10_followsAsPoint 57 = .ok (.aload_n 0, 1) := by decide +kernel
theorem zd_X10_followsAsPoint_58 : decode cX10_followsAsPoint 58 = .ok (.getfield 191, 3) := by decide +kernel
theorem zd_X10_followsAsPoint_61 : decode cX10_followsAsPoint 61 = .ok (.iconst (-1), 1) := by decide +kernel
theorem zd_X10_followsAsPoint_62 : decode cX10_followsAsPoint 62 = .ok (.if_icmp .eq 7, 3) := by decide +kernel
theorem zd_X10_followsAsPoint_65 : decode cX10_followsAsPoint 65 = .ok (.iconst 1, 1) := by decide +kernel
theorem zd_X10_followsAsPoint_66 : decode cX10_followsAsPoint 66 = .ok (.goto 4, 3) := by decide +kernel
theorem zd_X10_followsAsPoint_69 : decode cX10_followsAsPoint 69 = .ok (.iconst 0, 1) := by decide +kernel
theorem zd_X10_followsAsPoint_70 : decode cX10_followsAsPoint 70 = .ok (.ireturn, 1) := by decide +kernel
theorem zd_X10_goesTo_0 : decode cX10_goesTo 0 = .ok (.aload_n 0, 1) := by decide +kernel
theorem zd_X10_goesTo_1 : decode cX10_goesTo 1 = .ok (.getfield 194, 3) := by decide +kernel
theorem zd_X10_goesTo_4 : decode cX10_goesTo 4 = .ok (.aload_n 0, 1) := by decide +kernel
theorem zd_X10_goesTo_5 : decode cX10_goesTo 5 = .ok (.getfield 191, 3) := by decide +kernel
theorem zd_X10_goesTo_8 : decode cX10_goesTo 8 = .ok (.isub, 1) := by decide +kernel
theorem zd_X10_goesTo_9 : decode cX10_goesTo 9 = .ok (.iconst 1, 1) := by decide +kernel
theorem zd_X10_goesTo_10 : decode cX10_goesTo 10 = .ok (.iadd, 1) := by decide +kernel
theorem zd_X10_goesTo_11 : decode cX10_goesTo 11 = .ok (.istore 4, 2) := by decide +kernel
theorem zd_X10_goesTo_13 : decode cX10_goesTo 13 = .ok (.iload_n 1, 1) := by decide +kernel
theorem zd_X10_goesTo_14 : decode cX10_goesTo 14 = .ok (.lookupswitch 73 #[(1, 34), (3, 41), (6, 48)], 34) := by decide +kernel
theorem zd_X10_goesTo_48 : decode cX10_goesTo 48 = .ok (.aload_n 0, 1) := by decide +kernel
theorem zd_X10_goesTo_49 : decode cX10_goesTo 49 = .ok (.iload_n 3, 1) := by decide +kernel
theorem zd_X10_goesTo_50 : decode cX10_goesTo 50 = .ok (.iconst 0, 1) := by decide +kernel
theorem zd_X10_goesTo_51 : decode cX10_goesTo 51 = .ok (.invokevirtual 200, 3) := by decide +kernel
theorem zd_X10_goesTo_54 : decode cX10_goesTo 54 = .ok (.ireturn, 1) := by decide +kernel
theorem zd_X10_goesTo_55 : decode cX10_goesTo 55 = .ok (.aload_n 0, 1) := by decide +kernel
theorem zd_X10_goesTo_56 : decode cX10_goesTo 56 = .ok (.iload_n 3, 1) := by decide +kernel
theorem zd_X10_goesTo_57 : decode cX10_goesTo 57 = .ok (.iconst 1, 1) := by decide +kernel
theorem zd_X10_goesTo_58 : decode cX10_goesTo 58 = .ok (.invokevirtual 200, 3) := by decide +kernel
theorem zd_X10_goesTo_61 : decode cX10_goesTo 61 = .ok (.ireturn, 1) := by decide +kernel
theorem zd_X10_goesTo_62 : decode cX10_goesTo 62 = .ok (.aload_n 0, 1) := by decide +kernel
theorem zd_X10_goesTo_63 : decode cX10_goesTo 63 = .ok (.iload_n 3, 1) := by decide +kernel
theorem zd_X10_goesTo_64 : decode cX10_goesTo 64 = .ok (.iconst 1, 1) := by decide +kernel
theorem zd_X10_goesTo_65 : decode cX10_goesTo 65 = .ok (.invokevirtual 200, 3) := by decide +kernel
theorem zd_X10_goesTo_68 : decode cX10_goesTo 68 = .ok (.ifCond .ne 5, 3) := by decide +kernel
theorem zd_X10_goesTo_71 : decode cX10_goesTo 71 = .ok (.iconst 0, 1) := by decide +kernel
theorem zd_X10_goesTo_72 : decode cX10_goesTo 72 = .ok (.ireturn, 1) := by decide +kernel
theorem zd_X10_goesTo_73 : decode cX10_goesTo 73 = .ok (.aload_n 0, 1) := by decide +kernel
theorem zd_X10_goesTo_74 : decode cX10_goesTo 74 = .ok (.aload_n 0, 1) := by decide +kernel
theorem zd_X10_goesTo_75 : decode cX10_goesTo 75 = .ok (.getfield 13, 3) := by decide +kernel
theorem zd_X10_goesTo_78 : decode cX10_goesTo 78 = .ok (.iload_n 3, 1) := by decide +kernel
theorem zd_X10_goesTo_79 : decode cX10_goesTo 79 = .ok (.iaload, 1) := by decide +kernel
theorem zd_X10_goesTo_80 : decode cX10_goesTo 80 = .ok (.iconst 1, 1) := by decide +kernel
theorem zd_X10_goesTo_81 : decode cX10_goesTo 81 = .ok (.isub, 1) := by decide +kernel
theorem zd_X10_goesTo_82 : decode cX10_goesTo 82 = .ok (.putfield 194, 3) := by decide +kernel
theorem zd_X10_goesTo_85 : decode cX10_goesTo 85 = .ok (.iconst 1, 1) := by decide +kernel
theorem zd_X10_goesTo_86 : decode cX10_goesTo 86 = .ok (.ireturn, 1) := by decide +kernel
theorem zd_X10_goesTo_87 : decode cX10_goesTo 87 = .ok (.aload_n 0, 1) := by decide +kernel
theorem zd_X10_goesTo_88 : decode cX10_goesTo 88 = .ok (.iload_n 3, 1) := by decide +kernel
theorem zd_X10_goesTo_89 : decode cX10_goesTo 89 = .ok (.invokevirtual 204, 3) := by decide +kernel
theorem zd_X10_goesTo_92 : decode cX10_goesTo 92 = .ok (.istore 5, 2) := by decide +kernel
theorem zd_X10_goesTo_94 : decode cX10_goesTo 94 = .ok (.iload 5, 2) := by decide +kernel
theorem zd_X10_goesTo_96 : decode cX10_goesTo 96 = .ok (.ifCond .ne 5, 3) := by decide +kernel
theorem zd_X10_goesTo_99 : decode cX10_goesTo 99 = .ok (.iconst 0, 1) := by decide +kernel
theorem zd_X10_goesTo_100 : decode cX10_goesTo 100 = .ok (.ireturn, 1) := by decide +kernel
theorem zd_X10_goesTo_101 : decode cX10_goesTo 101 = .ok (.iload_n 1, 1) := by decide +kernel
theorem zd_X10_goesTo_102 : decode cX10_goesTo 102 = .ok (.iconst 4, 1) := by decide +kernel
theorem zd_X10_goesTo_103 : decode cX10_goesTo 103 = .ok (.if_icmp .ne 21, 3) := by decide +kernel
theorem zd_X10_goesTo_106 : decode cX10_goesTo 106 = .ok (.bipush 10, 2) := by decide +kernel
theorem zd_X10_goesTo_108 : decode cX10_goesTo 108 = .ok (.iload 5, 2) := by decide +kernel
theorem zd_X10_goesTo_110 : decode cX10_goesTo 110 = .ok (.imul, 1) := by decide +kernel
theorem zd_X10_goesTo_111 : decode cX10_goesTo 111 = .ok (.iload_n 2, 1) := by decide +kernel
theorem zd_X10_goesTo_112 : decode cX10_goesTo 112 = .ok (.iload 4, 2) := by decide +kernel
theorem zd_X10_goesTo_114 : decode cX10_goesTo 114 = .ok (.imul, 1) := by decide +kernel
theorem zd_X10_goesTo_115 : decode cX10_goesTo 115 = .ok (.if_icmp .lt 7, 3) := by decide +kernel
theorem zd_X10_goesTo_118 : decode cX10_goesTo 118 = .ok (.iconst 1, 1) := by decide +kernel
theorem zd_X10_goesTo_119 : decode cX10_goesTo 119 = .ok (.goto 4, 3) := by decide +kernel
theorem zd_X10_goesTo_122 : decode cX10_goesTo 122 = .ok (.iconst 0, 1) := by decide +kernel
theorem zd_X10_goesTo_123 : decode cX10_goesTo 123 = .ok (.ireturn, 1) := by decide +kernel
theorem zd_X10_goesTo_124 : decode cX10_goesTo 124 = .ok (.iload_n 1, 1) := by decide +kernel
theorem zd_X10_goesTo_125 : decode cX10_goesTo 125 = .ok (.iconst 2, 1) := by decide +kernel
theorem zd_X10_goesTo_126 : decode cX10_goesTo 126 = .ok (.if_icmp .eq 8, 3) := by decide +kernel
theorem zd_X10_goesTo_129 : decode cX10_goesTo 129 = .ok (.iload_n 1, 1) := by decide +kernel
theorem zd_X10_goesTo_130 : decode cX10_goesTo 130 = .ok (.iconst 5, 1) := by decide +kernel
theorem zd_X10_goesTo_131 : decode cX10_goesTo 131 = .ok (.if_icmp .ne 44, 3) := by decide +kernel
theorem zd_X10_goesTo_134 : decode cX10_goesTo 134 = .ok (.iload 5, 2) := by decide +kernel
theorem zd_X10_goesTo_136 : decode cX10_goesTo 136 = .ok (.iload 4, 2) := by decide +kernel
theorem zd_X10_goesTo_138 : decode cX10_goesTo 138 = .ok (.if_icmp .ne 35, 3) := by decide +kernel
theorem zd_X10_goesTo_141 : decode cX10_goesTo 141 = .ok (.aload_n 0, 1) := by decide +kernel
theorem zd_X10_goesTo_142 : decode cX10_goesTo 142 = .ok (.getfield 194, 3) := by decide +kernel
theorem zd_X10_goesTo_145 : decode cX10_goesTo 145 = .ok (.aload_n 0, 1) := by decide +kernel
theorem zd_X10_goesTo_146 : decode cX10_goesTo 146 = .ok (.getfield 191, 3) := by decide +kernel
theorem zd_X10_goesTo_149 : decode cX10_goesTo 149 = .ok (.isub, 1) := by decide +kernel
