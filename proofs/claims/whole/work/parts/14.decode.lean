theorem zd_X10_goesTo_150 : decode cX10_goesTo 150 = .ok (.iconst 1, 1) := by decide +kernel
theorem zd_X10_goesTo_151 : decode cX10_goesTo 151 = .ok (.iadd, 1) := by decide +kernel
theorem zd_X10_goesTo_152 : decode cX10_goesTo 152 = .ok (.iload_n 1, 1) := by decide +kernel
theorem zd_X10_goesTo_153 : decode cX10_goesTo 153 = .ok (.iconst 5, 1) := by decide +kernel
theorem zd_X10_goesTo_154 : decode cX10_goesTo 154 = .ok (.if_icmp .ne 10, 3) := by decide +kernel
theorem zd_X10_goesTo_157 : decode cX10_goesTo 157 = .ok (.iload 4, 2) := by decide +kernel
theorem zd_X10_goesTo_159 : decode cX10_goesTo 159 = .ok (.iload_n 2, 1) := by decide +kernel
theorem zd_X10_goesTo_160 : decode cX10_goesTo 160 = .ok (.iadd, 1) := by decide +kernel
theorem zd_X10_goesTo_161 : decode cX10_goesTo 161 = .ok (.goto 5, 3) := by decide +kernel
theorem zd_X10_goesTo_164 : decode cX10_goesTo 164 = .ok (.iload 4, 2) := by decide +kernel
theorem zd_X10_goesTo_166 : decode cX10_goesTo 166 = .ok (.if_icmp .gt 7, 3) := by decide +kernel
theorem zd_X10_goesTo_169 : decode cX10_goesTo 169 = .ok (.iconst 1, 1) := by decide +kernel
theorem zd_X10_goesTo_170 : decode cX10_goesTo 170 = .ok (.goto 4, 3) := by decide +kernel
theorem zd_X10_goesTo_173 : decode cX10_goesTo 173 = .ok (.iconst 0, 1) := by decide +kernel
theorem zd_X10_goesTo_174 : decode cX10_goesTo 174 = .ok (.ireturn, 1) := by decide +kernel
theorem zd_X10_goesTo_175 : decode cX10_goesTo 175 = .ok (.iconst 1, 1) := by decide +kernel
theorem zd_X10_goesTo_176 : decode cX10_goesTo 176 = .ok (.ireturn, 1) := by decide +kernel
theorem zd_X10_score_0 : decode cX10_score 0 = .ok (.aload_n 0, 1) := by decide +kernel
theorem zd_X10_score_1 : decode cX10_score 1 = .ok (.getfield 207, 3) := by decide +kernel
theorem zd_X10_score_4 : decode cX10_score 4 = .ok (.aload_n 0, 1) := by decide +kernel
theorem zd_X10_score_5 : decode cX10_score 5 = .ok (.getfield 210, 3) := by decide +kernel
theorem zd_X10_score_8 : decode cX10_score 8 = .ok (.isub, 1) := by decide +kernel
theorem zd_X10_score_9 : decode cX10_score 9 = .ok (.iconst 1, 1) := by decide +kernel
theorem zd_X10_score_10 : decode cX10_score 10 = .ok (.iadd, 1) := by decide +kernel
theorem zd_X10_score_11 : decode cX10_score 11 = .ok (.istore_n 3, 1) := by decide +kernel
theorem zd_X10_score_12 : decode cX10_score 12 = .ok (.iconst 0, 1) := by decide +kernel
theorem zd_X10_score_13 : decode cX10_score 13 = .ok (.istore 4, 2) := by decide +kernel
theorem zd_X10_score_15 : decode cX10_score 15 = .ok (.iconst 0, 1) := by decide +kernel
theorem zd_X10_score_16 : decode cX10_score 16 = .ok (.istore 5, 2) := by decide +kernel
theorem zd_X10_score_18 : decode cX10_score 18 = .ok (.iload 5, 2) := by decide +kernel
theorem zd_X10_score_20 : decode cX10_score 20 = .ok (.iload_n 3, 1) := by decide +kernel
theorem zd_X10_score_21 : decode cX10_score 21 = .ok (.if_icmp .ge 35, 3) := by decide +kernel
theorem zd_X10_score_24 : decode cX10_score 24 = .ok (.aload_n 0, 1) := by decide +kernel
theorem zd_X10_score_25 : decode cX10_score 25 = .ok (.aload_n 0, 1) := by decide +kernel
theorem zd_X10_score_26 : decode cX10_score 26 = .ok (.getfield 213, 3) := by decide +kernel
theorem zd_X10_score_29 : decode cX10_score 29 = .ok (.aload_n 0, 1) := by decide +kernel
theorem zd_X10_score_30 : decode cX10_score 30 = .ok (.getfield 210, 3) := by decide +kernel
theorem zd_X10_score_33 : decode cX10_score 33 = .ok (.iload 5, 2) := by decide +kernel
theorem zd_X10_score_35 : decode cX10_score 35 = .ok (.iadd, 1) := by decide +kernel
theorem zd_X10_score_36 : decode cX10_score 36 = .ok (.iload_n 1, 1) := by decide +kernel
theorem zd_X10_score_37 : decode cX10_score 37 = .ok (.iload_n 2, 1) := by decide +kernel
theorem zd_X10_score_38 : decode cX10_score 38 = .ok (.iload 5, 2) := by decide +kernel
theorem zd_X10_score_40 : decode cX10_score 40 = .ok (.iadd, 1) := by decide +kernel
theorem zd_X10_score_41 : decode cX10_score 41 = .ok (.invokevirtual 141, 3) := by decide +kernel
theorem zd_X10_score_44 : decode cX10_score 44 = .ok (.ifCond .eq 6, 3) := by decide +kernel
theorem zd_X10_score_47 : decode cX10_score 47 = .ok (.iinc 4 3, 3) := by decide +kernel
theorem zd_X10_score_50 : decode cX10_score 50 = .ok (.iinc 5 1, 3) := by decide +kernel
theorem zd_X10_score_53 : decode cX10_score 53 = .ok (.goto (-35), 3) := by decide +kernel
theorem zd_X10_score_56 : decode cX10_score 56 = .ok (.aload_n 0, 1) := by decide +kernel
theorem zd_X10_score_57 : decode cX10_score 57 = .ok (.getfield 210, 3) := by decide +kernel
theorem zd_X10_score_60 : decode cX10_score 60 = .ok (.ifCond .ne 7, 3) := by decide +kernel
theorem zd_X10_score_63 : decode cX10_score 63 = .ok (.iconst 1, 1) := by decide +kernel
theorem zd_X10_score_64 : decode cX10_score 64 = .ok (.goto 4, 3) := by decide +kernel
theorem zd_X10_score_67 : decode cX10_score 67 = .ok (.iconst 0, 1) := by decide +kernel
theorem zd_X10_score_68 : decode cX10_score 68 = .ok (.istore 5, 2) := by decide +kernel
theorem zd_X10_score_70 : decode cX10_score 70 = .ok (.iload 5, 2) := by decide +kernel
theorem zd_X10_score_72 : decode cX10_score 72 = .ok (.iload_n 2, 1) := by decide +kernel
theorem zd_X10_score_73 : decode cX10_score 73 = .ok (.ifCond .ne 7, 3) := by decide +kernel
theorem zd_X10_score_76 : decode cX10_score 76 = .ok (.iconst 1, 1) := by decide +kernel
theorem zd_X10_score_77 : decode cX10_score 77 = .ok (.goto 4, 3) := by decide +kernel
theorem zd_X10_score_80 : decode cX10_score 80 = .ok (.iconst 0, 1) := by decide +kernel
theorem zd_X10_score_81 : decode cX10_score 81 = .ok (.if_icmp .ne 32, 3) := by decide +kernel
theorem zd_X10_score_84 : decode cX10_score 84 = .ok (.iload 5, 2) := by decide +kernel
theorem zd_X10_score_86 : decode cX10_score 86 = .ok (.ifCond .ne 24, 3) := by decide +kernel
theorem zd_X10_score_89 : decode cX10_score 89 = .ok (.aload_n 0, 1) := by decide +kernel
theorem zd_X10_score_90 : decode cX10_score 90 = .ok (.aload_n 0, 1) := by decide +kernel
theorem zd_X10_score_91 : decode cX10_score 91 = .ok (.getfield 213, 3) := by decide +kernel
theorem zd_X10_score_94 : decode cX10_score 94 = .ok (.aload_n 0, 1) := by decide +kernel
theorem zd_X10_score_95 : decode cX10_score 95 = .ok (.getfield 210, 3) := by decide +kernel
theorem zd_X10_score_98 : decode cX10_score 98 = .ok (.iconst 1, 1) := by decide +kernel
theorem zd_X10_score_99 : decode cX10_score 99 = .ok (.isub, 1) := by decide +kernel
theorem zd_X10_score_100 : decode cX10_score 100 = .ok (.iload_n 1, 1) := by decide +kernel
theorem zd_X10_score_101 : decode cX10_score 101 = .ok (.iload_n 2, 1) := by decide +kernel
theorem zd_X10_score_102 : decode cX10_score 102 = .ok (.iconst 1, 1) := by decide +kernel
theorem zd_X10_score_103 : decode cX10_score 103 = .ok (.isub, 1) := by decide +kernel
theorem zd_X10_score_104 : decode cX10_score 104 = .ok (.invokevirtual 141, 3) := by decide +kernel
theorem zd_X10_score_107 : decode cX10_score 107 = .ok (.ifCond .eq 6, 3) := by decide +kernel
theorem zd_X10_score_110 : decode cX10_score 110 = .ok (.iinc 4 2, 3) := by decide +kernel
theorem zd_X10_score_113 : decode cX10_score 113 = .ok (.aload_n 0, 1) := by decide +kernel
theorem zd_X10_score_114 : decode cX10_score 114 = .ok (.getfield 207, 3) := by decide +kernel
theorem zd_X10_score_117 : decode cX10_score 117 = .ok (.aload_n 0, 1) := by decide +kernel
theorem zd_X10_score_118 : decode cX10_score 118 = .ok (.getfield 13, 3) := by decide +kernel
theorem zd_X10_score_121 : decode cX10_score 121 = .ok (.aload_n 0, 1) := by decide +kernel
theorem zd_X10_score_122 : decode cX10_score 122 = .ok (.getfield 213, 3) := by decide +kernel
theorem zd_X10_score_125 : decode cX10_score 125 = .ok (.iaload, 1) := by decide +kernel
theorem zd_X10_score_126 : decode cX10_score 126 = .ok (.iconst 1, 1) := by decide +kernel
theorem zd_X10_score_127 : decode cX10_score 127 = .ok (.isub, 1) := by decide +kernel
theorem zd_X10_score_128 : decode cX10_score 128 = .ok (.if_icmp .ne 7, 3) := by decide +kernel
theorem zd_X10_score_131 : decode cX10_score 131 = .ok (.iconst 1, 1) := by decide +kernel
theorem zd_X10_score_132 : decode cX10_score 132 = .ok (.goto 4, 3) := by decide +kernel
theorem zd_X10_score_135 : decode cX10_score 135 = .ok (.iconst 0, 1) := by decide +kernel
theorem zd_X10_score_136 : decode cX10_score 136 = .ok (.istore 6, 2) := by decide +kernel
theorem zd_X10_score_138 : decode cX10_score 138 = .ok (.iload 6, 2) := by decide +kernel
theorem zd_X10_score_140 : decode cX10_score 140 = .ok (.iload_n 2, 1) := by decide +kernel
theorem zd_X10_score_141 : decode cX10_score 141 = .ok (.iload_n 3, 1) := by decide +kernel
theorem zd_X10_score_142 : decode cX10_score 142 = .ok (.iadd, 1) := by decide +kernel
theorem zd_X10_score_143 : decode cX10_score 143 = .ok (.aload_n 0, 1) := by decide +kernel
theorem zd_X10_score_144 : decode cX10_score 144 = .ok (.getfield 13, 3) := by decide +kernel
theorem zd_X10_score_147 : decode cX10_score 147 = .ok (.iload_n 1, 1) := by decide +kernel
theorem zd_X10_score_148 : decode cX10_score 148 = .ok (.iaload, 1) := by decide +kernel
theorem zd_X10_score_149 : decode cX10_score 149 = .ok (.if_icmp .ne 7, 3) := by decide +kernel
theorem zd_X10_score_152 : decode cX10_score 152 = .ok (.iconst 1, 1) := by decide +kernel
theorem zd_X10_score_153 : decode cX10_score 153 = .ok (.goto 4, 3) := by decide +kernel
theorem zd_X10_score_156 : decode cX10_score 156 = .ok (.iconst 0, 1) := by decide +kernel
theorem zd_X10_score_157 : decode cX10_score 157 = .ok (.if_icmp .ne 32, 3) := by decide +kernel
theorem zd_X10_score_160 : decode cX10_score 160 = .ok (.iload 6, 2) := by decide +kernel
theorem zd_X10_score_162 : decode cX10_score 162 = .ok (.ifCond .ne 24, 3) := by decide +kernel
theorem zd_X10_score_165 : decode cX10_score 165 = .ok (.aload_n 0, 1) := by decide +kernel
theorem zd_X10_score_166 : decode cX10_score 166 = .ok (.aload_n 0, 1) := by decide +kernel
theorem zd_X10_score_167 : decode cX10_score 167 = .ok (.getfield 213, 3) := by decide +kernel
theorem zd_X10_score_170 : decode cX10_score 170 = .ok (.aload_n 0, 1) := by decide +kernel
theorem zd_X10_score_171 : decode cX10_score 171 = .ok (.getfield 207, 3) := by decide +kernel
theorem zd_X10_score_174 : decode cX10_score 174 = .ok (.iconst 1, 1) := by decide +kernel
theorem zd_X10_score_175 : decode cX10_score 175 = .ok (.iadd, 1) := by decide +kernel
theorem zd_X10_score_176 : decode cX10_score 176 = .ok (.iload_n 1, 1) := by decide +kernel
theorem zd_X10_score_177 : decode cX10_score 177 = .ok (.iload_n 2, 1) := by decide +kernel
theorem zd_X10_score_178 : decode cX10_score 178 = .ok (.iload_n 3, 1) := by decide +kernel
theorem zd_X10_score_179 : decode cX10_score 179 = .ok (.iadd, 1) := by decide +kernel
theorem zd_X10_score_180 : decode cX10_score 180 = .ok (.invokevirtual 141, 3) := by decide +kernel
theorem zd_X10_score_183 : decode cX10_score 183 = .ok (.ifCond .eq 6, 3) := by decide +kernel
theorem zd_X10_score_186 : decode cX10_score 186 = .ok (.iinc 4 2, 3) := by decide +kernel
theorem zd_X10_score_189 : decode cX10_score 189 = .ok (.iload 4, 2) := by decide +kernel
theorem zd_X10_score_191 : decode cX10_score 191 = .ok (.ireturn, 1) := by decide +kernel
theorem zd_X10_placesOn_0 : decode cX10_placesOn 0 = .ok (.iconst 0, 1) := by decide +kernel
theorem zd_X10_placesOn_1 : decode cX10_placesOn 1 = .ok (.aload_n 0, 1) := by decide +kernel
theorem zd_X10_placesOn_2 : decode cX10_placesOn 2 = .ok (.getfield 13, 3) := by decide +kernel
theorem zd_X10_placesOn_5 : decode cX10_placesOn 5 = .ok (.iload_n 1, 1) := by decide +kernel
theorem zd_X10_placesOn_6 : decode cX10_placesOn 6 = .ok (.iaload, 1) := by decide +kernel
theorem zd_X10_placesOn_7 : decode cX10_placesOn 7 = .ok (.aload_n 0, 1) := by decide +kernel
theorem zd_X10_placesOn_8 : decode cX10_placesOn 8 = .ok (.getfield 207, 3) := by decide +kernel
theorem zd_X10_placesOn_11 : decode cX10_placesOn 11 = .ok (.aload_n 0, 1) := by decide +kernel
theorem zd_X10_placesOn_12 : decode cX10_placesOn 12 = .ok (.getfield 210, 3) := by decide +kernel
theorem zd_X10_placesOn_15 : decode cX10_placesOn 15 = .ok (.isub, 1) := by decide +kernel
theorem zd_X10_placesOn_16 : decode cX10_placesOn 16 = .ok (.isub, 1) := by decide +kernel
theorem zd_X10_placesOn_17 : decode cX10_placesOn 17 = .ok (.invokestatic 145, 3) := by decide +kernel
theorem zd_X10_placesOn_20 : decode cX10_placesOn 20 = .ok (.ireturn, 1) := by decide +kernel
theorem zd_X10_looks_0 : decode cX10_looks 0 = .ok (.aload_n 0, 1) := by decide +kernel
theorem zd_X10_looks_1 : decode cX10_looks 1 = .ok (.iconst (-1), 1) := by decide +kernel
theorem zd_X10_looks_2 : decode cX10_looks 2 = .ok (.putfield 216, 3) := by decide +kernel
theorem zd_X10_looks_5 : decode cX10_looks 5 = .ok (.aload_n 0, 1) := by decide +kernel
theorem zd_X10_looks_6 : decode cX10_looks 6 = .ok (.iconst (-1), 1) := by decide +kernel
theorem zd_X10_looks_7 : decode cX10_looks 7 = .ok (.putfield 219, 3) := by decide +kernel
theorem zd_X10_looks_10 : decode cX10_looks 10 = .ok (.iconst 0, 1) := by decide +kernel
theorem zd_X10_looks_11 : decode cX10_looks 11 = .ok (.istore_n 2, 1) := by decide +kernel
theorem zd_X10_looks_12 : decode cX10_looks 12 = .ok (.iload_n 2, 1) := by decide +kernel
theorem zd_X10_looks_13 : decode cX10_looks 13 = .ok (.aload_n 0, 1) := by decide +kernel
theorem zd_X10_looks_14 : decode cX10_looks 14 = .ok (.iload_n 1, 1) := by decide +kernel
theorem zd_X10_looks_15 : decode cX10_looks 15 = .ok (.invokevirtual 222, 3) := by decide +kernel
theorem zd_X10_looks_18 : decode cX10_looks 18 = .ok (.if_icmp .ge 37, 3) := by decide +kernel
theorem zd_X10_looks_21 : decode cX10_looks 21 = .ok (.aload_n 0, 1) := by decide +kernel
theorem zd_X10_looks_22 : decode cX10_looks 22 = .ok (.iload_n 1, 1) := by decide +kernel
theorem zd_X10_looks_23 : decode cX10_looks 23 = .ok (.iload_n 2, 1) := by decide +kernel
theorem zd_X10_looks_24 : decode cX10_looks 24 = .ok (.invokevirtual 225, 3) := by decide +kernel
theorem zd_X10_looks_27 : decode cX10_looks 27 = .ok (.istore_n 3, 1) := by decide +kernel
theorem zd_X10_looks_28 : decode cX10_looks 28 = .ok (.iload_n 3, 1) := by decide +kernel
theorem zd_X10_looks_29 : decode cX10_looks 29 = .ok (.aload_n 0, 1) := by decide +kernel
theorem zd_X10_looks_30 : decode cX10_looks 30 = .ok (.getfield 219, 3) := by decide +kernel
theorem zd_X10_looks_33 : decode cX10_looks 33 = .ok (.if_icmp .gt 6, 3) := by decide +kernel
theorem zd_X10_looks_36 : decode cX10_looks 36 = .ok (.goto 13, 3) := by decide +kernel
theorem zd_X10_looks_39 : decode cX10_looks 39 = .ok (.aload_n 0, 1) := by decide +kernel
theorem zd_X10_looks_40 : decode cX10_looks 40 = .ok (.iload_n 3, 1) := by decide +kernel
theorem zd_X10_looks_41 : decode cX10_looks 41 = .ok (.putfield 219, 3) := by decide +kernel
theorem zd_X10_looks_44 : decode cX10_looks 44 = .ok (.aload_n 0, 1) := by decide +kernel
theorem zd_X10_looks_45 : decode cX10_looks 45 = .ok (.iload_n 2, 1) := by decide +kernel
theorem zd_X10_looks_46 : decode cX10_looks 46 = .ok (.putfield 216, 3) := by decide +kernel
theorem zd_X10_looks_49 : decode cX10_looks 49 = .ok (.iinc 2 1, 3) := by decide +kernel
theorem zd_X10_looks_52 : decode cX10_looks 52 = .ok (.goto (-40), 3) := by decide +kernel
theorem zd_X10_looks_55 : decode cX10_looks 55 = .ok (.aload_n 0, 1) := by decide +kernel
theorem zd_X10_looks_56 : decode cX10_looks 56 = .ok (.aload_n 0, 1) := by decide +kernel
theorem zd_X10_looks_57 : decode cX10_looks 57 = .ok (.getfield 216, 3) := by decide +kernel
theorem zd_X10_looks_60 : decode cX10_looks 60 = .ok (.iconst (-1), 1) := by decide +kernel
theorem zd_X10_looks_61 : decode cX10_looks 61 = .ok (.if_icmp .eq 7, 3) := by decide +kernel
theorem zd_X10_looks_64 : decode cX10_looks 64 = .ok (.iconst 1, 1) := by decide +kernel
theorem zd_X10_looks_65 : decode cX10_looks 65 = .ok (.goto 4, 3) := by decide +kernel
theorem zd_X10_looks_68 : decode cX10_looks 68 = .ok (.iconst 0, 1) := by decide +kernel
theorem zd_X10_looks_69 : decode cX10_looks 69 = .ok (.putfield 228, 3) := by decide +kernel
theorem zd_X10_looks_72 : decode cX10_looks 72 = .ok (.iconst 0, 1) := by decide +kernel
theorem zd_X10_looks_73 : decode cX10_looks 73 = .ok (.istore_n 2, 1) := by decide +kernel
theorem zd_X10_looks_74 : decode cX10_looks 74 = .ok (.iload_n 2, 1) := by decide +kernel
theorem zd_X10_looks_75 : decode cX10_looks 75 = .ok (.aload_n 0, 1) := by decide +kernel
theorem zd_X10_looks_76 : decode cX10_looks 76 = .ok (.iload_n 1, 1) := by decide +kernel
theorem zd_X10_looks_77 : decode cX10_looks 77 = .ok (.invokevirtual 222, 3) := by decide +kernel
theorem zd_X10_looks_80 : decode cX10_looks 80 = .ok (.if_icmp .ge 42, 3) := by decide +kernel
theorem zd_X10_looks_83 : decode cX10_looks 83 = .ok (.iload_n 2, 1) := by decide +kernel
theorem zd_X10_looks_84 : decode cX10_looks 84 = .ok (.aload_n 0, 1) := by decide +kernel
theorem zd_X10_looks_85 : decode cX10_looks 85 = .ok (.getfield 216, 3) := by decide +kernel
theorem zd_X10_looks_88 : decode cX10_looks 88 = .ok (.if_icmp .eq 28, 3) := by decide +kernel
theorem zd_X10_looks_91 : decode cX10_looks 91 = .ok (.aload_n 0, 1) := by decide +kernel
theorem zd_X10_looks_92 : decode cX10_looks 92 = .ok (.getfield 219, 3) := by decide +kernel
theorem zd_X10_looks_95 : decode cX10_looks 95 = .ok (.aload_n 0, 1) := by decide +kernel
theorem zd_X10_looks_96 : decode cX10_looks 96 = .ok (.iload_n 1, 1) := by decide +kernel
theorem zd_X10_looks_97 : decode cX10_looks 97 = .ok (.iload_n 2, 1) := by decide +kernel
theorem zd_X10_looks_98 : decode cX10_looks 98 = .ok (.invokevirtual 225, 3) := by decide +kernel
theorem zd_X10_looks_101 : decode cX10_looks 101 = .ok (.isub, 1) := by decide +kernel
theorem zd_X10_looks_102 : decode cX10_looks 102 = .ok (.aload_n 0, 1) := by decide +kernel
theorem zd_X10_looks_103 : decode cX10_looks 103 = .ok (.getfield 26, 3) := by decide +kernel
theorem zd_X10_looks_106 : decode cX10_looks 106 = .ok (.iconst 2, 1) := by decide +kernel
theorem zd_X10_looks_107 : decode cX10_looks 107 = .ok (.iaload, 1) := by decide +kernel
theorem zd_X10_looks_108 : decode cX10_looks 108 = .ok (.if_icmp .ge 8, 3) := by decide +kernel
theorem zd_X10_looks_111 : decode cX10_looks 111 = .ok (.aload_n 0, 1) := by decide +kernel
theorem zd_X10_looks_112 : decode cX10_looks 112 = .ok (.iconst 0, 1) := by decide +kernel
theorem zd_X10_looks_113 : decode cX10_looks 113 = .ok (.putfield 228, 3) := by decide +kernel
theorem zd_X10_looks_116 : decode cX10_looks 116 = .ok (.iinc 2 1, 3) := by decide +kernel
theorem zd_X10_looks_119 : decode cX10_looks 119 = .ok (.goto (-45), 3) := by decide +kernel
theorem zd_X10_looks_122 : decode cX10_looks 122 = .ok (.return_, 1) := by decide +kernel
theorem zd_X10_steps_0 : decode cX10_steps 0 = .ok (.aload_n 0, 1) := by decide +kernel
theorem zd_X10_steps_1 : decode cX10_steps 1 = .ok (.getfield 232, 3) := by decide +kernel
theorem zd_X10_steps_4 : decode cX10_steps 4 = .ok (.iconst 3, 1) := by decide +kernel
theorem zd_X10_steps_5 : decode cX10_steps 5 = .ok (.if_icmp .eq 21, 3) := by decide +kernel
theorem zd_X10_steps_8 : decode cX10_steps 8 = .ok (.aload_n 0, 1) := by decide +kernel
theorem zd_X10_steps_9 : decode cX10_steps 9 = .ok (.iload_n 1, 1) := by decide +kernel
theorem zd_X10_steps_10 : decode cX10_steps 10 = .ok (.iload_n 2, 1) := by decide +kernel
theorem zd_X10_steps_11 : decode cX10_steps 11 = .ok (.iload_n 3, 1) := by decide +kernel
theorem zd_X10_steps_12 : decode cX10_steps 12 = .ok (.invokevirtual 235, 3) := by decide +kernel
theorem zd_X10_steps_15 : decode cX10_steps 15 = .ok (.ifCond .eq 11, 3) := by decide +kernel
theorem zd_X10_steps_18 : decode cX10_steps 18 = .ok (.aload_n 0, 1) := by decide +kernel
theorem zd_X10_steps_19 : decode cX10_steps 19 = .ok (.iconst 1, 1) := by decide +kernel
theorem zd_X10_steps_20 : decode cX10_steps 20 = .ok (.putfield 232, 3) := by decide +kernel
theorem zd_X10_steps_23 : decode cX10_steps 23 = .ok (.goto 67, 3) := by decide +kernel
theorem zd_X10_steps_26 : decode cX10_steps 26 = .ok (.aload_n 0, 1) := by decide +kernel
theorem zd_X10_steps_27 : decode cX10_steps 27 = .ok (.iload_n 3, 1) := by decide +kernel
theorem zd_X10_steps_28 : decode cX10_steps 28 = .ok (.invokevirtual 238, 3) := by decide +kernel
theorem zd_X10_steps_31 : decode cX10_steps 31 = .ok (.aload_n 0, 1) := by decide +kernel
theorem zd_X10_steps_32 : decode cX10_steps 32 = .ok (.getfield 228, 3) := by decide +kernel
theorem zd_X10_steps_35 : decode cX10_steps 35 = .ok (.ifCond .eq 50, 3) := by decide +kernel
theorem zd_X10_steps_38 : decode cX10_steps 38 = .ok (.aload_n 0, 1) := by decide +kernel
theorem zd_X10_steps_39 : decode cX10_steps 39 = .ok (.getfield 219, 3) := by decide +kernel
theorem zd_X10_steps_42 : decode cX10_steps 42 = .ok (.aload_n 0, 1) := by decide +kernel
theorem zd_X10_steps_43 : decode cX10_steps 43 = .ok (.getfield 26, 3) := by decide +kernel
theorem zd_X10_steps_46 : decode cX10_steps 46 = .ok (.iconst 1, 1) := by decide +kernel
theorem zd_X10_steps_47 : decode cX10_steps 47 = .ok (.iaload, 1) := by decide +kernel
theorem zd_X10_steps_48 : decode cX10_steps 48 = .ok (.if_icmp .lt 37, 3) := by decide +kernel
theorem zd_X10_steps_51 : decode cX10_steps 51 = .ok (.aload_n 0, 1) := by decide +kernel
theorem zd_X10_steps_52 : decode cX10_steps 52 = .ok (.iconst 2, 1) := by decide +kernel
theorem zd_X10_steps_53 : decode cX10_steps 53 = .ok (.putfield 232, 3) := by decide +kernel
theorem zd_X10_steps_56 : decode cX10_steps 56 = .ok (.aload_n 0, 1) := by decide +kernel
theorem zd_X10_steps_57 : decode cX10_steps 57 = .ok (.aload_n 0, 1) := by decide +kernel
theorem zd_X10_steps_58 : decode cX10_steps 58 = .ok (.getfield 216, 3) := by decide +kernel
theorem zd_X10_steps_61 : decode cX10_steps 61 = .ok (.putfield 191, 3) := by decide +kernel
theorem zd_X10_steps_64 : decode cX10_steps 64 = .ok (.aload_n 0, 1) := by decide +kernel
theorem zd_X10_steps_65 : decode cX10_steps 65 = .ok (.aload_n 0, 1) := by decide +kernel
theorem zd_X10_steps_66 : decode cX10_steps 66 = .ok (.getfield 216, 3) := by decide +kernel
theorem zd_X10_steps_69 : decode cX10_steps 69 = .ok (.aload_n 0, 1) := by decide +kernel
theorem zd_X10_steps_70 : decode cX10_steps 70 = .ok (.getfield 207, 3) := by decide +kernel
theorem zd_X10_steps_73 : decode cX10_steps 73 = .ok (.iadd, 1) := by decide +kernel
theorem zd_X10_steps_74 : decode cX10_steps 74 = .ok (.aload_n 0, 1) := by decide +kernel
theorem zd_X10_steps_75 : decode cX10_steps 75 = .ok (.getfield 210, 3) := by decide +kernel
theorem zd_X10_steps_78 : decode cX10_steps 78 = .ok (.isub, 1) := by decide +kernel
theorem zd_X10_steps_79 : decode cX10_steps 79 = .ok (.putfield 194, 3) := by decide +kernel
theorem zd_X10_steps_82 : decode cX10_steps 82 = .ok (.goto 8, 3) := by decide +kernel
theorem zd_X10_steps_85 : decode cX10_steps 85 = .ok (.aload_n 0, 1) := by decide +kernel
theorem zd_X10_steps_86 : decode cX10_steps 86 = .ok (.iconst 3, 1) := by decide +kernel
theorem zd_X10_steps_87 : decode cX10_steps 87 = .ok (.putfield 232, 3) := by decide +kernel
theorem zd_X10_steps_90 : decode cX10_steps 90 = .ok (.aload_n 0, 1) := by decide +kernel
theorem zd_X10_steps_91 : decode cX10_steps 91 = .ok (.getfield 232, 3) := by decide +kernel
theorem zd_X10_steps_94 : decode cX10_steps 94 = .ok (.iconst 3, 1) := by decide +kernel
theorem zd_X10_steps_95 : decode cX10_steps 95 = .ok (.if_icmp .ne 14, 3) := by decide +kernel
theorem zd_X10_steps_98 : decode cX10_steps 98 = .ok (.aload_n 0, 1) := by decide +kernel
theorem zd_X10_steps_99 : decode cX10_steps 99 = .ok (.iconst (-1), 1) := by decide +kernel
theorem zd_X10_steps_100 : decode cX10_steps 100 = .ok (.putfield 191, 3) := by decide +kernel
theorem zd_X10_steps_103 : decode cX10_steps 103 = .ok (.aload_n 0, 1) := by decide +kernel
theorem zd_X10_steps_104 : decode cX10_steps 104 = .ok (.iconst (-1), 1) := by decide +kernel
theorem zd_X10_steps_105 : decode cX10_steps 105 = .ok (.putfield 194, 3) := by decide +kernel
theorem zd_X10_steps_108 : decode cX10_steps 108 = .ok (.return_, 1) := by decide +kernel
theorem zd_X10_steps_109 : decode cX10_steps 109 = .ok (.aload_n 0, 1) := by decide +kernel
theorem zd_X10_steps_110 : decode cX10_steps 110 = .ok (.iload_n 3, 1) := by decide +kernel
theorem zd_X10_steps_111 : decode cX10_steps 111 = .ok (.putfield 213, 3) := by decide +kernel
theorem zd_X10_steps_114 : decode cX10_steps 114 = .ok (.aload_n 0, 1) := by decide +kernel
theorem zd_X10_steps_115 : decode cX10_steps 115 = .ok (.aload_n 0, 1) := by decide +kernel
theorem zd_X10_steps_116 : decode cX10_steps 116 = .ok (.getfield 191, 3) := by decide +kernel
theorem zd_X10_steps_119 : decode cX10_steps 119 = .ok (.putfield 210, 3) := by decide +kernel
theorem zd_X10_steps_122 : decode cX10_steps 122 = .ok (.aload_n 0, 1) := by decide +kernel
theorem zd_X10_steps_123 : decode cX10_steps 123 = .ok (.aload_n 0, 1) := by decide +kernel
theorem zd_X10_steps_124 : decode cX10_steps 124 = .ok (.getfield 194, 3) := by decide +kernel
theorem zd_X10_steps_127 : decode cX10_steps 127 = .ok (.putfield 207, 3) := by decide +kernel
theorem zd_X10_steps_130 : decode cX10_steps 130 = .ok (.return_, 1) := by decide +kernel
theorem zd_X10_puts_0 : decode cX10_puts 0 = .ok (.aload_n 0, 1) := by decide +kernel
theorem zd_X10_puts_1 : decode cX10_puts 1 = .ok (.iload_n 3, 1) := by decide +kernel
theorem zd_X10_puts_2 : decode cX10_puts 2 = .ok (.aload_n 0, 1) := by decide +kernel
theorem zd_X10_puts_3 : decode cX10_puts 3 = .ok (.iconst 2, 1) := by decide +kernel
theorem zd_X10_puts_4 : decode cX10_puts 4 = .ok (.iload_n 1, 1) := by decide +kernel
theorem zd_X10_puts_5 : decode cX10_puts 5 = .ok (.invokevirtual 109, 3) := by decide +kernel
theorem zd_X10_puts_8 : decode cX10_puts 8 = .ok (.invokevirtual 169, 3) := by decide +kernel
theorem zd_X10_puts_11 : decode cX10_puts 11 = .ok (.istore 5, 2) := by decide +kernel
theorem zd_X10_puts_13 : decode cX10_puts 13 = .ok (.iload 5, 2) := by decide +kernel
theorem zd_X10_puts_15 : decode cX10_puts 15 = .ok (.iconst (-1), 1) := by decide +kernel
theorem zd_X10_puts_16 : decode cX10_puts 16 = .ok (.if_icmp .ne 5, 3) := by decide +kernel
theorem zd_X10_puts_19 : decode cX10_puts 19 = .ok (.iconst 0, 1) := by decide +kernel
theorem zd_X10_puts_20 : decode cX10_puts 20 = .ok (.ireturn, 1) := by decide +kernel
theorem zd_X10_puts_21 : decode cX10_puts 21 = .ok (.aload_n 0, 1) := by decide +kernel
theorem zd_X10_puts_22 : decode cX10_puts 22 = .ok (.iconst 0, 1) := by decide +kernel
theorem zd_X10_puts_23 : decode cX10_puts 23 = .ok (.putfield 232, 3) := by decide +kernel
theorem zd_X10_puts_26 : decode cX10_puts 26 = .ok (.aload_n 0, 1) := by decide +kernel
theorem zd_X10_puts_27 : decode cX10_puts 27 = .ok (.aload_n 0, 1) := by decide +kernel
theorem zd_X10_puts_28 : decode cX10_puts 28 = .ok (.iconst 3, 1) := by decide +kernel
theorem zd_X10_puts_29 : decode cX10_puts 29 = .ok (.iload_n 1, 1) := by decide +kernel
theorem zd_X10_puts_30 : decode cX10_puts 30 = .ok (.invokevirtual 109, 3) := by decide +kernel
theorem zd_X10_puts_33 : decode cX10_puts 33 = .ok (.putfield 191, 3) := by decide +kernel
theorem zd_X10_puts_36 : decode cX10_puts 36 = .ok (.aload_n 0, 1) := by decide +kernel
theorem zd_X10_puts_37 : decode cX10_puts 37 = .ok (.aload_n 0, 1) := by decide +kernel
theorem zd_X10_puts_38 : decode cX10_puts 38 = .ok (.iconst 4, 1) := by decide +kernel
theorem zd_X10_puts_39 : decode cX10_puts 39 = .ok (.iload_n 1, 1) := by decide +kernel
theorem zd_X10_puts_40 : decode cX10_puts 40 = .ok (.invokevirtual 109, 3) := by decide +kernel
theorem zd_X10_puts_43 : decode cX10_puts 43 = .ok (.putfield 194, 3) := by decide +kernel
theorem zd_X10_puts_46 : decode cX10_puts 46 = .ok (.aload_n 0, 1) := by decide +kernel
theorem zd_X10_puts_47 : decode cX10_puts 47 = .ok (.aload_n 0, 1) := by decide +kernel
theorem zd_X10_puts_48 : decode cX10_puts 48 = .ok (.iconst 2, 1) := by decide +kernel
theorem zd_X10_puts_49 : decode cX10_puts 49 = .ok (.iload_n 1, 1) := by decide +kernel
theorem zd_X10_puts_50 : decode cX10_puts 50 = .ok (.invokevirtual 109, 3) := by decide +kernel
theorem zd_X10_puts_53 : decode cX10_puts 53 = .ok (.putfield 213, 3) := by decide +kernel
theorem zd_X10_puts_56 : decode cX10_puts 56 = .ok (.aload_n 0, 1) := by decide +kernel
theorem zd_X10_puts_57 : decode cX10_puts 57 = .ok (.aload_n 0, 1) := by decide +kernel
theorem zd_X10_puts_58 : decode cX10_puts 58 = .ok (.getfield 191, 3) := by decide +kernel
theorem zd_X10_puts_61 : decode cX10_puts 61 = .ok (.putfield 210, 3) := by decide +kernel
theorem zd_X10_puts_64 : decode cX10_puts 64 = .ok (.aload_n 0, 1) := by decide +kernel
theorem zd_X10_puts_65 : decode cX10_puts 65 = .ok (.aload_n 0, 1) := by decide +kernel
theorem zd_X10_puts_66 : decode cX10_puts 66 = .ok (.getfield 194, 3) := by decide +kernel
theorem zd_X10_puts_69 : decode cX10_puts 69 = .ok (.putfield 207, 3) := by decide +kernel
theorem zd_X10_puts_72 : decode cX10_puts 72 = .ok (.iload 5, 2) := by decide +kernel
theorem zd_X10_puts_74 : decode cX10_puts 74 = .ok (.iconst 1, 1) := by decide +kernel
theorem zd_X10_puts_75 : decode cX10_puts 75 = .ok (.isub, 1) := by decide +kernel
theorem zd_X10_puts_76 : decode cX10_puts 76 = .ok (.istore 6, 2) := by decide +kernel
theorem zd_X10_puts_78 : decode cX10_puts 78 = .ok (.iload 6, 2) := by decide +kernel
theorem zd_X10_puts_80 : decode cX10_puts 80 = .ok (.iload 4, 2) := by decide +kernel
theorem zd_X10_puts_82 : decode cX10_puts 82 = .ok (.if_icmp .lt 27, 3) := by decide +kernel
theorem zd_X10_puts_85 : decode cX10_puts 85 = .ok (.aload_n 0, 1) := by decide +kernel
theorem zd_X10_puts_86 : decode cX10_puts 86 = .ok (.iload_n 2, 1) := by decide +kernel
theorem zd_X10_puts_87 : decode cX10_puts 87 = .ok (.aload_n 0, 1) := by decide +kernel
theorem zd_X10_puts_88 : decode cX10_puts 88 = .ok (.iconst 1, 1) := by decide +kernel
theorem zd_X10_puts_89 : decode cX10_puts 89 = .ok (.iload_n 1, 1) := by decide +kernel
theorem zd_X10_puts_90 : decode cX10_puts 90 = .ok (.invokevirtual 109, 3) := by decide +kernel
theorem zd_X10_puts_93 : decode cX10_puts 93 = .ok (.aload_n 0, 1) := by decide +kernel
theorem zd_X10_puts_94 : decode cX10_puts 94 = .ok (.getfield 69, 3) := by decide +kernel
theorem zd_X10_puts_97 : decode cX10_puts 97 = .ok (.iload 6, 2) := by decide +kernel
theorem zd_X10_puts_99 : decode cX10_puts 99 = .ok (.iaload, 1) := by decide +kernel
theorem zd_X10_puts_100 : decode cX10_puts 100 = .ok (.invokevirtual 241, 3) := by decide +kernel
theorem zd_X10_puts_103 : decode cX10_puts 103 = .ok (.iinc 6 (-1), 3) := by decide +kernel
theorem zd_X10_puts_106 : decode cX10_puts 106 = .ok (.goto (-28), 3) := by decide +kernel
theorem zd_X10_puts_109 : decode cX10_puts 109 = .ok (.iconst 1, 1) := by decide +kernel
theorem zd_X10_puts_110 : decode cX10_puts 110 = .ok (.ireturn, 1) := by decide +kernel
theorem zd_X10_put_0 : decode cX10_put 0 = .ok (.aload_n 0, 1) := by decide +kernel
theorem zd_X10_put_1 : decode cX10_put 1 = .ok (.iload_n 1, 1) := by decide +kernel
theorem zd_X10_put_2 : decode cX10_put 2 = .ok (.invokevirtual 103, 3) := by decide +kernel
theorem zd_X10_put_5 : decode cX10_put 5 = .ok (.ifCond .eq 11, 3) := by decide +kernel
theorem zd_X10_put_8 : decode cX10_put 8 = .ok (.aload_n 0, 1) := by decide +kernel
theorem zd_X10_put_9 : decode cX10_put 9 = .ok (.iload_n 2, 1) := by decide +kernel
theorem zd_X10_put_10 : decode cX10_put 10 = .ok (.invokevirtual 124, 3) := by decide +kernel
theorem zd_X10_put_13 : decode cX10_put 13 = .ok (.ifCond .ne 9, 3) := by decide +kernel
theorem zd_X10_put_16 : decode cX10_put 16 = .ok (.aload_n 0, 1) := by decide +kernel
theorem zd_X10_put_17 : decode cX10_put 17 = .ok (.iconst (-1), 1) := by decide +kernel
theorem zd_X10_put_18 : decode cX10_put 18 = .ok (.invokevirtual 138, 3) := by decide +kernel
theorem zd_X10_put_21 : decode cX10_put 21 = .ok (.ireturn, 1) := by decide +kernel
theorem zd_X10_put_22 : decode cX10_put 22 = .ok (.iload_n 3, 1) := by decide +kernel
theorem zd_X10_put_23 : decode cX10_put 23 = .ok (.iconst 0, 1) := by decide +kernel
theorem zd_X10_put_24 : decode cX10_put 24 = .ok (.iconst 2, 1) := by decide +kernel
theorem zd_X10_put_25 : decode cX10_put 25 = .ok (.invokestatic 89, 3) := by decide +kernel
theorem zd_X10_put_28 : decode cX10_put 28 = .ok (.ifCond .ne 10, 3) := by decide +kernel
theorem zd_X10_put_31 : decode cX10_put 31 = .ok (.aload_n 0, 1) := by decide +kernel
theorem zd_X10_put_32 : decode cX10_put 32 = .ok (.bipush (-5), 2) := by decide +kernel
theorem zd_X10_put_34 : decode cX10_put 34 = .ok (.invokevirtual 138, 3) := by decide +kernel
theorem zd_X10_put_37 : decode cX10_put 37 = .ok (.ireturn, 1) := by decide +kernel
theorem zd_X10_put_38 : decode cX10_put 38 = .ok (.aload_n 0, 1) := by decide +kernel
theorem zd_X10_put_39 : decode cX10_put 39 = .ok (.iload_n 1, 1) := by decide +kernel
theorem zd_X10_put_40 : decode cX10_put 40 = .ok (.aload_n 0, 1) := by decide +kernel
theorem zd_X10_put_41 : decode cX10_put 41 = .ok (.iconst 0, 1) := by decide +kernel
theorem zd_X10_put_42 : decode cX10_put 42 = .ok (.iload_n 1, 1) := by decide +kernel
theorem zd_X10_put_43 : decode cX10_put 43 = .ok (.invokevirtual 109, 3) := by decide +kernel
theorem zd_X10_put_46 : decode cX10_put 46 = .ok (.iload_n 2, 1) := by decide +kernel
theorem zd_X10_put_47 : decode cX10_put 47 = .ok (.iconst 0, 1) := by decide +kernel
theorem zd_X10_put_48 : decode cX10_put 48 = .ok (.invokevirtual 245, 3) := by decide +kernel
theorem zd_X10_put_51 : decode cX10_put 51 = .ok (.ifCond .ne 10, 3) := by decide +kernel
theorem zd_X10_put_54 : decode cX10_put 54 = .ok (.aload_n 0, 1) := by decide +kernel
theorem zd_X10_put_55 : decode cX10_put 55 = .ok (.bipush (-6), 2) := by decide +kernel
theorem zd_X10_put_57 : decode cX10_put 57 = .ok (.invokevirtual 138, 3) := by decide +kernel
theorem zd_X10_put_60 : decode cX10_put 60 = .ok (.ireturn, 1) := by decide +kernel
theorem zd_X10_put_61 : decode cX10_put 61 = .ok (.iload_n 3, 1) := by decide +kernel
theorem zd_X10_put_62 : decode cX10_put 62 = .ok (.ifCond .ne 10, 3) := by decide +kernel
theorem zd_X10_put_65 : decode cX10_put 65 = .ok (.aload_n 0, 1) := by decide +kernel
theorem zd_X10_put_66 : decode cX10_put 66 = .ok (.getfield 191, 3) := by decide +kernel
theorem zd_X10_put_69 : decode cX10_put 69 = .ok (.goto 19, 3) := by decide +kernel
theorem zd_X10_put_72 : decode cX10_put 72 = .ok (.iload_n 3, 1) := by decide +kernel
theorem zd_X10_put_73 : decode cX10_put 73 = .ok (.iconst 1, 1) := by decide +kernel
theorem zd_X10_put_74 : decode cX10_put 74 = .ok (.if_icmp .ne 10, 3) := by decide +kernel
theorem zd_X10_put_77 : decode cX10_put 77 = .ok (.aload_n 0, 1) := by decide +kernel
theorem zd_X10_put_78 : decode cX10_put 78 = .ok (.getfield 194, 3) := by decide +kernel
theorem zd_X10_put_81 : decode cX10_put 81 = .ok (.goto 7, 3) := by decide +kernel
theorem zd_X10_put_84 : decode cX10_put 84 = .ok (.aload_n 0, 1) := by decide +kernel
theorem zd_X10_put_85 : decode cX10_put 85 = .ok (.getfield 232, 3) := by decide +kernel
theorem zd_X10_put_88 : decode cX10_put 88 = .ok (.ireturn, 1) := by decide +kernel
theorem zd_X10_score__0 : decode cX10_score_ 0 = .ok (.aload_n 0, 1) := by decide +kernel
theorem zd_X10_score__1 : decode cX10_score_ 1 = .ok (.iload_n 1, 1) := by decide +kernel
theorem zd_X10_score__2 : decode cX10_score_ 2 = .ok (.invokevirtual 103, 3) := by decide +kernel
theorem zd_X10_score__5 : decode cX10_score_ 5 = .ok (.ifCond .eq 11, 3) := by decide +kernel
theorem zd_X10_score__8 : decode cX10_score_ 8 = .ok (.aload_n 0, 1) := by decide +kernel
theorem zd_X10_score__9 : decode cX10_score_ 9 = .ok (.iload_n 2, 1) := by decide +kernel
theorem zd_X10_score__10 : decode cX10_score_ 10 = .ok (.invokevirtual 124, 3) := by decide +kernel
theorem zd_X10_score__13 : decode cX10_score_ 13 = .ok (.ifCond .ne 9, 3) := by decide +kernel
theorem zd_X10_score__16 : decode cX10_score_ 16 = .ok (.aload_n 0, 1) := by decide +kernel
theorem zd_X10_score__17 : decode cX10_score_ 17 = .ok (.iconst (-1), 1) := by decide +kernel
theorem zd_X10_score__18 : decode cX10_score_ 18 = .ok (.invokevirtual 82, 3) := by decide +kernel
theorem zd_X10_score__21 : decode cX10_score_ 21 = .ok (.ireturn, 1) := by decide +kernel
theorem zd_X10_score__22 : decode cX10_score_ 22 = .ok (.iload_n 2, 1) := by decide +kernel
theorem zd_X10_score__23 : decode cX10_score_ 23 = .ok (.aload_n 0, 1) := by decide +kernel
theorem zd_X10_score__24 : decode cX10_score_ 24 = .ok (.iconst 2, 1) := by decide +kernel
theorem zd_X10_score__25 : decode cX10_score_ 25 = .ok (.iload_n 1, 1) := by decide +kernel
theorem zd_X10_score__26 : decode cX10_score_ 26 = .ok (.invokevirtual 109, 3) := by decide +kernel
theorem zd_X10_score__29 : decode cX10_score_ 29 = .ok (.if_icmp .eq 19, 3) := by decide +kernel
theorem zd_X10_score__32 : decode cX10_score_ 32 = .ok (.aload_n 0, 1) := by decide +kernel
theorem zd_X10_score__33 : decode cX10_score_ 33 = .ok (.iload_n 1, 1) := by decide +kernel
theorem zd_X10_score__34 : decode cX10_score_ 34 = .ok (.aload_n 0, 1) := by decide +kernel
theorem zd_X10_score__35 : decode cX10_score_ 35 = .ok (.iconst 0, 1) := by decide +kernel
theorem zd_X10_score__36 : decode cX10_score_ 36 = .ok (.iload_n 1, 1) := by decide +kernel
theorem zd_X10_score__37 : decode cX10_score_ 37 = .ok (.invokevirtual 109, 3) := by decide +kernel
theorem zd_X10_score__40 : decode cX10_score_ 40 = .ok (.iload_n 2, 1) := by decide +kernel
theorem zd_X10_score__41 : decode cX10_score_ 41 = .ok (.iconst 1, 1) := by decide +kernel
theorem zd_X10_score__42 : decode cX10_score_ 42 = .ok (.invokevirtual 245, 3) := by decide +kernel
theorem zd_X10_score__45 : decode cX10_score_ 45 = .ok (.ifCond .ne 10, 3) := by decide +kernel
theorem zd_X10_score__48 : decode cX10_score_ 48 = .ok (.aload_n 0, 1) := by decide +kernel
theorem zd_X10_score__49 : decode cX10_score_ 49 = .ok (.bipush (-6), 2) := by decide +kernel
theorem zd_X10_score__51 : decode cX10_score_ 51 = .ok (.invokevirtual 82, 3) := by decide +kernel
theorem zd_X10_score__54 : decode cX10_score_ 54 = .ok (.ireturn, 1) := by decide +kernel
theorem zd_X10_score__55 : decode cX10_score_ 55 = .ok (.iload_n 3, 1) := by decide +kernel
theorem zd_X10_score__56 : decode cX10_score_ 56 = .ok (.iconst 0, 1) := by decide +kernel
theorem zd_X10_score__57 : decode cX10_score_ 57 = .ok (.aload_n 0, 1) := by decide +kernel
theorem zd_X10_score__58 : decode cX10_score_ 58 = .ok (.iload_n 2, 1) := by decide +kernel
theorem zd_X10_score__59 : decode cX10_score_ 59 = .ok (.invokevirtual 222, 3) := by decide +kernel
theorem zd_X10_score__62 : decode cX10_score_ 62 = .ok (.iconst 1, 1) := by decide +kernel
theorem zd_X10_score__63 : decode cX10_score_ 63 = .ok (.isub, 1) := by decide +kernel
theorem zd_X10_score__64 : decode cX10_score_ 64 = .ok (.invokestatic 89, 3) := by decide +kernel
theorem zd_X10_score__67 : decode cX10_score_ 67 = .ok (.ifCond .eq 12, 3) := by decide +kernel
theorem zd_X10_score__70 : decode cX10_score_ 70 = .ok (.aload_n 0, 1) := by decide +kernel
theorem zd_X10_score__71 : decode cX10_score_ 71 = .ok (.iload_n 2, 1) := by decide +kernel
theorem zd_X10_score__72 : decode cX10_score_ 72 = .ok (.iload_n 3, 1) := by decide +kernel
theorem zd_X10_score__73 : decode cX10_score_ 73 = .ok (.invokevirtual 225, 3) := by decide +kernel
theorem zd_X10_score__76 : decode cX10_score_ 76 = .ok (.goto 9, 3) := by decide +kernel
theorem zd_X10_score__79 : decode cX10_score_ 79 = .ok (.aload_n 0, 1) := by decide +kernel
theorem zd_X10_score__80 : decode cX10_score_ 80 = .ok (.bipush (-5), 2) := by decide +kernel
theorem zd_X10_score__82 : decode cX10_score_ 82 = .ok (.invokevirtual 82, 3) := by decide +kernel
theorem zd_X10_score__85 : decode cX10_score_ 85 = .ok (.ireturn, 1) := by decide +kernel
theorem zd_X10_leastNeed_0 : decode cX10_leastNeed 0 = .ok (.aload_n 0, 1) := by decide +kernel
theorem zd_X10_leastNeed_1 : decode cX10_leastNeed 1 = .ok (.iload_n 1, 1) := by decide +kernel
theorem zd_X10_leastNeed_2 : decode cX10_leastNeed 2 = .ok (.invokevirtual 103, 3) := by decide +kernel
theorem zd_X10_leastNeed_5 : decode cX10_leastNeed 5 = .ok (.ifCond .eq 11, 3) := by decide +kernel
theorem zd_X10_leastNeed_8 : decode cX10_leastNeed 8 = .ok (.aload_n 0, 1) := by decide +kernel
theorem zd_X10_leastNeed_9 : decode cX10_leastNeed 9 = .ok (.iload_n 2, 1) := by decide +kernel
theorem zd_X10_leastNeed_10 : decode cX10_leastNeed 10 = .ok (.invokevirtual 124, 3) := by decide +kernel
theorem zd_X10_leastNeed_13 : decode cX10_leastNeed 13 = .ok (.ifCond .ne 9, 3) := by decide +kernel
theorem zd_X10_leastNeed_16 : decode cX10_leastNeed 16 = .ok (.aload_n 0, 1) := by decide +kernel
theorem zd_X10_leastNeed_17 : decode cX10_leastNeed 17 = .ok (.iconst (-1), 1) := by decide +kernel
theorem zd_X10_leastNeed_18 : decode cX10_leastNeed 18 = .ok (.invokevirtual 138, 3) := by decide +kernel
theorem zd_X10_leastNeed_21 : decode cX10_leastNeed 21 = .ok (.ireturn, 1) := by decide +kernel
theorem zd_X10_leastNeed_22 : decode cX10_leastNeed 22 = .ok (.iload_n 2, 1) := by decide +kernel
theorem zd_X10_leastNeed_23 : decode cX10_leastNeed 23 = .ok (.aload_n 0, 1) := by decide +kernel
theorem zd_X10_leastNeed_24 : decode cX10_leastNeed 24 = .ok (.iconst 2, 1) := by decide +kernel
theorem zd_X10_leastNeed_25 : decode cX10_leastNeed 25 = .ok (.iload_n 1, 1) := by decide +kernel
theorem zd_X10_leastNeed_26 : decode cX10_leastNeed 26 = .ok (.invokevirtual 109, 3) := by decide +kernel
theorem zd_X10_leastNeed_29 : decode cX10_leastNeed 29 = .ok (.if_icmp .eq 19, 3) := by decide +kernel
theorem zd_X10_leastNeed_32 : decode cX10_leastNeed 32 = .ok (.aload_n 0, 1) := by decide +kernel
theorem zd_X10_leastNeed_33 : decode cX10_leastNeed 33 = .ok (.iload_n 1, 1) := by decide +kernel
theorem zd_X10_leastNeed_34 : decode cX10_leastNeed 34 = .ok (.aload_n 0, 1) := by decide +kernel
theorem zd_X10_leastNeed_35 : decode cX10_leastNeed 35 = .ok (.iconst 0, 1) := by decide +kernel
theorem zd_X10_leastNeed_36 : decode cX10_leastNeed 36 = .ok (.iload_n 1, 1) := by decide +kernel
theorem zd_X10_leastNeed_37 : decode cX10_leastNeed 37 = .ok (.invokevirtual 109, 3) := by decide +kernel
theorem zd_X10_leastNeed_40 : decode cX10_leastNeed 40 = .ok (.iload_n 2, 1) := by decide +kernel
theorem zd_X10_leastNeed_41 : decode cX10_leastNeed 41 = .ok (.iconst 1, 1) := by decide +kernel
theorem zd_X10_leastNeed_42 : decode cX10_leastNeed 42 = .ok (.invokevirtual 245, 3) := by decide +kernel
theorem zd_X10_leastNeed_45 : decode cX10_leastNeed 45 = .ok (.ifCond .ne 10, 3) := by decide +kernel
theorem zd_X10_leastNeed_48 : decode cX10_leastNeed 48 = .ok (.aload_n 0, 1) := by decide +kernel
theorem zd_X10_leastNeed_49 : decode cX10_leastNeed 49 = .ok (.bipush (-6), 2) := by decide +kernel
theorem zd_X10_leastNeed_51 : decode cX10_leastNeed 51 = .ok (.invokevirtual 138, 3) := by decide +kernel
theorem zd_X10_leastNeed_54 : decode cX10_leastNeed 54 = .ok (.ireturn, 1) := by decide +kernel
theorem zd_X10_leastNeed_55 : decode cX10_leastNeed 55 = .ok (.aload_n 0, 1) := by decide +kernel
theorem zd_X10_leastNeed_56 : decode cX10_leastNeed 56 = .ok (.iload_n 2, 1) := by decide +kernel
theorem zd_X10_leastNeed_57 : decode cX10_leastNeed 57 = .ok (.invokevirtual 238, 3) := by decide +kernel
theorem zd_X10_leastNeed_60 : decode cX10_leastNeed 60 = .ok (.aload_n 0, 1) := by decide +kernel
theorem zd_X10_leastNeed_61 : decode cX10_leastNeed 61 = .ok (.getfield 228, 3) := by decide +kernel
theorem zd_X10_leastNeed_64 : decode cX10_leastNeed 64 = .ok (.ifCond .eq 10, 3) := by decide +kernel
theorem zd_X10_leastNeed_67 : decode cX10_leastNeed 67 = .ok (.aload_n 0, 1) := by decide +kernel
theorem zd_X10_leastNeed_68 : decode cX10_leastNeed 68 = .ok (.getfield 219, 3) := by decide +kernel
theorem zd_X10_leastNeed_71 : decode cX10_leastNeed 71 = .ok (.goto 4, 3) := by decide +kernel
theorem zd_X10_leastNeed_74 : decode cX10_leastNeed 74 = .ok (.iconst (-1), 1) := by decide +kernel
theorem zd_X10_leastNeed_75 : decode cX10_leastNeed 75 = .ok (.ireturn, 1) := by decide +kernel
theorem zd_X10_fitting_0 : decode cX10_fitting 0 = .ok (.aload_n 0, 1) := by decide +kernel
theorem zd_X10_fitting_1 : decode cX10_fitting 1 = .ok (.iload_n 1, 1) := by decide +kernel
theorem zd_X10_fitting_2 : decode cX10_fitting 2 = .ok (.invokevirtual 103, 3) := by decide +kernel
theorem zd_X10_fitting_5 : decode cX10_fitting 5 = .ok (.ifCond .eq 11, 3) := by decide +kernel
theorem zd_X10_fitting_8 : decode cX10_fitting 8 = .ok (.aload_n 0, 1) := by decide +kernel
theorem zd_X10_fitting_9 : decode cX10_fitting 9 = .ok (.iload_n 2, 1) := by decide +kernel
theorem zd_X10_fitting_10 : decode cX10_fitting 10 = .ok (.invokevirtual 124, 3) := by decide +kernel
theorem zd_X10_fitting_13 : decode cX10_fitting 13 = .ok (.ifCond .ne 9, 3) := by decide +kernel
theorem zd_X10_fitting_16 : decode cX10_fitting 16 = .ok (.aload_n 0, 1) := by decide +kernel
theorem zd_X10_fitting_17 : decode cX10_fitting 17 = .ok (.iconst (-1), 1) := by decide +kernel
theorem zd_X10_fitting_18 : decode cX10_fitting 18 = .ok (.invokevirtual 82, 3) := by decide +kernel
theorem zd_X10_fitting_21 : decode cX10_fitting 21 = .ok (.ireturn, 1) := by decide +kernel
theorem zd_X10_fitting_22 : decode cX10_fitting 22 = .ok (.aload_n 0, 1) := by decide +kernel
theorem zd_X10_fitting_23 : decode cX10_fitting 23 = .ok (.iload_n 2, 1) := by decide +kernel
theorem zd_X10_fitting_24 : decode cX10_fitting 24 = .ok (.aload_n 0, 1) := by decide +kernel
theorem zd_X10_fitting_25 : decode cX10_fitting 25 = .ok (.iconst 2, 1) := by decide +kernel
theorem zd_X10_fitting_26 : decode cX10_fitting 26 = .ok (.iload_n 1, 1) := by decide +kernel
theorem zd_X10_fitting_27 : decode cX10_fitting 27 = .ok (.invokevirtual 109, 3) := by decide +kernel
theorem zd_X10_fitting_30 : decode cX10_fitting 30 = .ok (.invokevirtual 169, 3) := by decide +kernel
theorem zd_X10_fitting_33 : decode cX10_fitting 33 = .ok (.iconst (-1), 1) := by decide +kernel
theorem zd_X10_fitting_34 : decode cX10_fitting 34 = .ok (.if_icmp .ne 10, 3) := by decide +kernel
theorem zd_X10_fitting_37 : decode cX10_fitting 37 = .ok (.aload_n 0, 1) := by decide +kernel
theorem zd_X10_fitting_38 : decode cX10_fitting 38 = .ok (.bipush (-6), 2) := by decide +kernel
theorem zd_X10_fitting_40 : decode cX10_fitting 40 = .ok (.invokevirtual 82, 3) := by decide +kernel
theorem zd_X10_fitting_43 : decode cX10_fitting 43 = .ok (.ireturn, 1) := by decide +kernel
theorem zd_X10_fitting_44 : decode cX10_fitting 44 = .ok (.iconst 0, 1) := by decide +kernel
theorem zd_X10_fitting_45 : decode cX10_fitting 45 = .ok (.istore_n 3, 1) := by decide +kernel
theorem zd_X10_fitting_46 : decode cX10_fitting 46 = .ok (.iconst 0, 1) := by decide +kernel
theorem zd_X10_fitting_47 : decode cX10_fitting 47 = .ok (.istore 4, 2) := by decide +kernel
theorem zd_X10_fitting_49 : decode cX10_fitting 49 = .ok (.iload 4, 2) := by decide +kernel
theorem zd_X10_fitting_51 : decode cX10_fitting 51 = .ok (.bipush 7, 2) := by decide +kernel
theorem zd_X10_fitting_53 : decode cX10_fitting 53 = .ok (.if_icmp .ge 34, 3) := by decide +kernel
theorem zd_X10_fitting_56 : decode cX10_fitting 56 = .ok (.aload_n 0, 1) := by decide +kernel
theorem zd_X10_fitting_57 : decode cX10_fitting 57 = .ok (.iload_n 1, 1) := by decide +kernel
theorem zd_X10_fitting_58 : decode cX10_fitting 58 = .ok (.iload 4, 2) := by decide +kernel
theorem zd_X10_fitting_60 : decode cX10_fitting 60 = .ok (.iload_n 2, 1) := by decide +kernel
theorem zd_X10_fitting_61 : decode cX10_fitting 61 = .ok (.iconst 0, 1) := by decide +kernel
theorem zd_X10_fitting_62 : decode cX10_fitting 62 = .ok (.invokevirtual 245, 3) := by decide +kernel
theorem zd_X10_fitting_65 : decode cX10_fitting 65 = .ok (.pop, 1) := by decide +kernel
theorem zd_X10_fitting_66 : decode cX10_fitting 66 = .ok (.aload_n 0, 1) := by decide +kernel
theorem zd_X10_fitting_67 : decode cX10_fitting 67 = .ok (.getfield 232, 3) := by decide +kernel
theorem zd_X10_fitting_70 : decode cX10_fitting 70 = .ok (.iconst 3, 1) := by decide +kernel
theorem zd_X10_fitting_71 : decode cX10_fitting 71 = .ok (.if_icmp .eq 10, 3) := by decide +kernel
theorem zd_X10_fitting_74 : decode cX10_fitting 74 = .ok (.iload_n 3, 1) := by decide +kernel
theorem zd_X10_fitting_75 : decode cX10_fitting 75 = .ok (.iconst 1, 1) := by decide +kernel
theorem zd_X10_fitting_76 : decode cX10_fitting 76 = .ok (.iload 4, 2) := by decide +kernel
theorem zd_X10_fitting_78 : decode cX10_fitting 78 = .ok (.ishl, 1) := by decide +kernel
theorem zd_X10_fitting_79 : decode cX10_fitting 79 = .ok (.ior, 1) := by decide +kernel
theorem zd_X10_fitting_80 : decode cX10_fitting 80 = .ok (.istore_n 3, 1) := by decide +kernel
theorem zd_X10_fitting_81 : decode cX10_fitting 81 = .ok (.iinc 4 1, 3) := by decide +kernel
theorem zd_X10_fitting_84 : decode cX10_fitting 84 = .ok (.goto (-35), 3) := by decide +kernel
theorem zd_X10_fitting_87 : decode cX10_fitting 87 = .ok (.iload_n 3, 1) := by decide +kernel
theorem zd_X10_fitting_88 : decode cX10_fitting 88 = .ok (.ireturn, 1) := by decide +kernel
theorem zd_X10_isPut_0 : decode cX10_isPut 0 = .ok (.aload_n 0, 1) := by decide +kernel
theorem zd_X10_isPut_1 : decode cX10_isPut 1 = .ok (.iload_n 1, 1) := by decide +kernel
theorem zd_X10_isPut_2 : decode cX10_isPut 2 = .ok (.aload_n 0, 1) := by decide +kernel
theorem zd_X10_isPut_3 : decode cX10_isPut 3 = .ok (.iconst 0, 1) := by decide +kernel
theorem zd_X10_isPut_4 : decode cX10_isPut 4 = .ok (.iload_n 1, 1) := by decide +kernel
theorem zd_X10_isPut_5 : decode cX10_isPut 5 = .ok (.invokevirtual 109, 3) := by decide +kernel
theorem zd_X10_isPut_8 : decode cX10_isPut 8 = .ok (.iload_n 2, 1) := by decide +kernel
theorem zd_X10_isPut_9 : decode cX10_isPut 9 = .ok (.iconst 0, 1) := by decide +kernel
theorem zd_X10_isPut_10 : decode cX10_isPut 10 = .ok (.invokevirtual 245, 3) := by decide +kernel
theorem zd_X10_isPut_13 : decode cX10_isPut 13 = .ok (.ifCond .eq 15, 3) := by decide +kernel
theorem zd_X10_isPut_16 : decode cX10_isPut 16 = .ok (.aload_n 0, 1) := by decide +kernel
theorem zd_X10_isPut_17 : decode cX10_isPut 17 = .ok (.getfield 232, 3) := by decide +kernel
theorem zd_X10_isPut_20 : decode cX10_isPut 20 = .ok (.iconst 3, 1) := by decide +kernel
theorem zd_X10_isPut_21 : decode cX10_isPut 21 = .ok (.if_icmp .eq 7, 3) := by decide +kernel
theorem zd_X10_isPut_24 : decode cX10_isPut 24 = .ok (.iconst 1, 1) := by decide +kernel
theorem zd_X10_isPut_25 : decode cX10_isPut 25 = .ok (.goto 4, 3) := by decide +kernel
theorem zd_X10_isPut_28 : decode cX10_isPut 28 = .ok (.iconst 0, 1) := by decide +kernel
theorem zd_X10_isPut_29 : decode cX10_isPut 29 = .ok (.ireturn, 1) := by decide +kernel
theorem zd_X10_inOrder_0 : decode cX10_inOrder 0 = .ok (.aload_n 0, 1) := by decide +kernel
theorem zd_X10_inOrder_1 : decode cX10_inOrder 1 = .ok (.iload_n 1, 1) := by decide +kernel
theorem zd_X10_inOrder_2 : decode cX10_inOrder 2 = .ok (.invokevirtual 124, 3) := by decide +kernel
theorem zd_X10_inOrder_5 : decode cX10_inOrder 5 = .ok (.ifCond .ne 9, 3) := by decide +kernel
theorem zd_X10_inOrder_8 : decode cX10_inOrder 8 = .ok (.aload_n 0, 1) := by decide +kernel
theorem zd_X10_inOrder_9 : decode cX10_inOrder 9 = .ok (.iconst (-1), 1) := by decide +kernel
theorem zd_X10_inOrder_10 : decode cX10_inOrder 10 = .ok (.invokevirtual 138, 3) := by decide +kernel
theorem zd_X10_inOrder_13 : decode cX10_inOrder 13 = .ok (.ireturn, 1) := by decide +kernel
theorem zd_X10_inOrder_14 : decode cX10_inOrder 14 = .ok (.iload_n 2, 1) := by decide +kernel
theorem zd_X10_inOrder_15 : decode cX10_inOrder 15 = .ok (.istore_n 3, 1) := by decide +kernel
theorem zd_X10_inOrder_16 : decode cX10_inOrder 16 = .ok (.iconst 0, 1) := by decide +kernel
theorem zd_X10_inOrder_17 : decode cX10_inOrder 17 = .ok (.istore 4, 2) := by decide +kernel
theorem zd_X10_inOrder_19 : decode cX10_inOrder 19 = .ok (.iload 4, 2) := by decide +kernel
theorem zd_X10_inOrder_21 : decode cX10_inOrder 21 = .ok (.aload_n 0, 1) := by decide +kernel
theorem zd_X10_inOrder_22 : decode cX10_inOrder 22 = .ok (.getfield 93, 3) := by decide +kernel
theorem zd_X10_inOrder_25 : decode cX10_inOrder 25 = .ok (.if_icmp .ge 34, 3) := by decide +kernel
theorem zd_X10_inOrder_28 : decode cX10_inOrder 28 = .ok (.aload_n 0, 1) := by decide +kernel
theorem zd_X10_inOrder_29 : decode cX10_inOrder 29 = .ok (.getfield 72, 3) := by decide +kernel
theorem zd_X10_inOrder_32 : decode cX10_inOrder 32 = .ok (.iload 4, 2) := by decide +kernel
theorem zd_X10_inOrder_34 : decode cX10_inOrder 34 = .ok (.aload_n 0, 1) := by decide +kernel
theorem zd_X10_inOrder_35 : decode cX10_inOrder 35 = .ok (.iload 4, 2) := by decide +kernel
theorem zd_X10_inOrder_37 : decode cX10_inOrder 37 = .ok (.iload_n 1, 1) := by decide +kernel
theorem zd_X10_inOrder_38 : decode cX10_inOrder 38 = .ok (.invokevirtual 248, 3) := by decide +kernel
theorem zd_X10_inOrder_41 : decode cX10_inOrder 41 = .ok (.ifCond .eq 10, 3) := by decide +kernel
theorem zd_X10_inOrder_44 : decode cX10_inOrder 44 = .ok (.aload_n 0, 1) := by decide +kernel
theorem zd_X10_inOrder_45 : decode cX10_inOrder 45 = .ok (.getfield 191, 3) := by decide +kernel
theorem zd_X10_inOrder_48 : decode cX10_inOrder 48 = .ok (.goto 4, 3) := by decide +kernel
theorem zd_X10_inOrder_51 : decode cX10_inOrder 51 = .ok (.iconst (-1), 1) := by decide +kernel
theorem zd_X10_inOrder_52 : decode cX10_inOrder 52 = .ok (.iastore, 1) := by decide +kernel
theorem zd_X10_inOrder_53 : decode cX10_inOrder 53 = .ok (.iinc 4 1, 3) := by decide +kernel
theorem zd_X10_inOrder_56 : decode cX10_inOrder 56 = .ok (.goto (-37), 3) := by decide +kernel
theorem zd_X10_inOrder_59 : decode cX10_inOrder 59 = .ok (.iconst 0, 1) := by decide +kernel
theorem zd_X10_inOrder_60 : decode cX10_inOrder 60 = .ok (.istore 4, 2) := by decide +kernel
theorem zd_X10_inOrder_62 : decode cX10_inOrder 62 = .ok (.iload 4, 2) := by decide +kernel
theorem zd_X10_inOrder_64 : decode cX10_inOrder 64 = .ok (.bipush 24, 2) := by decide +kernel
theorem zd_X10_inOrder_66 : decode cX10_inOrder 66 = .ok (.if_icmp .ge 56, 3) := by decide +kernel
theorem zd_X10_inOrder_69 : decode cX10_inOrder 69 = .ok (.iload_n 2, 1) := by decide +kernel
theorem zd_X10_inOrder_70 : decode cX10_inOrder 70 = .ok (.ifCond .lt 52, 3) := by decide +kernel
theorem zd_X10_inOrder_73 : decode cX10_inOrder 73 = .ok (.iconst 0, 1) := by decide +kernel
theorem zd_X10_inOrder_74 : decode cX10_inOrder 74 = .ok (.istore 5, 2) := by decide +kernel
theorem zd_X10_inOrder_76 : decode cX10_inOrder 76 = .ok (.iload 5, 2) := by decide +kernel
theorem zd_X10_inOrder_78 : decode cX10_inOrder 78 = .ok (.aload_n 0, 1) := by decide +kernel
theorem zd_X10_inOrder_79 : decode cX10_inOrder 79 = .ok (.getfield 93, 3) := by decide +kernel
theorem zd_X10_inOrder_82 : decode cX10_inOrder 82 = .ok (.if_icmp .ge 34, 3) := by decide +kernel
theorem zd_X10_inOrder_85 : decode cX10_inOrder 85 = .ok (.aload_n 0, 1) := by decide +kernel
theorem zd_X10_inOrder_86 : decode cX10_inOrder 86 = .ok (.getfield 72, 3) := by decide +kernel
theorem zd_X10_inOrder_89 : decode cX10_inOrder 89 = .ok (.iload 5, 2) := by decide +kernel
theorem zd_X10_inOrder_91 : decode cX10_inOrder 91 = .ok (.iaload, 1) := by decide +kernel
theorem zd_X10_inOrder_92 : decode cX10_inOrder 92 = .ok (.iload 4, 2) := by decide +kernel
theorem zd_X10_inOrder_94 : decode cX10_inOrder 94 = .ok (.if_icmp .eq 6, 3) := by decide +kernel
theorem zd_X10_inOrder_97 : decode cX10_inOrder 97 = .ok (.goto 13, 3) := by decide +kernel
theorem zd_X10_inOrder_100 : decode cX10_inOrder 100 = .ok (.iload_n 3, 1) := by decide +kernel
theorem zd_X10_inOrder_101 : decode cX10_inOrder 101 = .ok (.ifCond .ne 6, 3) := by decide +kernel
theorem zd_X10_inOrder_104 : decode cX10_inOrder 104 = .ok (.iload 5, 2) := by decide +kernel
theorem zd_X10_inOrder_106 : decode cX10_inOrder 106 = .ok (.ireturn, 1) := by decide +kernel
theorem zd_X10_inOrder_107 : decode cX10_inOrder 107 = .ok (.iinc 3 (-1), 3) := by decide +kernel
theorem zd_X10_inOrder_110 : decode cX10_inOrder 110 = .ok (.iinc 5 1, 3) := by decide +kernel
theorem zd_X10_inOrder_113 : decode cX10_inOrder 113 = .ok (.goto (-37), 3) := by decide +kernel
theorem zd_X10_inOrder_116 : decode cX10_inOrder 116 = .ok (.iinc 4 1, 3) := by decide +kernel
theorem zd_X10_inOrder_119 : decode cX10_inOrder 119 = .ok (.goto (-57), 3) := by decide +kernel
theorem zd_X10_inOrder_122 : decode cX10_inOrder 122 = .ok (.iconst (-1), 1) := by decide +kernel
theorem zd_X10_inOrder_123 : decode cX10_inOrder 123 = .ok (.ireturn, 1) := by decide +kernel
theorem zd_X10_heat_0 : decode cX10_heat 0 = .ok (.iconst 0, 1) := by decide +kernel
theorem zd_X10_heat_1 : decode cX10_heat 1 = .ok (.istore_n 2, 1) := by decide +kernel
theorem zd_X10_heat_2 : decode cX10_heat 2 = .ok (.iload_n 2, 1) := by decide +kernel
theorem zd_X10_heat_3 : decode cX10_heat 3 = .ok (.bipush 24, 2) := by decide +kernel
theorem zd_X10_heat_5 : decode cX10_heat 5 = .ok (.if_icmp .ge 16, 3) := by decide +kernel
theorem zd_X10_heat_8 : decode cX10_heat 8 = .ok (.aload_n 0, 1) := by decide +kernel
theorem zd_X10_heat_9 : decode cX10_heat 9 = .ok (.getfield 62, 3) := by decide +kernel
theorem zd_X10_heat_12 : decode cX10_heat 12 = .ok (.iload_n 2, 1) := by decide +kernel
theorem zd_X10_heat_13 : decode cX10_heat 13 = .ok (.iconst 0, 1) := by decide +kernel
theorem zd_X10_heat_14 : decode cX10_heat 14 = .ok (.iastore, 1) := by decide +kernel
theorem zd_X10_heat_15 : decode cX10_heat 15 = .ok (.iinc 2 1, 3) := by decide +kernel
theorem zd_X10_heat_18 : decode cX10_heat 18 = .ok (.goto (-16), 3) := by decide +kernel
theorem zd_X10_heat_21 : decode cX10_heat 21 = .ok (.iconst 0, 1) := by decide +kernel
theorem zd_X10_heat_22 : decode cX10_heat 22 = .ok (.istore_n 2, 1) := by decide +kernel
theorem zd_X10_heat_23 : decode cX10_heat 23 = .ok (.iload_n 2, 1) := by decide +kernel
theorem zd_X10_heat_24 : decode cX10_heat 24 = .ok (.aload_n 0, 1) := by decide +kernel
theorem zd_X10_heat_25 : decode cX10_heat 25 = .ok (.getfield 93, 3) := by decide +kernel
theorem zd_X10_heat_28 : decode cX10_heat 28 = .ok (.if_icmp .ge 47, 3) := by decide +kernel
theorem zd_X10_heat_31 : decode cX10_heat 31 = .ok (.aload_n 0, 1) := by decide +kernel
theorem zd_X10_heat_32 : decode cX10_heat 32 = .ok (.iload_n 2, 1) := by decide +kernel
theorem zd_X10_heat_33 : decode cX10_heat 33 = .ok (.iload_n 1, 1) := by decide +kernel
theorem zd_X10_heat_34 : decode cX10_heat 34 = .ok (.invokevirtual 248, 3) := by decide +kernel
theorem zd_X10_heat_37 : decode cX10_heat 37 = .ok (.ifCond .eq 32, 3) := by decide +kernel
theorem zd_X10_heat_40 : decode cX10_heat 40 = .ok (.aload_n 0, 1) := by decide +kernel
theorem zd_X10_heat_41 : decode cX10_heat 41 = .ok (.getfield 191, 3) := by decide +kernel
theorem zd_X10_heat_44 : decode cX10_heat 44 = .ok (.istore_n 3, 1) := by decide +kernel
theorem zd_X10_heat_45 : decode cX10_heat 45 = .ok (.iload_n 3, 1) := by decide +kernel
theorem zd_X10_heat_46 : decode cX10_heat 46 = .ok (.aload_n 0, 1) := by decide +kernel
theorem zd_X10_heat_47 : decode cX10_heat 47 = .ok (.getfield 194, 3) := by decide +kernel
theorem zd_X10_heat_50 : decode cX10_heat 50 = .ok (.if_icmp .gt 19, 3) := by decide +kernel
theorem zd_X10_heat_53 : decode cX10_heat 53 = .ok (.aload_n 0, 1) := by decide +kernel
theorem zd_X10_heat_54 : decode cX10_heat 54 = .ok (.getfield 62, 3) := by decide +kernel
theorem zd_X10_heat_57 : decode cX10_heat 57 = .ok (.iload_n 3, 1) := by decide +kernel
theorem zd_X10_heat_58 : decode cX10_heat 58 = .ok (.dup2, 1) := by decide +kernel
theorem zd_X10_heat_59 : decode cX10_heat 59 = .ok (.iaload, 1) := by decide +kernel
theorem zd_X10_heat_60 : decode cX10_heat 60 = .ok (.iconst 1, 1) := by decide +kernel
theorem zd_X10_heat_61 : decode cX10_heat 61 = .ok (.iadd, 1) := by decide +kernel
theorem zd_X10_heat_62 : decode cX10_heat 62 = .ok (.iastore, 1) := by decide +kernel
theorem zd_X10_heat_63 : decode cX10_heat 63 = .ok (.iinc 3 1, 3) := by decide +kernel
theorem zd_X10_heat_66 : decode cX10_heat 66 = .ok (.goto (-21), 3) := by decide +kernel
theorem zd_X10_heat_69 : decode cX10_heat 69 = .ok (.iinc 2 1, 3) := by decide +kernel
theorem zd_X10_heat_72 : decode cX10_heat 72 = .ok (.goto (-49), 3) := by decide +kernel
theorem zd_X10_heat_75 : decode cX10_heat 75 = .ok (.iconst 0, 1) := by decide +kernel
theorem zd_X10_heat_76 : decode cX10_heat 76 = .ok (.istore_n 2, 1) := by decide +kernel
theorem zd_X10_heat_77 : decode cX10_heat 77 = .ok (.iconst 1, 1) := by decide +kernel
theorem zd_X10_heat_78 : decode cX10_heat 78 = .ok (.istore_n 3, 1) := by decide +kernel
theorem zd_X10_heat_79 : decode cX10_heat 79 = .ok (.iload_n 3, 1) := by decide +kernel
theorem zd_X10_heat_80 : decode cX10_heat 80 = .ok (.bipush 24, 2) := by decide +kernel
theorem zd_X10_heat_82 : decode cX10_heat 82 = .ok (.if_icmp .ge 26, 3) := by decide +kernel
theorem zd_X10_heat_85 : decode cX10_heat 85 = .ok (.aload_n 0, 1) := by decide +kernel
theorem zd_X10_heat_86 : decode cX10_heat 86 = .ok (.getfield 62, 3) := by decide +kernel
theorem zd_X10_heat_89 : decode cX10_heat 89 = .ok (.iload_n 3, 1) := by decide +kernel
theorem zd_X10_heat_90 : decode cX10_heat 90 = .ok (.iaload, 1) := by decide +kernel
theorem zd_X10_heat_91 : decode cX10_heat 91 = .ok (.aload_n 0, 1) := by decide +kernel
theorem zd_X10_heat_92 : decode cX10_heat 92 = .ok (.getfield 62, 3) := by decide +kernel
theorem zd_X10_heat_95 : decode cX10_heat 95 = .ok (.iload_n 2, 1) := by decide +kernel
theorem zd_X10_heat_96 : decode cX10_heat 96 = .ok (.iaload, 1) := by decide +kernel
theorem zd_X10_heat_97 : decode cX10_heat 97 = .ok (.if_icmp .le 5, 3) := by decide +kernel
theorem zd_X10_heat_100 : decode cX10_heat 100 = .ok (.iload_n 3, 1) := by decide +kernel
theorem zd_X10_heat_101 : decode cX10_heat 101 = .ok (.istore_n 2, 1) := by decide +kernel
theorem zd_X10_heat_102 : decode cX10_heat 102 = .ok (.iinc 3 1, 3) := by decide +kernel
theorem zd_X10_heat_105 : decode cX10_heat 105 = .ok (.goto (-26), 3) := by decide +kernel
theorem zd_X10_heat_108 : decode cX10_heat 108 = .ok (.aload_n 0, 1) := by decide +kernel
theorem zd_X10_heat_109 : decode cX10_heat 109 = .ok (.getfield 62, 3) := by decide +kernel
theorem zd_X10_heat_112 : decode cX10_heat 112 = .ok (.iload_n 2, 1) := by decide +kernel
theorem zd_X10_heat_113 : decode cX10_heat 113 = .ok (.iaload, 1) := by decide +kernel
theorem zd_X10_heat_114 : decode cX10_heat 114 = .ok (.ifCond .ne 8, 3) := by decide +kernel
theorem zd_X10_heat_117 : decode cX10_heat 117 = .ok (.bipush 99, 2) := by decide +kernel
theorem zd_X10_heat_119 : decode cX10_heat 119 = .ok (.goto 4, 3) := by decide +kernel
theorem zd_X10_heat_122 : decode cX10_heat 122 = .ok (.iload_n 2, 1) := by decide +kernel
theorem zd_X10_heat_123 : decode cX10_heat 123 = .ok (.ireturn, 1) := by decide +kernel
theorem zd_X10_who_0 : decode cX10_who 0 = .ok (.aload_n 0, 1) := by decide +kernel
theorem zd_X10_who_1 : decode cX10_who 1 = .ok (.iload_n 1, 1) := by decide +kernel
theorem zd_X10_who_2 : decode cX10_who 2 = .ok (.invokevirtual 124, 3) := by decide +kernel
theorem zd_X10_who_5 : decode cX10_who 5 = .ok (.ifCond .ne 9, 3) := by decide +kernel
theorem zd_X10_who_8 : decode cX10_who 8 = .ok (.aload_n 0, 1) := by decide +kernel
theorem zd_X10_who_9 : decode cX10_who 9 = .ok (.iconst (-1), 1) := by decide +kernel
theorem zd_X10_who_10 : decode cX10_who 10 = .ok (.invokevirtual 82, 3) := by decide +kernel
theorem zd_X10_who_13 : decode cX10_who 13 = .ok (.ireturn, 1) := by decide +kernel
theorem zd_X10_who_14 : decode cX10_who 14 = .ok (.iload_n 2, 1) := by decide +kernel
theorem zd_X10_who_15 : decode cX10_who 15 = .ok (.iconst 0, 1) := by decide +kernel
theorem zd_X10_who_16 : decode cX10_who 16 = .ok (.iconst 2, 1) := by decide +kernel
theorem zd_X10_who_17 : decode cX10_who 17 = .ok (.invokestatic 89, 3) := by decide +kernel
theorem zd_X10_who_20 : decode cX10_who 20 = .ok (.ifCond .ne 10, 3) := by decide +kernel
theorem zd_X10_who_23 : decode cX10_who 23 = .ok (.aload_n 0, 1) := by decide +kernel
theorem zd_X10_who_24 : decode cX10_who 24 = .ok (.bipush (-5), 2) := by decide +kernel
theorem zd_X10_who_26 : decode cX10_who 26 = .ok (.invokevirtual 82, 3) := by decide +kernel
theorem zd_X10_who_29 : decode cX10_who 29 = .ok (.ireturn, 1) := by decide +kernel
theorem zd_X10_who_30 : decode cX10_who 30 = .ok (.iload_n 2, 1) := by decide +kernel
theorem zd_X10_who_31 : decode cX10_who 31 = .ok (.iconst 2, 1) := by decide +kernel
theorem zd_X10_who_32 : decode cX10_who 32 = .ok (.if_icmp .ne 9, 3) := by decide +kernel
theorem zd_X10_who_35 : decode cX10_who 35 = .ok (.aload_n 0, 1) := by decide +kernel
theorem zd_X10_who_36 : decode cX10_who 36 = .ok (.iload_n 1, 1) := by decide +kernel
theorem zd_X10_who_37 : decode cX10_who 37 = .ok (.invokevirtual 251, 3) := by decide +kernel
theorem zd_X10_who_40 : decode cX10_who 40 = .ok (.ireturn, 1) := by decide +kernel
theorem zd_X10_who_41 : decode cX10_who 41 = .ok (.iconst 0, 1) := by decide +kernel
theorem zd_X10_who_42 : decode cX10_who 42 = .ok (.istore_n 3, 1) := by decide +kernel
theorem zd_X10_who_43 : decode cX10_who 43 = .ok (.iconst 0, 1) := by decide +kernel
theorem zd_X10_who_44 : decode cX10_who 44 = .ok (.istore 4, 2) := by decide +kernel
theorem zd_X10_who_46 : decode cX10_who 46 = .ok (.iload 4, 2) := by decide +kernel
theorem zd_X10_who_48 : decode cX10_who 48 = .ok (.aload_n 0, 1) := by decide +kernel
theorem zd_X10_who_49 : decode cX10_who 49 = .ok (.getfield 93, 3) := by decide +kernel
theorem zd_X10_who_52 : decode cX10_who 52 = .ok (.if_icmp .ge 60, 3) := by decide +kernel
theorem zd_X10_who_55 : decode cX10_who 55 = .ok (.aload_n 0, 1) := by decide +kernel
theorem zd_X10_who_56 : decode cX10_who 56 = .ok (.iload 4, 2) := by decide +kernel
theorem zd_X10_who_58 : decode cX10_who 58 = .ok (.aload_n 0, 1) := by decide +kernel
theorem zd_X10_who_59 : decode cX10_who 59 = .ok (.iconst 0, 1) := by decide +kernel
theorem zd_X10_who_60 : decode cX10_who 60 = .ok (.iload 4, 2) := by decide +kernel
theorem zd_X10_who_62 : decode cX10_who 62 = .ok (.invokevirtual 109, 3) := by decide +kernel
theorem zd_X10_who_65 : decode cX10_who 65 = .ok (.iload_n 1, 1) := by decide +kernel
theorem zd_X10_who_66 : decode cX10_who 66 = .ok (.iconst 0, 1) := by decide +kernel
theorem zd_X10_who_67 : decode cX10_who 67 = .ok (.invokevirtual 245, 3) := by decide +kernel
theorem zd_X10_who_70 : decode cX10_who 70 = .ok (.ifCond .eq 36, 3) := by decide +kernel
theorem zd_X10_who_73 : decode cX10_who 73 = .ok (.aload_n 0, 1) := by decide +kernel
theorem zd_X10_who_74 : decode cX10_who 74 = .ok (.getfield 232, 3) := by decide +kernel
theorem zd_X10_who_77 : decode cX10_who 77 = .ok (.iconst 3, 1) := by decide +kernel
theorem zd_X10_who_78 : decode cX10_who 78 = .ok (.if_icmp .ne 7, 3) := by decide +kernel
theorem zd_X10_who_81 : decode cX10_who 81 = .ok (.iconst 1, 1) := by decide +kernel
theorem zd_X10_who_82 : decode cX10_who 82 = .ok (.goto 4, 3) := by decide +kernel
theorem zd_X10_who_85 : decode cX10_who 85 = .ok (.iconst 0, 1) := by decide +kernel
theorem zd_X10_who_86 : decode cX10_who 86 = .ok (.iload_n 2, 1) := by decide +kernel
theorem zd_X10_who_87 : decode cX10_who 87 = .ok (.iconst 1, 1) := by decide +kernel
theorem zd_X10_who_88 : decode cX10_who 88 = .ok (.if_icmp .ne 7, 3) := by decide +kernel
theorem zd_X10_who_91 : decode cX10_who 91 = .ok (.iconst 1, 1) := by decide +kernel
theorem zd_X10_who_92 : decode cX10_who 92 = .ok (.goto 4, 3) := by decide +kernel
theorem zd_X10_who_95 : decode cX10_who 95 = .ok (.iconst 0, 1) := by decide +kernel
theorem zd_X10_who_96 : decode cX10_who 96 = .ok (.if_icmp .ne 10, 3) := by decide +kernel
theorem zd_X10_who_99 : decode cX10_who 99 = .ok (.iload_n 3, 1) := by decide +kernel
theorem zd_X10_who_100 : decode cX10_who 100 = .ok (.iconst 1, 1) := by decide +kernel
theorem zd_X10_who_101 : decode cX10_who 101 = .ok (.iload 4, 2) := by decide +kernel
theorem zd_X10_who_103 : decode cX10_who 103 = .ok (.ishl, 1) := by decide +kernel
theorem zd_X10_who_104 : decode cX10_who 104 = .ok (.ior, 1) := by decide +kernel
theorem zd_X10_who_105 : decode cX10_who 105 = .ok (.istore_n 3, 1) := by decide +kernel
theorem zd_X10_who_106 : decode cX10_who 106 = .ok (.iinc 4 1, 3) := by decide +kernel
theorem zd_X10_who_109 : decode cX10_who 109 = .ok (.goto (-63), 3) := by decide +kernel
theorem zd_X10_who_112 : decode cX10_who 112 = .ok (.iload_n 3, 1) := by decide +kernel
theorem zd_X10_who_113 : decode cX10_who 113 = .ok (.ireturn, 1) := by decide +kernel
theorem zd_X10_covered_0 : decode cX10_covered 0 = .ok (.aload_n 0, 1) := by decide +kernel
theorem zd_X10_covered_1 : decode cX10_covered 1 = .ok (.iload_n 1, 1) := by decide +kernel
theorem zd_X10_covered_2 : decode cX10_covered 2 = .ok (.invokevirtual 124, 3) := by decide +kernel
theorem zd_X10_covered_5 : decode cX10_covered 5 = .ok (.ifCond .ne 9, 3) := by decide +kernel
theorem zd_X10_covered_8 : decode cX10_covered 8 = .ok (.aload_n 0, 1) := by decide +kernel
theorem zd_X10_covered_9 : decode cX10_covered 9 = .ok (.iconst (-1), 1) := by decide +kernel
theorem zd_X10_covered_10 : decode cX10_covered 10 = .ok (.invokevirtual 82, 3) := by decide +kernel
theorem zd_X10_covered_13 : decode cX10_covered 13 = .ok (.ireturn, 1) := by decide +kernel
theorem zd_X10_covered_14 : decode cX10_covered 14 = .ok (.iconst 0, 1) := by decide +kernel
theorem zd_X10_covered_15 : decode cX10_covered 15 = .ok (.istore_n 2, 1) := by decide +kernel
theorem zd_X10_covered_16 : decode cX10_covered 16 = .ok (.iconst 0, 1) := by decide +kernel
theorem zd_X10_covered_17 : decode cX10_covered 17 = .ok (.istore_n 3, 1) := by decide +kernel
theorem zd_X10_covered_18 : decode cX10_covered 18 = .ok (.iload_n 3, 1) := by decide +kernel
theorem zd_X10_covered_19 : decode cX10_covered 19 = .ok (.aload_n 0, 1) := by decide +kernel
theorem zd_X10_covered_20 : decode cX10_covered 20 = .ok (.getfield 93, 3) := by decide +kernel
theorem zd_X10_covered_23 : decode cX10_covered 23 = .ok (.if_icmp .ge 46, 3) := by decide +kernel
theorem zd_X10_covered_26 : decode cX10_covered 26 = .ok (.aload_n 0, 1) := by decide +kernel
theorem zd_X10_covered_27 : decode cX10_covered 27 = .ok (.iload_n 3, 1) := by decide +kernel
theorem zd_X10_covered_28 : decode cX10_covered 28 = .ok (.iload_n 1, 1) := by decide +kernel
theorem zd_X10_covered_29 : decode cX10_covered 29 = .ok (.invokevirtual 248, 3) := by decide +kernel
theorem zd_X10_covered_32 : decode cX10_covered 32 = .ok (.ifCond .eq 31, 3) := by decide +kernel
theorem zd_X10_covered_35 : decode cX10_covered 35 = .ok (.aload_n 0, 1) := by decide +kernel
theorem zd_X10_covered_36 : decode cX10_covered 36 = .ok (.getfield 191, 3) := by decide +kernel
theorem zd_X10_covered_39 : decode cX10_covered 39 = .ok (.istore 4, 2) := by decide +kernel
theorem zd_X10_covered_41 : decode cX10_covered 41 = .ok (.iload 4, 2) := by decide +kernel
theorem zd_X10_covered_43 : decode cX10_covered 43 = .ok (.aload_n 0, 1) := by decide +kernel
theorem zd_X10_covered_44 : decode cX10_covered 44 = .ok (.getfield 194, 3) := by decide +kernel
theorem zd_X10_covered_47 : decode cX10_covered 47 = .ok (.if_icmp .gt 16, 3) := by decide +kernel
theorem zd_X10_covered_50 : decode cX10_covered 50 = .ok (.iload_n 2, 1) := by decide +kernel
theorem zd_X10_covered_51 : decode cX10_covered 51 = .ok (.iconst 1, 1) := by decide +kernel
theorem zd_X10_covered_52 : decode cX10_covered 52 = .ok (.iload 4, 2) := by decide +kernel
theorem zd_X10_covered_54 : decode cX10_covered 54 = .ok (.ishl, 1) := by decide +kernel
theorem zd_X10_covered_55 : decode cX10_covered 55 = .ok (.ior, 1) := by decide +kernel
theorem zd_X10_covered_56 : decode cX10_covered 56 = .ok (.istore_n 2, 1) := by decide +kernel
theorem zd_X10_covered_57 : decode cX10_covered 57 = .ok (.iinc 4 1, 3) := by decide +kernel
theorem zd_X10_covered_60 : decode cX10_covered 60 = .ok (.goto (-19), 3) := by decide +kernel
theorem zd_X10_covered_63 : decode cX10_covered 63 = .ok (.iinc 3 1, 3) := by decide +kernel
theorem zd_X10_covered_66 : decode cX10_covered 66 = .ok (.goto (-48), 3) := by decide +kernel
theorem zd_X10_covered_69 : decode cX10_covered 69 = .ok (.iload_n 2, 1) := by decide +kernel
theorem zd_X10_covered_70 : decode cX10_covered 70 = .ok (.ireturn, 1) := by decide +kernel
theorem zd_X10_judge_0 : decode cX10_judge 0 = .ok (.aload_n 0, 1) := by decide +kernel
theorem zd_X10_judge_1 : decode cX10_judge 1 = .ok (.iload_n 1, 1) := by decide +kernel
theorem zd_X10_judge_2 : decode cX10_judge 2 = .ok (.invokevirtual 100, 3) := by decide +kernel
theorem zd_X10_judge_5 : decode cX10_judge 5 = .ok (.istore 4, 2) := by decide +kernel
theorem zd_X10_judge_7 : decode cX10_judge 7 = .ok (.iload 4, 2) := by decide +kernel
theorem zd_X10_judge_9 : decode cX10_judge 9 = .ok (.iconst (-1), 1) := by decide +kernel
theorem zd_X10_judge_10 : decode cX10_judge 10 = .ok (.if_icmp .eq 19, 3) := by decide +kernel
theorem zd_X10_judge_13 : decode cX10_judge 13 = .ok (.aload_n 0, 1) := by decide +kernel
theorem zd_X10_judge_14 : decode cX10_judge 14 = .ok (.iload_n 2, 1) := by decide +kernel
theorem zd_X10_judge_15 : decode cX10_judge 15 = .ok (.invokevirtual 103, 3) := by decide +kernel
theorem zd_X10_judge_18 : decode cX10_judge 18 = .ok (.ifCond .eq 11, 3) := by decide +kernel
theorem zd_X10_judge_21 : decode cX10_judge 21 = .ok (.aload_n 0, 1) := by decide +kernel
theorem zd_X10_judge_22 : decode cX10_judge 22 = .ok (.iload_n 3, 1) := by decide +kernel
theorem zd_X10_judge_23 : decode cX10_judge 23 = .ok (.invokevirtual 124, 3) := by decide +kernel
theorem zd_X10_judge_26 : decode cX10_judge 26 = .ok (.ifCond .ne 9, 3) := by decide +kernel
theorem zd_X10_judge_29 : decode cX10_judge 29 = .ok (.aload_n 0, 1) := by decide +kernel
theorem zd_X10_judge_30 : decode cX10_judge 30 = .ok (.iconst (-1), 1) := by decide +kernel
theorem zd_X10_judge_31 : decode cX10_judge 31 = .ok (.invokevirtual 138, 3) := by decide +kernel
theorem zd_X10_judge_34 : decode cX10_judge 34 = .ok (.ireturn, 1) := by decide +kernel
theorem zd_X10_judge_35 : decode cX10_judge 35 = .ok (.iload 4, 2) := by decide +kernel
theorem zd_X10_judge_37 : decode cX10_judge 37 = .ok (.ifCond .ge 10, 3) := by decide +kernel
theorem zd_X10_judge_40 : decode cX10_judge 40 = .ok (.aload_n 0, 1) := by decide +kernel
theorem zd_X10_judge_41 : decode cX10_judge 41 = .ok (.iload 4, 2) := by decide +kernel
theorem zd_X10_judge_43 : decode cX10_judge 43 = .ok (.invokevirtual 138, 3) := by decide +kernel
theorem zd_X10_judge_46 : decode cX10_judge 46 = .ok (.ireturn, 1) := by decide +kernel
theorem zd_X10_judge_47 : decode cX10_judge 47 = .ok (.aload_n 0, 1) := by decide +kernel
theorem zd_X10_judge_48 : decode cX10_judge 48 = .ok (.iload_n 3, 1) := by decide +kernel
theorem zd_X10_judge_49 : decode cX10_judge 49 = .ok (.aload_n 0, 1) := by decide +kernel
theorem zd_X10_judge_50 : decode cX10_judge 50 = .ok (.iconst 2, 1) := by decide +kernel
theorem zd_X10_judge_51 : decode cX10_judge 51 = .ok (.iload_n 2, 1) := by decide +kernel
theorem zd_X10_judge_52 : decode cX10_judge 52 = .ok (.invokevirtual 109, 3) := by decide +kernel
theorem zd_X10_judge_55 : decode cX10_judge 55 = .ok (.invokevirtual 169, 3) := by decide +kernel
theorem zd_X10_judge_58 : decode cX10_judge 58 = .ok (.istore 5, 2) := by decide +kernel
theorem zd_X10_judge_60 : decode cX10_judge 60 = .ok (.iload 5, 2) := by decide +kernel
theorem zd_X10_judge_62 : decode cX10_judge 62 = .ok (.iconst (-1), 1) := by decide +kernel
theorem zd_X10_judge_63 : decode cX10_judge 63 = .ok (.if_icmp .ne 10, 3) := by decide +kernel
theorem zd_X10_judge_66 : decode cX10_judge 66 = .ok (.aload_n 0, 1) := by decide +kernel
theorem zd_X10_judge_67 : decode cX10_judge 67 = .ok (.bipush (-6), 2) := by decide +kernel
theorem zd_X10_judge_69 : decode cX10_judge 69 = .ok (.invokevirtual 138, 3) := by decide +kernel
theorem zd_X10_judge_72 : decode cX10_judge 72 = .ok (.ireturn, 1) := by decide +kernel
theorem zd_X10_judge_73 : decode cX10_judge 73 = .ok (.aload_n 0, 1) := by decide +kernel
theorem zd_X10_judge_74 : decode cX10_judge 74 = .ok (.getfield 32, 3) := by decide +kernel
theorem zd_X10_judge_77 : decode cX10_judge 77 = .ok (.iload_n 1, 1) := by decide +kernel
theorem zd_X10_judge_78 : decode cX10_judge 78 = .ok (.iaload, 1) := by decide +kernel
theorem zd_X10_judge_79 : decode cX10_judge 79 = .ok (.iload 5, 2) := by decide +kernel
theorem zd_X10_judge_81 : decode cX10_judge 81 = .ok (.if_icmp .gt 10, 3) := by decide +kernel
theorem zd_X10_judge_84 : decode cX10_judge 84 = .ok (.aload_n 0, 1) := by decide +kernel
theorem zd_X10_judge_85 : decode cX10_judge 85 = .ok (.bipush (-5), 2) := by decide +kernel
theorem zd_X10_judge_87 : decode cX10_judge 87 = .ok (.invokevirtual 138, 3) := by decide +kernel
theorem zd_X10_judge_90 : decode cX10_judge 90 = .ok (.ireturn, 1) := by decide +kernel
theorem zd_X10_judge_91 : decode cX10_judge 91 = .ok (.iconst 0, 1) := by decide +kernel
theorem zd_X10_judge_92 : decode cX10_judge 92 = .ok (.istore 6, 2) := by decide +kernel
theorem zd_X10_judge_94 : decode cX10_judge 94 = .ok (.iload 6, 2) := by decide +kernel
theorem zd_X10_judge_96 : decode cX10_judge 96 = .ok (.iload 5, 2) := by decide +kernel
theorem zd_X10_judge_98 : decode cX10_judge 98 = .ok (.if_icmp .gt 44, 3) := by decide +kernel
theorem zd_X10_judge_101 : decode cX10_judge 101 = .ok (.aload_n 0, 1) := by decide +kernel
theorem zd_X10_judge_102 : decode cX10_judge 102 = .ok (.iload_n 2, 1) := by decide +kernel
theorem zd_X10_judge_103 : decode cX10_judge 103 = .ok (.aload_n 0, 1) := by decide +kernel
theorem zd_X10_judge_104 : decode cX10_judge 104 = .ok (.iconst 0, 1) := by decide +kernel
theorem zd_X10_judge_105 : decode cX10_judge 105 = .ok (.iload_n 2, 1) := by decide +kernel
theorem zd_X10_judge_106 : decode cX10_judge 106 = .ok (.invokevirtual 109, 3) := by decide +kernel
theorem zd_X10_judge_109 : decode cX10_judge 109 = .ok (.iload_n 3, 1) := by decide +kernel
theorem zd_X10_judge_110 : decode cX10_judge 110 = .ok (.iload 5, 2) := by decide +kernel
theorem zd_X10_judge_112 : decode cX10_judge 112 = .ok (.iload 6, 2) := by decide +kernel
theorem zd_X10_judge_114 : decode cX10_judge 114 = .ok (.isub, 1) := by decide +kernel
theorem zd_X10_judge_115 : decode cX10_judge 115 = .ok (.invokevirtual 245, 3) := by decide +kernel
theorem zd_X10_judge_118 : decode cX10_judge 118 = .ok (.pop, 1) := by decide +kernel
theorem zd_X10_judge_119 : decode cX10_judge 119 = .ok (.aload_n 0, 1) := by decide +kernel
theorem zd_X10_judge_120 : decode cX10_judge 120 = .ok (.iload_n 1, 1) := by decide +kernel
theorem zd_X10_judge_121 : decode cX10_judge 121 = .ok (.iload 6, 2) := by decide +kernel
theorem zd_X10_judge_123 : decode cX10_judge 123 = .ok (.invokevirtual 117, 3) := by decide +kernel
theorem zd_X10_judge_126 : decode cX10_judge 126 = .ok (.aload_n 0, 1) := by decide +kernel
theorem zd_X10_judge_127 : decode cX10_judge 127 = .ok (.getfield 191, 3) := by decide +kernel
theorem zd_X10_judge_130 : decode cX10_judge 130 = .ok (.if_icmp .eq 6, 3) := by decide +kernel
theorem zd_X10_judge_133 : decode cX10_judge 133 = .ok (.iload 6, 2) := by decide +kernel
theorem zd_X10_judge_135 : decode cX10_judge 135 = .ok (.ireturn, 1) := by decide +kernel
theorem zd_X10_judge_136 : decode cX10_judge 136 = .ok (.iinc 6 1, 3) := by decide +kernel
theorem zd_X10_judge_139 : decode cX10_judge 139 = .ok (.goto (-45), 3) := by decide +kernel
theorem zd_X10_judge_142 : decode cX10_judge 142 = .ok (.iconst (-1), 1) := by decide +kernel
theorem zd_X10_judge_143 : decode cX10_judge 143 = .ok (.ireturn, 1) := by decide +kernel
theorem zd_X10_copies_0 : decode cX10_copies 0 = .ok (.aload_n 0, 1) := by decide +kernel
theorem zd_X10_copies_1 : decode cX10_copies 1 = .ok (.getfield 13, 3) := by decide +kernel
theorem zd_X10_copies_4 : decode cX10_copies 4 = .ok (.aload_n 0, 1) := by decide +kernel
theorem zd_X10_copies_5 : decode cX10_copies 5 = .ok (.getfield 86, 3) := by decide +kernel
theorem zd_X10_copies_8 : decode cX10_copies 8 = .ok (.aload_n 0, 1) := by decide +kernel
theorem zd_X10_copies_9 : decode cX10_copies 9 = .ok (.getfield 13, 3) := by decide +kernel
theorem zd_X10_copies_12 : decode cX10_copies 12 = .ok (.iload_n 1, 1) := by decide +kernel
theorem zd_X10_copies_13 : decode cX10_copies 13 = .ok (.iaload, 1) := by decide +kernel
theorem zd_X10_copies_14 : decode cX10_copies 14 = .ok (.iastore, 1) := by decide +kernel
theorem zd_X10_copies_15 : decode cX10_copies 15 = .ok (.iconst 0, 1) := by decide +kernel
theorem zd_X10_copies_16 : decode cX10_copies 16 = .ok (.istore_n 2, 1) := by decide +kernel
theorem zd_X10_copies_17 : decode cX10_copies 17 = .ok (.iload_n 2, 1) := by decide +kernel
theorem zd_X10_copies_18 : decode cX10_copies 18 = .ok (.bipush 24, 2) := by decide +kernel
theorem zd_X10_copies_20 : decode cX10_copies 20 = .ok (.if_icmp .ge 34, 3) := by decide +kernel
theorem zd_X10_copies_23 : decode cX10_copies 23 = .ok (.aload_n 0, 1) := by decide +kernel
theorem zd_X10_copies_24 : decode cX10_copies 24 = .ok (.getfield 16, 3) := by decide +kernel
theorem zd_X10_copies_27 : decode cX10_copies 27 = .ok (.bipush 24, 2) := by decide +kernel
theorem zd_X10_copies_29 : decode cX10_copies 29 = .ok (.aload_n 0, 1) := by decide +kernel
theorem zd_X10_copies_30 : decode cX10_copies 30 = .ok (.getfield 86, 3) := by decide +kernel
theorem zd_X10_copies_33 : decode cX10_copies 33 = .ok (.imul, 1) := by decide +kernel
theorem zd_X10_copies_34 : decode cX10_copies 34 = .ok (.iload_n 2, 1) := by decide +kernel
theorem zd_X10_copies_35 : decode cX10_copies 35 = .ok (.iadd, 1) := by decide +kernel
theorem zd_X10_copies_36 : decode cX10_copies 36 = .ok (.aload_n 0, 1) := by decide +kernel
theorem zd_X10_copies_37 : decode cX10_copies 37 = .ok (.getfield 16, 3) := by decide +kernel
theorem zd_X10_copies_40 : decode cX10_copies 40 = .ok (.bipush 24, 2) := by decide +kernel
theorem zd_X10_copies_42 : decode cX10_copies 42 = .ok (.iload_n 1, 1) := by decide +kernel
theorem zd_X10_copies_43 : decode cX10_copies 43 = .ok (.imul, 1) := by decide +kernel
theorem zd_X10_copies_44 : decode cX10_copies 44 = .ok (.iload_n 2, 1) := by decide +kernel
theorem zd_X10_copies_45 : decode cX10_copies 45 = .ok (.iadd, 1) := by decide +kernel
theorem zd_X10_copies_46 : decode cX10_copies 46 = .ok (.laload, 1) := by decide +kernel
theorem zd_X10_copies_47 : decode cX10_copies 47 = .ok (.lastore, 1) := by decide +kernel
theorem zd_X10_copies_48 : decode cX10_copies 48 = .ok (.iinc 2 1, 3) := by decide +kernel
theorem zd_X10_copies_51 : decode cX10_copies 51 = .ok (.goto (-34), 3) := by decide +kernel
theorem zd_X10_copies_54 : decode cX10_copies 54 = .ok (.return_, 1) := by decide +kernel
theorem zd_X10_again_0 : decode cX10_again 0 = .ok (.aload_n 0, 1) := by decide +kernel
theorem zd_X10_again_1 : decode cX10_again 1 = .ok (.iload_n 1, 1) := by decide +kernel
theorem zd_X10_again_2 : decode cX10_again 2 = .ok (.invokevirtual 124, 3) := by decide +kernel
theorem zd_X10_again_5 : decode cX10_again 5 = .ok (.ifCond .eq 11, 3) := by decide +kernel
theorem zd_X10_again_8 : decode cX10_again 8 = .ok (.aload_n 0, 1) := by decide +kernel
theorem zd_X10_again_9 : decode cX10_again 9 = .ok (.iload_n 2, 1) := by decide +kernel
theorem zd_X10_again_10 : decode cX10_again 10 = .ok (.invokevirtual 124, 3) := by decide +kernel
theorem zd_X10_again_13 : decode cX10_again 13 = .ok (.ifCond .ne 9, 3) := by decide +kernel
theorem zd_X10_again_16 : decode cX10_again 16 = .ok (.aload_n 0, 1) := by decide +kernel
theorem zd_X10_again_17 : decode cX10_again 17 = .ok (.iconst (-1), 1) := by decide +kernel
theorem zd_X10_again_18 : decode cX10_again 18 = .ok (.invokevirtual 82, 3) := by decide +kernel
theorem zd_X10_again_21 : decode cX10_again 21 = .ok (.ireturn, 1) := by decide +kernel
theorem zd_X10_again_22 : decode cX10_again 22 = .ok (.aload_n 0, 1) := by decide +kernel
theorem zd_X10_again_23 : decode cX10_again 23 = .ok (.iload_n 2, 1) := by decide +kernel
theorem zd_X10_again_24 : decode cX10_again 24 = .ok (.iload_n 1, 1) := by decide +kernel
theorem zd_X10_again_25 : decode cX10_again 25 = .ok (.invokevirtual 169, 3) := by decide +kernel
theorem zd_X10_again_28 : decode cX10_again 28 = .ok (.iconst (-1), 1) := by decide +kernel
theorem zd_X10_again_29 : decode cX10_again 29 = .ok (.if_icmp .eq 10, 3) := by decide +kernel
theorem zd_X10_again_32 : decode cX10_again 32 = .ok (.aload_n 0, 1) := by decide +kernel
theorem zd_X10_again_33 : decode cX10_again 33 = .ok (.bipush (-6), 2) := by decide +kernel
theorem zd_X10_again_35 : decode cX10_again 35 = .ok (.invokevirtual 82, 3) := by decide +kernel
theorem zd_X10_again_38 : decode cX10_again 38 = .ok (.ireturn, 1) := by decide +kernel
theorem zd_X10_again_39 : decode cX10_again 39 = .ok (.iconst 0, 1) := by decide +kernel
theorem zd_X10_again_40 : decode cX10_again 40 = .ok (.istore_n 3, 1) := by decide +kernel
theorem zd_X10_again_41 : decode cX10_again 41 = .ok (.iconst 0, 1) := by decide +kernel
theorem zd_X10_again_42 : decode cX10_again 42 = .ok (.istore 4, 2) := by decide +kernel
theorem zd_X10_again_44 : decode cX10_again 44 = .ok (.iload 4, 2) := by decide +kernel
theorem zd_X10_again_46 : decode cX10_again 46 = .ok (.aload_n 0, 1) := by decide +kernel
theorem zd_X10_again_47 : decode cX10_again 47 = .ok (.getfield 93, 3) := by decide +kernel
theorem zd_X10_again_50 : decode cX10_again 50 = .ok (.if_icmp .ge 34, 3) := by decide +kernel
theorem zd_X10_again_53 : decode cX10_again 53 = .ok (.aload_n 0, 1) := by decide +kernel
theorem zd_X10_again_54 : decode cX10_again 54 = .ok (.iconst 2, 1) := by decide +kernel
theorem zd_X10_again_55 : decode cX10_again 55 = .ok (.iload 4, 2) := by decide +kernel
theorem zd_X10_again_57 : decode cX10_again 57 = .ok (.invokevirtual 109, 3) := by decide +kernel
theorem zd_X10_again_60 : decode cX10_again 60 = .ok (.iload_n 1, 1) := by decide +kernel
theorem zd_X10_again_61 : decode cX10_again 61 = .ok (.if_icmp .ne 17, 3) := by decide +kernel
theorem zd_X10_again_64 : decode cX10_again 64 = .ok (.aload_n 0, 1) := by decide +kernel
theorem zd_X10_again_65 : decode cX10_again 65 = .ok (.bipush 6, 2) := by decide +kernel
theorem zd_X10_again_67 : decode cX10_again 67 = .ok (.iload 4, 2) := by decide +kernel
theorem zd_X10_again_69 : decode cX10_again 69 = .ok (.invokevirtual 109, 3) := by decide +kernel
theorem zd_X10_again_72 : decode cX10_again 72 = .ok (.ifCond .ne 6, 3) := by decide +kernel
theorem zd_X10_again_75 : decode cX10_again 75 = .ok (.iinc 3 1, 3) := by decide +kernel
theorem zd_X10_again_78 : decode cX10_again 78 = .ok (.iinc 4 1, 3) := by decide +kernel
theorem zd_X10_again_81 : decode cX10_again 81 = .ok (.goto (-37), 3) := by decide +kernel
theorem zd_X10_again_84 : decode cX10_again 84 = .ok (.aload_n 0, 1) := by decide +kernel
theorem zd_X10_again_85 : decode cX10_again 85 = .ok (.getfield 86, 3) := by decide +kernel
theorem zd_X10_again_88 : decode cX10_again 88 = .ok (.bipush 16, 2) := by decide +kernel
theorem zd_X10_again_90 : decode cX10_again 90 = .ok (.if_icmp .eq 14, 3) := by decide +kernel
theorem zd_X10_again_93 : decode cX10_again 93 = .ok (.aload_n 0, 1) := by decide +kernel
theorem zd_X10_again_94 : decode cX10_again 94 = .ok (.getfield 93, 3) := by decide +kernel
theorem zd_X10_again_97 : decode cX10_again 97 = .ok (.iload_n 3, 1) := by decide +kernel
theorem zd_X10_again_98 : decode cX10_again 98 = .ok (.iadd, 1) := by decide +kernel
theorem zd_X10_again_99 : decode cX10_again 99 = .ok (.bipush 16, 2) := by decide +kernel
theorem zd_X10_again_101 : decode cX10_again 101 = .ok (.if_icmp .le 10, 3) := by decide +kernel
theorem zd_X10_again_104 : decode cX10_again 104 = .ok (.aload_n 0, 1) := by decide +kernel
theorem zd_X10_again_105 : decode cX10_again 105 = .ok (.bipush (-7), 2) := by decide +kernel
theorem zd_X10_again_107 : decode cX10_again 107 = .ok (.invokevirtual 82, 3) := by decide +kernel
theorem zd_X10_again_110 : decode cX10_again 110 = .ok (.ireturn, 1) := by decide +kernel
theorem zd_X10_again_111 : decode cX10_again 111 = .ok (.aload_n 0, 1) := by decide +kernel
theorem zd_X10_again_112 : decode cX10_again 112 = .ok (.iload_n 1, 1) := by decide +kernel
theorem zd_X10_again_113 : decode cX10_again 113 = .ok (.invokevirtual 254, 3) := by decide +kernel
theorem zd_X10_again_116 : decode cX10_again 116 = .ok (.aload_n 0, 1) := by decide +kernel
theorem zd_X10_again_117 : decode cX10_again 117 = .ok (.iload_n 2, 1) := by decide +kernel
theorem zd_X10_again_118 : decode cX10_again 118 = .ok (.invokevirtual 130, 3) := by decide +kernel
theorem zd_X10_again_121 : decode cX10_again 121 = .ok (.istore 4, 2) := by decide +kernel
theorem zd_X10_again_123 : decode cX10_again 123 = .ok (.aload_n 0, 1) := by decide +kernel
theorem zd_X10_again_124 : decode cX10_again 124 = .ok (.getfield 93, 3) := by decide +kernel
theorem zd_X10_again_127 : decode cX10_again 127 = .ok (.istore 5, 2) := by decide +kernel
theorem zd_X10_again_129 : decode cX10_again 129 = .ok (.iconst 0, 1) := by decide +kernel
theorem zd_X10_again_130 : decode cX10_again 130 = .ok (.istore 6, 2) := by decide +kernel
theorem zd_X10_again_132 : decode cX10_again 132 = .ok (.iload 6, 2) := by decide +kernel
theorem zd_X10_again_134 : decode cX10_again 134 = .ok (.iload 5, 2) := by decide +kernel
theorem zd_X10_again_136 : decode cX10_again 136 = .ok (.if_icmp .ge 73, 3) := by decide +kernel
theorem zd_X10_again_139 : decode cX10_again 139 = .ok (.aload_n 0, 1) := by decide +kernel
theorem zd_X10_again_140 : decode cX10_again 140 = .ok (.iconst 2, 1) := by decide +kernel
theorem zd_X10_again_141 : decode cX10_again 141 = .ok (.iload 6, 2) := by decide +kernel
theorem zd_X10_again_143 : decode cX10_again 143 = .ok (.invokevirtual 109, 3) := by decide +kernel
theorem zd_X10_again_146 : decode cX10_again 146 = .ok (.iload_n 1, 1) := by decide +kernel
theorem zd_X10_again_147 : decode cX10_again 147 = .ok (.if_icmp .ne 56, 3) := by decide +kernel
theorem zd_X10_again_150 : decode cX10_again 150 = .ok (.aload_n 0, 1) := by decide +kernel
theorem zd_X10_again_151 : decode cX10_again 151 = .ok (.bipush 6, 2) := by decide +kernel
theorem zd_X10_again_153 : decode cX10_again 153 = .ok (.iload 6, 2) := by decide +kernel
theorem zd_X10_again_155 : decode cX10_again 155 = .ok (.invokevirtual 109, 3) := by decide +kernel
theorem zd_X10_again_158 : decode cX10_again 158 = .ok (.ifCond .ne 45, 3) := by decide +kernel
theorem zd_X10_again_161 : decode cX10_again 161 = .ok (.aload_n 0, 1) := by decide +kernel
theorem zd_X10_again_162 : decode cX10_again 162 = .ok (.aload_n 0, 1) := by decide +kernel
theorem zd_X10_again_163 : decode cX10_again 163 = .ok (.iconst 0, 1) := by decide +kernel
theorem zd_X10_again_164 : decode cX10_again 164 = .ok (.iload 6, 2) := by decide +kernel
theorem zd_X10_again_166 : decode cX10_again 166 = .ok (.invokevirtual 109, 3) := by decide +kernel
theorem zd_X10_again_169 : decode cX10_again 169 = .ok (.aload_n 0, 1) := by decide +kernel
theorem zd_X10_again_170 : decode cX10_again 170 = .ok (.iconst 1, 1) := by decide +kernel
theorem zd_X10_again_171 : decode cX10_again 171 = .ok (.iload 6, 2) := by decide +kernel
theorem zd_X10_again_173 : decode cX10_again 173 = .ok (.invokevirtual 109, 3) := by decide +kernel
theorem zd_X10_again_176 : decode cX10_again 176 = .ok (.iload 4, 2) := by decide +kernel
theorem zd_X10_again_178 : decode cX10_again 178 = .ok (.aload_n 0, 1) := by decide +kernel
theorem zd_X10_again_179 : decode cX10_again 179 = .ok (.iconst 3, 1) := by decide +kernel
theorem zd_X10_again_180 : decode cX10_again 180 = .ok (.iload 6, 2) := by decide +kernel
theorem zd_X10_again_182 : decode cX10_again 182 = .ok (.invokevirtual 109, 3) := by decide +kernel
theorem zd_X10_again_185 : decode cX10_again 185 = .ok (.aload_n 0, 1) := by decide +kernel
theorem zd_X10_again_186 : decode cX10_again 186 = .ok (.iconst 4, 1) := by decide +kernel
theorem zd_X10_again_187 : decode cX10_again 187 = .ok (.iload 6, 2) := by decide +kernel
theorem zd_X10_again_189 : decode cX10_again 189 = .ok (.invokevirtual 109, 3) := by decide +kernel
theorem zd_X10_again_192 : decode cX10_again 192 = .ok (.aload_n 0, 1) := by decide +kernel
theorem zd_X10_again_193 : decode cX10_again 193 = .ok (.iconst 5, 1) := by decide +kernel
theorem zd_X10_again_194 : decode cX10_again 194 = .ok (.iload 6, 2) := by decide +kernel
theorem zd_X10_again_196 : decode cX10_again 196 = .ok (.invokevirtual 109, 3) := by decide +kernel
theorem zd_X10_again_199 : decode cX10_again 199 = .ok (.invokevirtual 175, 3) := by decide +kernel
theorem zd_X10_again_202 : decode cX10_again 202 = .ok (.pop, 1) := by decide +kernel
theorem zd_X10_again_203 : decode cX10_again 203 = .ok (.iinc 6 1, 3) := by decide +kernel
theorem zd_X10_again_206 : decode cX10_again 206 = .ok (.goto (-74), 3) := by decide +kernel
theorem zd_X10_again_209 : decode cX10_again 209 = .ok (.iload_n 3, 1) := by decide +kernel
theorem zd_X10_again_210 : decode cX10_again 210 = .ok (.ireturn, 1) := by decide +kernel
theorem zd_X10_draw_0 : decode cX10_draw 0 = .ok (.aload_n 0, 1) := by decide +kernel
theorem zd_X10_draw_1 : decode cX10_draw 1 = .ok (.aload_n 0, 1) := by decide +kernel
theorem zd_X10_draw_2 : decode cX10_draw 2 = .ok (.getfield 75, 3) := by decide +kernel
theorem zd_X10_draw_5 : decode cX10_draw 5 = .ok (.ldc_w 257, 3) := by decide +kernel
theorem zd_X10_draw_8 : decode cX10_draw 8 = .ok (.imul, 1) := by decide +kernel
theorem zd_X10_draw_9 : decode cX10_draw 9 = .ok (.sipush 12345, 3) := by decide +kernel
theorem zd_X10_draw_12 : decode cX10_draw 12 = .ok (.iadd, 1) := by decide +kernel
theorem zd_X10_draw_13 : decode cX10_draw 13 = .ok (.putfield 75, 3) := by decide +kernel
theorem zd_X10_draw_16 : decode cX10_draw 16 = .ok (.aload_n 0, 1) := by decide +kernel
theorem zd_X10_draw_17 : decode cX10_draw 17 = .ok (.getfield 75, 3) := by decide +kernel
theorem zd_X10_draw_20 : decode cX10_draw 20 = .ok (.bipush 16, 2) := by decide +kernel
theorem zd_X10_draw_22 : decode cX10_draw 22 = .ok (.iushr, 1) := by decide +kernel
theorem zd_X10_draw_23 : decode cX10_draw 23 = .ok (.iload_n 1, 1) := by decide +kernel
theorem zd_X10_draw_24 : decode cX10_draw 24 = .ok (.irem, 1) := by decide +kernel
theorem zd_X10_draw_25 : decode cX10_draw 25 = .ok (.ireturn, 1) := by decide +kernel
theorem zd_X10_drifts_0 : decode cX10_drifts 0 = .ok (.aload_n 0, 1) := by decide +kernel
theorem zd_X10_drifts_1 : decode cX10_drifts 1 = .ok (.getfield 86, 3) := by decide +kernel
theorem zd_X10_drifts_4 : decode cX10_drifts 4 = .ok (.istore_n 1, 1) := by decide +kernel
theorem zd_X10_drifts_5 : decode cX10_drifts 5 = .ok (.bipush 24, 2) := by decide +kernel
theorem zd_X10_drifts_7 : decode cX10_drifts 7 = .ok (.iload_n 1, 1) := by decide +kernel
theorem zd_X10_drifts_8 : decode cX10_drifts 8 = .ok (.imul, 1) := by decide +kernel
theorem zd_X10_drifts_9 : decode cX10_drifts 9 = .ok (.istore_n 2, 1) := by decide +kernel
theorem zd_X10_drifts_10 : decode cX10_drifts 10 = .ok (.aload_n 0, 1) := by decide +kernel
theorem zd_X10_drifts_11 : decode cX10_drifts 11 = .ok (.iload_n 1, 1) := by decide +kernel
theorem zd_X10_drifts_12 : decode cX10_drifts 12 = .ok (.iconst 1, 1) := by decide +kernel
theorem zd_X10_drifts_13 : decode cX10_drifts 13 = .ok (.isub, 1) := by decide +kernel
theorem zd_X10_drifts_14 : decode cX10_drifts 14 = .ok (.invokevirtual 254, 3) := by decide +kernel
theorem zd_X10_drifts_17 : decode cX10_drifts 17 = .ok (.aload_n 0, 1) := by decide +kernel
theorem zd_X10_drifts_18 : decode cX10_drifts 18 = .ok (.getfield 13, 3) := by decide +kernel
theorem zd_X10_drifts_21 : decode cX10_drifts 21 = .ok (.iload_n 1, 1) := by decide +kernel
theorem zd_X10_drifts_22 : decode cX10_drifts 22 = .ok (.iaload, 1) := by decide +kernel
theorem zd_X10_drifts_23 : decode cX10_drifts 23 = .ok (.istore_n 3, 1) := by decide +kernel
theorem zd_X10_drifts_24 : decode cX10_drifts 24 = .ok (.aload_n 0, 1) := by decide +kernel
theorem zd_X10_drifts_25 : decode cX10_drifts 25 = .ok (.iconst 4, 1) := by decide +kernel
theorem zd_X10_drifts_26 : decode cX10_drifts 26 = .ok (.invokevirtual 258, 3) := by decide +kernel
theorem zd_X10_drifts_29 : decode cX10_drifts 29 = .ok (.istore 4, 2) := by decide +kernel
theorem zd_X10_drifts_31 : decode cX10_drifts 31 = .ok (.iload_n 3, 1) := by decide +kernel
theorem zd_X10_drifts_32 : decode cX10_drifts 32 = .ok (.ifCond .ne 7, 3) := by decide +kernel
theorem zd_X10_drifts_35 : decode cX10_drifts 35 = .ok (.iconst 0, 1) := by decide +kernel
theorem zd_X10_drifts_36 : decode cX10_drifts 36 = .ok (.goto 8, 3) := by decide +kernel
theorem zd_X10_drifts_39 : decode cX10_drifts 39 = .ok (.aload_n 0, 1) := by decide +kernel
theorem zd_X10_drifts_40 : decode cX10_drifts 40 = .ok (.iload_n 3, 1) := by decide +kernel
theorem zd_X10_drifts_41 : decode cX10_drifts 41 = .ok (.invokevirtual 258, 3) := by decide +kernel
theorem zd_X10_drifts_44 : decode cX10_drifts 44 = .ok (.istore 5, 2) := by decide +kernel
theorem zd_X10_drifts_46 : decode cX10_drifts 46 = .ok (.iload 4, 2) := by decide +kernel
theorem zd_X10_drifts_48 : decode cX10_drifts 48 = .ok (.ifCond .ne 74, 3) := by decide +kernel
theorem zd_X10_drifts_51 : decode cX10_drifts 51 = .ok (.iload_n 3, 1) := by decide +kernel
theorem zd_X10_drifts_52 : decode cX10_drifts 52 = .ok (.bipush 24, 2) := by decide +kernel
theorem zd_X10_drifts_54 : decode cX10_drifts 54 = .ok (.if_icmp .ge 68, 3) := by decide +kernel
theorem zd_X10_drifts_57 : decode cX10_drifts 57 = .ok (.iload_n 3, 1) := by decide +kernel
theorem zd_X10_drifts_58 : decode cX10_drifts 58 = .ok (.istore 6, 2) := by decide +kernel
theorem zd_X10_drifts_60 : decode cX10_drifts 60 = .ok (.iload 6, 2) := by decide +kernel
theorem zd_X10_drifts_62 : decode cX10_drifts 62 = .ok (.iload 5, 2) := by decide +kernel
theorem zd_X10_drifts_64 : decode cX10_drifts 64 = .ok (.if_icmp .le 29, 3) := by decide +kernel
theorem zd_X10_drifts_67 : decode cX10_drifts 67 = .ok (.aload_n 0, 1) := by decide +kernel
theorem zd_X10_drifts_68 : decode cX10_drifts 68 = .ok (.getfield 16, 3) := by decide +kernel
theorem zd_X10_drifts_71 : decode cX10_drifts 71 = .ok (.iload_n 2, 1) := by decide +kernel
theorem zd_X10_drifts_72 : decode cX10_drifts 72 = .ok (.iload 6, 2) := by decide +kernel
theorem zd_X10_drifts_74 : decode cX10_drifts 74 = .ok (.iadd, 1) := by decide +kernel
theorem zd_X10_drifts_75 : decode cX10_drifts 75 = .ok (.aload_n 0, 1) := by decide +kernel
theorem zd_X10_drifts_76 : decode cX10_drifts 76 = .ok (.getfield 16, 3) := by decide +kernel
theorem zd_X10_drifts_79 : decode cX10_drifts 79 = .ok (.iload_n 2, 1) := by decide +kernel
theorem zd_X10_drifts_80 : decode cX10_drifts 80 = .ok (.iload 6, 2) := by decide +kernel
theorem zd_X10_drifts_82 : decode cX10_drifts 82 = .ok (.iadd, 1) := by decide +kernel
theorem zd_X10_drifts_83 : decode cX10_drifts 83 = .ok (.iconst 1, 1) := by decide +kernel
theorem zd_X10_drifts_84 : decode cX10_drifts 84 = .ok (.isub, 1) := by decide +kernel
theorem zd_X10_drifts_85 : decode cX10_drifts 85 = .ok (.laload, 1) := by decide +kernel
theorem zd_X10_drifts_86 : decode cX10_drifts 86 = .ok (.lastore, 1) := by decide +kernel
theorem zd_X10_drifts_87 : decode cX10_drifts 87 = .ok (.iinc 6 (-1), 3) := by decide +kernel
theorem zd_X10_drifts_90 : decode cX10_drifts 90 = .ok (.goto (-30), 3) := by decide +kernel
theorem zd_X10_drifts_93 : decode cX10_drifts 93 = .ok (.aload_n 0, 1) := by decide +kernel
theorem zd_X10_drifts_94 : decode cX10_drifts 94 = .ok (.getfield 16, 3) := by decide +kernel
theorem zd_X10_drifts_97 : decode cX10_drifts 97 = .ok (.iload_n 2, 1) := by decide +kernel
theorem zd_X10_drifts_98 : decode cX10_drifts 98 = .ok (.iload 5, 2) := by decide +kernel
theorem zd_X10_drifts_100 : decode cX10_drifts 100 = .ok (.iadd, 1) := by decide +kernel
theorem zd_X10_drifts_101 : decode cX10_drifts 101 = .ok (.bipush 97, 2) := by decide +kernel
theorem zd_X10_drifts_103 : decode cX10_drifts 103 = .ok (.aload_n 0, 1) := by decide +kernel
theorem zd_X10_drifts_104 : decode cX10_drifts 104 = .ok (.bipush 26, 2) := by decide +kernel
theorem zd_X10_drifts_106 : decode cX10_drifts 106 = .ok (.invokevirtual 258, 3) := by decide +kernel
theorem zd_X10_drifts_109 : decode cX10_drifts 109 = .ok (.iadd, 1) := by decide +kernel
theorem zd_X10_drifts_110 : decode cX10_drifts 110 = .ok (.i2l, 1) := by decide +kernel
theorem zd_X10_drifts_111 : decode cX10_drifts 111 = .ok (.lastore, 1) := by decide +kernel
theorem zd_X10_drifts_112 : decode cX10_drifts 112 = .ok (.aload_n 0, 1) := by decide +kernel
theorem zd_X10_drifts_113 : decode cX10_drifts 113 = .ok (.getfield 13, 3) := by decide +kernel
theorem zd_X10_drifts_116 : decode cX10_drifts 116 = .ok (.iload_n 1, 1) := by decide +kernel
theorem zd_X10_drifts_117 : decode cX10_drifts 117 = .ok (.dup2, 1) := by decide +kernel
theorem zd_X10_drifts_118 : decode cX10_drifts 118 = .ok (.iaload, 1) := by decide +kernel
theorem zd_X10_drifts_119 : decode cX10_drifts 119 = .ok (.iconst 1, 1) := by decide +kernel
theorem zd_X10_drifts_120 : decode cX10_drifts 120 = .ok (.iadd, 1) := by decide +kernel
theorem zd_X10_drifts_121 : decode cX10_drifts 121 = .ok (.iastore, 1) := by decide +kernel
theorem zd_X10_drifts_122 : decode cX10_drifts 122 = .ok (.iload 4, 2) := by decide +kernel
theorem zd_X10_drifts_124 : decode cX10_drifts 124 = .ok (.iconst 1, 1) := by decide +kernel
theorem zd_X10_drifts_125 : decode cX10_drifts 125 = .ok (.if_icmp .ne 55, 3) := by decide +kernel
theorem zd_X10_drifts_128 : decode cX10_drifts 128 = .ok (.iload_n 3, 1) := by decide +kernel
theorem zd_X10_drifts_129 : decode cX10_drifts 129 = .ok (.ifCond .le 51, 3) := by decide +kernel
theorem zd_X10_drifts_132 : decode cX10_drifts 132 = .ok (.iload 5, 2) := by decide +kernel
theorem zd_X10_drifts_134 : decode cX10_drifts 134 = .ok (.istore 6, 2) := by decide +kernel
theorem zd_X10_drifts_136 : decode cX10_drifts 136 = .ok (.iload 6, 2) := by decide +kernel
theorem zd_X10_drifts_138 : decode cX10_drifts 138 = .ok (.iload_n 3, 1) := by decide +kernel
theorem zd_X10_drifts_139 : decode cX10_drifts 139 = .ok (.iconst 1, 1) := by decide +kernel
theorem zd_X10_drifts_140 : decode cX10_drifts 140 = .ok (.isub, 1) := by decide +kernel
theorem zd_X10_drifts_141 : decode cX10_drifts 141 = .ok (.if_icmp .ge 29, 3) := by decide +kernel
theorem zd_X10_drifts_144 : decode cX10_drifts 144 = .ok (.aload_n 0, 1) := by decide +kernel
theorem zd_X10_drifts_145 : decode cX10_drifts 145 = .ok (.getfield 16, 3) := by decide +kernel
theorem zd_X10_drifts_148 : decode cX10_drifts 148 = .ok (.iload_n 2, 1) := by decide +kernel
theorem zd_X10_drifts_149 : decode cX10_drifts 149 = .ok (.iload 6, 2) := by decide +kernel
theorem zd_X10_drifts_151 : decode cX10_drifts 151 = .ok (.iadd, 1) := by decide +kernel
theorem zd_X10_drifts_152 : decode cX10_drifts 152 = .ok (.aload_n 0, 1) := by decide +kernel
theorem zd_X10_drifts_153 : decode cX10_drifts 153 = .ok (.getfield 16, 3) := by decide +kernel
theorem zd_X10_drifts_156 : decode cX10_drifts 156 = .ok (.iload_n 2, 1) := by decide +kernel
theorem zd_X10_drifts_157 : decode cX10_drifts 157 = .ok (.iload 6, 2) := by decide +kernel
theorem zd_X10_drifts_159 : decode cX10_drifts 159 = .ok (.iadd, 1) := by decide +kernel
theorem zd_X10_drifts_160 : decode cX10_drifts 160 = .ok (.iconst 1, 1) := by decide +kernel
theorem zd_X10_drifts_161 : decode cX10_drifts 161 = .ok (.iadd, 1) := by decide +kernel
theorem zd_X10_drifts_162 : decode cX10_drifts 162 = .ok (.laload, 1) := by decide +kernel
theorem zd_X10_drifts_163 : decode cX10_drifts 163 = .ok (.lastore, 1) := by decide +kernel
theorem zd_X10_drifts_164 : decode cX10_drifts 164 = .ok (.iinc 6 1, 3) := by decide +kernel
theorem zd_X10_drifts_167 : decode cX10_drifts 167 = .ok (.goto (-31), 3) := by decide +kernel
theorem zd_X10_drifts_170 : decode cX10_drifts 170 = .ok (.aload_n 0, 1) := by decide +kernel
theorem zd_X10_drifts_171 : decode cX10_drifts 171 = .ok (.getfield 13, 3) := by decide +kernel
theorem zd_X10_drifts_174 : decode cX10_drifts 174 = .ok (.iload_n 1, 1) := by decide +kernel
theorem zd_X10_drifts_175 : decode cX10_drifts 175 = .ok (.dup2, 1) := by decide +kernel
theorem zd_X10_drifts_176 : decode cX10_drifts 176 = .ok (.iaload, 1) := by decide +kernel
theorem zd_X10_drifts_177 : decode cX10_drifts 177 = .ok (.iconst 1, 1) := by decide +kernel
theorem zd_X10_drifts_178 : decode cX10_drifts 178 = .ok (.isub, 1) := by decide +kernel
theorem zd_X10_drifts_179 : decode cX10_drifts 179 = .ok (.iastore, 1) := by decide +kernel
theorem zd_X10_drifts_180 : decode cX10_drifts 180 = .ok (.iload 4, 2) := by decide +kernel
theorem zd_X10_drifts_182 : decode cX10_drifts 182 = .ok (.iconst 2, 1) := by decide +kernel
theorem zd_X10_drifts_183 : decode cX10_drifts 183 = .ok (.if_icmp .ne 61, 3) := by decide +kernel
theorem zd_X10_drifts_186 : decode cX10_drifts 186 = .ok (.iload_n 3, 1) := by decide +kernel
theorem zd_X10_drifts_187 : decode cX10_drifts 187 = .ok (.ifCond .le 57, 3) := by decide +kernel
theorem zd_X10_drifts_190 : decode cX10_drifts 190 = .ok (.aload_n 0, 1) := by decide +kernel
theorem zd_X10_drifts_191 : decode cX10_drifts 191 = .ok (.getfield 16, 3) := by decide +kernel
theorem zd_X10_drifts_194 : decode cX10_drifts 194 = .ok (.iload_n 2, 1) := by decide +kernel
theorem zd_X10_drifts_195 : decode cX10_drifts 195 = .ok (.iload 5, 2) := by decide +kernel
theorem zd_X10_drifts_197 : decode cX10_drifts 197 = .ok (.iadd, 1) := by decide +kernel
theorem zd_X10_drifts_198 : decode cX10_drifts 198 = .ok (.laload, 1) := by decide +kernel
theorem zd_X10_drifts_199 : decode cX10_drifts 199 = .ok (.lstore 6, 2) := by decide +kernel
theorem zd_X10_drifts_201 : decode cX10_drifts 201 = .ok (.iload 5, 2) := by decide +kernel
theorem zd_X10_drifts_203 : decode cX10_drifts 203 = .ok (.istore 8, 2) := by decide +kernel
theorem zd_X10_drifts_205 : decode cX10_drifts 205 = .ok (.iload 8, 2) := by decide +kernel
theorem zd_X10_drifts_207 : decode cX10_drifts 207 = .ok (.ifCond .le 29, 3) := by decide +kernel
theorem zd_X10_drifts_210 : decode cX10_drifts 210 = .ok (.aload_n 0, 1) := by decide +kernel
theorem zd_X10_drifts_211 : decode cX10_drifts 211 = .ok (.getfield 16, 3) := by decide +kernel
theorem zd_X10_drifts_214 : decode cX10_drifts 214 = .ok (.iload_n 2, 1) := by decide +kernel
theorem zd_X10_drifts_215 : decode cX10_drifts 215 = .ok (.iload 8, 2) := by decide +kernel
theorem zd_X10_drifts_217 : decode cX10_drifts 217 = .ok (.iadd, 1) := by decide +kernel
theorem zd_X10_drifts_218 : decode cX10_drifts 218 = .ok (.aload_n 0, 1) := by decide +kernel
theorem zd_X10_drifts_219 : decode cX10_drifts 219 = .ok (.getfield 16, 3) := by decide +kernel
theorem zd_X10_drifts_222 : decode cX10_drifts 222 = .ok (.iload_n 2, 1) := by decide +kernel
theorem zd_X10_drifts_223 : decode cX10_drifts 223 = .ok (.iload 8, 2) := by decide +kernel
theorem zd_X10_drifts_225 : decode cX10_drifts 225 = .ok (.iadd, 1) := by decide +kernel
theorem zd_X10_drifts_226 : decode cX10_drifts 226 = .ok (.iconst 1, 1) := by decide +kernel
theorem zd_X10_drifts_227 : decode cX10_drifts 227 = .ok (.isub, 1) := by decide +kernel
theorem zd_X10_drifts_228 : decode cX10_drifts 228 = .ok (.laload, 1) := by decide +kernel
theorem zd_X10_drifts_229 : decode cX10_drifts 229 = .ok (.lastore, 1) := by decide +kernel
theorem zd_X10_drifts_230 : decode cX10_drifts 230 = .ok (.iinc 8 (-1), 3) := by decide +kernel
theorem zd_X10_drifts_233 : decode cX10_drifts 233 = .ok (.goto (-28), 3) := by decide +kernel
theorem zd_X10_drifts_236 : decode cX10_drifts 236 = .ok (.aload_n 0, 1) := by decide +kernel
theorem zd_X10_drifts_237 : decode cX10_drifts 237 = .ok (.getfield 16, 3) := by decide +kernel
theorem zd_X10_drifts_240 : decode cX10_drifts 240 = .ok (.iload_n 2, 1) := by decide +kernel
theorem zd_X10_drifts_241 : decode cX10_drifts 241 = .ok (.lload 6, 2) := by decide +kernel
theorem zd_X10_drifts_243 : decode cX10_drifts 243 = .ok (.lastore, 1) := by decide +kernel
theorem zd_X10_drifts_244 : decode cX10_drifts 244 = .ok (.iload 4, 2) := by decide +kernel
theorem zd_X10_drifts_246 : decode cX10_drifts 246 = .ok (.iconst 3, 1) := by decide +kernel
theorem zd_X10_drifts_247 : decode cX10_drifts 247 = .ok (.if_icmp .ne 19, 3) := by decide +kernel
theorem zd_X10_drifts_250 : decode cX10_drifts 250 = .ok (.iload_n 3, 1) := by decide +kernel
theorem zd_X10_drifts_251 : decode cX10_drifts 251 = .ok (.ifCond .le 15, 3) := by decide +kernel
theorem zd_X10_drifts_254 : decode cX10_drifts 254 = .ok (.aload_n 0, 1) := by decide +kernel
theorem zd_X10_drifts_255 : decode cX10_drifts 255 = .ok (.getfield 16, 3) := by decide +kernel
theorem zd_X10_drifts_258 : decode cX10_drifts 258 = .ok (.iload_n 2, 1) := by decide +kernel
theorem zd_X10_drifts_259 : decode cX10_drifts 259 = .ok (.iload 5, 2) := by decide +kernel
theorem zd_X10_drifts_261 : decode cX10_drifts 261 = .ok (.iadd, 1) := by decide +kernel
theorem zd_X10_drifts_262 : decode cX10_drifts 262 = .ok (.ldc2_w 261, 3) := by decide +kernel
theorem zd_X10_drifts_265 : decode cX10_drifts 265 = .ok (.lastore, 1) := by decide +kernel
theorem zd_X10_drifts_266 : decode cX10_drifts 266 = .ok (.aload_n 0, 1) := by decide +kernel
theorem zd_X10_drifts_267 : decode cX10_drifts 267 = .ok (.iload_n 1, 1) := by decide +kernel
theorem zd_X10_drifts_268 : decode cX10_drifts 268 = .ok (.iconst 1, 1) := by decide +kernel
theorem zd_X10_drifts_269 : decode cX10_drifts 269 = .ok (.isub, 1) := by decide +kernel
theorem zd_X10_drifts_270 : decode cX10_drifts 270 = .ok (.invokevirtual 130, 3) := by decide +kernel
theorem zd_X10_drifts_273 : decode cX10_drifts 273 = .ok (.pop, 1) := by decide +kernel
theorem zd_X10_drifts_274 : decode cX10_drifts 274 = .ok (.return_, 1) := by decide +kernel
theorem zd_X10_drift_0 : decode cX10_drift 0 = .ok (.aload_n 0, 1) := by decide +kernel
theorem zd_X10_drift_1 : decode cX10_drift 1 = .ok (.getfield 86, 3) := by decide +kernel
theorem zd_X10_drift_4 : decode cX10_drift 4 = .ok (.ifCond .ne 10, 3) := by decide +kernel
theorem zd_X10_drift_7 : decode cX10_drift 7 = .ok (.aload_n 0, 1) := by decide +kernel
theorem zd_X10_drift_8 : decode cX10_drift 8 = .ok (.bipush (-5), 2) := by decide +kernel
theorem zd_X10_drift_10 : decode cX10_drift 10 = .ok (.invokevirtual 82, 3) := by decide +kernel
theorem zd_X10_drift_13 : decode cX10_drift 13 = .ok (.ireturn, 1) := by decide +kernel
theorem zd_X10_drift_14 : decode cX10_drift 14 = .ok (.iload_n 1, 1) := by decide +kernel
theorem zd_X10_drift_15 : decode cX10_drift 15 = .ok (.iconst 1, 1) := by decide +kernel
theorem zd_X10_drift_16 : decode cX10_drift 16 = .ok (.bipush 15, 2) := by decide +kernel
theorem zd_X10_drift_18 : decode cX10_drift 18 = .ok (.invokestatic 89, 3) := by decide +kernel
theorem zd_X10_drift_21 : decode cX10_drift 21 = .ok (.ifCond .ne 10, 3) := by decide +kernel
theorem zd_X10_drift_24 : decode cX10_drift 24 = .ok (.aload_n 0, 1) := by decide +kernel
theorem zd_X10_drift_25 : decode cX10_drift 25 = .ok (.bipush (-6), 2) := by decide +kernel
theorem zd_X10_drift_27 : decode cX10_drift 27 = .ok (.invokevirtual 82, 3) := by decide +kernel
theorem zd_X10_drift_30 : decode cX10_drift 30 = .ok (.ireturn, 1) := by decide +kernel
theorem zd_X10_drift_31 : decode cX10_drift 31 = .ok (.aload_n 0, 1) := by decide +kernel
theorem zd_X10_drift_32 : decode cX10_drift 32 = .ok (.getfield 86, 3) := by decide +kernel
theorem zd_X10_drift_35 : decode cX10_drift 35 = .ok (.iload_n 1, 1) := by decide +kernel
theorem zd_X10_drift_36 : decode cX10_drift 36 = .ok (.iadd, 1) := by decide +kernel
theorem zd_X10_drift_37 : decode cX10_drift 37 = .ok (.bipush 16, 2) := by decide +kernel
theorem zd_X10_drift_39 : decode cX10_drift 39 = .ok (.if_icmp .le 10, 3) := by decide +kernel
theorem zd_X10_drift_42 : decode cX10_drift 42 = .ok (.aload_n 0, 1) := by decide +kernel
theorem zd_X10_drift_43 : decode cX10_drift 43 = .ok (.bipush (-7), 2) := by decide +kernel
theorem zd_X10_drift_45 : decode cX10_drift 45 = .ok (.invokevirtual 82, 3) := by decide +kernel
theorem zd_X10_drift_48 : decode cX10_drift 48 = .ok (.ireturn, 1) := by decide +kernel
theorem zd_X10_drift_49 : decode cX10_drift 49 = .ok (.iconst 0, 1) := by decide +kernel
theorem zd_X10_drift_50 : decode cX10_drift 50 = .ok (.istore_n 2, 1) := by decide +kernel
theorem zd_X10_drift_51 : decode cX10_drift 51 = .ok (.iload_n 2, 1) := by decide +kernel
theorem zd_X10_drift_52 : decode cX10_drift 52 = .ok (.iload_n 1, 1) := by decide +kernel
theorem zd_X10_drift_53 : decode cX10_drift 53 = .ok (.if_icmp .ge 13, 3) := by decide +kernel
theorem zd_X10_drift_56 : decode cX10_drift 56 = .ok (.aload_n 0, 1) := by decide +kernel
theorem zd_X10_drift_57 : decode cX10_drift 57 = .ok (.invokevirtual 263, 3) := by decide +kernel
theorem zd_X10_drift_60 : decode cX10_drift 60 = .ok (.iinc 2 1, 3) := by decide +kernel
theorem zd_X10_drift_63 : decode cX10_drift 63 = .ok (.goto (-12), 3) := by decide +kernel
theorem zd_X10_drift_66 : decode cX10_drift 66 = .ok (.aload_n 0, 1) := by decide +kernel
theorem zd_X10_drift_67 : decode cX10_drift 67 = .ok (.getfield 86, 3) := by decide +kernel
theorem zd_X10_drift_70 : decode cX10_drift 70 = .ok (.iconst 1, 1) := by decide +kernel
theorem zd_X10_drift_71 : decode cX10_drift 71 = .ok (.isub, 1) := by decide +kernel
theorem zd_X10_drift_72 : decode cX10_drift 72 = .ok (.ireturn, 1) := by decide +kernel
theorem zd_X10_seed_0 : decode cX10_seed 0 = .ok (.aload_n 0, 1) := by decide +kernel
theorem zd_X10_seed_1 : decode cX10_seed 1 = .ok (.getfield 75, 3) := by decide +kernel
theorem zd_X10_seed_4 : decode cX10_seed 4 = .ok (.istore_n 2, 1) := by decide +kernel
theorem zd_X10_seed_5 : decode cX10_seed 5 = .ok (.aload_n 0, 1) := by decide +kernel
theorem zd_X10_seed_6 : decode cX10_seed 6 = .ok (.iload_n 1, 1) := by decide +kernel
theorem zd_X10_seed_7 : decode cX10_seed 7 = .ok (.putfield 75, 3) := by decide +kernel
theorem zd_X10_seed_10 : decode cX10_seed 10 = .ok (.iload_n 2, 1) := by decide +kernel
theorem zd_X10_seed_11 : decode cX10_seed 11 = .ok (.ireturn, 1) := by decide +kernel
theorem zd_X10_ran_0 : decode cX10_ran 0 = .ok (.aload_n 0, 1) := by decide +kernel
theorem zd_X10_ran_1 : decode cX10_ran 1 = .ok (.getfield 266, 3) := by decide +kernel
theorem zd_X10_ran_4 : decode cX10_ran 4 = .ok (.bipush 20, 2) := by decide +kernel
theorem zd_X10_ran_6 : decode cX10_ran 6 = .ok (.if_icmp .ge 13, 3) := by decide +kernel
theorem zd_X10_ran_9 : decode cX10_ran 9 = .ok (.aload_n 0, 1) := by decide +kernel
theorem zd_X10_ran_10 : decode cX10_ran 10 = .ok (.getfield 38, 3) := by decide +kernel
theorem zd_X10_ran_13 : decode cX10_ran 13 = .ok (.aload_n 0, 1) := by decide +kernel
theorem zd_X10_ran_14 : decode cX10_ran 14 = .ok (.getfield 266, 3) := by decide +kernel
theorem zd_X10_ran_17 : decode cX10_ran 17 = .ok (.iload_n 1, 1) := by decide +kernel
theorem zd_X10_ran_18 : decode cX10_ran 18 = .ok (.iastore, 1) := by decide +kernel
theorem zd_X10_ran_19 : decode cX10_ran 19 = .ok (.aload_n 0, 1) := by decide +kernel
theorem zd_X10_ran_20 : decode cX10_ran 20 = .ok (.dup, 1) := by decide +kernel
theorem zd_X10_ran_21 : decode cX10_ran 21 = .ok (.getfield 266, 3) := by decide +kernel
theorem zd_X10_ran_24 : decode cX10_ran 24 = .ok (.iconst 1, 1) := by decide +kernel
theorem zd_X10_ran_25 : decode cX10_ran 25 = .ok (.iadd, 1) := by decide +kernel
theorem zd_X10_ran_26 : decode cX10_ran 26 = .ok (.putfield 266, 3) := by decide +kernel
theorem zd_X10_ran_29 : decode cX10_ran 29 = .ok (.return_, 1) := by decide +kernel
theorem zd_X10_points_0 : decode cX10_points 0 = .ok (.iload_n 2, 1) := by decide +kernel
theorem zd_X10_points_1 : decode cX10_points 1 = .ok (.tableswitch 122 0 6 #[43, 53, 122, 74, 90, 122, 106], 43) := by decide +kernel
theorem zd_X10_points_44 : decode cX10_points 44 = .ok (.aload_n 0, 1) := by decide +kernel
theorem zd_X10_points_45 : decode cX10_points 45 = .ok (.bipush 10, 2) := by decide +kernel
theorem zd_X10_points_47 : decode cX10_points 47 = .ok (.invokevirtual 269, 3) := by decide +kernel
theorem zd_X10_points_50 : decode cX10_points 50 = .ok (.iload_n 3, 1) := by decide +kernel
theorem zd_X10_points_51 : decode cX10_points 51 = .ok (.iload_n 1, 1) := by decide +kernel
theorem zd_X10_points_52 : decode cX10_points 52 = .ok (.iadd, 1) := by decide +kernel
theorem zd_X10_points_53 : decode cX10_points 53 = .ok (.ireturn, 1) := by decide +kernel
theorem zd_X10_points_54 : decode cX10_points 54 = .ok (.aload_n 0, 1) := by decide +kernel
theorem zd_X10_points_55 : decode cX10_points 55 = .ok (.bipush 20, 2) := by decide +kernel
theorem zd_X10_points_57 : decode cX10_points 57 = .ok (.invokevirtual 269, 3) := by decide +kernel
theorem zd_X10_points_60 : decode cX10_points 60 = .ok (.aload_n 0, 1) := by decide +kernel
theorem zd_X10_points_61 : decode cX10_points 61 = .ok (.iload_n 1, 1) := by decide +kernel
theorem zd_X10_points_62 : decode cX10_points 62 = .ok (.iconst 0, 1) := by decide +kernel
theorem zd_X10_points_63 : decode cX10_points 63 = .ok (.iload_n 3, 1) := by decide +kernel
theorem zd_X10_points_64 : decode cX10_points 64 = .ok (.invokevirtual 272, 3) := by decide +kernel
theorem zd_X10_points_67 : decode cX10_points 67 = .ok (.aload_n 0, 1) := by decide +kernel
theorem zd_X10_points_68 : decode cX10_points 68 = .ok (.iconst 1, 1) := by decide +kernel
theorem zd_X10_points_69 : decode cX10_points 69 = .ok (.iload_n 1, 1) := by decide +kernel
theorem zd_X10_points_70 : decode cX10_points 70 = .ok (.invokevirtual 109, 3) := by decide +kernel
theorem zd_X10_points_73 : decode cX10_points 73 = .ok (.iadd, 1) := by decide +kernel
theorem zd_X10_points_74 : decode cX10_points 74 = .ok (.ireturn, 1) := by decide +kernel
theorem zd_X10_points_75 : decode cX10_points 75 = .ok (.aload_n 0, 1) := by decide +kernel
theorem zd_X10_points_76 : decode cX10_points 76 = .ok (.bipush 40, 2) := by decide +kernel
theorem zd_X10_points_78 : decode cX10_points 78 = .ok (.invokevirtual 269, 3) := by decide +kernel
theorem zd_X10_points_81 : decode cX10_points 81 = .ok (.aload_n 0, 1) := by decide +kernel
theorem zd_X10_points_82 : decode cX10_points 82 = .ok (.iload_n 1, 1) := by decide +kernel
theorem zd_X10_points_83 : decode cX10_points 83 = .ok (.iconst 1, 1) := by decide +kernel
theorem zd_X10_points_84 : decode cX10_points 84 = .ok (.iload_n 3, 1) := by decide +kernel
theorem zd_X10_points_85 : decode cX10_points 85 = .ok (.iconst 1, 1) := by decide +kernel
theorem zd_X10_points_86 : decode cX10_points 86 = .ok (.iadd, 1) := by decide +kernel
theorem zd_X10_points_87 : decode cX10_points 87 = .ok (.invokevirtual 272, 3) := by decide +kernel
theorem zd_X10_points_90 : decode cX10_points 90 = .ok (.ireturn, 1) := by decide +kernel
theorem zd_X10_points_91 : decode cX10_points 91 = .ok (.aload_n 0, 1) := by decide +kernel
theorem zd_X10_points_92 : decode cX10_points 92 = .ok (.bipush 51, 2) := by decide +kernel
theorem zd_X10_points_94 : decode cX10_points 94 = .ok (.invokevirtual 269, 3) := by decide +kernel
theorem zd_X10_points_97 : decode cX10_points 97 = .ok (.aload_n 0, 1) := by decide +kernel
theorem zd_X10_points_98 : decode cX10_points 98 = .ok (.iload_n 1, 1) := by decide +kernel
theorem zd_X10_points_99 : decode cX10_points 99 = .ok (.iconst 0, 1) := by decide +kernel
theorem zd_X10_points_100 : decode cX10_points 100 = .ok (.iload_n 3, 1) := by decide +kernel
theorem zd_X10_points_101 : decode cX10_points 101 = .ok (.invokevirtual 272, 3) := by decide +kernel
theorem zd_X10_points_104 : decode cX10_points 104 = .ok (.iload_n 1, 1) := by decide +kernel
theorem zd_X10_points_105 : decode cX10_points 105 = .ok (.isub, 1) := by decide +kernel
theorem zd_X10_points_106 : decode cX10_points 106 = .ok (.ireturn, 1) := by decide +kernel
theorem zd_X10_points_107 : decode cX10_points 107 = .ok (.aload_n 0, 1) := by decide +kernel
theorem zd_X10_points_108 : decode cX10_points 108 = .ok (.bipush 70, 2) := by decide +kernel
theorem zd_X10_points_110 : decode cX10_points 110 = .ok (.invokevirtual 269, 3) := by decide +kernel
theorem zd_X10_points_113 : decode cX10_points 113 = .ok (.aload_n 0, 1) := by decide +kernel
theorem zd_X10_points_114 : decode cX10_points 114 = .ok (.iload_n 1, 1) := by decide +kernel
theorem zd_X10_points_115 : decode cX10_points 115 = .ok (.iconst 3, 1) := by decide +kernel
theorem zd_X10_points_116 : decode cX10_points 116 = .ok (.iload_n 3, 1) := by decide +kernel
theorem zd_X10_points_117 : decode cX10_points 117 = .ok (.invokevirtual 272, 3) := by decide +kernel
theorem zd_X10_points_120 : decode cX10_points 120 = .ok (.iconst 2, 1) := by decide +kernel
theorem zd_X10_points_121 : decode cX10_points 121 = .ok (.imul, 1) := by decide +kernel
theorem zd_X10_points_122 : decode cX10_points 122 = .ok (.ireturn, 1) := by decide +kernel
theorem zd_X10_points_123 : decode cX10_points 123 = .ok (.aload_n 0, 1) := by decide +kernel
theorem zd_X10_points_124 : decode cX10_points 124 = .ok (.iload_n 1, 1) := by decide +kernel
theorem zd_X10_points_125 : decode cX10_points 125 = .ok (.iload_n 2, 1) := by decide +kernel
theorem zd_X10_points_126 : decode cX10_points 126 = .ok (.invokestatic 106, 3) := by decide +kernel
theorem zd_X10_points_129 : decode cX10_points 129 = .ok (.iload_n 3, 1) := by decide +kernel
theorem zd_X10_points_130 : decode cX10_points 130 = .ok (.invokevirtual 272, 3) := by decide +kernel
theorem zd_X10_points_133 : decode cX10_points 133 = .ok (.ireturn, 1) := by decide +kernel
theorem zd_X10_weighs_0 : decode cX10_weighs 0 = .ok (.iload_n 2, 1) := by decide +kernel
theorem zd_X10_weighs_1 : decode cX10_weighs 1 = .ok (.lookupswitch 93 #[(0, 35), (2, 56), (6, 72)], 35) := by decide +kernel
theorem zd_X10_weighs_36 : decode cX10_weighs 36 = .ok (.aload_n 0, 1) := by decide +kernel
theorem zd_X10_weighs_37 : decode cX10_weighs 37 = .ok (.bipush 11, 2) := by decide +kernel
theorem zd_X10_weighs_39 : decode cX10_weighs 39 = .ok (.invokevirtual 269, 3) := by decide +kernel
theorem zd_X10_weighs_42 : decode cX10_weighs 42 = .ok (.aload_n 0, 1) := by decide +kernel
theorem zd_X10_weighs_43 : decode cX10_weighs 43 = .ok (.iload_n 1, 1) := by decide +kernel
theorem zd_X10_weighs_44 : decode cX10_weighs 44 = .ok (.aload_n 0, 1) := by decide +kernel
theorem zd_X10_weighs_45 : decode cX10_weighs 45 = .ok (.iconst 0, 1) := by decide +kernel
theorem zd_X10_weighs_46 : decode cX10_weighs 46 = .ok (.iload_n 1, 1) := by decide +kernel
theorem zd_X10_weighs_47 : decode cX10_weighs 47 = .ok (.invokevirtual 109, 3) := by decide +kernel
theorem zd_X10_weighs_50 : decode cX10_weighs 50 = .ok (.iload_n 3, 1) := by decide +kernel
theorem zd_X10_weighs_51 : decode cX10_weighs 51 = .ok (.invokevirtual 272, 3) := by decide +kernel
theorem zd_X10_weighs_54 : decode cX10_weighs 54 = .ok (.iconst 2, 1) := by decide +kernel
theorem zd_X10_weighs_55 : decode cX10_weighs 55 = .ok (.imul, 1) := by decide +kernel
theorem zd_X10_weighs_56 : decode cX10_weighs 56 = .ok (.ireturn, 1) := by decide +kernel
theorem zd_X10_weighs_57 : decode cX10_weighs 57 = .ok (.aload_n 0, 1) := by decide +kernel
theorem zd_X10_weighs_58 : decode cX10_weighs 58 = .ok (.bipush 30, 2) := by decide +kernel
theorem zd_X10_weighs_60 : decode cX10_weighs 60 = .ok (.invokevirtual 269, 3) := by decide +kernel
theorem zd_X10_weighs_63 : decode cX10_weighs 63 = .ok (.aload_n 0, 1) := by decide +kernel
theorem zd_X10_weighs_64 : decode cX10_weighs 64 = .ok (.iload_n 1, 1) := by decide +kernel
theorem zd_X10_weighs_65 : decode cX10_weighs 65 = .ok (.iconst 0, 1) := by decide +kernel
theorem zd_X10_weighs_66 : decode cX10_weighs 66 = .ok (.iload_n 3, 1) := by decide +kernel
theorem zd_X10_weighs_67 : decode cX10_weighs 67 = .ok (.invokevirtual 276, 3) := by decide +kernel
theorem zd_X10_weighs_70 : decode cX10_weighs 70 = .ok (.iconst 3, 1) := by decide +kernel
theorem zd_X10_weighs_71 : decode cX10_weighs 71 = .ok (.imul, 1) := by decide +kernel
theorem zd_X10_weighs_72 : decode cX10_weighs 72 = .ok (.ireturn, 1) := by decide +kernel
theorem zd_X10_weighs_73 : decode cX10_weighs 73 = .ok (.aload_n 0, 1) := by decide +kernel
theorem zd_X10_weighs_74 : decode cX10_weighs 74 = .ok (.bipush 71, 2) := by decide +kernel
theorem zd_X10_weighs_76 : decode cX10_weighs 76 = .ok (.invokevirtual 269, 3) := by decide +kernel
theorem zd_X10_weighs_79 : decode cX10_weighs 79 = .ok (.aload_n 0, 1) := by decide +kernel
theorem zd_X10_weighs_80 : decode cX10_weighs 80 = .ok (.iload_n 1, 1) := by decide +kernel
theorem zd_X10_weighs_81 : decode cX10_weighs 81 = .ok (.iconst 3, 1) := by decide +kernel
theorem zd_X10_weighs_82 : decode cX10_weighs 82 = .ok (.iload_n 3, 1) := by decide +kernel
theorem zd_X10_weighs_83 : decode cX10_weighs 83 = .ok (.aload_n 0, 1) := by decide +kernel
theorem zd_X10_weighs_84 : decode cX10_weighs 84 = .ok (.iconst 1, 1) := by decide +kernel
theorem zd_X10_weighs_85 : decode cX10_weighs 85 = .ok (.iload_n 1, 1) := by decide +kernel
theorem zd_X10_weighs_86 : decode cX10_weighs 86 = .ok (.invokevirtual 109, 3) := by decide +kernel
theorem zd_X10_weighs_89 : decode cX10_weighs 89 = .ok (.isub, 1) := by decide +kernel
theorem zd_X10_weighs_90 : decode cX10_weighs 90 = .ok (.invokevirtual 276, 3) := by decide +kernel
theorem zd_X10_weighs_93 : decode cX10_weighs 93 = .ok (.ireturn, 1) := by decide +kernel
theorem zd_X10_weighs_94 : decode cX10_weighs 94 = .ok (.aload_n 0, 1) := by decide +kernel
theorem zd_X10_weighs_95 : decode cX10_weighs 95 = .ok (.iload_n 1, 1) := by decide +kernel
theorem zd_X10_weighs_96 : decode cX10_weighs 96 = .ok (.iload_n 2, 1) := by decide +kernel
theorem zd_X10_weighs_97 : decode cX10_weighs 97 = .ok (.invokestatic 106, 3) := by decide +kernel
theorem zd_X10_weighs_100 : decode cX10_weighs 100 = .ok (.iload_n 3, 1) := by decide +kernel
theorem zd_X10_weighs_101 : decode cX10_weighs 101 = .ok (.invokevirtual 276, 3) := by decide +kernel
theorem zd_X10_weighs_104 : decode cX10_weighs 104 = .ok (.ireturn, 1) := by decide +kernel
theorem zd_X10_clings_0 : decode cX10_clings 0 = .ok (.iload_n 2, 1) := by decide +kernel
theorem zd_X10_clings_1 : decode cX10_clings 1 = .ok (.lookupswitch 109 #[(0, 35), (4, 78), (5, 93)], 35) := by decide +kernel
theorem zd_X10_clings_36 : decode cX10_clings 36 = .ok (.aload_n 0, 1) := by decide +kernel
theorem zd_X10_clings_37 : decode cX10_clings 37 = .ok (.bipush 12, 2) := by decide +kernel
theorem zd_X10_clings_39 : decode cX10_clings 39 = .ok (.invokevirtual 269, 3) := by decide +kernel
theorem zd_X10_clings_42 : decode cX10_clings 42 = .ok (.aload_n 0, 1) := by decide +kernel
theorem zd_X10_clings_43 : decode cX10_clings 43 = .ok (.iload_n 1, 1) := by decide +kernel
theorem zd_X10_clings_44 : decode cX10_clings 44 = .ok (.aload_n 0, 1) := by decide +kernel
theorem zd_X10_clings_45 : decode cX10_clings 45 = .ok (.iconst 0, 1) := by decide +kernel
theorem zd_X10_clings_46 : decode cX10_clings 46 = .ok (.iload_n 1, 1) := by decide +kernel
theorem zd_X10_clings_47 : decode cX10_clings 47 = .ok (.invokevirtual 109, 3) := by decide +kernel
theorem zd_X10_clings_50 : decode cX10_clings 50 = .ok (.iload_n 3, 1) := by decide +kernel
theorem zd_X10_clings_51 : decode cX10_clings 51 = .ok (.invokevirtual 276, 3) := by decide +kernel
theorem zd_X10_clings_54 : decode cX10_clings 54 = .ok (.istore 4, 2) := by decide +kernel
theorem zd_X10_clings_56 : decode cX10_clings 56 = .ok (.iload 4, 2) := by decide +kernel
theorem zd_X10_clings_58 : decode cX10_clings 58 = .ok (.aload_n 0, 1) := by decide +kernel
theorem zd_X10_clings_59 : decode cX10_clings 59 = .ok (.iload_n 1, 1) := by decide +kernel
theorem zd_X10_clings_60 : decode cX10_clings 60 = .ok (.aload_n 0, 1) := by decide +kernel
theorem zd_X10_clings_61 : decode cX10_clings 61 = .ok (.iconst 0, 1) := by decide +kernel
theorem zd_X10_clings_62 : decode cX10_clings 62 = .ok (.iload_n 1, 1) := by decide +kernel
theorem zd_X10_clings_63 : decode cX10_clings 63 = .ok (.invokevirtual 109, 3) := by decide +kernel
theorem zd_X10_clings_66 : decode cX10_clings 66 = .ok (.iload_n 3, 1) := by decide +kernel
theorem zd_X10_clings_67 : decode cX10_clings 67 = .ok (.aload_n 0, 1) := by decide +kernel
theorem zd_X10_clings_68 : decode cX10_clings 68 = .ok (.iconst 1, 1) := by decide +kernel
theorem zd_X10_clings_69 : decode cX10_clings 69 = .ok (.iload_n 1, 1) := by decide +kernel
theorem zd_X10_clings_70 : decode cX10_clings 70 = .ok (.invokevirtual 109, 3) := by decide +kernel
theorem zd_X10_clings_73 : decode cX10_clings 73 = .ok (.isub, 1) := by decide +kernel
theorem zd_X10_clings_74 : decode cX10_clings 74 = .ok (.invokevirtual 272, 3) := by decide +kernel
theorem zd_X10_clings_77 : decode cX10_clings 77 = .ok (.ixor, 1) := by decide +kernel
theorem zd_X10_clings_78 : decode cX10_clings 78 = .ok (.ireturn, 1) := by decide +kernel
theorem zd_X10_clings_79 : decode cX10_clings 79 = .ok (.aload_n 0, 1) := by decide +kernel
theorem zd_X10_clings_80 : decode cX10_clings 80 = .ok (.bipush 50, 2) := by decide +kernel
theorem zd_X10_clings_82 : decode cX10_clings 82 = .ok (.invokevirtual 269, 3) := by decide +kernel
theorem zd_X10_clings_85 : decode cX10_clings 85 = .ok (.aload_n 0, 1) := by decide +kernel
theorem zd_X10_clings_86 : decode cX10_clings 86 = .ok (.iload_n 1, 1) := by decide +kernel
theorem zd_X10_clings_87 : decode cX10_clings 87 = .ok (.iconst 0, 1) := by decide +kernel
theorem zd_X10_clings_88 : decode cX10_clings 88 = .ok (.iload_n 3, 1) := by decide +kernel
theorem zd_X10_clings_89 : decode cX10_clings 89 = .ok (.invokevirtual 279, 3) := by decide +kernel
theorem zd_X10_clings_92 : decode cX10_clings 92 = .ok (.ineg, 1) := by decide +kernel
theorem zd_X10_clings_93 : decode cX10_clings 93 = .ok (.ireturn, 1) := by decide +kernel
theorem zd_X10_clings_94 : decode cX10_clings 94 = .ok (.aload_n 0, 1) := by decide +kernel
theorem zd_X10_clings_95 : decode cX10_clings 95 = .ok (.bipush 60, 2) := by decide +kernel
theorem zd_X10_clings_97 : decode cX10_clings 97 = .ok (.invokevirtual 269, 3) := by decide +kernel
theorem zd_X10_clings_100 : decode cX10_clings 100 = .ok (.aload_n 0, 1) := by decide +kernel
theorem zd_X10_clings_101 : decode cX10_clings 101 = .ok (.iload_n 1, 1) := by decide +kernel
theorem zd_X10_clings_102 : decode cX10_clings 102 = .ok (.iconst 2, 1) := by decide +kernel
theorem zd_X10_clings_103 : decode cX10_clings 103 = .ok (.iload_n 3, 1) := by decide +kernel
theorem zd_X10_clings_104 : decode cX10_clings 104 = .ok (.invokevirtual 279, 3) := by decide +kernel
theorem zd_X10_clings_107 : decode cX10_clings 107 = .ok (.iconst 5, 1) := by decide +kernel
theorem zd_X10_clings_108 : decode cX10_clings 108 = .ok (.ixor, 1) := by decide +kernel
theorem zd_X10_clings_109 : decode cX10_clings 109 = .ok (.ireturn, 1) := by decide +kernel
theorem zd_X10_clings_110 : decode cX10_clings 110 = .ok (.aload_n 0, 1) := by decide +kernel
theorem zd_X10_clings_111 : decode cX10_clings 111 = .ok (.iload_n 1, 1) := by decide +kernel
theorem zd_X10_clings_112 : decode cX10_clings 112 = .ok (.iload_n 2, 1) := by decide +kernel
theorem zd_X10_clings_113 : decode cX10_clings 113 = .ok (.invokestatic 106, 3) := by decide +kernel
theorem zd_X10_clings_116 : decode cX10_clings 116 = .ok (.iload_n 3, 1) := by decide +kernel
theorem zd_X10_clings_117 : decode cX10_clings 117 = .ok (.invokevirtual 279, 3) := by decide +kernel
theorem zd_X10_clings_120 : decode cX10_clings 120 = .ok (.ireturn, 1) := by decide +kernel
theorem zd_X10_act_0 : decode cX10_act 0 = .ok (.aload_n 0, 1) := by decide +kernel
theorem zd_X10_act_1 : decode cX10_act 1 = .ok (.iconst 0, 1) := by decide +kernel
theorem zd_X10_act_2 : decode cX10_act 2 = .ok (.putfield 266, 3) := by decide +kernel
theorem zd_X10_act_5 : decode cX10_act 5 = .ok (.aload_n 0, 1) := by decide +kernel
theorem zd_X10_act_6 : decode cX10_act 6 = .ok (.iload_n 1, 1) := by decide +kernel
theorem zd_X10_act_7 : decode cX10_act 7 = .ok (.invokevirtual 103, 3) := by decide +kernel
theorem zd_X10_act_10 : decode cX10_act 10 = .ok (.ifCond .eq 12, 3) := by decide +kernel
theorem zd_X10_act_13 : decode cX10_act 13 = .ok (.iload_n 2, 1) := by decide +kernel
theorem zd_X10_act_14 : decode cX10_act 14 = .ok (.iconst 0, 1) := by decide +kernel
theorem zd_X10_act_15 : decode cX10_act 15 = .ok (.iconst 2, 1) := by decide +kernel
theorem zd_X10_act_16 : decode cX10_act 16 = .ok (.invokestatic 89, 3) := by decide +kernel
theorem zd_X10_act_19 : decode cX10_act 19 = .ok (.ifCond .ne 5, 3) := by decide +kernel
theorem zd_X10_act_22 : decode cX10_act 22 = .ok (.iconst 0, 1) := by decide +kernel
theorem zd_X10_act_23 : decode cX10_act 23 = .ok (.ireturn, 1) := by decide +kernel
theorem zd_X10_act_24 : decode cX10_act 24 = .ok (.aload_n 0, 1) := by decide +kernel
theorem zd_X10_act_25 : decode cX10_act 25 = .ok (.iconst 0, 1) := by decide +kernel
theorem zd_X10_act_26 : decode cX10_act 26 = .ok (.iload_n 1, 1) := by decide +kernel
theorem zd_X10_act_27 : decode cX10_act 27 = .ok (.invokevirtual 109, 3) := by decide +kernel
theorem zd_X10_act_30 : decode cX10_act 30 = .ok (.istore 4, 2) := by decide +kernel
theorem zd_X10_act_32 : decode cX10_act 32 = .ok (.iload_n 2, 1) := by decide +kernel
theorem zd_X10_act_33 : decode cX10_act 33 = .ok (.ifCond .ne 14, 3) := by decide +kernel
theorem zd_X10_act_36 : decode cX10_act 36 = .ok (.aload_n 0, 1) := by decide +kernel
theorem zd_X10_act_37 : decode cX10_act 37 = .ok (.iload_n 1, 1) := by decide +kernel
theorem zd_X10_act_38 : decode cX10_act 38 = .ok (.iload 4, 2) := by decide +kernel
theorem zd_X10_act_40 : decode cX10_act 40 = .ok (.iload_n 3, 1) := by decide +kernel
theorem zd_X10_act_41 : decode cX10_act 41 = .ok (.invokevirtual 272, 3) := by decide +kernel
theorem zd_X10_act_44 : decode cX10_act 44 = .ok (.goto 27, 3) := by decide +kernel
theorem zd_X10_act_47 : decode cX10_act 47 = .ok (.iload_n 2, 1) := by decide +kernel
theorem zd_X10_act_48 : decode cX10_act 48 = .ok (.iconst 1, 1) := by decide +kernel
theorem zd_X10_act_49 : decode cX10_act 49 = .ok (.if_icmp .ne 14, 3) := by decide +kernel
theorem zd_X10_act_52 : decode cX10_act 52 = .ok (.aload_n 0, 1) := by decide +kernel
theorem zd_X10_act_53 : decode cX10_act 53 = .ok (.iload_n 1, 1) := by decide +kernel
theorem zd_X10_act_54 : decode cX10_act 54 = .ok (.iload 4, 2) := by decide +kernel
theorem zd_X10_act_56 : decode cX10_act 56 = .ok (.iload_n 3, 1) := by decide +kernel
theorem zd_X10_act_57 : decode cX10_act 57 = .ok (.invokevirtual 276, 3) := by decide +kernel
theorem zd_X10_act_60 : decode cX10_act 60 = .ok (.goto 11, 3) := by decide +kernel
theorem zd_X10_act_63 : decode cX10_act 63 = .ok (.aload_n 0, 1) := by decide +kernel
theorem zd_X10_act_64 : decode cX10_act 64 = .ok (.iload_n 1, 1) := by decide +kernel
theorem zd_X10_act_65 : decode cX10_act 65 = .ok (.iload 4, 2) := by decide +kernel
theorem zd_X10_act_67 : decode cX10_act 67 = .ok (.iload_n 3, 1) := by decide +kernel
theorem zd_X10_act_68 : decode cX10_act 68 = .ok (.invokevirtual 279, 3) := by decide +kernel
theorem zd_X10_act_71 : decode cX10_act 71 = .ok (.ireturn, 1) := by decide +kernel
theorem zd_X10_trace_0 : decode cX10_trace 0 = .ok (.iload_n 1, 1) := by decide +kernel
theorem zd_X10_trace_1 : decode cX10_trace 1 = .ok (.iconst 0, 1) := by decide +kernel
theorem zd_X10_trace_2 : decode cX10_trace 2 = .ok (.bipush 20, 2) := by decide +kernel
theorem zd_X10_trace_4 : decode cX10_trace 4 = .ok (.aload_n 0, 1) := by decide +kernel
theorem zd_X10_trace_5 : decode cX10_trace 5 = .ok (.getfield 266, 3) := by decide +kernel
theorem zd_X10_trace_8 : decode cX10_trace 8 = .ok (.invokestatic 197, 3) := by decide +kernel
theorem zd_X10_trace_11 : decode cX10_trace 11 = .ok (.iconst 1, 1) := by decide +kernel
theorem zd_X10_trace_12 : decode cX10_trace 12 = .ok (.isub, 1) := by decide +kernel
theorem zd_X10_trace_13 : decode cX10_trace 13 = .ok (.invokestatic 89, 3) := by decide +kernel
theorem zd_X10_trace_16 : decode cX10_trace 16 = .ok (.ifCond .eq 12, 3) := by decide +kernel
theorem zd_X10_trace_19 : decode cX10_trace 19 = .ok (.aload_n 0, 1) := by decide +kernel
theorem zd_X10_trace_20 : decode cX10_trace 20 = .ok (.getfield 38, 3) := by decide +kernel
theorem zd_X10_trace_23 : decode cX10_trace 23 = .ok (.iload_n 1, 1) := by decide +kernel
theorem zd_X10_trace_24 : decode cX10_trace 24 = .ok (.iaload, 1) := by decide +kernel
theorem zd_X10_trace_25 : decode cX10_trace 25 = .ok (.goto 4, 3) := by decide +kernel
theorem zd_X10_trace_28 : decode cX10_trace 28 = .ok (.iconst (-1), 1) := by decide +kernel
theorem zd_X10_trace_29 : decode cX10_trace 29 = .ok (.ireturn, 1) := by decide +kernel
theorem zd_X10_image_0 : decode cX10_image 0 = .ok (.aload_n 0, 1) := by decide +kernel
theorem zd_X10_image_1 : decode cX10_image 1 = .ok (.iconst 1, 1) := by decide +kernel
theorem zd_X10_image_2 : decode cX10_image 2 = .ok (.putfield 282, 3) := by decide +kernel
theorem zd_X10_image_5 : decode cX10_image 5 = .ok (.aload_n 0, 1) := by decide +kernel
theorem zd_X10_image_6 : decode cX10_image 6 = .ok (.aload_n 0, 1) := by decide +kernel
theorem zd_X10_image_7 : decode cX10_image 7 = .ok (.getfield 86, 3) := by decide +kernel
theorem zd_X10_image_10 : decode cX10_image 10 = .ok (.putfield 285, 3) := by decide +kernel
theorem zd_X10_image_13 : decode cX10_image 13 = .ok (.aload_n 0, 1) := by decide +kernel
theorem zd_X10_image_14 : decode cX10_image 14 = .ok (.aload_n 0, 1) := by decide +kernel
theorem zd_X10_image_15 : decode cX10_image 15 = .ok (.getfield 93, 3) := by decide +kernel
theorem zd_X10_image_18 : decode cX10_image 18 = .ok (.putfield 288, 3) := by decide +kernel
theorem zd_X10_image_21 : decode cX10_image 21 = .ok (.aload_n 0, 1) := by decide +kernel
theorem zd_X10_image_22 : decode cX10_image 22 = .ok (.aload_n 0, 1) := by decide +kernel
theorem zd_X10_image_23 : decode cX10_image 23 = .ok (.getfield 75, 3) := by decide +kernel
theorem zd_X10_image_26 : decode cX10_image 26 = .ok (.putfield 291, 3) := by decide +kernel
theorem zd_X10_image_29 : decode cX10_image 29 = .ok (.iconst 0, 1) := by decide +kernel
theorem zd_X10_image_30 : decode cX10_image 30 = .ok (.istore_n 1, 1) := by decide +kernel
theorem zd_X10_image_31 : decode cX10_image 31 = .ok (.iload_n 1, 1) := by decide +kernel
theorem zd_X10_image_32 : decode cX10_image 32 = .ok (.bipush 16, 2) := by decide +kernel
theorem zd_X10_image_34 : decode cX10_image 34 = .ok (.if_icmp .ge 33, 3) := by decide +kernel
theorem zd_X10_image_37 : decode cX10_image 37 = .ok (.aload_n 0, 1) := by decide +kernel
theorem zd_X10_image_38 : decode cX10_image 38 = .ok (.getfield 44, 3) := by decide +kernel
theorem zd_X10_image_41 : decode cX10_image 41 = .ok (.iload_n 1, 1) := by decide +kernel
theorem zd_X10_image_42 : decode cX10_image 42 = .ok (.aload_n 0, 1) := by decide +kernel
theorem zd_X10_image_43 : decode cX10_image 43 = .ok (.getfield 7, 3) := by decide +kernel
theorem zd_X10_image_46 : decode cX10_image 46 = .ok (.iload_n 1, 1) := by decide +kernel
theorem zd_X10_image_47 : decode cX10_image 47 = .ok (.iaload, 1) := by decide +kernel
theorem zd_X10_image_48 : decode cX10_image 48 = .ok (.iastore, 1) := by decide +kernel
theorem zd_X10_image_49 : decode cX10_image 49 = .ok (.aload_n 0, 1) := by decide +kernel
theorem zd_X10_image_50 : decode cX10_image 50 = .ok (.getfield 47, 3) := by decide +kernel
theorem zd_X10_image_53 : decode cX10_image 53 = .ok (.iload_n 1, 1) := by decide +kernel
theorem zd_X10_image_54 : decode cX10_image 54 = .ok (.aload_n 0, 1) := by decide +kernel
theorem zd_X10_image_55 : decode cX10_image 55 = .ok (.getfield 13, 3) := by decide +kernel
theorem zd_X10_image_58 : decode cX10_image 58 = .ok (.iload_n 1, 1) := by decide +kernel
theorem zd_X10_image_59 : decode cX10_image 59 = .ok (.iaload, 1) := by decide +kernel
theorem zd_X10_image_60 : decode cX10_image 60 = .ok (.iastore, 1) := by decide +kernel
theorem zd_X10_image_61 : decode cX10_image 61 = .ok (.iinc 1 1, 3) := by decide +kernel
theorem zd_X10_image_64 : decode cX10_image 64 = .ok (.goto (-33), 3) := by decide +kernel
theorem zd_X10_image_67 : decode cX10_image 67 = .ok (.iconst 0, 1) := by decide +kernel
theorem zd_X10_image_68 : decode cX10_image 68 = .ok (.istore_n 1, 1) := by decide +kernel
theorem zd_X10_image_69 : decode cX10_image 69 = .ok (.iload_n 1, 1) := by decide +kernel
theorem zd_X10_image_70 : decode cX10_image 70 = .ok (.sipush 384, 3) := by decide +kernel
theorem zd_X10_image_73 : decode cX10_image 73 = .ok (.if_icmp .ge 21, 3) := by decide +kernel
theorem zd_X10_image_76 : decode cX10_image 76 = .ok (.aload_n 0, 1) := by decide +kernel
theorem zd_X10_image_77 : decode cX10_image 77 = .ok (.getfield 50, 3) := by decide +kernel
theorem zd_X10_image_80 : decode cX10_image 80 = .ok (.iload_n 1, 1) := by decide +kernel
theorem zd_X10_image_81 : decode cX10_image 81 = .ok (.aload_n 0, 1) := by decide +kernel
theorem zd_X10_image_82 : decode cX10_image 82 = .ok (.getfield 16, 3) := by decide +kernel
theorem zd_X10_image_85 : decode cX10_image 85 = .ok (.iload_n 1, 1) := by decide +kernel
theorem zd_X10_image_86 : decode cX10_image 86 = .ok (.laload, 1) := by decide +kernel
theorem zd_X10_image_87 : decode cX10_image 87 = .ok (.lastore, 1) := by decide +kernel
theorem zd_X10_image_88 : decode cX10_image 88 = .ok (.iinc 1 1, 3) := by decide +kernel
theorem zd_X10_image_91 : decode cX10_image 91 = .ok (.goto (-22), 3) := by decide +kernel
theorem zd_X10_image_94 : decode cX10_image 94 = .ok (.iconst 0, 1) := by decide +kernel
theorem zd_X10_image_95 : decode cX10_image 95 = .ok (.istore_n 1, 1) := by decide +kernel
theorem zd_X10_image_96 : decode cX10_image 96 = .ok (.iload_n 1, 1) := by decide +kernel
theorem zd_X10_image_97 : decode cX10_image 97 = .ok (.bipush 112, 2) := by decide +kernel
theorem zd_X10_image_99 : decode cX10_image 99 = .ok (.if_icmp .ge 21, 3) := by decide +kernel
theorem zd_X10_image_102 : decode cX10_image 102 = .ok (.aload_n 0, 1) := by decide +kernel
theorem zd_X10_image_103 : decode cX10_image 103 = .ok (.getfield 53, 3) := by decide +kernel
theorem zd_X10_image_106 : decode cX10_image 106 = .ok (.iload_n 1, 1) := by decide +kernel
theorem zd_X10_image_107 : decode cX10_image 107 = .ok (.aload_n 0, 1) := by decide +kernel
theorem zd_X10_image_108 : decode cX10_image 108 = .ok (.getfield 23, 3) := by decide +kernel
theorem zd_X10_image_111 : decode cX10_image 111 = .ok (.iload_n 1, 1) := by decide +kernel
theorem zd_X10_image_112 : decode cX10_image 112 = .ok (.iaload, 1) := by decide +kernel
theorem zd_X10_image_113 : decode cX10_image 113 = .ok (.iastore, 1) := by decide +kernel
theorem zd_X10_image_114 : decode cX10_image 114 = .ok (.iinc 1 1, 3) := by decide +kernel
theorem zd_X10_image_117 : decode cX10_image 117 = .ok (.goto (-21), 3) := by decide +kernel
theorem zd_X10_image_120 : decode cX10_image 120 = .ok (.iconst 0, 1) := by decide +kernel
theorem zd_X10_image_121 : decode cX10_image 121 = .ok (.istore_n 1, 1) := by decide +kernel
theorem zd_X10_image_122 : decode cX10_image 122 = .ok (.iload_n 1, 1) := by decide +kernel
theorem zd_X10_image_123 : decode cX10_image 123 = .ok (.iconst 3, 1) := by decide +kernel
theorem zd_X10_image_124 : decode cX10_image 124 = .ok (.if_icmp .ge 21, 3) := by decide +kernel
theorem zd_X10_image_127 : decode cX10_image 127 = .ok (.aload_n 0, 1) := by decide +kernel
theorem zd_X10_image_128 : decode cX10_image 128 = .ok (.getfield 56, 3) := by decide +kernel
theorem zd_X10_image_131 : decode cX10_image 131 = .ok (.iload_n 1, 1) := by decide +kernel
theorem zd_X10_image_132 : decode cX10_image 132 = .ok (.aload_n 0, 1) := by decide +kernel
theorem zd_X10_image_133 : decode cX10_image 133 = .ok (.getfield 26, 3) := by decide +kernel
theorem zd_X10_image_136 : decode cX10_image 136 = .ok (.iload_n 1, 1) := by decide +kernel
theorem zd_X10_image_137 : decode cX10_image 137 = .ok (.iaload, 1) := by decide +kernel
theorem zd_X10_image_138 : decode cX10_image 138 = .ok (.iastore, 1) := by decide +kernel
theorem zd_X10_image_139 : decode cX10_image 139 = .ok (.iinc 1 1, 3) := by decide +kernel
theorem zd_X10_image_142 : decode cX10_image 142 = .ok (.goto (-20), 3) := by decide +kernel
theorem zd_X10_image_145 : decode cX10_image 145 = .ok (.aload_n 0, 1) := by decide +kernel
theorem zd_X10_image_146 : decode cX10_image 146 = .ok (.getfield 93, 3) := by decide +kernel
theorem zd_X10_image_149 : decode cX10_image 149 = .ok (.ireturn, 1) := by decide +kernel
theorem zd_X10_restore_0 : decode cX10_restore 0 = .ok (.aload_n 0, 1) := by decide +kernel
theorem zd_X10_restore_1 : decode cX10_restore 1 = .ok (.getfield 282, 3) := by decide +kernel
theorem zd_X10_restore_4 : decode cX10_restore 4 = .ok (.ifCond .ne 10, 3) := by decide +kernel
theorem zd_X10_restore_7 : decode cX10_restore 7 = .ok (.aload_n 0, 1) := by decide +kernel
theorem zd_X10_restore_8 : decode cX10_restore 8 = .ok (.bipush (-6), 2) := by decide +kernel
theorem zd_X10_restore_10 : decode cX10_restore 10 = .ok (.invokevirtual 82, 3) := by decide +kernel
theorem zd_X10_restore_13 : decode cX10_restore 13 = .ok (.ireturn, 1) := by decide +kernel
theorem zd_X10_restore_14 : decode cX10_restore 14 = .ok (.aload_n 0, 1) := by decide +kernel
theorem zd_X10_restore_15 : decode cX10_restore 15 = .ok (.aload_n 0, 1) := by decide +kernel
theorem zd_X10_restore_16 : decode cX10_restore 16 = .ok (.getfield 285, 3) := by decide +kernel
theorem zd_X10_restore_19 : decode cX10_restore 19 = .ok (.putfield 86, 3) := by decide +kernel
theorem zd_X10_restore_22 : decode cX10_restore 22 = .ok (.aload_n 0, 1) := by decide +kernel
theorem zd_X10_restore_23 : decode cX10_restore 23 = .ok (.aload_n 0, 1) := by decide +kernel
theorem zd_X10_restore_24 : decode cX10_restore 24 = .ok (.getfield 288, 3) := by decide +kernel
theorem zd_X10_restore_27 : decode cX10_restore 27 = .ok (.putfield 93, 3) := by decide +kernel
theorem zd_X10_restore_30 : decode cX10_restore 30 = .ok (.aload_n 0, 1) := by decide +kernel
theorem zd_X10_restore_31 : decode cX10_restore 31 = .ok (.aload_n 0, 1) := by decide +kernel
theorem zd_X10_restore_32 : decode cX10_restore 32 = .ok (.getfield 291, 3) := by decide +kernel
theorem zd_X10_restore_35 : decode cX10_restore 35 = .ok (.putfield 75, 3) := by decide +kernel
theorem zd_X10_restore_38 : decode cX10_restore 38 = .ok (.iconst 0, 1) := by decide +kernel
theorem zd_X10_restore_39 : decode cX10_restore 39 = .ok (.istore_n 1, 1) := by decide +kernel
theorem zd_X10_restore_40 : decode cX10_restore 40 = .ok (.iload_n 1, 1) := by decide +kernel
theorem zd_X10_restore_41 : decode cX10_restore 41 = .ok (.bipush 16, 2) := by decide +kernel
theorem zd_X10_restore_43 : decode cX10_restore 43 = .ok (.if_icmp .ge 33, 3) := by decide +kernel
theorem zd_X10_restore_46 : decode cX10_restore 46 = .ok (.aload_n 0, 1) := by decide +kernel
theorem zd_X10_restore_47 : decode cX10_restore 47 = .ok (.getfield 7, 3) := by decide +kernel
theorem zd_X10_restore_50 : decode cX10_restore 50 = .ok (.iload_n 1, 1) := by decide +kernel
theorem zd_X10_restore_51 : decode cX10_restore 51 = .ok (.aload_n 0, 1) := by decide +kernel
theorem zd_X10_restore_52 : decode cX10_restore 52 = .ok (.getfield 44, 3) := by decide +kernel
theorem zd_X10_restore_55 : decode cX10_restore 55 = .ok (.iload_n 1, 1) := by decide +kernel
theorem zd_X10_restore_56 : decode cX10_restore 56 = .ok (.iaload, 1) := by decide +kernel
theorem zd_X10_restore_57 : decode cX10_restore 57 = .ok (.iastore, 1) := by decide +kernel
theorem zd_X10_restore_58 : decode cX10_restore 58 = .ok (.aload_n 0, 1) := by decide +kernel
theorem zd_X10_restore_59 : decode cX10_restore 59 = .ok (.getfield 13, 3) := by decide +kernel
theorem zd_X10_restore_62 : decode cX10_restore 62 = .ok (.iload_n 1, 1) := by decide +kernel
theorem zd_X10_restore_63 : decode cX10_restore 63 = .ok (.aload_n 0, 1) := by decide +kernel
theorem zd_X10_restore_64 : decode cX10_restore 64 = .ok (.getfield 47, 3) := by decide +kernel
theorem zd_X10_restore_67 : decode cX10_restore 67 = .ok (.iload_n 1, 1) := by decide +kernel
theorem zd_X10_restore_68 : decode cX10_restore 68 = .ok (.iaload, 1) := by decide +kernel
theorem zd_X10_restore_69 : decode cX10_restore 69 = .ok (.iastore, 1) := by decide +kernel
theorem zd_X10_restore_70 : decode cX10_restore 70 = .ok (.iinc 1 1, 3) := by decide +kernel
theorem zd_X10_restore_73 : decode cX10_restore 73 = .ok (.goto (-33), 3) := by decide +kernel
theorem zd_X10_restore_76 : decode cX10_restore 76 = .ok (.iconst 0, 1) := by decide +kernel
theorem zd_X10_restore_77 : decode cX10_restore 77 = .ok (.istore_n 1, 1) := by decide +kernel
theorem zd_X10_restore_78 : decode cX10_restore 78 = .ok (.iload_n 1, 1) := by decide +kernel
theorem zd_X10_restore_79 : decode cX10_restore 79 = .ok (.sipush 384, 3) := by decide +kernel
theorem zd_X10_restore_82 : decode cX10_restore 82 = .ok (.if_icmp .ge 21, 3) := by decide +kernel
theorem zd_X10_restore_85 : decode cX10_restore 85 = .ok (.aload_n 0, 1) := by decide +kernel
theorem zd_X10_restore_86 : decode cX10_restore 86 = .ok (.getfield 16, 3) := by decide +kernel
theorem zd_X10_restore_89 : decode cX10_restore 89 = .ok (.iload_n 1, 1) := by decide +kernel
theorem zd_X10_restore_90 : decode cX10_restore 90 = .ok (.aload_n 0, 1) := by decide +kernel
theorem zd_X10_restore_91 : decode cX10_restore 91 = .ok (.getfield 50, 3) := by decide +kernel
theorem zd_X10_restore_94 : decode cX10_restore 94 = .ok (.iload_n 1, 1) := by decide +kernel
theorem zd_X10_restore_95 : decode cX10_restore 95 = .ok (.laload, 1) := by decide +kernel
theorem zd_X10_restore_96 : decode cX10_restore 96 = .ok (.lastore, 1) := by decide +kernel
theorem zd_X10_restore_97 : decode cX10_restore 97 = .ok (.iinc 1 1, 3) := by decide +kernel
theorem zd_X10_restore_100 : decode cX10_restore 100 = .ok (.goto (-22), 3) := by decide +kernel
theorem zd_X10_restore_103 : decode cX10_restore 103 = .ok (.iconst 0, 1) := by decide +kernel
theorem zd_X10_restore_104 : decode cX10_restore 104 = .ok (.istore_n 1, 1) := by decide +kernel
theorem zd_X10_restore_105 : decode cX10_restore 105 = .ok (.iload_n 1, 1) := by decide +kernel
theorem zd_X10_restore_106 : decode cX10_restore 106 = .ok (.bipush 112, 2) := by decide +kernel
theorem zd_X10_restore_108 : decode cX10_restore 108 = .ok (.if_icmp .ge 21, 3) := by decide +kernel
theorem zd_X10_restore_111 : decode cX10_restore 111 = .ok (.aload_n 0, 1) := by decide +kernel
theorem zd_X10_restore_112 : decode cX10_restore 112 = .ok (.getfield 23, 3) := by decide +kernel
theorem zd_X10_restore_115 : decode cX10_restore 115 = .ok (.iload_n 1, 1) := by decide +kernel
theorem zd_X10_restore_116 : decode cX10_restore 116 = .ok (.aload_n 0, 1) := by decide +kernel
theorem zd_X10_restore_117 : decode cX10_restore 117 = .ok (.getfield 53, 3) := by decide +kernel
theorem zd_X10_restore_120 : decode cX10_restore 120 = .ok (.iload_n 1, 1) := by decide +kernel
theorem zd_X10_restore_121 : decode cX10_restore 121 = .ok (.iaload, 1) := by decide +kernel
theorem zd_X10_restore_122 : decode cX10_restore 122 = .ok (.iastore, 1) := by decide +kernel
theorem zd_X10_restore_123 : decode cX10_restore 123 = .ok (.iinc 1 1, 3) := by decide +kernel
theorem zd_X10_restore_126 : decode cX10_restore 126 = .ok (.goto (-21), 3) := by decide +kernel
theorem zd_X10_restore_129 : decode cX10_restore 129 = .ok (.iconst 0, 1) := by decide +kernel
theorem zd_X10_restore_130 : decode cX10_restore 130 = .ok (.istore_n 1, 1) := by decide +kernel
theorem zd_X10_restore_131 : decode cX10_restore 131 = .ok (.iload_n 1, 1) := by decide +kernel
theorem zd_X10_restore_132 : decode cX10_restore 132 = .ok (.iconst 3, 1) := by decide +kernel
theorem zd_X10_restore_133 : decode cX10_restore 133 = .ok (.if_icmp .ge 21, 3) := by decide +kernel
theorem zd_X10_restore_136 : decode cX10_restore 136 = .ok (.aload_n 0, 1) := by decide +kernel
theorem zd_X10_restore_137 : decode cX10_restore 137 = .ok (.getfield 26, 3) := by decide +kernel
theorem zd_X10_restore_140 : decode cX10_restore 140 = .ok (.iload_n 1, 1) := by decide +kernel
theorem zd_X10_restore_141 : decode cX10_restore 141 = .ok (.aload_n 0, 1) := by decide +kernel
theorem zd_X10_restore_142 : decode cX10_restore 142 = .ok (.getfield 56, 3) := by decide +kernel
theorem zd_X10_restore_145 : decode cX10_restore 145 = .ok (.iload_n 1, 1) := by decide +kernel
theorem zd_X10_restore_146 : decode cX10_restore 146 = .ok (.iaload, 1) := by decide +kernel
theorem zd_X10_restore_147 : decode cX10_restore 147 = .ok (.iastore, 1) := by decide +kernel
theorem zd_X10_restore_148 : decode cX10_restore 148 = .ok (.iinc 1 1, 3) := by decide +kernel
theorem zd_X10_restore_151 : decode cX10_restore 151 = .ok (.goto (-20), 3) := by decide +kernel
theorem zd_X10_restore_154 : decode cX10_restore 154 = .ok (.iconst 0, 1) := by decide +kernel
theorem zd_X10_restore_155 : decode cX10_restore 155 = .ok (.istore_n 1, 1) := by decide +kernel
theorem zd_X10_restore_156 : decode cX10_restore 156 = .ok (.iload_n 1, 1) := by decide +kernel
theorem zd_X10_restore_157 : decode cX10_restore 157 = .ok (.aload_n 0, 1) := by decide +kernel
theorem zd_X10_restore_158 : decode cX10_restore 158 = .ok (.getfield 86, 3) := by decide +kernel
theorem zd_X10_restore_161 : decode cX10_restore 161 = .ok (.if_icmp .ge 14, 3) := by decide +kernel
theorem zd_X10_restore_164 : decode cX10_restore 164 = .ok (.aload_n 0, 1) := by decide +kernel
theorem zd_X10_restore_165 : decode cX10_restore 165 = .ok (.iload_n 1, 1) := by decide +kernel
theorem zd_X10_restore_166 : decode cX10_restore 166 = .ok (.invokevirtual 120, 3) := by decide +kernel
theorem zd_X10_restore_169 : decode cX10_restore 169 = .ok (.iinc 1 1, 3) := by decide +kernel
theorem zd_X10_restore_172 : decode cX10_restore 172 = .ok (.goto (-16), 3) := by decide +kernel
theorem zd_X10_restore_175 : decode cX10_restore 175 = .ok (.iconst 0, 1) := by decide +kernel
theorem zd_X10_restore_176 : decode cX10_restore 176 = .ok (.istore_n 1, 1) := by decide +kernel
theorem zd_X10_restore_177 : decode cX10_restore 177 = .ok (.iload_n 1, 1) := by decide +kernel
theorem zd_X10_restore_178 : decode cX10_restore 178 = .ok (.bipush 8, 2) := by decide +kernel
theorem zd_X10_restore_180 : decode cX10_restore 180 = .ok (.if_icmp .ge 37, 3) := by decide +kernel
theorem zd_X10_restore_183 : decode cX10_restore 183 = .ok (.aload_n 0, 1) := by decide +kernel
theorem zd_X10_restore_184 : decode cX10_restore 184 = .ok (.iload_n 1, 1) := by decide +kernel
theorem zd_X10_restore_185 : decode cX10_restore 185 = .ok (.invokevirtual 96, 3) := by decide +kernel
theorem zd_X10_restore_188 : decode cX10_restore 188 = .ok (.ifCond .ne 23, 3) := by decide +kernel
theorem zd_X10_restore_191 : decode cX10_restore 191 = .ok (.aload_n 0, 1) := by decide +kernel
theorem zd_X10_restore_192 : decode cX10_restore 192 = .ok (.getfield 29, 3) := by decide +kernel
theorem zd_X10_restore_195 : decode cX10_restore 195 = .ok (.iload_n 1, 1) := by decide +kernel
theorem zd_X10_restore_196 : decode cX10_restore 196 = .ok (.iaload, 1) := by decide +kernel
theorem zd_X10_restore_197 : decode cX10_restore 197 = .ok (.aload_n 0, 1) := by decide +kernel
theorem zd_X10_restore_198 : decode cX10_restore 198 = .ok (.getfield 93, 3) := by decide +kernel
theorem zd_X10_restore_201 : decode cX10_restore 201 = .ok (.if_icmp .lt 10, 3) := by decide +kernel
theorem zd_X10_restore_204 : decode cX10_restore 204 = .ok (.aload_n 0, 1) := by decide +kernel
theorem zd_X10_restore_205 : decode cX10_restore 205 = .ok (.getfield 29, 3) := by decide +kernel
theorem zd_X10_restore_208 : decode cX10_restore 208 = .ok (.iload_n 1, 1) := by decide +kernel
theorem zd_X10_restore_209 : decode cX10_restore 209 = .ok (.iconst (-1), 1) := by decide +kernel
theorem zd_X10_restore_210 : decode cX10_restore 210 = .ok (.iastore, 1) := by decide +kernel
theorem zd_X10_restore_211 : decode cX10_restore 211 = .ok (.iinc 1 1, 3) := by decide +kernel
theorem zd_X10_restore_214 : decode cX10_restore 214 = .ok (.goto (-37), 3) := by decide +kernel
theorem zd_X10_restore_217 : decode cX10_restore 217 = .ok (.aload_n 0, 1) := by decide +kernel
theorem zd_X10_restore_218 : decode cX10_restore 218 = .ok (.getfield 93, 3) := by decide +kernel
theorem zd_X10_restore_221 : decode cX10_restore 221 = .ok (.ireturn, 1) := by decide +kernel
theorem zd_X10_settled_0 : decode cX10_settled 0 = .ok (.iconst 0, 1) := by decide +kernel
theorem zd_X10_settled_1 : decode cX10_settled 1 = .ok (.istore_n 1, 1) := by decide +kernel
theorem zd_X10_settled_2 : decode cX10_settled 2 = .ok (.iconst 0, 1) := by decide +kernel
theorem zd_X10_settled_3 : decode cX10_settled 3 = .ok (.istore_n 2, 1) := by decide +kernel
theorem zd_X10_settled_4 : decode cX10_settled 4 = .ok (.iload_n 2, 1) := by decide +kernel
theorem zd_X10_settled_5 : decode cX10_settled 5 = .ok (.aload_n 0, 1) := by decide +kernel
theorem zd_X10_settled_6 : decode cX10_settled 6 = .ok (.getfield 93, 3) := by decide +kernel
theorem zd_X10_settled_9 : decode cX10_settled 9 = .ok (.if_icmp .ge 19, 3) := by decide +kernel
theorem zd_X10_settled_12 : decode cX10_settled 12 = .ok (.iload_n 1, 1) := by decide +kernel
theorem zd_X10_settled_13 : decode cX10_settled 13 = .ok (.aload_n 0, 1) := by decide +kernel
theorem zd_X10_settled_14 : decode cX10_settled 14 = .ok (.bipush 6, 2) := by decide +kernel
theorem zd_X10_settled_16 : decode cX10_settled 16 = .ok (.iload_n 2, 1) := by decide +kernel
theorem zd_X10_settled_17 : decode cX10_settled 17 = .ok (.invokevirtual 109, 3) := by decide +kernel
theorem zd_X10_settled_20 : decode cX10_settled 20 = .ok (.iadd, 1) := by decide +kernel
theorem zd_X10_settled_21 : decode cX10_settled 21 = .ok (.istore_n 1, 1) := by decide +kernel
theorem zd_X10_settled_22 : decode cX10_settled 22 = .ok (.iinc 2 1, 3) := by decide +kernel
theorem zd_X10_settled_25 : decode cX10_settled 25 = .ok (.goto (-21), 3) := by decide +kernel
theorem zd_X10_settled_28 : decode cX10_settled 28 = .ok (.iload_n 1, 1) := by decide +kernel
theorem zd_X10_settled_29 : decode cX10_settled 29 = .ok (.ireturn, 1) := by decide +kernel
theorem zd_X10_openOnes_0 : decode cX10_openOnes 0 = .ok (.iconst 0, 1) := by decide +kernel
theorem zd_X10_openOnes_1 : decode cX10_openOnes 1 = .ok (.istore_n 1, 1) := by decide +kernel
theorem zd_X10_openOnes_2 : decode cX10_openOnes 2 = .ok (.iconst 0, 1) := by decide +kernel
theorem zd_X10_openOnes_3 : decode cX10_openOnes 3 = .ok (.istore_n 2, 1) := by decide +kernel
theorem zd_X10_openOnes_4 : decode cX10_openOnes 4 = .ok (.iload_n 2, 1) := by decide +kernel
theorem zd_X10_openOnes_5 : decode cX10_openOnes 5 = .ok (.aload_n 0, 1) := by decide +kernel
theorem zd_X10_openOnes_6 : decode cX10_openOnes 6 = .ok (.getfield 93, 3) := by decide +kernel
theorem zd_X10_openOnes_9 : decode cX10_openOnes 9 = .ok (.if_icmp .ge 30, 3) := by decide +kernel
theorem zd_X10_openOnes_12 : decode cX10_openOnes 12 = .ok (.aload_n 0, 1) := by decide +kernel
theorem zd_X10_openOnes_13 : decode cX10_openOnes 13 = .ok (.iconst 5, 1) := by decide +kernel
theorem zd_X10_openOnes_14 : decode cX10_openOnes 14 = .ok (.iload_n 2, 1) := by decide +kernel
theorem zd_X10_openOnes_15 : decode cX10_openOnes 15 = .ok (.invokevirtual 109, 3) := by decide +kernel
theorem zd_X10_openOnes_18 : decode cX10_openOnes 18 = .ok (.iconst (-1), 1) := by decide +kernel
theorem zd_X10_openOnes_19 : decode cX10_openOnes 19 = .ok (.if_icmp .ne 14, 3) := by decide +kernel
theorem zd_X10_openOnes_22 : decode cX10_openOnes 22 = .ok (.aload_n 0, 1) := by decide +kernel
theorem zd_X10_openOnes_23 : decode cX10_openOnes 23 = .ok (.iload_n 2, 1) := by decide +kernel
theorem zd_X10_openOnes_24 : decode cX10_openOnes 24 = .ok (.invokevirtual 188, 3) := by decide +kernel
theorem zd_X10_openOnes_27 : decode cX10_openOnes 27 = .ok (.ifCond .eq 6, 3) := by decide +kernel
theorem zd_X10_openOnes_30 : decode cX10_openOnes 30 = .ok (.iinc 1 1, 3) := by decide +kernel
theorem zd_X10_openOnes_33 : decode cX10_openOnes 33 = .ok (.iinc 2 1, 3) := by decide +kernel
theorem zd_X10_openOnes_36 : decode cX10_openOnes 36 = .ok (.goto (-32), 3) := by decide +kernel
theorem zd_X10_openOnes_39 : decode cX10_openOnes 39 = .ok (.iload_n 1, 1) := by decide +kernel
theorem zd_X10_openOnes_40 : decode cX10_openOnes 40 = .ok (.ireturn, 1) := by decide +kernel
theorem zd_X10_status_0 : decode cX10_status 0 = .ok (.iload_n 1, 1) := by decide +kernel
theorem zd_X10_status_1 : decode cX10_status 1 = .ok (.bipush 11, 2) := by decide +kernel
theorem zd_X10_status_3 : decode cX10_status 3 = .ok (.bipush 17, 2) := by decide +kernel
theorem zd_X10_status_5 : decode cX10_status 5 = .ok (.invokestatic 89, 3) := by decide +kernel
theorem zd_X10_status_8 : decode cX10_status 8 = .ok (.ifCond .eq 13, 3) := by decide +kernel
theorem zd_X10_status_11 : decode cX10_status 11 = .ok (.aload_n 0, 1) := by decide +kernel
theorem zd_X10_status_12 : decode cX10_status 12 = .ok (.getfield 41, 3) := by decide +kernel
theorem zd_X10_status_15 : decode cX10_status 15 = .ok (.iload_n 1, 1) := by decide +kernel
theorem zd_X10_status_16 : decode cX10_status 16 = .ok (.bipush 10, 2) := by decide +kernel
theorem zd_X10_status_18 : decode cX10_status 18 = .ok (.isub, 1) := by decide +kernel
theorem zd_X10_status_19 : decode cX10_status 19 = .ok (.iaload, 1) := by decide +kernel
theorem zd_X10_status_20 : decode cX10_status 20 = .ok (.ireturn, 1) := by decide +kernel
theorem zd_X10_status_21 : decode cX10_status 21 = .ok (.iload_n 1, 1) := by decide +kernel
theorem zd_X10_status_22 : decode cX10_status 22 = .ok (.tableswitch 128 0 9 #[54, 59, 64, 69, 74, 81, 88, 95, 100, 123], 54) := by decide +kernel
theorem zd_X10_status_76 : decode cX10_status 76 = .ok (.aload_n 0, 1) := by decide +kernel
theorem zd_X10_status_77 : decode cX10_status 77 = .ok (.getfield 86, 3) := by decide +kernel
theorem zd_X10_status_80 : decode cX10_status 80 = .ok (.ireturn, 1) := by decide +kernel
theorem zd_X10_status_81 : decode cX10_status 81 = .ok (.aload_n 0, 1) := by decide +kernel
theorem zd_X10_status_82 : decode cX10_status 82 = .ok (.getfield 93, 3) := by decide +kernel
theorem zd_X10_status_85 : decode cX10_status 85 = .ok (.ireturn, 1) := by decide +kernel
theorem zd_X10_status_86 : decode cX10_status 86 = .ok (.aload_n 0, 1) := by decide +kernel
theorem zd_X10_status_87 : decode cX10_status 87 = .ok (.invokevirtual 294, 3) := by decide +kernel
theorem zd_X10_status_90 : decode cX10_status 90 = .ok (.ireturn, 1) := by decide +kernel
theorem zd_X10_status_91 : decode cX10_status 91 = .ok (.aload_n 0, 1) := by decide +kernel
theorem zd_X10_status_92 : decode cX10_status 92 = .ok (.invokevirtual 298, 3) := by decide +kernel
theorem zd_X10_status_95 : decode cX10_status 95 = .ok (.ireturn, 1) := by decide +kernel
theorem zd_X10_status_96 : decode cX10_status 96 = .ok (.aload_n 0, 1) := by decide +kernel
theorem zd_X10_status_97 : decode cX10_status 97 = .ok (.getfield 26, 3) := by decide +kernel
theorem zd_X10_status_100 : decode cX10_status 100 = .ok (.iconst 0, 1) := by decide +kernel
theorem zd_X10_status_101 : decode cX10_status 101 = .ok (.iaload, 1) := by decide +kernel
theorem zd_X10_status_102 : decode cX10_status 102 = .ok (.ireturn, 1) := by decide +kernel
theorem zd_X10_status_103 : decode cX10_status 103 = .ok (.aload_n 0, 1) := by decide +kernel
theorem zd_X10_status_104 : decode cX10_status 104 = .ok (.getfield 26, 3) := by decide +kernel
theorem zd_X10_status_107 : decode cX10_status 107 = .ok (.iconst 1, 1) := by decide +kernel
theorem zd_X10_status_108 : decode cX10_status 108 = .ok (.iaload, 1) := by decide +kernel
theorem zd_X10_status_109 : decode cX10_status 109 = .ok (.ireturn, 1) := by decide +kernel
theorem zd_X10_status_110 : decode cX10_status 110 = .ok (.aload_n 0, 1) := by decide +kernel
theorem zd_X10_status_111 : decode cX10_status 111 = .ok (.getfield 26, 3) := by decide +kernel
theorem zd_X10_status_114 : decode cX10_status 114 = .ok (.iconst 2, 1) := by decide +kernel
theorem zd_X10_status_115 : decode cX10_status 115 = .ok (.iaload, 1) := by decide +kernel
theorem zd_X10_status_116 : decode cX10_status 116 = .ok (.ireturn, 1) := by decide +kernel
theorem zd_X10_status_117 : decode cX10_status 117 = .ok (.aload_n 0, 1) := by decide +kernel
theorem zd_X10_status_118 : decode cX10_status 118 = .ok (.getfield 75, 3) := by decide +kernel
theorem zd_X10_status_121 : decode cX10_status 121 = .ok (.ireturn, 1) := by decide +kernel
theorem zd_X10_status_122 : decode cX10_status 122 = .ok (.aload_n 0, 1) := by decide +kernel
theorem zd_X10_status_123 : decode cX10_status 123 = .ok (.getfield 86, 3) := by decide +kernel
theorem zd_X10_status_126 : decode cX10_status 126 = .ok (.ifCond .ne 7, 3) := by decide +kernel
theorem zd_X10_status_129 : decode cX10_status 129 = .ok (.iconst 0, 1) := by decide +kernel
theorem zd_X10_status_130 : decode cX10_status 130 = .ok (.goto 14, 3) := by decide +kernel
theorem zd_X10_status_133 : decode cX10_status 133 = .ok (.aload_n 0, 1) := by decide +kernel
theorem zd_X10_status_134 : decode cX10_status 134 = .ok (.getfield 13, 3) := by decide +kernel
theorem zd_X10_status_137 : decode cX10_status 137 = .ok (.aload_n 0, 1) := by decide +kernel
theorem zd_X10_status_138 : decode cX10_status 138 = .ok (.getfield 86, 3) := by decide +kernel
theorem zd_X10_status_141 : decode cX10_status 141 = .ok (.iconst 1, 1) := by decide +kernel
theorem zd_X10_status_142 : decode cX10_status 142 = .ok (.isub, 1) := by decide +kernel
theorem zd_X10_status_143 : decode cX10_status 143 = .ok (.iaload, 1) := by decide +kernel
theorem zd_X10_status_144 : decode cX10_status 144 = .ok (.ireturn, 1) := by decide +kernel
theorem zd_X10_status_145 : decode cX10_status 145 = .ok (.aload_n 0, 1) := by decide +kernel
theorem zd_X10_status_146 : decode cX10_status 146 = .ok (.getfield 266, 3) := by decide +kernel
theorem zd_X10_status_149 : decode cX10_status 149 = .ok (.ireturn, 1) := by decide +kernel
theorem zd_X10_status_150 : decode cX10_status 150 = .ok (.iconst (-1), 1) := by decide +kernel
theorem zd_X10_status_151 : decode cX10_status 151 = .ok (.ireturn, 1) := by decide +kernel
theorem zd_X0_init_0 : decode cX0_init 0 = .ok (.aload_n 0, 1) := by decide +kernel
theorem zd_X0_init_1 : decode cX0_init 1 = .ok (.invokespecial 3, 3) := by decide +kernel
theorem zd_X0_init_4 : decode cX0_init 4 = .ok (.aload_n 0, 1) := by decide +kernel
theorem zd_X0_init_5 : decode cX0_init 5 = .ok (.bipush 24, 2) := by decide +kernel
theorem zd_X0_init_7 : decode cX0_init 7 = .ok (.newarray .long, 2) := by decide +kernel
theorem zd_X0_init_9 : decode cX0_init 9 = .ok (.putfield 9, 3) := by decide +kernel
theorem zd_X0_init_12 : decode cX0_init 12 = .ok (.return_, 1) := by decide +kernel
theorem zd_X4_count_0 : decode cX4_count 0 = .ok (.aload_n 0, 1) := by decide +kernel
theorem zd_X4_count_1 : decode cX4_count 1 = .ok (.getfield 19, 3) := by decide +kernel
theorem zd_X4_count_4 : decode cX4_count 4 = .ok (.arraylength, 1) := by decide +kernel
theorem zd_X4_count_5 : decode cX4_count 5 = .ok (.ireturn, 1) := by decide +kernel
theorem zd_X4_lineAt_0 : decode cX4_lineAt 0 = .ok (.iload_n 1, 1) := by decide +kernel
theorem zd_X4_lineAt_1 : decode cX4_lineAt 1 = .ok (.ifCond .lt 21, 3) := by decide +kernel
theorem zd_X4_lineAt_4 : decode cX4_lineAt 4 = .ok (.iload_n 1, 1) := by decide +kernel
theorem zd_X4_lineAt_5 : decode cX4_lineAt 5 = .ok (.aload_n 0, 1) := by decide +kernel
theorem zd_X4_lineAt_6 : decode cX4_lineAt 6 = .ok (.getfield 19, 3) := by decide +kernel
theorem zd_X4_lineAt_9 : decode cX4_lineAt 9 = .ok (.arraylength, 1) := by decide +kernel
theorem zd_X4_lineAt_10 : decode cX4_lineAt 10 = .ok (.if_icmp .ge 12, 3) := by decide +kernel
theorem zd_X4_lineAt_13 : decode cX4_lineAt 13 = .ok (.aload_n 0, 1) := by decide +kernel
theorem zd_X4_lineAt_14 : decode cX4_lineAt 14 = .ok (.getfield 19, 3) := by decide +kernel
theorem zd_X4_lineAt_17 : decode cX4_lineAt 17 = .ok (.iload_n 1, 1) := by decide +kernel
theorem zd_X4_lineAt_18 : decode cX4_lineAt 18 = .ok (.laload, 1) := by decide +kernel
theorem zd_X4_lineAt_19 : decode cX4_lineAt 19 = .ok (.goto 4, 3) := by decide +kernel
theorem zd_X4_lineAt_22 : decode cX4_lineAt 22 = .ok (.lconst 0, 1) := by decide +kernel
theorem zd_X4_lineAt_23 : decode cX4_lineAt 23 = .ok (.lreturn, 1) := by decide +kernel
theorem zd_X0_insert_0 : decode cX0_insert 0 = .ok (.aload_n 0, 1) := by decide +kernel
theorem zd_X0_insert_1 : decode cX0_insert 1 = .ok (.getfield 15, 3) := by decide +kernel
theorem zd_X0_insert_4 : decode cX0_insert 4 = .ok (.aload_n 0, 1) := by decide +kernel
theorem zd_X0_insert_5 : decode cX0_insert 5 = .ok (.getfield 9, 3) := by decide +kernel
theorem zd_X0_insert_8 : decode cX0_insert 8 = .ok (.arraylength, 1) := by decide +kernel
theorem zd_X0_insert_9 : decode cX0_insert 9 = .ok (.if_icmp .ge 15, 3) := by decide +kernel
theorem zd_X0_insert_12 : decode cX0_insert 12 = .ok (.iload_n 1, 1) := by decide +kernel
theorem zd_X0_insert_13 : decode cX0_insert 13 = .ok (.ifCond .lt 11, 3) := by decide +kernel
theorem zd_X0_insert_16 : decode cX0_insert 16 = .ok (.iload_n 1, 1) := by decide +kernel
theorem zd_X0_insert_17 : decode cX0_insert 17 = .ok (.aload_n 0, 1) := by decide +kernel
theorem zd_X0_insert_18 : decode cX0_insert 18 = .ok (.getfield 15, 3) := by decide +kernel
theorem zd_X0_insert_21 : decode cX0_insert 21 = .ok (.if_icmp .le 4, 3) := by decide +kernel
theorem zd_X0_insert_24 : decode cX0_insert 24 = .ok (.return_, 1) := by decide +kernel
theorem zd_X0_insert_25 : decode cX0_insert 25 = .ok (.aload_n 0, 1) := by decide +kernel
theorem zd_X0_insert_26 : decode cX0_insert 26 = .ok (.getfield 15, 3) := by decide +kernel
theorem zd_X0_insert_29 : decode cX0_insert 29 = .ok (.istore 4, 2) := by decide +kernel
theorem zd_X0_insert_31 : decode cX0_insert 31 = .ok (.iload 4, 2) := by decide +kernel
theorem zd_X0_insert_33 : decode cX0_insert 33 = .ok (.iload_n 1, 1) := by decide +kernel
theorem zd_X0_insert_34 : decode cX0_insert 34 = .ok (.if_icmp .le 25, 3) := by decide +kernel
theorem zd_X0_insert_37 : decode cX0_insert 37 = .ok (.aload_n 0, 1) := by decide +kernel
theorem zd_X0_insert_38 : decode cX0_insert 38 = .ok (.getfield 9, 3) := by decide +kernel
theorem zd_X0_insert_41 : decode cX0_insert 41 = .ok (.iload 4, 2) := by decide +kernel
theorem zd_X0_insert_43 : decode cX0_insert 43 = .ok (.aload_n 0, 1) := by decide +kernel
theorem zd_X0_insert_44 : decode cX0_insert 44 = .ok (.getfield 9, 3) := by decide +kernel
theorem zd_X0_insert_47 : decode cX0_insert 47 = .ok (.iload 4, 2) := by decide +kernel
theorem zd_X0_insert_49 : decode cX0_insert 49 = .ok (.iconst 1, 1) := by decide +kernel
theorem zd_X0_insert_50 : decode cX0_insert 50 = .ok (.isub, 1) := by decide +kernel
theorem zd_X0_insert_51 : decode cX0_insert 51 = .ok (.laload, 1) := by decide +kernel
theorem zd_X0_insert_52 : decode cX0_insert 52 = .ok (.lastore, 1) := by decide +kernel
theorem zd_X0_insert_53 : decode cX0_insert 53 = .ok (.iinc 4 (-1), 3) := by decide +kernel
theorem zd_X0_insert_56 : decode cX0_insert 56 = .ok (.goto (-25), 3) := by decide +kernel
theorem zd_X0_insert_59 : decode cX0_insert 59 = .ok (.aload_n 0, 1) := by decide +kernel
theorem zd_X0_insert_60 : decode cX0_insert 60 = .ok (.getfield 9, 3) := by decide +kernel
theorem zd_X0_insert_63 : decode cX0_insert 63 = .ok (.iload_n 1, 1) := by decide +kernel
theorem zd_X0_insert_64 : decode cX0_insert 64 = .ok (.lload_n 2, 1) := by decide +kernel
theorem zd_X0_insert_65 : decode cX0_insert 65 = .ok (.lastore, 1) := by decide +kernel
theorem zd_X0_insert_66 : decode cX0_insert 66 = .ok (.aload_n 0, 1) := by decide +kernel
theorem zd_X0_insert_67 : decode cX0_insert 67 = .ok (.dup, 1) := by decide +kernel
theorem zd_X0_insert_68 : decode cX0_insert 68 = .ok (.getfield 15, 3) := by decide +kernel
theorem zd_X0_insert_71 : decode cX0_insert 71 = .ok (.iconst 1, 1) := by decide +kernel
theorem zd_X0_insert_72 : decode cX0_insert 72 = .ok (.iadd, 1) := by decide +kernel
theorem zd_X0_insert_73 : decode cX0_insert 73 = .ok (.putfield 15, 3) := by decide +kernel
theorem zd_X0_insert_76 : decode cX0_insert 76 = .ok (.return_, 1) := by decide +kernel
theorem zd_X0_startFrom_0 : decode cX0_startFrom 0 = .ok (.aload_n 0, 1) := by decide +kernel
theorem zd_X0_startFrom_1 : decode cX0_startFrom 1 = .ok (.iconst 0, 1) := by decide +kernel
theorem zd_X0_startFrom_2 : decode cX0_startFrom 2 = .ok (.putfield 15, 3) := by decide +kernel
theorem zd_X0_startFrom_5 : decode cX0_startFrom 5 = .ok (.iconst 0, 1) := by decide +kernel
theorem zd_X0_startFrom_6 : decode cX0_startFrom 6 = .ok (.istore_n 2, 1) := by decide +kernel
theorem zd_X0_startFrom_7 : decode cX0_startFrom 7 = .ok (.iload_n 2, 1) := by decide +kernel
theorem zd_X0_startFrom_8 : decode cX0_startFrom 8 = .ok (.aload_n 1, 1) := by decide +kernel
theorem zd_X0_startFrom_9 : decode cX0_startFrom 9 = .ok (.invokevirtual 19, 3) := by decide +kernel
theorem zd_X0_startFrom_12 : decode cX0_startFrom 12 = .ok (.if_icmp .ge 22, 3) := by decide +kernel
theorem zd_X0_startFrom_15 : decode cX0_startFrom 15 = .ok (.aload_n 0, 1) := by decide +kernel
theorem zd_X0_startFrom_16 : decode cX0_startFrom 16 = .ok (.aload_n 0, 1) := by decide +kernel
theorem zd_X0_startFrom_17 : decode cX0_startFrom 17 = .ok (.getfield 15, 3) := by decide +kernel
theorem zd_X0_startFrom_20 : decode cX0_startFrom 20 = .ok (.aload_n 1, 1) := by decide +kernel
theorem zd_X0_startFrom_21 : decode cX0_startFrom 21 = .ok (.iload_n 2, 1) := by decide +kernel
theorem zd_X0_startFrom_22 : decode cX0_startFrom 22 = .ok (.invokevirtual 25, 3) := by decide +kernel
theorem zd_X0_startFrom_25 : decode cX0_startFrom 25 = .ok (.invokevirtual 29, 3) := by decide +kernel
theorem zd_X0_startFrom_28 : decode cX0_startFrom 28 = .ok (.iinc 2 1, 3) := by decide +kernel
theorem zd_X0_startFrom_31 : decode cX0_startFrom 31 = .ok (.goto (-24), 3) := by decide +kernel
theorem zd_X0_startFrom_34 : decode cX0_startFrom 34 = .ok (.return_, 1) := by decide +kernel
theorem zd_X0_remove_0 : decode cX0_remove 0 = .ok (.iload_n 1, 1) := by decide +kernel
theorem zd_X0_remove_1 : decode cX0_remove 1 = .ok (.ifCond .lt 23, 3) := by decide +kernel
theorem zd_X0_remove_4 : decode cX0_remove 4 = .ok (.iload_n 1, 1) := by decide +kernel
theorem zd_X0_remove_5 : decode cX0_remove 5 = .ok (.aload_n 0, 1) := by decide +kernel
theorem zd_X0_remove_6 : decode cX0_remove 6 = .ok (.getfield 15, 3) := by decide +kernel
theorem zd_X0_remove_9 : decode cX0_remove 9 = .ok (.if_icmp .ge 15, 3) := by decide +kernel
theorem zd_X0_remove_12 : decode cX0_remove 12 = .ok (.aload_n 0, 1) := by decide +kernel
theorem zd_X0_remove_13 : decode cX0_remove 13 = .ok (.getfield 15, 3) := by decide +kernel
theorem zd_X0_remove_16 : decode cX0_remove 16 = .ok (.aload_n 0, 1) := by decide +kernel
theorem zd_X0_remove_17 : decode cX0_remove 17 = .ok (.getfield 9, 3) := by decide +kernel
theorem zd_X0_remove_20 : decode cX0_remove 20 = .ok (.arraylength, 1) := by decide +kernel
theorem zd_X0_remove_21 : decode cX0_remove 21 = .ok (.if_icmp .le 5, 3) := by decide +kernel
theorem zd_X0_remove_24 : decode cX0_remove 24 = .ok (.lconst 0, 1) := by decide +kernel
theorem zd_X0_remove_25 : decode cX0_remove 25 = .ok (.lreturn, 1) := by decide +kernel
theorem zd_X0_remove_26 : decode cX0_remove 26 = .ok (.aload_n 0, 1) := by decide +kernel
theorem zd_X0_remove_27 : decode cX0_remove 27 = .ok (.getfield 9, 3) := by decide +kernel
theorem zd_X0_remove_30 : decode cX0_remove 30 = .ok (.iload_n 1, 1) := by decide +kernel
theorem zd_X0_remove_31 : decode cX0_remove 31 = .ok (.laload, 1) := by decide +kernel
theorem zd_X0_remove_32 : decode cX0_remove 32 = .ok (.lstore_n 2, 1) := by decide +kernel
theorem zd_X0_remove_33 : decode cX0_remove 33 = .ok (.aload_n 0, 1) := by decide +kernel
theorem zd_X0_remove_34 : decode cX0_remove 34 = .ok (.dup, 1) := by decide +kernel
theorem zd_X0_remove_35 : decode cX0_remove 35 = .ok (.getfield 15, 3) := by decide +kernel
theorem zd_X0_remove_38 : decode cX0_remove 38 = .ok (.iconst 1, 1) := by decide +kernel
theorem zd_X0_remove_39 : decode cX0_remove 39 = .ok (.isub, 1) := by decide +kernel
theorem zd_X0_remove_40 : decode cX0_remove 40 = .ok (.putfield 15, 3) := by decide +kernel
theorem zd_X0_remove_43 : decode cX0_remove 43 = .ok (.iload_n 1, 1) := by decide +kernel
theorem zd_X0_remove_44 : decode cX0_remove 44 = .ok (.istore 4, 2) := by decide +kernel
theorem zd_X0_remove_46 : decode cX0_remove 46 = .ok (.iload 4, 2) := by decide +kernel
theorem zd_X0_remove_48 : decode cX0_remove 48 = .ok (.aload_n 0, 1) := by decide +kernel
theorem zd_X0_remove_49 : decode cX0_remove 49 = .ok (.getfield 15, 3) := by decide +kernel
theorem zd_X0_remove_52 : decode cX0_remove 52 = .ok (.if_icmp .ge 25, 3) := by decide +kernel
theorem zd_X0_remove_55 : decode cX0_remove 55 = .ok (.aload_n 0, 1) := by decide +kernel
theorem zd_X0_remove_56 : decode cX0_remove 56 = .ok (.getfield 9, 3) := by decide +kernel
theorem zd_X0_remove_59 : decode cX0_remove 59 = .ok (.iload 4, 2) := by decide +kernel
theorem zd_X0_remove_61 : decode cX0_remove 61 = .ok (.aload_n 0, 1) := by decide +kernel
theorem zd_X0_remove_62 : decode cX0_remove 62 = .ok (.getfield 9, 3) := by decide +kernel
theorem zd_X0_remove_65 : decode cX0_remove 65 = .ok (.iload 4, 2) := by decide +kernel
theorem zd_X0_remove_67 : decode cX0_remove 67 = .ok (.iconst 1, 1) := by decide +kernel
theorem zd_X0_remove_68 : decode cX0_remove 68 = .ok (.iadd, 1) := by decide +kernel
theorem zd_X0_remove_69 : decode cX0_remove 69 = .ok (.laload, 1) := by decide +kernel
theorem zd_X0_remove_70 : decode cX0_remove 70 = .ok (.lastore, 1) := by decide +kernel
theorem zd_X0_remove_71 : decode cX0_remove 71 = .ok (.iinc 4 1, 3) := by decide +kernel
theorem zd_X0_remove_74 : decode cX0_remove 74 = .ok (.goto (-28), 3) := by decide +kernel
theorem zd_X0_remove_77 : decode cX0_remove 77 = .ok (.lload_n 2, 1) := by decide +kernel
theorem zd_X0_remove_78 : decode cX0_remove 78 = .ok (.lreturn, 1) := by decide +kernel
theorem zd_X5_hasRow_0 : decode cX5_hasRow 0 = .ok (.aload_n 0, 1) := by decide +kernel
theorem zd_X5_hasRow_1 : decode cX5_hasRow 1 = .ok (.getfield 9, 3) := by decide +kernel
theorem zd_X5_hasRow_4 : decode cX5_hasRow 4 = .ok (.bipush 100, 2) := by decide +kernel
theorem zd_X5_hasRow_6 : decode cX5_hasRow 6 = .ok (.if_icmp .lt 7, 3) := by decide +kernel
theorem zd_X5_hasRow_9 : decode cX5_hasRow 9 = .ok (.iconst 1, 1) := by decide +kernel
theorem zd_X5_hasRow_10 : decode cX5_hasRow 10 = .ok (.goto 4, 3) := by decide +kernel
theorem zd_X5_hasRow_13 : decode cX5_hasRow 13 = .ok (.iconst 0, 1) := by decide +kernel
theorem zd_X5_hasRow_14 : decode cX5_hasRow 14 = .ok (.ireturn, 1) := by decide +kernel
theorem zd_X5_hasElement_0 : decode cX5_hasElement 0 = .ok (.aload_n 0, 1) := by decide +kernel
theorem zd_X5_hasElement_1 : decode cX5_hasElement 1 = .ok (.invokevirtual 28, 3) := by decide +kernel
theorem zd_X5_hasElement_4 : decode cX5_hasElement 4 = .ok (.ifCond .eq 28, 3) := by decide +kernel
theorem zd_X5_hasElement_7 : decode cX5_hasElement 7 = .ok (.iload_n 1, 1) := by decide +kernel
theorem zd_X5_hasElement_8 : decode cX5_hasElement 8 = .ok (.ifCond .lt 24, 3) := by decide +kernel
theorem zd_X5_hasElement_11 : decode cX5_hasElement 11 = .ok (.iload_n 1, 1) := by decide +kernel
theorem zd_X5_hasElement_12 : decode cX5_hasElement 12 = .ok (.aload_n 0, 1) := by decide +kernel
theorem zd_X5_hasElement_13 : decode cX5_hasElement 13 = .ok (.getfield 19, 3) := by decide +kernel
theorem zd_X5_hasElement_16 : decode cX5_hasElement 16 = .ok (.if_icmp .ge 16, 3) := by decide +kernel
theorem zd_X5_hasElement_19 : decode cX5_hasElement 19 = .ok (.iload_n 1, 1) := by decide +kernel
theorem zd_X5_hasElement_20 : decode cX5_hasElement 20 = .ok (.aload_n 0, 1) := by decide +kernel
theorem zd_X5_hasElement_21 : decode cX5_hasElement 21 = .ok (.getfield 15, 3) := by decide +kernel
theorem zd_X5_hasElement_24 : decode cX5_hasElement 24 = .ok (.arraylength, 1) := by decide +kernel
theorem zd_X5_hasElement_25 : decode cX5_hasElement 25 = .ok (.if_icmp .ge 7, 3) := by decide +kernel
theorem zd_X5_hasElement_28 : decode cX5_hasElement 28 = .ok (.iconst 1, 1) := by decide +kernel
theorem zd_X5_hasElement_29 : decode cX5_hasElement 29 = .ok (.goto 4, 3) := by decide +kernel
theorem zd_X5_hasElement_32 : decode cX5_hasElement 32 = .ok (.iconst 0, 1) := by decide +kernel
theorem zd_X5_hasElement_33 : decode cX5_hasElement 33 = .ok (.ireturn, 1) := by decide +kernel
theorem zd_X5_elementAt_0 : decode cX5_elementAt 0 = .ok (.aload_n 0, 1) := by decide +kernel
theorem zd_X5_elementAt_1 : decode cX5_elementAt 1 = .ok (.iload_n 1, 1) := by decide +kernel
theorem zd_X5_elementAt_2 : decode cX5_elementAt 2 = .ok (.invokevirtual 32, 3) := by decide +kernel
theorem zd_X5_elementAt_5 : decode cX5_elementAt 5 = .ok (.ifCond .eq 12, 3) := by decide +kernel
theorem zd_X5_elementAt_8 : decode cX5_elementAt 8 = .ok (.aload_n 0, 1) := by decide +kernel
theorem zd_X5_elementAt_9 : decode cX5_elementAt 9 = .ok (.getfield 15, 3) := by decide +kernel
theorem zd_X5_elementAt_12 : decode cX5_elementAt 12 = .ok (.iload_n 1, 1) := by decide +kernel
theorem zd_X5_elementAt_13 : decode cX5_elementAt 13 = .ok (.laload, 1) := by decide +kernel
theorem zd_X5_elementAt_14 : decode cX5_elementAt 14 = .ok (.goto 4, 3) := by decide +kernel
theorem zd_X5_elementAt_17 : decode cX5_elementAt 17 = .ok (.lconst 0, 1) := by decide +kernel
theorem zd_X5_elementAt_18 : decode cX5_elementAt 18 = .ok (.lreturn, 1) := by decide +kernel
theorem zd_X5_numberAt_0 : decode cX5_numberAt 0 = .ok (.aload_n 0, 1) := by decide +kernel
theorem zd_X5_numberAt_1 : decode cX5_numberAt 1 = .ok (.iload_n 1, 1) := by decide +kernel
theorem zd_X5_numberAt_2 : decode cX5_numberAt 2 = .ok (.invokevirtual 40, 3) := by decide +kernel
theorem zd_X5_numberAt_5 : decode cX5_numberAt 5 = .ok (.l2i, 1) := by decide +kernel
theorem zd_X5_numberAt_6 : decode cX5_numberAt 6 = .ok (.ireturn, 1) := by decide +kernel
theorem zd_X0_readText_0 : decode cX0_readText 0 = .ok (.aload_n 0, 1) := by decide +kernel
theorem zd_X0_readText_1 : decode cX0_readText 1 = .ok (.iconst 0, 1) := by decide +kernel
theorem zd_X0_readText_2 : decode cX0_readText 2 = .ok (.putfield 15, 3) := by decide +kernel
theorem zd_X0_readText_5 : decode cX0_readText 5 = .ok (.lconst 0, 1) := by decide +kernel
theorem zd_X0_readText_6 : decode cX0_readText 6 = .ok (.lstore_n 2, 1) := by decide +kernel
theorem zd_X0_readText_7 : decode cX0_readText 7 = .ok (.iconst 0, 1) := by decide +kernel
theorem zd_X0_readText_8 : decode cX0_readText 8 = .ok (.istore 4, 2) := by decide +kernel
theorem zd_X0_readText_10 : decode cX0_readText 10 = .ok (.iconst 0, 1) := by decide +kernel
theorem zd_X0_readText_11 : decode cX0_readText 11 = .ok (.istore 5, 2) := by decide +kernel
theorem zd_X0_readText_13 : decode cX0_readText 13 = .ok (.iload 5, 2) := by decide +kernel
theorem zd_X0_readText_15 : decode cX0_readText 15 = .ok (.aload_n 1, 1) := by decide +kernel
theorem zd_X0_readText_16 : decode cX0_readText 16 = .ok (.getfield 33, 3) := by decide +kernel
theorem zd_X0_readText_19 : decode cX0_readText 19 = .ok (.if_icmp .ge 97, 3) := by decide +kernel
theorem zd_X0_readText_22 : decode cX0_readText 22 = .ok (.aload_n 1, 1) := by decide +kernel
theorem zd_X0_readText_23 : decode cX0_readText 23 = .ok (.iload 5, 2) := by decide +kernel
theorem zd_X0_readText_25 : decode cX0_readText 25 = .ok (.invokevirtual 36, 3) := by decide +kernel
theorem zd_X0_readText_28 : decode cX0_readText 28 = .ok (.istore 6, 2) := by decide +kernel
theorem zd_X0_readText_30 : decode cX0_readText 30 = .ok (.iload 6, 2) := by decide +kernel
theorem zd_X0_readText_32 : decode cX0_readText 32 = .ok (.bipush 47, 2) := by decide +kernel
theorem zd_X0_readText_34 : decode cX0_readText 34 = .ok (.if_icmp .ne 37, 3) := by decide +kernel
theorem zd_X0_readText_37 : decode cX0_readText 37 = .ok (.iload 4, 2) := by decide +kernel
theorem zd_X0_readText_39 : decode cX0_readText 39 = .ok (.ifCond .eq 12, 3) := by decide +kernel
theorem zd_X0_readText_42 : decode cX0_readText 42 = .ok (.aload_n 0, 1) := by decide +kernel
theorem zd_X0_readText_43 : decode cX0_readText 43 = .ok (.getfield 15, 3) := by decide +kernel
theorem zd_X0_readText_46 : decode cX0_readText 46 = .ok (.bipush 23, 2) := by decide +kernel
theorem zd_X0_readText_48 : decode cX0_readText 48 = .ok (.if_icmp .lt 6, 3) := by decide +kernel
theorem zd_X0_readText_51 : decode cX0_readText 51 = .ok (.iload 5, 2) := by decide +kernel
theorem zd_X0_readText_53 : decode cX0_readText 53 = .ok (.ireturn, 1) := by decide +kernel
theorem zd_X0_readText_54 : decode cX0_readText 54 = .ok (.aload_n 0, 1) := by decide +kernel
theorem zd_X0_readText_55 : decode cX0_readText 55 = .ok (.aload_n 0, 1) := by decide +kernel
theorem zd_X0_readText_56 : decode cX0_readText 56 = .ok (.getfield 15, 3) := by decide +kernel
theorem zd_X0_readText_59 : decode cX0_readText 59 = .ok (.lload_n 2, 1) := by decide +kernel
theorem zd_X0_readText_60 : decode cX0_readText 60 = .ok (.invokevirtual 29, 3) := by decide +kernel
theorem zd_X0_readText_63 : decode cX0_readText 63 = .ok (.lconst 0, 1) := by decide +kernel
theorem zd_X0_readText_64 : decode cX0_readText 64 = .ok (.lstore_n 2, 1) := by decide +kernel
theorem zd_X0_readText_65 : decode cX0_readText 65 = .ok (.iconst 0, 1) := by decide +kernel
theorem zd_X0_readText_66 : decode cX0_readText 66 = .ok (.istore 4, 2) := by decide +kernel
theorem zd_X0_readText_68 : decode cX0_readText 68 = .ok (.goto 42, 3) := by decide +kernel
theorem zd_X0_readText_71 : decode cX0_readText 71 = .ok (.iload 6, 2) := by decide +kernel
theorem zd_X0_readText_73 : decode cX0_readText 73 = .ok (.bipush 97, 2) := by decide +kernel
theorem zd_X0_readText_75 : decode cX0_readText 75 = .ok (.if_icmp .lt 17, 3) := by decide +kernel
theorem zd_X0_readText_78 : decode cX0_readText 78 = .ok (.iload 6, 2) := by decide +kernel
theorem zd_X0_readText_80 : decode cX0_readText 80 = .ok (.bipush 122, 2) := by decide +kernel
theorem zd_X0_readText_82 : decode cX0_readText 82 = .ok (.if_icmp .gt 10, 3) := by decide +kernel
theorem zd_X0_readText_85 : decode cX0_readText 85 = .ok (.iload 4, 2) := by decide +kernel
theorem zd_X0_readText_87 : decode cX0_readText 87 = .ok (.bipush 8, 2) := by decide +kernel
theorem zd_X0_readText_89 : decode cX0_readText 89 = .ok (.if_icmp .lt 6, 3) := by decide +kernel
theorem zd_X0_readText_92 : decode cX0_readText 92 = .ok (.iload 5, 2) := by decide +kernel
theorem zd_X0_readText_94 : decode cX0_readText 94 = .ok (.ireturn, 1) := by decide +kernel
theorem zd_X0_readText_95 : decode cX0_readText 95 = .ok (.lload_n 2, 1) := by decide +kernel
theorem zd_X0_readText_96 : decode cX0_readText 96 = .ok (.iload 6, 2) := by decide +kernel
theorem zd_X0_readText_98 : decode cX0_readText 98 = .ok (.i2l, 1) := by decide +kernel
theorem zd_X0_readText_99 : decode cX0_readText 99 = .ok (.bipush 8, 2) := by decide +kernel
theorem zd_X0_readText_101 : decode cX0_readText 101 = .ok (.iload 4, 2) := by decide +kernel
theorem zd_X0_readText_103 : decode cX0_readText 103 = .ok (.imul, 1) := by decide +kernel
theorem zd_X0_readText_104 : decode cX0_readText 104 = .ok (.lshl, 1) := by decide +kernel
theorem zd_X0_readText_105 : decode cX0_readText 105 = .ok (.lor, 1) := by decide +kernel
theorem zd_X0_readText_106 : decode cX0_readText 106 = .ok (.lstore_n 2, 1) := by decide +kernel
theorem zd_X0_readText_107 : decode cX0_readText 107 = .ok (.iinc 4 1, 3) := by decide +kernel
theorem zd_X0_readText_110 : decode cX0_readText 110 = .ok (.iinc 5 1, 3) := by decide +kernel
theorem zd_X0_readText_113 : decode cX0_readText 113 = .ok (.goto (-100), 3) := by decide +kernel
theorem zd_X0_readText_116 : decode cX0_readText 116 = .ok (.iload 4, 2) := by decide +kernel
theorem zd_X0_readText_118 : decode cX0_readText 118 = .ok (.ifCond .le 14, 3) := by decide +kernel
theorem zd_X0_readText_121 : decode cX0_readText 121 = .ok (.aload_n 0, 1) := by decide +kernel
theorem zd_X0_readText_122 : decode cX0_readText 122 = .ok (.aload_n 0, 1) := by decide +kernel
theorem zd_X0_readText_123 : decode cX0_readText 123 = .ok (.getfield 15, 3) := by decide +kernel
theorem zd_X0_readText_126 : decode cX0_readText 126 = .ok (.lload_n 2, 1) := by decide +kernel
theorem zd_X0_readText_127 : decode cX0_readText 127 = .ok (.invokevirtual 29, 3) := by decide +kernel
theorem zd_X0_readText_130 : decode cX0_readText 130 = .ok (.iconst (-1), 1) := by decide +kernel
theorem zd_X0_readText_131 : decode cX0_readText 131 = .ok (.ireturn, 1) := by decide +kernel
theorem zd_X0_readText_132 : decode cX0_readText 132 = .ok (.aload_n 1, 1) := by decide +kernel
theorem zd_X0_readText_133 : decode cX0_readText 133 = .ok (.getfield 33, 3) := by decide +kernel
theorem zd_X0_readText_136 : decode cX0_readText 136 = .ok (.ifCond .ne 7, 3) := by decide +kernel
theorem zd_X0_readText_139 : decode cX0_readText 139 = .ok (.iconst (-1), 1) := by decide +kernel
theorem zd_X0_readText_140 : decode cX0_readText 140 = .ok (.goto 7, 3) := by decide +kernel
theorem zd_X0_readText_143 : decode cX0_readText 143 = .ok (.aload_n 1, 1) := by decide +kernel
theorem zd_X0_readText_144 : decode cX0_readText 144 = .ok (.getfield 33, 3) := by decide +kernel
theorem zd_X0_readText_147 : decode cX0_readText 147 = .ok (.ireturn, 1) := by decide +kernel
theorem zd_J7_copyOf_c38d5_0 : decode cJ7_copyOf_c38d5 0 = .ok (.iload_n 1, 1) := by decide +kernel
