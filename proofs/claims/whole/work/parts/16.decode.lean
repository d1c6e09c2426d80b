theorem zd_X7_take_83 : decode cX7_take 83 = .ok (.getfield 19, 3) := by decide +kernel
theorem zd_X7_take_86 : decode cX7_take 86 = .ok (.getfield 63, 3) := by decide +kernel
theorem zd_X7_take_89 : decode cX7_take 89 = .ok (.iastore, 1) := by decide +kernel
theorem zd_X7_take_90 : decode cX7_take 90 = .ok (.aload_n 0, 1) := by decide +kernel
theorem zd_X7_take_91 : decode cX7_take 91 = .ok (.getfield 19, 3) := by decide +kernel
theorem zd_X7_take_94 : decode cX7_take 94 = .ok (.getfield 63, 3) := by decide +kernel
theorem zd_X7_take_97 : decode cX7_take 97 = .ok (.iconst (-1), 1) := by decide +kernel
theorem zd_X7_take_98 : decode cX7_take 98 = .ok (.if_icmp .ne 18, 3) := by decide +kernel
theorem zd_X7_take_101 : decode cX7_take 101 = .ok (.aload_n 0, 1) := by decide +kernel
theorem zd_X7_take_102 : decode cX7_take 102 = .ok (.dup, 1) := by decide +kernel
theorem zd_X7_take_103 : decode cX7_take 103 = .ok (.getfield 33, 3) := by decide +kernel
theorem zd_X7_take_106 : decode cX7_take 106 = .ok (.iconst 1, 1) := by decide +kernel
theorem zd_X7_take_107 : decode cX7_take 107 = .ok (.iload_n 2, 1) := by decide +kernel
theorem zd_X7_take_108 : decode cX7_take 108 = .ok (.ishl, 1) := by decide +kernel
theorem zd_X7_take_109 : decode cX7_take 109 = .ok (.ior, 1) := by decide +kernel
theorem zd_X7_take_110 : decode cX7_take 110 = .ok (.putfield 33, 3) := by decide +kernel
theorem zd_X7_take_113 : decode cX7_take 113 = .ok (.goto 15, 3) := by decide +kernel
theorem zd_X7_take_116 : decode cX7_take 116 = .ok (.aload_n 0, 1) := by decide +kernel
theorem zd_X7_take_117 : decode cX7_take 117 = .ok (.dup, 1) := by decide +kernel
theorem zd_X7_take_118 : decode cX7_take 118 = .ok (.getfield 29, 3) := by decide +kernel
theorem zd_X7_take_121 : decode cX7_take 121 = .ok (.iconst 1, 1) := by decide +kernel
theorem zd_X7_take_122 : decode cX7_take 122 = .ok (.iload_n 2, 1) := by decide +kernel
theorem zd_X7_take_123 : decode cX7_take 123 = .ok (.ishl, 1) := by decide +kernel
theorem zd_X7_take_124 : decode cX7_take 124 = .ok (.ior, 1) := by decide +kernel
theorem zd_X7_take_125 : decode cX7_take 125 = .ok (.putfield 29, 3) := by decide +kernel
theorem zd_X7_take_128 : decode cX7_take 128 = .ok (.iinc 2 1, 3) := by decide +kernel
theorem zd_X7_take_131 : decode cX7_take 131 = .ok (.goto (-111), 3) := by decide +kernel
theorem zd_X7_take_134 : decode cX7_take 134 = .ok (.return_, 1) := by decide +kernel
theorem zd_X7_manyAhead_0 : decode cX7_manyAhead 0 = .ok (.iload_n 1, 1) := by decide +kernel
theorem zd_X7_manyAhead_1 : decode cX7_manyAhead 1 = .ok (.ifCond .lt 12, 3) := by decide +kernel
theorem zd_X7_manyAhead_4 : decode cX7_manyAhead 4 = .ok (.iload_n 1, 1) := by decide +kernel
theorem zd_X7_manyAhead_5 : decode cX7_manyAhead 5 = .ok (.aload_n 0, 1) := by decide +kernel
theorem zd_X7_manyAhead_6 : decode cX7_manyAhead 6 = .ok (.getfield 9, 3) := by decide +kernel
theorem zd_X7_manyAhead_9 : decode cX7_manyAhead 9 = .ok (.arraylength, 1) := by decide +kernel
theorem zd_X7_manyAhead_10 : decode cX7_manyAhead 10 = .ok (.if_icmp .lt 5, 3) := by decide +kernel
theorem zd_X7_manyAhead_13 : decode cX7_manyAhead 13 = .ok (.iconst (-1), 1) := by decide +kernel
theorem zd_X7_manyAhead_14 : decode cX7_manyAhead 14 = .ok (.ireturn, 1) := by decide +kernel
theorem zd_X7_manyAhead_15 : decode cX7_manyAhead 15 = .ok (.aload_n 0, 1) := by decide +kernel
theorem zd_X7_manyAhead_16 : decode cX7_manyAhead 16 = .ok (.getfield 9, 3) := by decide +kernel
theorem zd_X7_manyAhead_19 : decode cX7_manyAhead 19 = .ok (.iload_n 1, 1) := by decide +kernel
theorem zd_X7_manyAhead_20 : decode cX7_manyAhead 20 = .ok (.iaload, 1) := by decide +kernel
theorem zd_X7_manyAhead_21 : decode cX7_manyAhead 21 = .ok (.invokestatic 70, 3) := by decide +kernel
theorem zd_X7_manyAhead_24 : decode cX7_manyAhead 24 = .ok (.istore_n 2, 1) := by decide +kernel
theorem zd_X7_manyAhead_25 : decode cX7_manyAhead 25 = .ok (.iconst 0, 1) := by decide +kernel
theorem zd_X7_manyAhead_26 : decode cX7_manyAhead 26 = .ok (.istore_n 3, 1) := by decide +kernel
theorem zd_X7_manyAhead_27 : decode cX7_manyAhead 27 = .ok (.iconst 0, 1) := by decide +kernel
theorem zd_X7_manyAhead_28 : decode cX7_manyAhead 28 = .ok (.istore 4, 2) := by decide +kernel
theorem zd_X7_manyAhead_30 : decode cX7_manyAhead 30 = .ok (.iload 4, 2) := by decide +kernel
theorem zd_X7_manyAhead_32 : decode cX7_manyAhead 32 = .ok (.aload_n 0, 1) := by decide +kernel
theorem zd_X7_manyAhead_33 : decode cX7_manyAhead 33 = .ok (.getfield 9, 3) := by decide +kernel
theorem zd_X7_manyAhead_36 : decode cX7_manyAhead 36 = .ok (.arraylength, 1) := by decide +kernel
theorem zd_X7_manyAhead_37 : decode cX7_manyAhead 37 = .ok (.if_icmp .ge 48, 3) := by decide +kernel
theorem zd_X7_manyAhead_40 : decode cX7_manyAhead 40 = .ok (.aload_n 0, 1) := by decide +kernel
theorem zd_X7_manyAhead_41 : decode cX7_manyAhead 41 = .ok (.getfield 9, 3) := by decide +kernel
theorem zd_X7_manyAhead_44 : decode cX7_manyAhead 44 = .ok (.iload 4, 2) := by decide +kernel
theorem zd_X7_manyAhead_46 : decode cX7_manyAhead 46 = .ok (.iaload, 1) := by decide +kernel
theorem zd_X7_manyAhead_47 : decode cX7_manyAhead 47 = .ok (.invokestatic 70, 3) := by decide +kernel
theorem zd_X7_manyAhead_50 : decode cX7_manyAhead 50 = .ok (.istore 5, 2) := by decide +kernel
theorem zd_X7_manyAhead_52 : decode cX7_manyAhead 52 = .ok (.iload 5, 2) := by decide +kernel
theorem zd_X7_manyAhead_54 : decode cX7_manyAhead 54 = .ok (.iconst (-1), 1) := by decide +kernel
theorem zd_X7_manyAhead_55 : decode cX7_manyAhead 55 = .ok (.if_icmp .eq 24, 3) := by decide +kernel
theorem zd_X7_manyAhead_58 : decode cX7_manyAhead 58 = .ok (.iload 5, 2) := by decide +kernel
theorem zd_X7_manyAhead_60 : decode cX7_manyAhead 60 = .ok (.iload_n 2, 1) := by decide +kernel
theorem zd_X7_manyAhead_61 : decode cX7_manyAhead 61 = .ok (.if_icmp .lt 15, 3) := by decide +kernel
theorem zd_X7_manyAhead_64 : decode cX7_manyAhead 64 = .ok (.iload 5, 2) := by decide +kernel
theorem zd_X7_manyAhead_66 : decode cX7_manyAhead 66 = .ok (.iload_n 2, 1) := by decide +kernel
theorem zd_X7_manyAhead_67 : decode cX7_manyAhead 67 = .ok (.if_icmp .ne 12, 3) := by decide +kernel
theorem zd_X7_manyAhead_70 : decode cX7_manyAhead 70 = .ok (.iload 4, 2) := by decide +kernel
theorem zd_X7_manyAhead_72 : decode cX7_manyAhead 72 = .ok (.iload_n 1, 1) := by decide +kernel
theorem zd_X7_manyAhead_73 : decode cX7_manyAhead 73 = .ok (.if_icmp .ge 6, 3) := by decide +kernel
theorem zd_X7_manyAhead_76 : decode cX7_manyAhead 76 = .ok (.iinc 3 1, 3) := by decide +kernel
theorem zd_X7_manyAhead_79 : decode cX7_manyAhead 79 = .ok (.iinc 4 1, 3) := by decide +kernel
theorem zd_X7_manyAhead_82 : decode cX7_manyAhead 82 = .ok (.goto (-52), 3) := by decide +kernel
theorem zd_X7_manyAhead_85 : decode cX7_manyAhead 85 = .ok (.iload_n 3, 1) := by decide +kernel
theorem zd_X7_manyAhead_86 : decode cX7_manyAhead 86 = .ok (.ireturn, 1) := by decide +kernel
theorem zd_X7_inOrderAt_0 : decode cX7_inOrderAt 0 = .ok (.iconst 0, 1) := by decide +kernel
theorem zd_X7_inOrderAt_1 : decode cX7_inOrderAt 1 = .ok (.istore_n 2, 1) := by decide +kernel
theorem zd_X7_inOrderAt_2 : decode cX7_inOrderAt 2 = .ok (.iload_n 2, 1) := by decide +kernel
theorem zd_X7_inOrderAt_3 : decode cX7_inOrderAt 3 = .ok (.aload_n 0, 1) := by decide +kernel
theorem zd_X7_inOrderAt_4 : decode cX7_inOrderAt 4 = .ok (.getfield 9, 3) := by decide +kernel
theorem zd_X7_inOrderAt_7 : decode cX7_inOrderAt 7 = .ok (.arraylength, 1) := by decide +kernel
theorem zd_X7_inOrderAt_8 : decode cX7_inOrderAt 8 = .ok (.if_icmp .ge 30, 3) := by decide +kernel
theorem zd_X7_inOrderAt_11 : decode cX7_inOrderAt 11 = .ok (.aload_n 0, 1) := by decide +kernel
theorem zd_X7_inOrderAt_12 : decode cX7_inOrderAt 12 = .ok (.getfield 9, 3) := by decide +kernel
theorem zd_X7_inOrderAt_15 : decode cX7_inOrderAt 15 = .ok (.iload_n 2, 1) := by decide +kernel
theorem zd_X7_inOrderAt_16 : decode cX7_inOrderAt 16 = .ok (.iaload, 1) := by decide +kernel
theorem zd_X7_inOrderAt_17 : decode cX7_inOrderAt 17 = .ok (.iconst (-1), 1) := by decide +kernel
theorem zd_X7_inOrderAt_18 : decode cX7_inOrderAt 18 = .ok (.if_icmp .eq 14, 3) := by decide +kernel
theorem zd_X7_inOrderAt_21 : decode cX7_inOrderAt 21 = .ok (.aload_n 0, 1) := by decide +kernel
theorem zd_X7_inOrderAt_22 : decode cX7_inOrderAt 22 = .ok (.iload_n 2, 1) := by decide +kernel
theorem zd_X7_inOrderAt_23 : decode cX7_inOrderAt 23 = .ok (.invokevirtual 66, 3) := by decide +kernel
theorem zd_X7_inOrderAt_26 : decode cX7_inOrderAt 26 = .ok (.iload_n 1, 1) := by decide +kernel
theorem zd_X7_inOrderAt_27 : decode cX7_inOrderAt 27 = .ok (.if_icmp .ne 5, 3) := by decide +kernel
theorem zd_X7_inOrderAt_30 : decode cX7_inOrderAt 30 = .ok (.iload_n 2, 1) := by decide +kernel
theorem zd_X7_inOrderAt_31 : decode cX7_inOrderAt 31 = .ok (.ireturn, 1) := by decide +kernel
theorem zd_X7_inOrderAt_32 : decode cX7_inOrderAt 32 = .ok (.iinc 2 1, 3) := by decide +kernel
theorem zd_X7_inOrderAt_35 : decode cX7_inOrderAt 35 = .ok (.goto (-33), 3) := by decide +kernel
theorem zd_X7_inOrderAt_38 : decode cX7_inOrderAt 38 = .ok (.iconst (-1), 1) := by decide +kernel
theorem zd_X7_inOrderAt_39 : decode cX7_inOrderAt 39 = .ok (.ireturn, 1) := by decide +kernel
theorem zd_X7_heatOf_0 : decode cX7_heatOf 0 = .ok (.iconst 0, 1) := by decide +kernel
theorem zd_X7_heatOf_1 : decode cX7_heatOf 1 = .ok (.istore_n 2, 1) := by decide +kernel
theorem zd_X7_heatOf_2 : decode cX7_heatOf 2 = .ok (.iconst 0, 1) := by decide +kernel
theorem zd_X7_heatOf_3 : decode cX7_heatOf 3 = .ok (.istore_n 3, 1) := by decide +kernel
theorem zd_X7_heatOf_4 : decode cX7_heatOf 4 = .ok (.iload_n 3, 1) := by decide +kernel
theorem zd_X7_heatOf_5 : decode cX7_heatOf 5 = .ok (.aload_n 0, 1) := by decide +kernel
theorem zd_X7_heatOf_6 : decode cX7_heatOf 6 = .ok (.getfield 9, 3) := by decide +kernel
theorem zd_X7_heatOf_9 : decode cX7_heatOf 9 = .ok (.arraylength, 1) := by decide +kernel
theorem zd_X7_heatOf_10 : decode cX7_heatOf 10 = .ok (.if_icmp .ge 48, 3) := by decide +kernel
theorem zd_X7_heatOf_13 : decode cX7_heatOf 13 = .ok (.aload_n 0, 1) := by decide +kernel
theorem zd_X7_heatOf_14 : decode cX7_heatOf 14 = .ok (.getfield 9, 3) := by decide +kernel
theorem zd_X7_heatOf_17 : decode cX7_heatOf 17 = .ok (.iload_n 3, 1) := by decide +kernel
theorem zd_X7_heatOf_18 : decode cX7_heatOf 18 = .ok (.iaload, 1) := by decide +kernel
theorem zd_X7_heatOf_19 : decode cX7_heatOf 19 = .ok (.iconst (-1), 1) := by decide +kernel
theorem zd_X7_heatOf_20 : decode cX7_heatOf 20 = .ok (.if_icmp .eq 32, 3) := by decide +kernel
theorem zd_X7_heatOf_23 : decode cX7_heatOf 23 = .ok (.aload_n 0, 1) := by decide +kernel
theorem zd_X7_heatOf_24 : decode cX7_heatOf 24 = .ok (.getfield 9, 3) := by decide +kernel
theorem zd_X7_heatOf_27 : decode cX7_heatOf 27 = .ok (.iload_n 3, 1) := by decide +kernel
theorem zd_X7_heatOf_28 : decode cX7_heatOf 28 = .ok (.iaload, 1) := by decide +kernel
theorem zd_X7_heatOf_29 : decode cX7_heatOf 29 = .ok (.invokestatic 70, 3) := by decide +kernel
theorem zd_X7_heatOf_32 : decode cX7_heatOf 32 = .ok (.iload_n 1, 1) := by decide +kernel
theorem zd_X7_heatOf_33 : decode cX7_heatOf 33 = .ok (.if_icmp .gt 19, 3) := by decide +kernel
theorem zd_X7_heatOf_36 : decode cX7_heatOf 36 = .ok (.iload_n 1, 1) := by decide +kernel
theorem zd_X7_heatOf_37 : decode cX7_heatOf 37 = .ok (.aload_n 0, 1) := by decide +kernel
theorem zd_X7_heatOf_38 : decode cX7_heatOf 38 = .ok (.getfield 9, 3) := by decide +kernel
theorem zd_X7_heatOf_41 : decode cX7_heatOf 41 = .ok (.iload_n 3, 1) := by decide +kernel
theorem zd_X7_heatOf_42 : decode cX7_heatOf 42 = .ok (.iaload, 1) := by decide +kernel
theorem zd_X7_heatOf_43 : decode cX7_heatOf 43 = .ok (.invokestatic 73, 3) := by decide +kernel
theorem zd_X7_heatOf_46 : decode cX7_heatOf 46 = .ok (.if_icmp .gt 6, 3) := by decide +kernel
theorem zd_X7_heatOf_49 : decode cX7_heatOf 49 = .ok (.iinc 2 1, 3) := by decide +kernel
theorem zd_X7_heatOf_52 : decode cX7_heatOf 52 = .ok (.iinc 3 1, 3) := by decide +kernel
theorem zd_X7_heatOf_55 : decode cX7_heatOf 55 = .ok (.goto (-51), 3) := by decide +kernel
theorem zd_X7_heatOf_58 : decode cX7_heatOf 58 = .ok (.iload_n 2, 1) := by decide +kernel
theorem zd_X7_heatOf_59 : decode cX7_heatOf 59 = .ok (.ireturn, 1) := by decide +kernel
theorem zd_X7_hottestOf_0 : decode cX7_hottestOf 0 = .ok (.iconst 0, 1) := by decide +kernel
theorem zd_X7_hottestOf_1 : decode cX7_hottestOf 1 = .ok (.istore_n 2, 1) := by decide +kernel
theorem zd_X7_hottestOf_2 : decode cX7_hottestOf 2 = .ok (.bipush 99, 2) := by decide +kernel
theorem zd_X7_hottestOf_4 : decode cX7_hottestOf 4 = .ok (.istore_n 3, 1) := by decide +kernel
theorem zd_X7_hottestOf_5 : decode cX7_hottestOf 5 = .ok (.iconst 0, 1) := by decide +kernel
theorem zd_X7_hottestOf_6 : decode cX7_hottestOf 6 = .ok (.istore 4, 2) := by decide +kernel
theorem zd_X7_hottestOf_8 : decode cX7_hottestOf 8 = .ok (.iload 4, 2) := by decide +kernel
theorem zd_X7_hottestOf_10 : decode cX7_hottestOf 10 = .ok (.iload_n 1, 1) := by decide +kernel
theorem zd_X7_hottestOf_11 : decode cX7_hottestOf 11 = .ok (.if_icmp .ge 29, 3) := by decide +kernel
theorem zd_X7_hottestOf_14 : decode cX7_hottestOf 14 = .ok (.aload_n 0, 1) := by decide +kernel
theorem zd_X7_hottestOf_15 : decode cX7_hottestOf 15 = .ok (.iload 4, 2) := by decide +kernel
theorem zd_X7_hottestOf_17 : decode cX7_hottestOf 17 = .ok (.invokevirtual 76, 3) := by decide +kernel
theorem zd_X7_hottestOf_20 : decode cX7_hottestOf 20 = .ok (.istore 5, 2) := by decide +kernel
theorem zd_X7_hottestOf_22 : decode cX7_hottestOf 22 = .ok (.iload 5, 2) := by decide +kernel
theorem zd_X7_hottestOf_24 : decode cX7_hottestOf 24 = .ok (.iload_n 2, 1) := by decide +kernel
theorem zd_X7_hottestOf_25 : decode cX7_hottestOf 25 = .ok (.if_icmp .le 9, 3) := by decide +kernel
theorem zd_X7_hottestOf_28 : decode cX7_hottestOf 28 = .ok (.iload 5, 2) := by decide +kernel
theorem zd_X7_hottestOf_30 : decode cX7_hottestOf 30 = .ok (.istore_n 2, 1) := by decide +kernel
theorem zd_X7_hottestOf_31 : decode cX7_hottestOf 31 = .ok (.iload 4, 2) := by decide +kernel
theorem zd_X7_hottestOf_33 : decode cX7_hottestOf 33 = .ok (.istore_n 3, 1) := by decide +kernel
theorem zd_X7_hottestOf_34 : decode cX7_hottestOf 34 = .ok (.iinc 4 1, 3) := by decide +kernel
theorem zd_X7_hottestOf_37 : decode cX7_hottestOf 37 = .ok (.goto (-29), 3) := by decide +kernel
theorem zd_X7_hottestOf_40 : decode cX7_hottestOf 40 = .ok (.iload_n 3, 1) := by decide +kernel
theorem zd_X7_hottestOf_41 : decode cX7_hottestOf 41 = .ok (.ireturn, 1) := by decide +kernel
theorem zd_X7_linesIn_0 : decode cX7_linesIn 0 = .ok (.iconst 0, 1) := by decide +kernel
theorem zd_X7_linesIn_1 : decode cX7_linesIn 1 = .ok (.istore_n 2, 1) := by decide +kernel
theorem zd_X7_linesIn_2 : decode cX7_linesIn 2 = .ok (.iconst 0, 1) := by decide +kernel
theorem zd_X7_linesIn_3 : decode cX7_linesIn 3 = .ok (.istore_n 3, 1) := by decide +kernel
theorem zd_X7_linesIn_4 : decode cX7_linesIn 4 = .ok (.iload_n 3, 1) := by decide +kernel
theorem zd_X7_linesIn_5 : decode cX7_linesIn 5 = .ok (.iload_n 1, 1) := by decide +kernel
theorem zd_X7_linesIn_6 : decode cX7_linesIn 6 = .ok (.if_icmp .ge 23, 3) := by decide +kernel
theorem zd_X7_linesIn_9 : decode cX7_linesIn 9 = .ok (.aload_n 0, 1) := by decide +kernel
theorem zd_X7_linesIn_10 : decode cX7_linesIn 10 = .ok (.iload_n 3, 1) := by decide +kernel
theorem zd_X7_linesIn_11 : decode cX7_linesIn 11 = .ok (.invokevirtual 76, 3) := by decide +kernel
theorem zd_X7_linesIn_14 : decode cX7_linesIn 14 = .ok (.ifCond .le 9, 3) := by decide +kernel
theorem zd_X7_linesIn_17 : decode cX7_linesIn 17 = .ok (.iload_n 2, 1) := by decide +kernel
theorem zd_X7_linesIn_18 : decode cX7_linesIn 18 = .ok (.iconst 1, 1) := by decide +kernel
theorem zd_X7_linesIn_19 : decode cX7_linesIn 19 = .ok (.iload_n 3, 1) := by decide +kernel
theorem zd_X7_linesIn_20 : decode cX7_linesIn 20 = .ok (.ishl, 1) := by decide +kernel
theorem zd_X7_linesIn_21 : decode cX7_linesIn 21 = .ok (.ior, 1) := by decide +kernel
theorem zd_X7_linesIn_22 : decode cX7_linesIn 22 = .ok (.istore_n 2, 1) := by decide +kernel
theorem zd_X7_linesIn_23 : decode cX7_linesIn 23 = .ok (.iinc 3 1, 3) := by decide +kernel
theorem zd_X7_linesIn_26 : decode cX7_linesIn 26 = .ok (.goto (-22), 3) := by decide +kernel
theorem zd_X7_linesIn_29 : decode cX7_linesIn 29 = .ok (.iload_n 2, 1) := by decide +kernel
theorem zd_X7_linesIn_30 : decode cX7_linesIn 30 = .ok (.ireturn, 1) := by decide +kernel
theorem zd_X8_init_0 : decode cX8_init 0 = .ok (.aload_n 0, 1) := by decide +kernel
theorem zd_X8_init_1 : decode cX8_init 1 = .ok (.invokespecial 3, 3) := by decide +kernel
theorem zd_X8_init_4 : decode cX8_init 4 = .ok (.aload_n 0, 1) := by decide +kernel
theorem zd_X8_init_5 : decode cX8_init 5 = .ok (.new 9, 3) := by decide +kernel
theorem zd_X8_init_8 : decode cX8_init 8 = .ok (.dup, 1) := by decide +kernel
theorem zd_X8_init_9 : decode cX8_init 9 = .ok (.invokespecial 11, 3) := by decide +kernel
theorem zd_X8_init_12 : decode cX8_init 12 = .ok (.putfield 12, 3) := by decide +kernel
theorem zd_X8_init_15 : decode cX8_init 15 = .ok (.aload_n 0, 1) := by decide +kernel
theorem zd_X8_init_16 : decode cX8_init 16 = .ok (.iconst (-1), 1) := by decide +kernel
theorem zd_X8_init_17 : decode cX8_init 17 = .ok (.putfield 18, 3) := by decide +kernel
theorem zd_X8_init_20 : decode cX8_init 20 = .ok (.aload_n 0, 1) := by decide +kernel
theorem zd_X8_init_21 : decode cX8_init 21 = .ok (.iconst 3, 1) := by decide +kernel
theorem zd_X8_init_22 : decode cX8_init 22 = .ok (.putfield 22, 3) := by decide +kernel
theorem zd_X8_init_25 : decode cX8_init 25 = .ok (.aload_n 0, 1) := by decide +kernel
theorem zd_X8_init_26 : decode cX8_init 26 = .ok (.bipush 26, 2) := by decide +kernel
theorem zd_X8_init_28 : decode cX8_init 28 = .ok (.newarray .long, 2) := by decide +kernel
theorem zd_X8_init_30 : decode cX8_init 30 = .ok (.putfield 25, 3) := by decide +kernel
theorem zd_X8_init_33 : decode cX8_init 33 = .ok (.aload_n 0, 1) := by decide +kernel
theorem zd_X8_init_34 : decode cX8_init 34 = .ok (.iconst (-1), 1) := by decide +kernel
theorem zd_X8_init_35 : decode cX8_init 35 = .ok (.putfield 29, 3) := by decide +kernel
theorem zd_X8_init_38 : decode cX8_init 38 = .ok (.aload_n 0, 1) := by decide +kernel
theorem zd_X8_init_39 : decode cX8_init 39 = .ok (.iconst (-1), 1) := by decide +kernel
theorem zd_X8_init_40 : decode cX8_init 40 = .ok (.putfield 32, 3) := by decide +kernel
theorem zd_X8_init_43 : decode cX8_init 43 = .ok (.aload_n 0, 1) := by decide +kernel
theorem zd_X8_init_44 : decode cX8_init 44 = .ok (.iconst (-1), 1) := by decide +kernel
theorem zd_X8_init_45 : decode cX8_init 45 = .ok (.putfield 35, 3) := by decide +kernel
theorem zd_X8_init_48 : decode cX8_init 48 = .ok (.aload_n 0, 1) := by decide +kernel
theorem zd_X8_init_49 : decode cX8_init 49 = .ok (.aload_n 1, 1) := by decide +kernel
theorem zd_X8_init_50 : decode cX8_init 50 = .ok (.putfield 38, 3) := by decide +kernel
theorem zd_X8_init_53 : decode cX8_init 53 = .ok (.return_, 1) := by decide +kernel
theorem zd_X8_wayLength_0 : decode cX8_wayLength 0 = .ok (.aload_n 0, 1) := by decide +kernel
theorem zd_X8_wayLength_1 : decode cX8_wayLength 1 = .ok (.getfield 12, 3) := by decide +kernel
theorem zd_X8_wayLength_4 : decode cX8_wayLength 4 = .ok (.invokevirtual 55, 3) := by decide +kernel
theorem zd_X8_wayLength_7 : decode cX8_wayLength 7 = .ok (.ireturn, 1) := by decide +kernel
theorem zd_X8_carried_0 : decode cX8_carried 0 = .ok (.iload_n 1, 1) := by decide +kernel
theorem zd_X8_carried_1 : decode cX8_carried 1 = .ok (.istore_n 2, 1) := by decide +kernel
theorem zd_X8_carried_2 : decode cX8_carried 2 = .ok (.aload_n 0, 1) := by decide +kernel
theorem zd_X8_carried_3 : decode cX8_carried 3 = .ok (.getfield 12, 3) := by decide +kernel
theorem zd_X8_carried_6 : decode cX8_carried 6 = .ok (.invokevirtual 55, 3) := by decide +kernel
theorem zd_X8_carried_9 : decode cX8_carried 9 = .ok (.iconst 2, 1) := by decide +kernel
theorem zd_X8_carried_10 : decode cX8_carried 10 = .ok (.isub, 1) := by decide +kernel
theorem zd_X8_carried_11 : decode cX8_carried 11 = .ok (.istore_n 3, 1) := by decide +kernel
theorem zd_X8_carried_12 : decode cX8_carried 12 = .ok (.iload_n 3, 1) := by decide +kernel
theorem zd_X8_carried_13 : decode cX8_carried 13 = .ok (.ifCond .lt 25, 3) := by decide +kernel
theorem zd_X8_carried_16 : decode cX8_carried 16 = .ok (.aload_n 0, 1) := by decide +kernel
theorem zd_X8_carried_17 : decode cX8_carried 17 = .ok (.getfield 12, 3) := by decide +kernel
theorem zd_X8_carried_20 : decode cX8_carried 20 = .ok (.iload_n 3, 1) := by decide +kernel
theorem zd_X8_carried_21 : decode cX8_carried 21 = .ok (.invokevirtual 59, 3) := by decide +kernel
theorem zd_X8_carried_24 : decode cX8_carried 24 = .ok (.checkcast 50, 3) := by decide +kernel
theorem zd_X8_carried_27 : decode cX8_carried 27 = .ok (.iload_n 2, 1) := by decide +kernel
theorem zd_X8_carried_28 : decode cX8_carried 28 = .ok (.invokevirtual 63, 3) := by decide +kernel
theorem zd_X8_carried_31 : decode cX8_carried 31 = .ok (.istore_n 2, 1) := by decide +kernel
theorem zd_X8_carried_32 : decode cX8_carried 32 = .ok (.iinc 3 (-1), 3) := by decide +kernel
theorem zd_X8_carried_35 : decode cX8_carried 35 = .ok (.goto (-23), 3) := by decide +kernel
theorem zd_X8_carried_38 : decode cX8_carried 38 = .ok (.iload_n 2, 1) := by decide +kernel
theorem zd_X8_carried_39 : decode cX8_carried 39 = .ok (.ireturn, 1) := by decide +kernel
theorem zd_X8_firstWrong_0 : decode cX8_firstWrong 0 = .ok (.aload_n 0, 1) := by decide +kernel
theorem zd_X8_firstWrong_1 : decode cX8_firstWrong 1 = .ok (.aload_n 1, 1) := by decide +kernel
theorem zd_X8_firstWrong_2 : decode cX8_firstWrong 2 = .ok (.invokevirtual 76, 3) := by decide +kernel
theorem zd_X8_firstWrong_5 : decode cX8_firstWrong 5 = .ok (.aload_n 1, 1) := by decide +kernel
theorem zd_X8_firstWrong_6 : decode cX8_firstWrong 6 = .ok (.getfield 67, 3) := by decide +kernel
theorem zd_X8_firstWrong_9 : decode cX8_firstWrong 9 = .ok (.astore_n 3, 1) := by decide +kernel
theorem zd_X8_firstWrong_10 : decode cX8_firstWrong 10 = .ok (.iconst 0, 1) := by decide +kernel
theorem zd_X8_firstWrong_11 : decode cX8_firstWrong 11 = .ok (.istore 4, 2) := by decide +kernel
theorem zd_X8_firstWrong_13 : decode cX8_firstWrong 13 = .ok (.iload 4, 2) := by decide +kernel
theorem zd_X8_firstWrong_15 : decode cX8_firstWrong 15 = .ok (.aload_n 0, 1) := by decide +kernel
theorem zd_X8_firstWrong_16 : decode cX8_firstWrong 16 = .ok (.getfield 12, 3) := by decide +kernel
theorem zd_X8_firstWrong_19 : decode cX8_firstWrong 19 = .ok (.invokevirtual 55, 3) := by decide +kernel
theorem zd_X8_firstWrong_22 : decode cX8_firstWrong 22 = .ok (.if_icmp .ge 72, 3) := by decide +kernel
theorem zd_X8_firstWrong_25 : decode cX8_firstWrong 25 = .ok (.iload 4, 2) := by decide +kernel
theorem zd_X8_firstWrong_27 : decode cX8_firstWrong 27 = .ok (.ifCond .le 42, 3) := by decide +kernel
theorem zd_X8_firstWrong_30 : decode cX8_firstWrong 30 = .ok (.aload_n 0, 1) := by decide +kernel
theorem zd_X8_firstWrong_31 : decode cX8_firstWrong 31 = .ok (.getfield 12, 3) := by decide +kernel
theorem zd_X8_firstWrong_34 : decode cX8_firstWrong 34 = .ok (.aload_n 0, 1) := by decide +kernel
theorem zd_X8_firstWrong_35 : decode cX8_firstWrong 35 = .ok (.getfield 12, 3) := by decide +kernel
theorem zd_X8_firstWrong_38 : decode cX8_firstWrong 38 = .ok (.invokevirtual 55, 3) := by decide +kernel
theorem zd_X8_firstWrong_41 : decode cX8_firstWrong 41 = .ok (.iconst 1, 1) := by decide +kernel
theorem zd_X8_firstWrong_42 : decode cX8_firstWrong 42 = .ok (.isub, 1) := by decide +kernel
theorem zd_X8_firstWrong_43 : decode cX8_firstWrong 43 = .ok (.iload 4, 2) := by decide +kernel
theorem zd_X8_firstWrong_45 : decode cX8_firstWrong 45 = .ok (.isub, 1) := by decide +kernel
theorem zd_X8_firstWrong_46 : decode cX8_firstWrong 46 = .ok (.invokevirtual 59, 3) := by decide +kernel
theorem zd_X8_firstWrong_49 : decode cX8_firstWrong 49 = .ok (.checkcast 50, 3) := by decide +kernel
theorem zd_X8_firstWrong_52 : decode cX8_firstWrong 52 = .ok (.astore 5, 2) := by decide +kernel
theorem zd_X8_firstWrong_54 : decode cX8_firstWrong 54 = .ok (.aload_n 0, 1) := by decide +kernel
theorem zd_X8_firstWrong_55 : decode cX8_firstWrong 55 = .ok (.aload_n 1, 1) := by decide +kernel
theorem zd_X8_firstWrong_56 : decode cX8_firstWrong 56 = .ok (.aload_n 1, 1) := by decide +kernel
theorem zd_X8_firstWrong_57 : decode cX8_firstWrong 57 = .ok (.getfield 84, 3) := by decide +kernel
theorem zd_X8_firstWrong_60 : decode cX8_firstWrong 60 = .ok (.aload_n 3, 1) := by decide +kernel
theorem zd_X8_firstWrong_61 : decode cX8_firstWrong 61 = .ok (.aload 5, 2) := by decide +kernel
theorem zd_X8_firstWrong_63 : decode cX8_firstWrong 63 = .ok (.invokevirtual 80, 3) := by decide +kernel
theorem zd_X8_firstWrong_66 : decode cX8_firstWrong 66 = .ok (.aload 5, 2) := by decide +kernel
theorem zd_X8_firstWrong_68 : decode cX8_firstWrong 68 = .ok (.astore_n 3, 1) := by decide +kernel
theorem zd_X8_firstWrong_69 : decode cX8_firstWrong 69 = .ok (.aload_n 2, 1) := by decide +kernel
theorem zd_X8_firstWrong_70 : decode cX8_firstWrong 70 = .ok (.iload 4, 2) := by decide +kernel
theorem zd_X8_firstWrong_72 : decode cX8_firstWrong 72 = .ok (.invokevirtual 87, 3) := by decide +kernel
theorem zd_X8_firstWrong_75 : decode cX8_firstWrong 75 = .ok (.aload_n 0, 1) := by decide +kernel
theorem zd_X8_firstWrong_76 : decode cX8_firstWrong 76 = .ok (.getfield 18, 3) := by decide +kernel
theorem zd_X8_firstWrong_79 : decode cX8_firstWrong 79 = .ok (.invokestatic 92, 3) := by decide +kernel
theorem zd_X8_firstWrong_82 : decode cX8_firstWrong 82 = .ok (.if_icmp .eq 6, 3) := by decide +kernel
theorem zd_X8_firstWrong_85 : decode cX8_firstWrong 85 = .ok (.iload 4, 2) := by decide +kernel
theorem zd_X8_firstWrong_87 : decode cX8_firstWrong 87 = .ok (.ireturn, 1) := by decide +kernel
theorem zd_X8_firstWrong_88 : decode cX8_firstWrong 88 = .ok (.iinc 4 1, 3) := by decide +kernel
theorem zd_X8_firstWrong_91 : decode cX8_firstWrong 91 = .ok (.goto (-78), 3) := by decide +kernel
theorem zd_X8_firstWrong_94 : decode cX8_firstWrong 94 = .ok (.iconst (-1), 1) := by decide +kernel
theorem zd_X8_firstWrong_95 : decode cX8_firstWrong 95 = .ok (.ireturn, 1) := by decide +kernel
theorem zd_X8_isPlace_0 : decode cX8_isPlace 0 = .ok (.iload_n 2, 1) := by decide +kernel
theorem zd_X8_isPlace_1 : decode cX8_isPlace 1 = .ok (.ifCond .lt 20, 3) := by decide +kernel
theorem zd_X8_isPlace_4 : decode cX8_isPlace 4 = .ok (.iload_n 2, 1) := by decide +kernel
theorem zd_X8_isPlace_5 : decode cX8_isPlace 5 = .ok (.aload_n 1, 1) := by decide +kernel
theorem zd_X8_isPlace_6 : decode cX8_isPlace 6 = .ok (.invokevirtual 133, 3) := by decide +kernel
theorem zd_X8_isPlace_9 : decode cX8_isPlace 9 = .ok (.aload_n 0, 1) := by decide +kernel
theorem zd_X8_isPlace_10 : decode cX8_isPlace 10 = .ok (.getfield 119, 3) := by decide +kernel
theorem zd_X8_isPlace_13 : decode cX8_isPlace 13 = .ok (.isub, 1) := by decide +kernel
theorem zd_X8_isPlace_14 : decode cX8_isPlace 14 = .ok (.if_icmp .gt 7, 3) := by decide +kernel
theorem zd_X8_isPlace_17 : decode cX8_isPlace 17 = .ok (.iconst 1, 1) := by decide +kernel
theorem zd_X8_isPlace_18 : decode cX8_isPlace 18 = .ok (.goto 4, 3) := by decide +kernel
theorem zd_X8_isPlace_21 : decode cX8_isPlace 21 = .ok (.iconst 0, 1) := by decide +kernel
theorem zd_X8_isPlace_22 : decode cX8_isPlace 22 = .ok (.ireturn, 1) := by decide +kernel
theorem zd_X9_init_0 : decode cX9_init 0 = .ok (.aload_n 0, 1) := by decide +kernel
theorem zd_X9_init_1 : decode cX9_init 1 = .ok (.invokespecial 1, 3) := by decide +kernel
theorem zd_X9_init_4 : decode cX9_init 4 = .ok (.aload_n 0, 1) := by decide +kernel
theorem zd_X9_init_5 : decode cX9_init 5 = .ok (.bipush 8, 2) := by decide +kernel
theorem zd_X9_init_7 : decode cX9_init 7 = .ok (.anewarray 9, 3) := by decide +kernel
theorem zd_X9_init_10 : decode cX9_init 10 = .ok (.putfield 11, 3) := by decide +kernel
theorem zd_X9_init_13 : decode cX9_init 13 = .ok (.aload_n 0, 1) := by decide +kernel
theorem zd_X9_init_14 : decode cX9_init 14 = .ok (.new 15, 3) := by decide +kernel
theorem zd_X9_init_17 : decode cX9_init 17 = .ok (.dup, 1) := by decide +kernel
theorem zd_X9_init_18 : decode cX9_init 18 = .ok (.invokespecial 17, 3) := by decide +kernel
theorem zd_X9_init_21 : decode cX9_init 21 = .ok (.putfield 18, 3) := by decide +kernel
theorem zd_X9_init_24 : decode cX9_init 24 = .ok (.aload_n 0, 1) := by decide +kernel
theorem zd_X9_init_25 : decode cX9_init 25 = .ok (.new 15, 3) := by decide +kernel
theorem zd_X9_init_28 : decode cX9_init 28 = .ok (.dup, 1) := by decide +kernel
theorem zd_X9_init_29 : decode cX9_init 29 = .ok (.invokespecial 17, 3) := by decide +kernel
theorem zd_X9_init_32 : decode cX9_init 32 = .ok (.putfield 22, 3) := by decide +kernel
theorem zd_X9_init_35 : decode cX9_init 35 = .ok (.aload_n 0, 1) := by decide +kernel
theorem zd_X9_init_36 : decode cX9_init 36 = .ok (.bipush 8, 2) := by decide +kernel
theorem zd_X9_init_38 : decode cX9_init 38 = .ok (.newarray .int, 2) := by decide +kernel
theorem zd_X9_init_40 : decode cX9_init 40 = .ok (.putfield 25, 3) := by decide +kernel
theorem zd_X9_init_43 : decode cX9_init 43 = .ok (.aload_n 0, 1) := by decide +kernel
theorem zd_X9_init_44 : decode cX9_init 44 = .ok (.iconst (-1), 1) := by decide +kernel
theorem zd_X9_init_45 : decode cX9_init 45 = .ok (.putfield 29, 3) := by decide +kernel
theorem zd_X9_init_48 : decode cX9_init 48 = .ok (.aload_n 0, 1) := by decide +kernel
theorem zd_X9_init_49 : decode cX9_init 49 = .ok (.new 33, 3) := by decide +kernel
theorem zd_X9_init_52 : decode cX9_init 52 = .ok (.dup, 1) := by decide +kernel
theorem zd_X9_init_53 : decode cX9_init 53 = .ok (.invokespecial 35, 3) := by decide +kernel
theorem zd_X9_init_56 : decode cX9_init 56 = .ok (.putfield 36, 3) := by decide +kernel
theorem zd_X9_init_59 : decode cX9_init 59 = .ok (.aload_n 0, 1) := by decide +kernel
theorem zd_X9_init_60 : decode cX9_init 60 = .ok (.new 40, 3) := by decide +kernel
theorem zd_X9_init_63 : decode cX9_init 63 = .ok (.dup, 1) := by decide +kernel
theorem zd_X9_init_64 : decode cX9_init 64 = .ok (.invokespecial 42, 3) := by decide +kernel
theorem zd_X9_init_67 : decode cX9_init 67 = .ok (.putfield 43, 3) := by decide +kernel
theorem zd_X9_init_70 : decode cX9_init 70 = .ok (.aload_n 0, 1) := by decide +kernel
theorem zd_X9_init_71 : decode cX9_init 71 = .ok (.new 47, 3) := by decide +kernel
theorem zd_X9_init_74 : decode cX9_init 74 = .ok (.dup, 1) := by decide +kernel
theorem zd_X9_init_75 : decode cX9_init 75 = .ok (.aload_n 0, 1) := by decide +kernel
theorem zd_X9_init_76 : decode cX9_init 76 = .ok (.getfield 18, 3) := by decide +kernel
theorem zd_X9_init_79 : decode cX9_init 79 = .ok (.invokespecial 49, 3) := by decide +kernel
theorem zd_X9_init_82 : decode cX9_init 82 = .ok (.putfield 52, 3) := by decide +kernel
theorem zd_X9_init_85 : decode cX9_init 85 = .ok (.aload_n 0, 1) := by decide +kernel
theorem zd_X9_init_86 : decode cX9_init 86 = .ok (.new 56, 3) := by decide +kernel
theorem zd_X9_init_89 : decode cX9_init 89 = .ok (.dup, 1) := by decide +kernel
theorem zd_X9_init_90 : decode cX9_init 90 = .ok (.aload_n 0, 1) := by decide +kernel
theorem zd_X9_init_91 : decode cX9_init 91 = .ok (.getfield 18, 3) := by decide +kernel
theorem zd_X9_init_94 : decode cX9_init 94 = .ok (.aload_n 0, 1) := by decide +kernel
theorem zd_X9_init_95 : decode cX9_init 95 = .ok (.getfield 52, 3) := by decide +kernel
theorem zd_X9_init_98 : decode cX9_init 98 = .ok (.invokespecial 58, 3) := by decide +kernel
theorem zd_X9_init_101 : decode cX9_init 101 = .ok (.putfield 61, 3) := by decide +kernel
theorem zd_X9_init_104 : decode cX9_init 104 = .ok (.aload_n 0, 1) := by decide +kernel
theorem zd_X9_init_105 : decode cX9_init 105 = .ok (.new 65, 3) := by decide +kernel
theorem zd_X9_init_108 : decode cX9_init 108 = .ok (.dup, 1) := by decide +kernel
theorem zd_X9_init_109 : decode cX9_init 109 = .ok (.invokespecial 67, 3) := by decide +kernel
theorem zd_X9_init_112 : decode cX9_init 112 = .ok (.putfield 68, 3) := by decide +kernel
theorem zd_X9_init_115 : decode cX9_init 115 = .ok (.iconst 0, 1) := by decide +kernel
theorem zd_X9_init_116 : decode cX9_init 116 = .ok (.istore_n 1, 1) := by decide +kernel
theorem zd_X9_init_117 : decode cX9_init 117 = .ok (.iload_n 1, 1) := by decide +kernel
theorem zd_X9_init_118 : decode cX9_init 118 = .ok (.bipush 8, 2) := by decide +kernel
theorem zd_X9_init_120 : decode cX9_init 120 = .ok (.if_icmp .ge 22, 3) := by decide +kernel
theorem zd_X9_init_123 : decode cX9_init 123 = .ok (.aload_n 0, 1) := by decide +kernel
theorem zd_X9_init_124 : decode cX9_init 124 = .ok (.getfield 11, 3) := by decide +kernel
theorem zd_X9_init_127 : decode cX9_init 127 = .ok (.iload_n 1, 1) := by decide +kernel
theorem zd_X9_init_128 : decode cX9_init 128 = .ok (.new 9, 3) := by decide +kernel
theorem zd_X9_init_131 : decode cX9_init 131 = .ok (.dup, 1) := by decide +kernel
theorem zd_X9_init_132 : decode cX9_init 132 = .ok (.invokespecial 72, 3) := by decide +kernel
theorem zd_X9_init_135 : decode cX9_init 135 = .ok (.aastore, 1) := by decide +kernel
theorem zd_X9_init_136 : decode cX9_init 136 = .ok (.iinc 1 1, 3) := by decide +kernel
theorem zd_X9_init_139 : decode cX9_init 139 = .ok (.goto (-22), 3) := by decide +kernel
theorem zd_X9_init_142 : decode cX9_init 142 = .ok (.return_, 1) := by decide +kernel
theorem zd_X9_shelfAt_0 : decode cX9_shelfAt 0 = .ok (.iload_n 1, 1) := by decide +kernel
theorem zd_X9_shelfAt_1 : decode cX9_shelfAt 1 = .ok (.ifCond .lt 21, 3) := by decide +kernel
theorem zd_X9_shelfAt_4 : decode cX9_shelfAt 4 = .ok (.iload_n 1, 1) := by decide +kernel
theorem zd_X9_shelfAt_5 : decode cX9_shelfAt 5 = .ok (.aload_n 0, 1) := by decide +kernel
theorem zd_X9_shelfAt_6 : decode cX9_shelfAt 6 = .ok (.getfield 11, 3) := by decide +kernel
theorem zd_X9_shelfAt_9 : decode cX9_shelfAt 9 = .ok (.arraylength, 1) := by decide +kernel
theorem zd_X9_shelfAt_10 : decode cX9_shelfAt 10 = .ok (.if_icmp .ge 12, 3) := by decide +kernel
theorem zd_X9_shelfAt_13 : decode cX9_shelfAt 13 = .ok (.aload_n 0, 1) := by decide +kernel
theorem zd_X9_shelfAt_14 : decode cX9_shelfAt 14 = .ok (.getfield 11, 3) := by decide +kernel
theorem zd_X9_shelfAt_17 : decode cX9_shelfAt 17 = .ok (.iload_n 1, 1) := by decide +kernel
theorem zd_X9_shelfAt_18 : decode cX9_shelfAt 18 = .ok (.aaload, 1) := by decide +kernel
theorem zd_X9_shelfAt_19 : decode cX9_shelfAt 19 = .ok (.goto 4, 3) := by decide +kernel
theorem zd_X9_shelfAt_22 : decode cX9_shelfAt 22 = .ok (.aconst_null, 1) := by decide +kernel
theorem zd_X9_shelfAt_23 : decode cX9_shelfAt 23 = .ok (.areturn, 1) := by decide +kernel
theorem zd_X9_refuse_0 : decode cX9_refuse 0 = .ok (.iload_n 1, 1) := by decide +kernel
theorem zd_X9_refuse_1 : decode cX9_refuse 1 = .ok (.ineg, 1) := by decide +kernel
theorem zd_X9_refuse_2 : decode cX9_refuse 2 = .ok (.bipush 10, 2) := by decide +kernel
theorem zd_X9_refuse_4 : decode cX9_refuse 4 = .ok (.irem, 1) := by decide +kernel
theorem zd_X9_refuse_5 : decode cX9_refuse 5 = .ok (.istore_n 2, 1) := by decide +kernel
theorem zd_X9_refuse_6 : decode cX9_refuse 6 = .ok (.iload_n 2, 1) := by decide +kernel
theorem zd_X9_refuse_7 : decode cX9_refuse 7 = .ok (.ifCond .le 22, 3) := by decide +kernel
theorem zd_X9_refuse_10 : decode cX9_refuse 10 = .ok (.iload_n 2, 1) := by decide +kernel
theorem zd_X9_refuse_11 : decode cX9_refuse 11 = .ok (.aload_n 0, 1) := by decide +kernel
theorem zd_X9_refuse_12 : decode cX9_refuse 12 = .ok (.getfield 25, 3) := by decide +kernel
theorem zd_X9_refuse_15 : decode cX9_refuse 15 = .ok (.arraylength, 1) := by decide +kernel
theorem zd_X9_refuse_16 : decode cX9_refuse 16 = .ok (.if_icmp .ge 13, 3) := by decide +kernel
theorem zd_X9_refuse_19 : decode cX9_refuse 19 = .ok (.aload_n 0, 1) := by decide +kernel
theorem zd_X9_refuse_20 : decode cX9_refuse 20 = .ok (.getfield 25, 3) := by decide +kernel
theorem zd_X9_refuse_23 : decode cX9_refuse 23 = .ok (.iload_n 2, 1) := by decide +kernel
theorem zd_X9_refuse_24 : decode cX9_refuse 24 = .ok (.dup2, 1) := by decide +kernel
theorem zd_X9_refuse_25 : decode cX9_refuse 25 = .ok (.iaload, 1) := by decide +kernel
theorem zd_X9_refuse_26 : decode cX9_refuse 26 = .ok (.iconst 1, 1) := by decide +kernel
theorem zd_X9_refuse_27 : decode cX9_refuse 27 = .ok (.iadd, 1) := by decide +kernel
theorem zd_X9_refuse_28 : decode cX9_refuse 28 = .ok (.iastore, 1) := by decide +kernel
theorem zd_X9_refuse_29 : decode cX9_refuse 29 = .ok (.iload_n 1, 1) := by decide +kernel
theorem zd_X9_refuse_30 : decode cX9_refuse 30 = .ok (.ireturn, 1) := by decide +kernel
theorem zd_X9_row_0 : decode cX9_row 0 = .ok (.aload_n 0, 1) := by decide +kernel
theorem zd_X9_row_1 : decode cX9_row 1 = .ok (.iload_n 1, 1) := by decide +kernel
theorem zd_X9_row_2 : decode cX9_row 2 = .ok (.invokevirtual 73, 3) := by decide +kernel
theorem zd_X9_row_5 : decode cX9_row 5 = .ok (.astore 4, 2) := by decide +kernel
theorem zd_X9_row_7 : decode cX9_row 7 = .ok (.aload 4, 2) := by decide +kernel
theorem zd_X9_row_9 : decode cX9_row 9 = .ok (.ifnonnull 9, 3) := by decide +kernel
theorem zd_X9_row_12 : decode cX9_row 12 = .ok (.aload_n 0, 1) := by decide +kernel
theorem zd_X9_row_13 : decode cX9_row 13 = .ok (.iconst (-1), 1) := by decide +kernel
theorem zd_X9_row_14 : decode cX9_row 14 = .ok (.invokevirtual 77, 3) := by decide +kernel
theorem zd_X9_row_17 : decode cX9_row 17 = .ok (.ireturn, 1) := by decide +kernel
theorem zd_X9_row_18 : decode cX9_row 18 = .ok (.iload_n 3, 1) := by decide +kernel
theorem zd_X9_row_19 : decode cX9_row 19 = .ok (.ifCond .ge 10, 3) := by decide +kernel
theorem zd_X9_row_22 : decode cX9_row 22 = .ok (.aload_n 0, 1) := by decide +kernel
theorem zd_X9_row_23 : decode cX9_row 23 = .ok (.bipush (-4), 2) := by decide +kernel
theorem zd_X9_row_25 : decode cX9_row 25 = .ok (.invokevirtual 77, 3) := by decide +kernel
theorem zd_X9_row_28 : decode cX9_row 28 = .ok (.ireturn, 1) := by decide +kernel
theorem zd_X9_row_29 : decode cX9_row 29 = .ok (.iload_n 2, 1) := by decide +kernel
theorem zd_X9_row_30 : decode cX9_row 30 = .ok (.ifCond .lt 8, 3) := by decide +kernel
theorem zd_X9_row_33 : decode cX9_row 33 = .ok (.iload_n 2, 1) := by decide +kernel
theorem zd_X9_row_34 : decode cX9_row 34 = .ok (.iconst 4, 1) := by decide +kernel
theorem zd_X9_row_35 : decode cX9_row 35 = .ok (.if_icmp .lt 10, 3) := by decide +kernel
theorem zd_X9_row_38 : decode cX9_row 38 = .ok (.aload_n 0, 1) := by decide +kernel
theorem zd_X9_row_39 : decode cX9_row 39 = .ok (.bipush (-6), 2) := by decide +kernel
theorem zd_X9_row_41 : decode cX9_row 41 = .ok (.invokevirtual 77, 3) := by decide +kernel
theorem zd_X9_row_44 : decode cX9_row 44 = .ok (.ireturn, 1) := by decide +kernel
theorem zd_X9_row_45 : decode cX9_row 45 = .ok (.iload_n 3, 1) := by decide +kernel
theorem zd_X9_row_46 : decode cX9_row 46 = .ok (.sipush 160, 3) := by decide +kernel
theorem zd_X9_row_49 : decode cX9_row 49 = .ok (.if_icmp .le 10, 3) := by decide +kernel
theorem zd_X9_row_52 : decode cX9_row 52 = .ok (.aload_n 0, 1) := by decide +kernel
theorem zd_X9_row_53 : decode cX9_row 53 = .ok (.bipush (-7), 2) := by decide +kernel
theorem zd_X9_row_55 : decode cX9_row 55 = .ok (.invokevirtual 77, 3) := by decide +kernel
theorem zd_X9_row_58 : decode cX9_row 58 = .ok (.ireturn, 1) := by decide +kernel
theorem zd_X9_row_59 : decode cX9_row 59 = .ok (.aload 4, 2) := by decide +kernel
theorem zd_X9_row_61 : decode cX9_row 61 = .ok (.iload_n 2, 1) := by decide +kernel
theorem zd_X9_row_62 : decode cX9_row 62 = .ok (.iload_n 3, 1) := by decide +kernel
theorem zd_X9_row_63 : decode cX9_row 63 = .ok (.invokevirtual 81, 3) := by decide +kernel
theorem zd_X9_row_66 : decode cX9_row 66 = .ok (.iconst 1, 1) := by decide +kernel
theorem zd_X9_row_67 : decode cX9_row 67 = .ok (.ireturn, 1) := by decide +kernel
theorem zd_X9_unfitAsRow_0 : decode cX9_unfitAsRow 0 = .ok (.aload_n 0, 1) := by decide +kernel
theorem zd_X9_unfitAsRow_1 : decode cX9_unfitAsRow 1 = .ok (.invokevirtual 105, 3) := by decide +kernel
theorem zd_X9_unfitAsRow_4 : decode cX9_unfitAsRow 4 = .ok (.ifCond .eq 5, 3) := by decide +kernel
theorem zd_X9_unfitAsRow_7 : decode cX9_unfitAsRow 7 = .ok (.iconst 0, 1) := by decide +kernel
theorem zd_X9_unfitAsRow_8 : decode cX9_unfitAsRow 8 = .ok (.ireturn, 1) := by decide +kernel
theorem zd_X9_unfitAsRow_9 : decode cX9_unfitAsRow 9 = .ok (.aload_n 0, 1) := by decide +kernel
theorem zd_X9_unfitAsRow_10 : decode cX9_unfitAsRow 10 = .ok (.invokevirtual 97, 3) := by decide +kernel
theorem zd_X9_unfitAsRow_13 : decode cX9_unfitAsRow 13 = .ok (.ifCond .eq 8, 3) := by decide +kernel
theorem zd_X9_unfitAsRow_16 : decode cX9_unfitAsRow 16 = .ok (.bipush (-2), 2) := by decide +kernel
theorem zd_X9_unfitAsRow_18 : decode cX9_unfitAsRow 18 = .ok (.goto 5, 3) := by decide +kernel
theorem zd_X9_unfitAsRow_21 : decode cX9_unfitAsRow 21 = .ok (.bipush (-3), 2) := by decide +kernel
theorem zd_X9_unfitAsRow_23 : decode cX9_unfitAsRow 23 = .ok (.ireturn, 1) := by decide +kernel
theorem zd_X9_set_0 : decode cX9_set 0 = .ok (.aload_n 0, 1) := by decide +kernel
theorem zd_X9_set_1 : decode cX9_set 1 = .ok (.iload_n 1, 1) := by decide +kernel
theorem zd_X9_set_2 : decode cX9_set 2 = .ok (.invokevirtual 73, 3) := by decide +kernel
theorem zd_X9_set_5 : decode cX9_set 5 = .ok (.astore 5, 2) := by decide +kernel
theorem zd_X9_set_7 : decode cX9_set 7 = .ok (.aload 5, 2) := by decide +kernel
theorem zd_X9_set_9 : decode cX9_set 9 = .ok (.ifnonnull 9, 3) := by decide +kernel
theorem zd_X9_set_12 : decode cX9_set 12 = .ok (.aload_n 0, 1) := by decide +kernel
theorem zd_X9_set_13 : decode cX9_set 13 = .ok (.iconst (-1), 1) := by decide +kernel
theorem zd_X9_set_14 : decode cX9_set 14 = .ok (.invokevirtual 77, 3) := by decide +kernel
theorem zd_X9_set_17 : decode cX9_set 17 = .ok (.ireturn, 1) := by decide +kernel
theorem zd_X9_set_18 : decode cX9_set 18 = .ok (.aload 5, 2) := by decide +kernel
theorem zd_X9_set_20 : decode cX9_set 20 = .ok (.invokestatic 85, 3) := by decide +kernel
theorem zd_X9_set_23 : decode cX9_set 23 = .ok (.istore 6, 2) := by decide +kernel
theorem zd_X9_set_25 : decode cX9_set 25 = .ok (.iload 6, 2) := by decide +kernel
theorem zd_X9_set_27 : decode cX9_set 27 = .ok (.ifCond .eq 10, 3) := by decide +kernel
theorem zd_X9_set_30 : decode cX9_set 30 = .ok (.aload_n 0, 1) := by decide +kernel
theorem zd_X9_set_31 : decode cX9_set 31 = .ok (.iload 6, 2) := by decide +kernel
theorem zd_X9_set_33 : decode cX9_set 33 = .ok (.invokevirtual 77, 3) := by decide +kernel
theorem zd_X9_set_36 : decode cX9_set 36 = .ok (.ireturn, 1) := by decide +kernel
theorem zd_X9_set_37 : decode cX9_set 37 = .ok (.aload 5, 2) := by decide +kernel
theorem zd_X9_set_39 : decode cX9_set 39 = .ok (.iload_n 2, 1) := by decide +kernel
theorem zd_X9_set_40 : decode cX9_set 40 = .ok (.invokevirtual 89, 3) := by decide +kernel
theorem zd_X9_set_43 : decode cX9_set 43 = .ok (.ifCond .ne 10, 3) := by decide +kernel
theorem zd_X9_set_46 : decode cX9_set 46 = .ok (.aload_n 0, 1) := by decide +kernel
theorem zd_X9_set_47 : decode cX9_set 47 = .ok (.bipush (-5), 2) := by decide +kernel
theorem zd_X9_set_49 : decode cX9_set 49 = .ok (.invokevirtual 77, 3) := by decide +kernel
theorem zd_X9_set_52 : decode cX9_set 52 = .ok (.ireturn, 1) := by decide +kernel
theorem zd_X9_set_53 : decode cX9_set 53 = .ok (.aload 5, 2) := by decide +kernel
theorem zd_X9_set_55 : decode cX9_set 55 = .ok (.iload_n 2, 1) := by decide +kernel
theorem zd_X9_set_56 : decode cX9_set 56 = .ok (.lload_n 3, 1) := by decide +kernel
theorem zd_X9_set_57 : decode cX9_set 57 = .ok (.invokevirtual 93, 3) := by decide +kernel
theorem zd_X9_set_60 : decode cX9_set 60 = .ok (.iconst 1, 1) := by decide +kernel
theorem zd_X9_set_61 : decode cX9_set 61 = .ok (.ireturn, 1) := by decide +kernel
theorem zd_X9_areOfTwoSorts_0 : decode cX9_areOfTwoSorts 0 = .ok (.aload_n 0, 1) := by decide +kernel
theorem zd_X9_areOfTwoSorts_1 : decode cX9_areOfTwoSorts 1 = .ok (.invokevirtual 105, 3) := by decide +kernel
theorem zd_X9_areOfTwoSorts_4 : decode cX9_areOfTwoSorts 4 = .ok (.ifCond .eq 25, 3) := by decide +kernel
theorem zd_X9_areOfTwoSorts_7 : decode cX9_areOfTwoSorts 7 = .ok (.aload_n 1, 1) := by decide +kernel
theorem zd_X9_areOfTwoSorts_8 : decode cX9_areOfTwoSorts 8 = .ok (.invokevirtual 105, 3) := by decide +kernel
theorem zd_X9_areOfTwoSorts_11 : decode cX9_areOfTwoSorts 11 = .ok (.ifCond .eq 18, 3) := by decide +kernel
theorem zd_X9_areOfTwoSorts_14 : decode cX9_areOfTwoSorts 14 = .ok (.aload_n 0, 1) := by decide +kernel
theorem zd_X9_areOfTwoSorts_15 : decode cX9_areOfTwoSorts 15 = .ok (.getfield 128, 3) := by decide +kernel
theorem zd_X9_areOfTwoSorts_18 : decode cX9_areOfTwoSorts 18 = .ok (.aload_n 1, 1) := by decide +kernel
theorem zd_X9_areOfTwoSorts_19 : decode cX9_areOfTwoSorts 19 = .ok (.getfield 128, 3) := by decide +kernel
theorem zd_X9_areOfTwoSorts_22 : decode cX9_areOfTwoSorts 22 = .ok (.if_icmp .eq 7, 3) := by decide +kernel
theorem zd_X9_areOfTwoSorts_25 : decode cX9_areOfTwoSorts 25 = .ok (.iconst 1, 1) := by decide +kernel
theorem zd_X9_areOfTwoSorts_26 : decode cX9_areOfTwoSorts 26 = .ok (.goto 4, 3) := by decide +kernel
theorem zd_X9_areOfTwoSorts_29 : decode cX9_areOfTwoSorts 29 = .ok (.iconst 0, 1) := by decide +kernel
theorem zd_X9_areOfTwoSorts_30 : decode cX9_areOfTwoSorts 30 = .ok (.ireturn, 1) := by decide +kernel
theorem zd_X9_copy_0 : decode cX9_copy 0 = .ok (.aload_n 0, 1) := by decide +kernel
theorem zd_X9_copy_1 : decode cX9_copy 1 = .ok (.iload_n 1, 1) := by decide +kernel
theorem zd_X9_copy_2 : decode cX9_copy 2 = .ok (.invokevirtual 73, 3) := by decide +kernel
theorem zd_X9_copy_5 : decode cX9_copy 5 = .ok (.astore 6, 2) := by decide +kernel
theorem zd_X9_copy_7 : decode cX9_copy 7 = .ok (.aload_n 0, 1) := by decide +kernel
theorem zd_X9_copy_8 : decode cX9_copy 8 = .ok (.iload_n 2, 1) := by decide +kernel
theorem zd_X9_copy_9 : decode cX9_copy 9 = .ok (.invokevirtual 73, 3) := by decide +kernel
theorem zd_X9_copy_12 : decode cX9_copy 12 = .ok (.astore 7, 2) := by decide +kernel
theorem zd_X9_copy_14 : decode cX9_copy 14 = .ok (.aload 6, 2) := by decide +kernel
theorem zd_X9_copy_16 : decode cX9_copy 16 = .ok (.ifnull 8, 3) := by decide +kernel
theorem zd_X9_copy_19 : decode cX9_copy 19 = .ok (.aload 7, 2) := by decide +kernel
theorem zd_X9_copy_21 : decode cX9_copy 21 = .ok (.ifnonnull 9, 3) := by decide +kernel
theorem zd_X9_copy_24 : decode cX9_copy 24 = .ok (.aload_n 0, 1) := by decide +kernel
theorem zd_X9_copy_25 : decode cX9_copy 25 = .ok (.iconst (-1), 1) := by decide +kernel
theorem zd_X9_copy_26 : decode cX9_copy 26 = .ok (.invokevirtual 77, 3) := by decide +kernel
theorem zd_X9_copy_29 : decode cX9_copy 29 = .ok (.ireturn, 1) := by decide +kernel
theorem zd_X9_copy_30 : decode cX9_copy 30 = .ok (.aload 6, 2) := by decide +kernel
theorem zd_X9_copy_32 : decode cX9_copy 32 = .ok (.invokevirtual 97, 3) := by decide +kernel
theorem zd_X9_copy_35 : decode cX9_copy 35 = .ok (.ifCond .ne 21, 3) := by decide +kernel
theorem zd_X9_copy_38 : decode cX9_copy 38 = .ok (.aload 7, 2) := by decide +kernel
theorem zd_X9_copy_40 : decode cX9_copy 40 = .ok (.invokevirtual 97, 3) := by decide +kernel
theorem zd_X9_copy_43 : decode cX9_copy 43 = .ok (.ifCond .ne 13, 3) := by decide +kernel
theorem zd_X9_copy_46 : decode cX9_copy 46 = .ok (.aload 6, 2) := by decide +kernel
theorem zd_X9_copy_48 : decode cX9_copy 48 = .ok (.aload 7, 2) := by decide +kernel
theorem zd_X9_copy_50 : decode cX9_copy 50 = .ok (.invokestatic 101, 3) := by decide +kernel
theorem zd_X9_copy_53 : decode cX9_copy 53 = .ok (.ifCond .eq 10, 3) := by decide +kernel
theorem zd_X9_copy_56 : decode cX9_copy 56 = .ok (.aload_n 0, 1) := by decide +kernel
theorem zd_X9_copy_57 : decode cX9_copy 57 = .ok (.bipush (-2), 2) := by decide +kernel
theorem zd_X9_copy_59 : decode cX9_copy 59 = .ok (.invokevirtual 77, 3) := by decide +kernel
theorem zd_X9_copy_62 : decode cX9_copy 62 = .ok (.ireturn, 1) := by decide +kernel
theorem zd_X9_copy_63 : decode cX9_copy 63 = .ok (.aload 6, 2) := by decide +kernel
theorem zd_X9_copy_65 : decode cX9_copy 65 = .ok (.invokevirtual 105, 3) := by decide +kernel
theorem zd_X9_copy_68 : decode cX9_copy 68 = .ok (.ifCond .eq 11, 3) := by decide +kernel
theorem zd_X9_copy_71 : decode cX9_copy 71 = .ok (.aload 7, 2) := by decide +kernel
theorem zd_X9_copy_73 : decode cX9_copy 73 = .ok (.invokevirtual 105, 3) := by decide +kernel
theorem zd_X9_copy_76 : decode cX9_copy 76 = .ok (.ifCond .ne 10, 3) := by decide +kernel
theorem zd_X9_copy_79 : decode cX9_copy 79 = .ok (.aload_n 0, 1) := by decide +kernel
theorem zd_X9_copy_80 : decode cX9_copy 80 = .ok (.bipush (-3), 2) := by decide +kernel
theorem zd_X9_copy_82 : decode cX9_copy 82 = .ok (.invokevirtual 77, 3) := by decide +kernel
theorem zd_X9_copy_85 : decode cX9_copy 85 = .ok (.ireturn, 1) := by decide +kernel
theorem zd_X9_copy_86 : decode cX9_copy 86 = .ok (.iload 5, 2) := by decide +kernel
theorem zd_X9_copy_88 : decode cX9_copy 88 = .ok (.ifCond .ge 10, 3) := by decide +kernel
theorem zd_X9_copy_91 : decode cX9_copy 91 = .ok (.aload_n 0, 1) := by decide +kernel
theorem zd_X9_copy_92 : decode cX9_copy 92 = .ok (.bipush (-4), 2) := by decide +kernel
theorem zd_X9_copy_94 : decode cX9_copy 94 = .ok (.invokevirtual 77, 3) := by decide +kernel
theorem zd_X9_copy_97 : decode cX9_copy 97 = .ok (.ireturn, 1) := by decide +kernel
theorem zd_X9_copy_98 : decode cX9_copy 98 = .ok (.aload 6, 2) := by decide +kernel
theorem zd_X9_copy_100 : decode cX9_copy 100 = .ok (.iload_n 3, 1) := by decide +kernel
theorem zd_X9_copy_101 : decode cX9_copy 101 = .ok (.iload 5, 2) := by decide +kernel
theorem zd_X9_copy_103 : decode cX9_copy 103 = .ok (.invokevirtual 108, 3) := by decide +kernel
theorem zd_X9_copy_106 : decode cX9_copy 106 = .ok (.ifCond .eq 15, 3) := by decide +kernel
theorem zd_X9_copy_109 : decode cX9_copy 109 = .ok (.aload 7, 2) := by decide +kernel
theorem zd_X9_copy_111 : decode cX9_copy 111 = .ok (.iload 4, 2) := by decide +kernel
theorem zd_X9_copy_113 : decode cX9_copy 113 = .ok (.iload 5, 2) := by decide +kernel
theorem zd_X9_copy_115 : decode cX9_copy 115 = .ok (.invokevirtual 108, 3) := by decide +kernel
theorem zd_X9_copy_118 : decode cX9_copy 118 = .ok (.ifCond .ne 10, 3) := by decide +kernel
theorem zd_X9_copy_121 : decode cX9_copy 121 = .ok (.aload_n 0, 1) := by decide +kernel
theorem zd_X9_copy_122 : decode cX9_copy 122 = .ok (.bipush (-5), 2) := by decide +kernel
theorem zd_X9_copy_124 : decode cX9_copy 124 = .ok (.invokevirtual 77, 3) := by decide +kernel
theorem zd_X9_copy_127 : decode cX9_copy 127 = .ok (.ireturn, 1) := by decide +kernel
theorem zd_X9_copy_128 : decode cX9_copy 128 = .ok (.aload 7, 2) := by decide +kernel
theorem zd_X9_copy_130 : decode cX9_copy 130 = .ok (.aload 6, 2) := by decide +kernel
theorem zd_X9_copy_132 : decode cX9_copy 132 = .ok (.iload_n 3, 1) := by decide +kernel
theorem zd_X9_copy_133 : decode cX9_copy 133 = .ok (.iload 4, 2) := by decide +kernel
theorem zd_X9_copy_135 : decode cX9_copy 135 = .ok (.iload 5, 2) := by decide +kernel
theorem zd_X9_copy_137 : decode cX9_copy 137 = .ok (.invokevirtual 112, 3) := by decide +kernel
theorem zd_X9_copy_140 : decode cX9_copy 140 = .ok (.iconst 1, 1) := by decide +kernel
theorem zd_X9_copy_141 : decode cX9_copy 141 = .ok (.ireturn, 1) := by decide +kernel
theorem zd_X9_element_0 : decode cX9_element 0 = .ok (.aload_n 0, 1) := by decide +kernel
theorem zd_X9_element_1 : decode cX9_element 1 = .ok (.iload_n 1, 1) := by decide +kernel
theorem zd_X9_element_2 : decode cX9_element 2 = .ok (.invokevirtual 73, 3) := by decide +kernel
theorem zd_X9_element_5 : decode cX9_element 5 = .ok (.astore_n 3, 1) := by decide +kernel
theorem zd_X9_element_6 : decode cX9_element 6 = .ok (.aload_n 3, 1) := by decide +kernel
theorem zd_X9_element_7 : decode cX9_element 7 = .ok (.ifnonnull 7, 3) := by decide +kernel
theorem zd_X9_element_10 : decode cX9_element 10 = .ok (.lconst 0, 1) := by decide +kernel
theorem zd_X9_element_11 : decode cX9_element 11 = .ok (.goto 8, 3) := by decide +kernel
theorem zd_X9_element_14 : decode cX9_element 14 = .ok (.aload_n 3, 1) := by decide +kernel
theorem zd_X9_element_15 : decode cX9_element 15 = .ok (.iload_n 2, 1) := by decide +kernel
theorem zd_X9_element_16 : decode cX9_element 16 = .ok (.invokevirtual 116, 3) := by decide +kernel
theorem zd_X9_element_19 : decode cX9_element 19 = .ok (.lreturn, 1) := by decide +kernel
theorem zd_X9_show_0 : decode cX9_show 0 = .ok (.aload_n 0, 1) := by decide +kernel
theorem zd_X9_show_1 : decode cX9_show 1 = .ok (.iload_n 1, 1) := by decide +kernel
theorem zd_X9_show_2 : decode cX9_show 2 = .ok (.invokevirtual 73, 3) := by decide +kernel
theorem zd_X9_show_5 : decode cX9_show 5 = .ok (.astore_n 3, 1) := by decide +kernel
theorem zd_X9_show_6 : decode cX9_show 6 = .ok (.aload_n 3, 1) := by decide +kernel
theorem zd_X9_show_7 : decode cX9_show 7 = .ok (.ifnull 19, 3) := by decide +kernel
theorem zd_X9_show_10 : decode cX9_show 10 = .ok (.iload_n 2, 1) := by decide +kernel
theorem zd_X9_show_11 : decode cX9_show 11 = .ok (.iconst (-1), 1) := by decide +kernel
theorem zd_X9_show_12 : decode cX9_show 12 = .ok (.if_icmp .eq 20, 3) := by decide +kernel
theorem zd_X9_show_15 : decode cX9_show 15 = .ok (.aload_n 0, 1) := by decide +kernel
theorem zd_X9_show_16 : decode cX9_show 16 = .ok (.getfield 18, 3) := by decide +kernel
theorem zd_X9_show_19 : decode cX9_show 19 = .ok (.iload_n 2, 1) := by decide +kernel
theorem zd_X9_show_20 : decode cX9_show 20 = .ok (.invokevirtual 120, 3) := by decide +kernel
theorem zd_X9_show_23 : decode cX9_show 23 = .ok (.ifnonnull 9, 3) := by decide +kernel
theorem zd_X9_show_26 : decode cX9_show 26 = .ok (.aload_n 0, 1) := by decide +kernel
theorem zd_X9_show_27 : decode cX9_show 27 = .ok (.iconst (-1), 1) := by decide +kernel
theorem zd_X9_show_28 : decode cX9_show 28 = .ok (.invokevirtual 77, 3) := by decide +kernel
theorem zd_X9_show_31 : decode cX9_show 31 = .ok (.ireturn, 1) := by decide +kernel
theorem zd_X9_show_32 : decode cX9_show 32 = .ok (.aload_n 3, 1) := by decide +kernel
theorem zd_X9_show_33 : decode cX9_show 33 = .ok (.iload_n 2, 1) := by decide +kernel
theorem zd_X9_show_34 : decode cX9_show 34 = .ok (.invokevirtual 124, 3) := by decide +kernel
theorem zd_X9_show_37 : decode cX9_show 37 = .ok (.iload_n 2, 1) := by decide +kernel
theorem zd_X9_show_38 : decode cX9_show 38 = .ok (.iconst (-1), 1) := by decide +kernel
theorem zd_X9_show_39 : decode cX9_show 39 = .ok (.if_icmp .ne 7, 3) := by decide +kernel
theorem zd_X9_show_42 : decode cX9_show 42 = .ok (.iconst 0, 1) := by decide +kernel
theorem zd_X9_show_43 : decode cX9_show 43 = .ok (.goto 4, 3) := by decide +kernel
theorem zd_X9_show_46 : decode cX9_show 46 = .ok (.iconst 1, 1) := by decide +kernel
theorem zd_X9_show_47 : decode cX9_show 47 = .ok (.ireturn, 1) := by decide +kernel
theorem zd_X9_holds_0 : decode cX9_holds 0 = .ok (.aload_n 0, 1) := by decide +kernel
theorem zd_X9_holds_1 : decode cX9_holds 1 = .ok (.iload_n 1, 1) := by decide +kernel
theorem zd_X9_holds_2 : decode cX9_holds 2 = .ok (.invokevirtual 73, 3) := by decide +kernel
theorem zd_X9_holds_5 : decode cX9_holds 5 = .ok (.astore_n 2, 1) := by decide +kernel
theorem zd_X9_holds_6 : decode cX9_holds 6 = .ok (.aload_n 2, 1) := by decide +kernel
theorem zd_X9_holds_7 : decode cX9_holds 7 = .ok (.ifnonnull 7, 3) := by decide +kernel
theorem zd_X9_holds_10 : decode cX9_holds 10 = .ok (.iconst (-1), 1) := by decide +kernel
theorem zd_X9_holds_11 : decode cX9_holds 11 = .ok (.goto 7, 3) := by decide +kernel
theorem zd_X9_holds_14 : decode cX9_holds 14 = .ok (.aload_n 2, 1) := by decide +kernel
theorem zd_X9_holds_15 : decode cX9_holds 15 = .ok (.getfield 128, 3) := by decide +kernel
theorem zd_X9_holds_18 : decode cX9_holds 18 = .ok (.ireturn, 1) := by decide +kernel
theorem zd_X9_isOf_0 : decode cX9_isOf 0 = .ok (.iload_n 0, 1) := by decide +kernel
theorem zd_X9_isOf_1 : decode cX9_isOf 1 = .ok (.istore_n 2, 1) := by decide +kernel
theorem zd_X9_isOf_2 : decode cX9_isOf 2 = .ok (.iconst 0, 1) := by decide +kernel
theorem zd_X9_isOf_3 : decode cX9_isOf 3 = .ok (.istore_n 3, 1) := by decide +kernel
theorem zd_X9_isOf_4 : decode cX9_isOf 4 = .ok (.iload_n 3, 1) := by decide +kernel
theorem zd_X9_isOf_5 : decode cX9_isOf 5 = .ok (.bipush 7, 2) := by decide +kernel
theorem zd_X9_isOf_7 : decode cX9_isOf 7 = .ok (.if_icmp .ge 29, 3) := by decide +kernel
theorem zd_X9_isOf_10 : decode cX9_isOf 10 = .ok (.iload_n 2, 1) := by decide +kernel
theorem zd_X9_isOf_11 : decode cX9_isOf 11 = .ok (.invokestatic 131, 3) := by decide +kernel
theorem zd_X9_isOf_14 : decode cX9_isOf 14 = .ok (.ifCond .eq 22, 3) := by decide +kernel
theorem zd_X9_isOf_17 : decode cX9_isOf 17 = .ok (.iload_n 2, 1) := by decide +kernel
theorem zd_X9_isOf_18 : decode cX9_isOf 18 = .ok (.iload_n 1, 1) := by decide +kernel
theorem zd_X9_isOf_19 : decode cX9_isOf 19 = .ok (.if_icmp .ne 5, 3) := by decide +kernel
theorem zd_X9_isOf_22 : decode cX9_isOf 22 = .ok (.iconst 1, 1) := by decide +kernel
theorem zd_X9_isOf_23 : decode cX9_isOf 23 = .ok (.ireturn, 1) := by decide +kernel
theorem zd_X9_isOf_24 : decode cX9_isOf 24 = .ok (.getstatic 382, 3) := by decide +kernel
theorem zd_X9_isOf_27 : decode cX9_isOf 27 = .ok (.iload_n 2, 1) := by decide +kernel
theorem zd_X9_isOf_28 : decode cX9_isOf 28 = .ok (.iaload, 1) := by decide +kernel
theorem zd_X9_isOf_29 : decode cX9_isOf 29 = .ok (.istore_n 2, 1) := by decide +kernel
theorem zd_X9_isOf_30 : decode cX9_isOf 30 = .ok (.iinc 3 1, 3) := by decide +kernel
theorem zd_X9_isOf_33 : decode cX9_isOf 33 = .ok (.goto (-29), 3) := by decide +kernel
theorem zd_X9_isOf_36 : decode cX9_isOf 36 = .ok (.iconst 0, 1) := by decide +kernel
theorem zd_X9_isOf_37 : decode cX9_isOf 37 = .ok (.ireturn, 1) := by decide +kernel
theorem zd_X9_says_0 : decode cX9_says 0 = .ok (.aload_n 0, 1) := by decide +kernel
theorem zd_X9_says_1 : decode cX9_says 1 = .ok (.iload_n 1, 1) := by decide +kernel
theorem zd_X9_says_2 : decode cX9_says 2 = .ok (.invokevirtual 73, 3) := by decide +kernel
theorem zd_X9_says_5 : decode cX9_says 5 = .ok (.astore_n 3, 1) := by decide +kernel
theorem zd_X9_says_6 : decode cX9_says 6 = .ok (.aload_n 3, 1) := by decide +kernel
theorem zd_X9_says_7 : decode cX9_says 7 = .ok (.ifnull 10, 3) := by decide +kernel
theorem zd_X9_says_10 : decode cX9_says 10 = .ok (.iload_n 2, 1) := by decide +kernel
theorem zd_X9_says_11 : decode cX9_says 11 = .ok (.invokestatic 131, 3) := by decide +kernel
theorem zd_X9_says_14 : decode cX9_says 14 = .ok (.ifCond .ne 9, 3) := by decide +kernel
theorem zd_X9_says_17 : decode cX9_says 17 = .ok (.aload_n 0, 1) := by decide +kernel
theorem zd_X9_says_18 : decode cX9_says 18 = .ok (.iconst (-1), 1) := by decide +kernel
theorem zd_X9_says_19 : decode cX9_says 19 = .ok (.invokevirtual 77, 3) := by decide +kernel
theorem zd_X9_says_22 : decode cX9_says 22 = .ok (.ireturn, 1) := by decide +kernel
theorem zd_X9_says_23 : decode cX9_says 23 = .ok (.aload_n 3, 1) := by decide +kernel
theorem zd_X9_says_24 : decode cX9_says 24 = .ok (.invokevirtual 105, 3) := by decide +kernel
theorem zd_X9_says_27 : decode cX9_says 27 = .ok (.ifCond .eq 10, 3) := by decide +kernel
theorem zd_X9_says_30 : decode cX9_says 30 = .ok (.aload_n 0, 1) := by decide +kernel
theorem zd_X9_says_31 : decode cX9_says 31 = .ok (.bipush (-2), 2) := by decide +kernel
theorem zd_X9_says_33 : decode cX9_says 33 = .ok (.invokevirtual 77, 3) := by decide +kernel
theorem zd_X9_says_36 : decode cX9_says 36 = .ok (.ireturn, 1) := by decide +kernel
theorem zd_X9_says_37 : decode cX9_says 37 = .ok (.aload_n 0, 1) := by decide +kernel
theorem zd_X9_says_38 : decode cX9_says 38 = .ok (.getfield 18, 3) := by decide +kernel
theorem zd_X9_says_41 : decode cX9_says 41 = .ok (.aload_n 3, 1) := by decide +kernel
theorem zd_X9_says_42 : decode cX9_says 42 = .ok (.getfield 128, 3) := by decide +kernel
theorem zd_X9_says_45 : decode cX9_says 45 = .ok (.invokevirtual 120, 3) := by decide +kernel
theorem zd_X9_says_48 : decode cX9_says 48 = .ok (.astore 4, 2) := by decide +kernel
theorem zd_X9_says_50 : decode cX9_says 50 = .ok (.aload 4, 2) := by decide +kernel
theorem zd_X9_says_52 : decode cX9_says 52 = .ok (.ifnonnull 10, 3) := by decide +kernel
theorem zd_X9_says_55 : decode cX9_says 55 = .ok (.aload_n 0, 1) := by decide +kernel
theorem zd_X9_says_56 : decode cX9_says 56 = .ok (.bipush (-3), 2) := by decide +kernel
theorem zd_X9_says_58 : decode cX9_says 58 = .ok (.invokevirtual 77, 3) := by decide +kernel
theorem zd_X9_says_61 : decode cX9_says 61 = .ok (.ireturn, 1) := by decide +kernel
theorem zd_X9_says_62 : decode cX9_says 62 = .ok (.aload 4, 2) := by decide +kernel
theorem zd_X9_says_64 : decode cX9_says 64 = .ok (.getfield 134, 3) := by decide +kernel
theorem zd_X9_says_67 : decode cX9_says 67 = .ok (.iload_n 2, 1) := by decide +kernel
theorem zd_X9_says_68 : decode cX9_says 68 = .ok (.invokestatic 139, 3) := by decide +kernel
theorem zd_X9_says_71 : decode cX9_says 71 = .ok (.ifCond .ne 10, 3) := by decide +kernel
theorem zd_X9_says_74 : decode cX9_says 74 = .ok (.aload_n 0, 1) := by decide +kernel
theorem zd_X9_says_75 : decode cX9_says 75 = .ok (.bipush (-2), 2) := by decide +kernel
theorem zd_X9_says_77 : decode cX9_says 77 = .ok (.invokevirtual 77, 3) := by decide +kernel
theorem zd_X9_says_80 : decode cX9_says 80 = .ok (.ireturn, 1) := by decide +kernel
theorem zd_X9_says_81 : decode cX9_says 81 = .ok (.aload 4, 2) := by decide +kernel
theorem zd_X9_says_83 : decode cX9_says 83 = .ok (.iload_n 2, 1) := by decide +kernel
theorem zd_X9_says_84 : decode cX9_says 84 = .ok (.invokevirtual 142, 3) := by decide +kernel
theorem zd_X9_says_87 : decode cX9_says 87 = .ok (.ireturn, 1) := by decide +kernel
theorem zd_X9_addRevision_0 : decode cX9_addRevision 0 = .ok (.new 167, 3) := by decide +kernel
theorem zd_X9_addRevision_3 : decode cX9_addRevision 3 = .ok (.dup, 1) := by decide +kernel
theorem zd_X9_addRevision_4 : decode cX9_addRevision 4 = .ok (.aload_n 0, 1) := by decide +kernel
theorem zd_X9_addRevision_5 : decode cX9_addRevision 5 = .ok (.getfield 18, 3) := by decide +kernel
theorem zd_X9_addRevision_8 : decode cX9_addRevision 8 = .ok (.getfield 152, 3) := by decide +kernel
theorem zd_X9_addRevision_11 : decode cX9_addRevision 11 = .ok (.invokevirtual 156, 3) := by decide +kernel
theorem zd_X9_addRevision_14 : decode cX9_addRevision 14 = .ok (.aload_n 1, 1) := by decide +kernel
theorem zd_X9_addRevision_15 : decode cX9_addRevision 15 = .ok (.aload_n 0, 1) := by decide +kernel
theorem zd_X9_addRevision_16 : decode cX9_addRevision 16 = .ok (.getfield 36, 3) := by decide +kernel
theorem zd_X9_addRevision_19 : decode cX9_addRevision 19 = .ok (.invokevirtual 385, 3) := by decide +kernel
theorem zd_X9_addRevision_22 : decode cX9_addRevision 22 = .ok (.invokespecial 389, 3) := by decide +kernel
theorem zd_X9_addRevision_25 : decode cX9_addRevision 25 = .ok (.astore_n 2, 1) := by decide +kernel
theorem zd_X9_addRevision_26 : decode cX9_addRevision 26 = .ok (.aload_n 0, 1) := by decide +kernel
theorem zd_X9_addRevision_27 : decode cX9_addRevision 27 = .ok (.getfield 18, 3) := by decide +kernel
theorem zd_X9_addRevision_30 : decode cX9_addRevision 30 = .ok (.getfield 152, 3) := by decide +kernel
theorem zd_X9_addRevision_33 : decode cX9_addRevision 33 = .ok (.aload_n 2, 1) := by decide +kernel
theorem zd_X9_addRevision_34 : decode cX9_addRevision 34 = .ok (.invokevirtual 236, 3) := by decide +kernel
theorem zd_X9_addRevision_37 : decode cX9_addRevision 37 = .ok (.pop, 1) := by decide +kernel
theorem zd_X9_addRevision_38 : decode cX9_addRevision 38 = .ok (.aload_n 2, 1) := by decide +kernel
theorem zd_X9_addRevision_39 : decode cX9_addRevision 39 = .ok (.aload_n 0, 1) := by decide +kernel
theorem zd_X9_addRevision_40 : decode cX9_addRevision 40 = .ok (.getfield 43, 3) := by decide +kernel
theorem zd_X9_addRevision_43 : decode cX9_addRevision 43 = .ok (.aload_n 0, 1) := by decide +kernel
theorem zd_X9_addRevision_44 : decode cX9_addRevision 44 = .ok (.getfield 18, 3) := by decide +kernel
theorem zd_X9_addRevision_47 : decode cX9_addRevision 47 = .ok (.getfield 200, 3) := by decide +kernel
theorem zd_X9_addRevision_50 : decode cX9_addRevision 50 = .ok (.invokevirtual 392, 3) := by decide +kernel
theorem zd_X9_addRevision_53 : decode cX9_addRevision 53 = .ok (.aload_n 2, 1) := by decide +kernel
theorem zd_X9_addRevision_54 : decode cX9_addRevision 54 = .ok (.areturn, 1) := by decide +kernel
theorem zd_X9_revise_0 : decode cX9_revise 0 = .ok (.aload_n 0, 1) := by decide +kernel
theorem zd_X9_revise_1 : decode cX9_revise 1 = .ok (.iload_n 1, 1) := by decide +kernel
theorem zd_X9_revise_2 : decode cX9_revise 2 = .ok (.invokevirtual 73, 3) := by decide +kernel
theorem zd_X9_revise_5 : decode cX9_revise 5 = .ok (.astore_n 3, 1) := by decide +kernel
theorem zd_X9_revise_6 : decode cX9_revise 6 = .ok (.aload_n 0, 1) := by decide +kernel
theorem zd_X9_revise_7 : decode cX9_revise 7 = .ok (.getfield 18, 3) := by decide +kernel
theorem zd_X9_revise_10 : decode cX9_revise 10 = .ok (.iload_n 2, 1) := by decide +kernel
theorem zd_X9_revise_11 : decode cX9_revise 11 = .ok (.invokevirtual 145, 3) := by decide +kernel
theorem zd_X9_revise_14 : decode cX9_revise 14 = .ok (.astore 4, 2) := by decide +kernel
theorem zd_X9_revise_16 : decode cX9_revise 16 = .ok (.aload_n 3, 1) := by decide +kernel
theorem zd_X9_revise_17 : decode cX9_revise 17 = .ok (.ifnull 13, 3) := by decide +kernel
theorem zd_X9_revise_20 : decode cX9_revise 20 = .ok (.iload_n 2, 1) := by decide +kernel
theorem zd_X9_revise_21 : decode cX9_revise 21 = .ok (.iconst (-1), 1) := by decide +kernel
theorem zd_X9_revise_22 : decode cX9_revise 22 = .ok (.if_icmp .eq 14, 3) := by decide +kernel
theorem zd_X9_revise_25 : decode cX9_revise 25 = .ok (.aload 4, 2) := by decide +kernel
theorem zd_X9_revise_27 : decode cX9_revise 27 = .ok (.ifnonnull 9, 3) := by decide +kernel
theorem zd_X9_revise_30 : decode cX9_revise 30 = .ok (.aload_n 0, 1) := by decide +kernel
theorem zd_X9_revise_31 : decode cX9_revise 31 = .ok (.iconst (-1), 1) := by decide +kernel
theorem zd_X9_revise_32 : decode cX9_revise 32 = .ok (.invokevirtual 77, 3) := by decide +kernel
theorem zd_X9_revise_35 : decode cX9_revise 35 = .ok (.ireturn, 1) := by decide +kernel
theorem zd_X9_revise_36 : decode cX9_revise 36 = .ok (.aload_n 3, 1) := by decide +kernel
theorem zd_X9_revise_37 : decode cX9_revise 37 = .ok (.invokestatic 85, 3) := by decide +kernel
theorem zd_X9_revise_40 : decode cX9_revise 40 = .ok (.istore 5, 2) := by decide +kernel
theorem zd_X9_revise_42 : decode cX9_revise 42 = .ok (.iload 5, 2) := by decide +kernel
theorem zd_X9_revise_44 : decode cX9_revise 44 = .ok (.ifCond .eq 10, 3) := by decide +kernel
theorem zd_X9_revise_47 : decode cX9_revise 47 = .ok (.aload_n 0, 1) := by decide +kernel
theorem zd_X9_revise_48 : decode cX9_revise 48 = .ok (.iload 5, 2) := by decide +kernel
theorem zd_X9_revise_50 : decode cX9_revise 50 = .ok (.invokevirtual 77, 3) := by decide +kernel
theorem zd_X9_revise_53 : decode cX9_revise 53 = .ok (.ireturn, 1) := by decide +kernel
theorem zd_X9_revise_54 : decode cX9_revise 54 = .ok (.aload_n 0, 1) := by decide +kernel
theorem zd_X9_revise_55 : decode cX9_revise 55 = .ok (.aload_n 0, 1) := by decide +kernel
theorem zd_X9_revise_56 : decode cX9_revise 56 = .ok (.getfield 36, 3) := by decide +kernel
theorem zd_X9_revise_59 : decode cX9_revise 59 = .ok (.aload_n 3, 1) := by decide +kernel
theorem zd_X9_revise_60 : decode cX9_revise 60 = .ok (.invokevirtual 149, 3) := by decide +kernel
theorem zd_X9_revise_63 : decode cX9_revise 63 = .ok (.putfield 29, 3) := by decide +kernel
theorem zd_X9_revise_66 : decode cX9_revise 66 = .ok (.aload_n 0, 1) := by decide +kernel
theorem zd_X9_revise_67 : decode cX9_revise 67 = .ok (.getfield 29, 3) := by decide +kernel
theorem zd_X9_revise_70 : decode cX9_revise 70 = .ok (.iconst (-1), 1) := by decide +kernel
theorem zd_X9_revise_71 : decode cX9_revise 71 = .ok (.if_icmp .eq 10, 3) := by decide +kernel
theorem zd_X9_revise_74 : decode cX9_revise 74 = .ok (.aload_n 0, 1) := by decide +kernel
theorem zd_X9_revise_75 : decode cX9_revise 75 = .ok (.bipush (-6), 2) := by decide +kernel
theorem zd_X9_revise_77 : decode cX9_revise 77 = .ok (.invokevirtual 77, 3) := by decide +kernel
theorem zd_X9_revise_80 : decode cX9_revise 80 = .ok (.ireturn, 1) := by decide +kernel
theorem zd_X9_revise_81 : decode cX9_revise 81 = .ok (.aload_n 0, 1) := by decide +kernel
theorem zd_X9_revise_82 : decode cX9_revise 82 = .ok (.getfield 18, 3) := by decide +kernel
theorem zd_X9_revise_85 : decode cX9_revise 85 = .ok (.getfield 152, 3) := by decide +kernel
theorem zd_X9_revise_88 : decode cX9_revise 88 = .ok (.invokevirtual 156, 3) := by decide +kernel
theorem zd_X9_revise_91 : decode cX9_revise 91 = .ok (.bipush 16, 2) := by decide +kernel
theorem zd_X9_revise_93 : decode cX9_revise 93 = .ok (.if_icmp .lt 10, 3) := by decide +kernel
theorem zd_X9_revise_96 : decode cX9_revise 96 = .ok (.aload_n 0, 1) := by decide +kernel
theorem zd_X9_revise_97 : decode cX9_revise 97 = .ok (.bipush (-7), 2) := by decide +kernel
theorem zd_X9_revise_99 : decode cX9_revise 99 = .ok (.invokevirtual 77, 3) := by decide +kernel
theorem zd_X9_revise_102 : decode cX9_revise 102 = .ok (.ireturn, 1) := by decide +kernel
theorem zd_X9_revise_103 : decode cX9_revise 103 = .ok (.aload_n 0, 1) := by decide +kernel
theorem zd_X9_revise_104 : decode cX9_revise 104 = .ok (.aload 4, 2) := by decide +kernel
theorem zd_X9_revise_106 : decode cX9_revise 106 = .ok (.invokevirtual 162, 3) := by decide +kernel
theorem zd_X9_revise_109 : decode cX9_revise 109 = .ok (.getfield 166, 3) := by decide +kernel
theorem zd_X9_revise_112 : decode cX9_revise 112 = .ok (.ireturn, 1) := by decide +kernel
theorem zd_X9_fault_0 : decode cX9_fault 0 = .ok (.aload_n 0, 1) := by decide +kernel
theorem zd_X9_fault_1 : decode cX9_fault 1 = .ok (.getfield 29, 3) := by decide +kernel
theorem zd_X9_fault_4 : decode cX9_fault 4 = .ok (.ireturn, 1) := by decide +kernel
theorem zd_X9_lines_0 : decode cX9_lines 0 = .ok (.aload_n 0, 1) := by decide +kernel
theorem zd_X9_lines_1 : decode cX9_lines 1 = .ok (.getfield 18, 3) := by decide +kernel
theorem zd_X9_lines_4 : decode cX9_lines 4 = .ok (.iload_n 1, 1) := by decide +kernel
theorem zd_X9_lines_5 : decode cX9_lines 5 = .ok (.invokevirtual 145, 3) := by decide +kernel
theorem zd_X9_lines_8 : decode cX9_lines 8 = .ok (.astore_n 2, 1) := by decide +kernel
theorem zd_X9_lines_9 : decode cX9_lines 9 = .ok (.aload_n 2, 1) := by decide +kernel
theorem zd_X9_lines_10 : decode cX9_lines 10 = .ok (.ifnonnull 11, 3) := by decide +kernel
theorem zd_X9_lines_13 : decode cX9_lines 13 = .ok (.aload_n 0, 1) := by decide +kernel
theorem zd_X9_lines_14 : decode cX9_lines 14 = .ok (.iconst (-1), 1) := by decide +kernel
theorem zd_X9_lines_15 : decode cX9_lines 15 = .ok (.invokevirtual 77, 3) := by decide +kernel
theorem zd_X9_lines_18 : decode cX9_lines 18 = .ok (.goto 7, 3) := by decide +kernel
theorem zd_X9_lines_21 : decode cX9_lines 21 = .ok (.aload_n 2, 1) := by decide +kernel
theorem zd_X9_lines_22 : decode cX9_lines 22 = .ok (.invokevirtual 171, 3) := by decide +kernel
theorem zd_X9_lines_25 : decode cX9_lines 25 = .ok (.ireturn, 1) := by decide +kernel
theorem zd_X9_letterOf_0 : decode cX9_letterOf 0 = .ok (.iload_n 2, 1) := by decide +kernel
theorem zd_X9_letterOf_1 : decode cX9_letterOf 1 = .ok (.ifCond .lt 9, 3) := by decide +kernel
theorem zd_X9_letterOf_4 : decode cX9_letterOf 4 = .ok (.iload_n 2, 1) := by decide +kernel
theorem zd_X9_letterOf_5 : decode cX9_letterOf 5 = .ok (.bipush 8, 2) := by decide +kernel
theorem zd_X9_letterOf_7 : decode cX9_letterOf 7 = .ok (.if_icmp .lt 7, 3) := by decide +kernel
theorem zd_X9_letterOf_10 : decode cX9_letterOf 10 = .ok (.iconst 0, 1) := by decide +kernel
theorem zd_X9_letterOf_11 : decode cX9_letterOf 11 = .ok (.goto 14, 3) := by decide +kernel
theorem zd_X9_letterOf_14 : decode cX9_letterOf 14 = .ok (.lload_n 0, 1) := by decide +kernel
theorem zd_X9_letterOf_15 : decode cX9_letterOf 15 = .ok (.bipush 8, 2) := by decide +kernel
theorem zd_X9_letterOf_17 : decode cX9_letterOf 17 = .ok (.iload_n 2, 1) := by decide +kernel
theorem zd_X9_letterOf_18 : decode cX9_letterOf 18 = .ok (.imul, 1) := by decide +kernel
theorem zd_X9_letterOf_19 : decode cX9_letterOf 19 = .ok (.lushr, 1) := by decide +kernel
theorem zd_X9_letterOf_20 : decode cX9_letterOf 20 = .ok (.l2i, 1) := by decide +kernel
theorem zd_X9_letterOf_21 : decode cX9_letterOf 21 = .ok (.sipush 255, 3) := by decide +kernel
theorem zd_X9_letterOf_24 : decode cX9_letterOf 24 = .ok (.iand, 1) := by decide +kernel
theorem zd_X9_letterOf_25 : decode cX9_letterOf 25 = .ok (.ireturn, 1) := by decide +kernel
theorem zd_X9_letter_0 : decode cX9_letter 0 = .ok (.aload_n 0, 1) := by decide +kernel
theorem zd_X9_letter_1 : decode cX9_letter 1 = .ok (.getfield 18, 3) := by decide +kernel
theorem zd_X9_letter_4 : decode cX9_letter 4 = .ok (.iload_n 1, 1) := by decide +kernel
theorem zd_X9_letter_5 : decode cX9_letter 5 = .ok (.invokevirtual 145, 3) := by decide +kernel
theorem zd_X9_letter_8 : decode cX9_letter 8 = .ok (.astore 4, 2) := by decide +kernel
theorem zd_X9_letter_10 : decode cX9_letter 10 = .ok (.aload 4, 2) := by decide +kernel
theorem zd_X9_letter_12 : decode cX9_letter 12 = .ok (.ifnonnull 9, 3) := by decide +kernel
theorem zd_X9_letter_15 : decode cX9_letter 15 = .ok (.aload_n 0, 1) := by decide +kernel
theorem zd_X9_letter_16 : decode cX9_letter 16 = .ok (.iconst (-1), 1) := by decide +kernel
theorem zd_X9_letter_17 : decode cX9_letter 17 = .ok (.invokevirtual 77, 3) := by decide +kernel
theorem zd_X9_letter_20 : decode cX9_letter 20 = .ok (.ireturn, 1) := by decide +kernel
theorem zd_X9_letter_21 : decode cX9_letter 21 = .ok (.aload 4, 2) := by decide +kernel
theorem zd_X9_letter_23 : decode cX9_letter 23 = .ok (.iload_n 2, 1) := by decide +kernel
theorem zd_X9_letter_24 : decode cX9_letter 24 = .ok (.invokevirtual 174, 3) := by decide +kernel
theorem zd_X9_letter_27 : decode cX9_letter 27 = .ok (.ifCond .eq 13, 3) := by decide +kernel
theorem zd_X9_letter_30 : decode cX9_letter 30 = .ok (.iload_n 3, 1) := by decide +kernel
theorem zd_X9_letter_31 : decode cX9_letter 31 = .ok (.ifCond .lt 9, 3) := by decide +kernel
theorem zd_X9_letter_34 : decode cX9_letter 34 = .ok (.iload_n 3, 1) := by decide +kernel
theorem zd_X9_letter_35 : decode cX9_letter 35 = .ok (.bipush 8, 2) := by decide +kernel
theorem zd_X9_letter_37 : decode cX9_letter 37 = .ok (.if_icmp .le 10, 3) := by decide +kernel
theorem zd_X9_letter_40 : decode cX9_letter 40 = .ok (.aload_n 0, 1) := by decide +kernel
theorem zd_X9_letter_41 : decode cX9_letter 41 = .ok (.bipush (-5), 2) := by decide +kernel
theorem zd_X9_letter_43 : decode cX9_letter 43 = .ok (.invokevirtual 77, 3) := by decide +kernel
theorem zd_X9_letter_46 : decode cX9_letter 46 = .ok (.ireturn, 1) := by decide +kernel
theorem zd_X9_letter_47 : decode cX9_letter 47 = .ok (.aload 4, 2) := by decide +kernel
theorem zd_X9_letter_49 : decode cX9_letter 49 = .ok (.iload_n 2, 1) := by decide +kernel
theorem zd_X9_letter_50 : decode cX9_letter 50 = .ok (.invokevirtual 177, 3) := by decide +kernel
theorem zd_X9_letter_53 : decode cX9_letter 53 = .ok (.iload_n 3, 1) := by decide +kernel
theorem zd_X9_letter_54 : decode cX9_letter 54 = .ok (.invokestatic 180, 3) := by decide +kernel
theorem zd_X9_letter_57 : decode cX9_letter 57 = .ok (.ireturn, 1) := by decide +kernel
theorem zd_X9_former_0 : decode cX9_former 0 = .ok (.aload_n 0, 1) := by decide +kernel
theorem zd_X9_former_1 : decode cX9_former 1 = .ok (.getfield 18, 3) := by decide +kernel
theorem zd_X9_former_4 : decode cX9_former 4 = .ok (.iload_n 1, 1) := by decide +kernel
theorem zd_X9_former_5 : decode cX9_former 5 = .ok (.invokevirtual 145, 3) := by decide +kernel
theorem zd_X9_former_8 : decode cX9_former 8 = .ok (.astore_n 2, 1) := by decide +kernel
theorem zd_X9_former_9 : decode cX9_former 9 = .ok (.aload_n 2, 1) := by decide +kernel
theorem zd_X9_former_10 : decode cX9_former 10 = .ok (.ifnonnull 10, 3) := by decide +kernel
theorem zd_X9_former_13 : decode cX9_former 13 = .ok (.aload_n 0, 1) := by decide +kernel
theorem zd_X9_former_14 : decode cX9_former 14 = .ok (.bipush (-11), 2) := by decide +kernel
theorem zd_X9_former_16 : decode cX9_former 16 = .ok (.invokevirtual 77, 3) := by decide +kernel
theorem zd_X9_former_19 : decode cX9_former 19 = .ok (.ireturn, 1) := by decide +kernel
theorem zd_X9_former_20 : decode cX9_former 20 = .ok (.aload_n 2, 1) := by decide +kernel
theorem zd_X9_former_21 : decode cX9_former 21 = .ok (.getfield 184, 3) := by decide +kernel
theorem zd_X9_former_24 : decode cX9_former 24 = .ok (.ifnonnull 7, 3) := by decide +kernel
theorem zd_X9_former_27 : decode cX9_former 27 = .ok (.iconst (-1), 1) := by decide +kernel
theorem zd_X9_former_28 : decode cX9_former 28 = .ok (.goto 10, 3) := by decide +kernel
theorem zd_X9_former_31 : decode cX9_former 31 = .ok (.aload_n 2, 1) := by decide +kernel
theorem zd_X9_former_32 : decode cX9_former 32 = .ok (.getfield 184, 3) := by decide +kernel
theorem zd_X9_former_35 : decode cX9_former 35 = .ok (.getfield 166, 3) := by decide +kernel
theorem zd_X9_former_38 : decode cX9_former 38 = .ok (.ireturn, 1) := by decide +kernel
theorem zd_X9_readySteps_0 : decode cX9_readySteps 0 = .ok (.iconst 0, 1) := by decide +kernel
theorem zd_X9_readySteps_1 : decode cX9_readySteps 1 = .ok (.istore_n 1, 1) := by decide +kernel
theorem zd_X9_readySteps_2 : decode cX9_readySteps 2 = .ok (.iload_n 1, 1) := by decide +kernel
theorem zd_X9_readySteps_3 : decode cX9_readySteps 3 = .ok (.aload_n 0, 1) := by decide +kernel
theorem zd_X9_readySteps_4 : decode cX9_readySteps 4 = .ok (.getfield 18, 3) := by decide +kernel
theorem zd_X9_readySteps_7 : decode cX9_readySteps 7 = .ok (.getfield 152, 3) := by decide +kernel
theorem zd_X9_readySteps_10 : decode cX9_readySteps 10 = .ok (.invokevirtual 156, 3) := by decide +kernel
theorem zd_X9_readySteps_13 : decode cX9_readySteps 13 = .ok (.if_icmp .ge 37, 3) := by decide +kernel
theorem zd_X9_readySteps_16 : decode cX9_readySteps 16 = .ok (.aload_n 0, 1) := by decide +kernel
theorem zd_X9_readySteps_17 : decode cX9_readySteps 17 = .ok (.getfield 18, 3) := by decide +kernel
theorem zd_X9_readySteps_20 : decode cX9_readySteps 20 = .ok (.getfield 152, 3) := by decide +kernel
theorem zd_X9_readySteps_23 : decode cX9_readySteps 23 = .ok (.iload_n 1, 1) := by decide +kernel
theorem zd_X9_readySteps_24 : decode cX9_readySteps 24 = .ok (.invokevirtual 342, 3) := by decide +kernel
theorem zd_X9_readySteps_27 : decode cX9_readySteps 27 = .ok (.checkcast 167, 3) := by decide +kernel
theorem zd_X9_readySteps_30 : decode cX9_readySteps 30 = .ok (.aload_n 0, 1) := by decide +kernel
theorem zd_X9_readySteps_31 : decode cX9_readySteps 31 = .ok (.getfield 43, 3) := by decide +kernel
theorem zd_X9_readySteps_34 : decode cX9_readySteps 34 = .ok (.aload_n 0, 1) := by decide +kernel
theorem zd_X9_readySteps_35 : decode cX9_readySteps 35 = .ok (.getfield 18, 3) := by decide +kernel
theorem zd_X9_readySteps_38 : decode cX9_readySteps 38 = .ok (.getfield 200, 3) := by decide +kernel
theorem zd_X9_readySteps_41 : decode cX9_readySteps 41 = .ok (.invokevirtual 392, 3) := by decide +kernel
theorem zd_X9_readySteps_44 : decode cX9_readySteps 44 = .ok (.iinc 1 1, 3) := by decide +kernel
theorem zd_X9_readySteps_47 : decode cX9_readySteps 47 = .ok (.goto (-45), 3) := by decide +kernel
theorem zd_X9_readySteps_50 : decode cX9_readySteps 50 = .ok (.return_, 1) := by decide +kernel
theorem zd_X9_rule_0 : decode cX9_rule 0 = .ok (.aload_n 0, 1) := by decide +kernel
theorem zd_X9_rule_1 : decode cX9_rule 1 = .ok (.getfield 18, 3) := by decide +kernel
theorem zd_X9_rule_4 : decode cX9_rule 4 = .ok (.iload_n 1, 1) := by decide +kernel
theorem zd_X9_rule_5 : decode cX9_rule 5 = .ok (.iload_n 2, 1) := by decide +kernel
theorem zd_X9_rule_6 : decode cX9_rule 6 = .ok (.invokevirtual 188, 3) := by decide +kernel
theorem zd_X9_rule_9 : decode cX9_rule 9 = .ok (.ifCond .ne 10, 3) := by decide +kernel
theorem zd_X9_rule_12 : decode cX9_rule 12 = .ok (.aload_n 0, 1) := by decide +kernel
theorem zd_X9_rule_13 : decode cX9_rule 13 = .ok (.bipush (-6), 2) := by decide +kernel
theorem zd_X9_rule_15 : decode cX9_rule 15 = .ok (.invokevirtual 77, 3) := by decide +kernel
theorem zd_X9_rule_18 : decode cX9_rule 18 = .ok (.ireturn, 1) := by decide +kernel
theorem zd_X9_rule_19 : decode cX9_rule 19 = .ok (.aload_n 0, 1) := by decide +kernel
theorem zd_X9_rule_20 : decode cX9_rule 20 = .ok (.getfield 18, 3) := by decide +kernel
theorem zd_X9_rule_23 : decode cX9_rule 23 = .ok (.iload_n 1, 1) := by decide +kernel
theorem zd_X9_rule_24 : decode cX9_rule 24 = .ok (.invokevirtual 191, 3) := by decide +kernel
theorem zd_X9_rule_27 : decode cX9_rule 27 = .ok (.istore_n 3, 1) := by decide +kernel
theorem zd_X9_rule_28 : decode cX9_rule 28 = .ok (.aload_n 0, 1) := by decide +kernel
theorem zd_X9_rule_29 : decode cX9_rule 29 = .ok (.getfield 18, 3) := by decide +kernel
theorem zd_X9_rule_32 : decode cX9_rule 32 = .ok (.iload_n 1, 1) := by decide +kernel
theorem zd_X9_rule_33 : decode cX9_rule 33 = .ok (.iload_n 2, 1) := by decide +kernel
theorem zd_X9_rule_34 : decode cX9_rule 34 = .ok (.invokevirtual 194, 3) := by decide +kernel
theorem zd_X9_rule_37 : decode cX9_rule 37 = .ok (.aload_n 0, 1) := by decide +kernel
theorem zd_X9_rule_38 : decode cX9_rule 38 = .ok (.invokevirtual 197, 3) := by decide +kernel
theorem zd_X9_rule_41 : decode cX9_rule 41 = .ok (.iload_n 3, 1) := by decide +kernel
theorem zd_X9_rule_42 : decode cX9_rule 42 = .ok (.ireturn, 1) := by decide +kernel
theorem zd_X9_place_0 : decode cX9_place 0 = .ok (.aload_n 0, 1) := by decide +kernel
theorem zd_X9_place_1 : decode cX9_place 1 = .ok (.getfield 18, 3) := by decide +kernel
theorem zd_X9_place_4 : decode cX9_place 4 = .ok (.iload_n 1, 1) := by decide +kernel
theorem zd_X9_place_5 : decode cX9_place 5 = .ok (.invokevirtual 145, 3) := by decide +kernel
theorem zd_X9_place_8 : decode cX9_place 8 = .ok (.astore 4, 2) := by decide +kernel
theorem zd_X9_place_10 : decode cX9_place 10 = .ok (.aload_n 0, 1) := by decide +kernel
theorem zd_X9_place_11 : decode cX9_place 11 = .ok (.getfield 18, 3) := by decide +kernel
theorem zd_X9_place_14 : decode cX9_place 14 = .ok (.iload_n 2, 1) := by decide +kernel
theorem zd_X9_place_15 : decode cX9_place 15 = .ok (.invokevirtual 145, 3) := by decide +kernel
theorem zd_X9_place_18 : decode cX9_place 18 = .ok (.astore 5, 2) := by decide +kernel
theorem zd_X9_place_20 : decode cX9_place 20 = .ok (.aload 4, 2) := by decide +kernel
theorem zd_X9_place_22 : decode cX9_place 22 = .ok (.ifnull 8, 3) := by decide +kernel
theorem zd_X9_place_25 : decode cX9_place 25 = .ok (.aload 5, 2) := by decide +kernel
theorem zd_X9_place_27 : decode cX9_place 27 = .ok (.ifnonnull 10, 3) := by decide +kernel
theorem zd_X9_place_30 : decode cX9_place 30 = .ok (.aload_n 0, 1) := by decide +kernel
theorem zd_X9_place_31 : decode cX9_place 31 = .ok (.bipush (-11), 2) := by decide +kernel
theorem zd_X9_place_33 : decode cX9_place 33 = .ok (.invokevirtual 77, 3) := by decide +kernel
theorem zd_X9_place_36 : decode cX9_place 36 = .ok (.ireturn, 1) := by decide +kernel
theorem zd_X9_place_37 : decode cX9_place 37 = .ok (.aload 4, 2) := by decide +kernel
theorem zd_X9_place_39 : decode cX9_place 39 = .ok (.iload_n 3, 1) := by decide +kernel
theorem zd_X9_place_40 : decode cX9_place 40 = .ok (.invokevirtual 174, 3) := by decide +kernel
theorem zd_X9_place_43 : decode cX9_place 43 = .ok (.ifCond .ne 10, 3) := by decide +kernel
theorem zd_X9_place_46 : decode cX9_place 46 = .ok (.aload_n 0, 1) := by decide +kernel
theorem zd_X9_place_47 : decode cX9_place 47 = .ok (.bipush (-15), 2) := by decide +kernel
theorem zd_X9_place_49 : decode cX9_place 49 = .ok (.invokevirtual 77, 3) := by decide +kernel
theorem zd_X9_place_52 : decode cX9_place 52 = .ok (.ireturn, 1) := by decide +kernel
theorem zd_X9_place_53 : decode cX9_place 53 = .ok (.aload_n 0, 1) := by decide +kernel
theorem zd_X9_place_54 : decode cX9_place 54 = .ok (.getfield 43, 3) := by decide +kernel
theorem zd_X9_place_57 : decode cX9_place 57 = .ok (.aload 4, 2) := by decide +kernel
theorem zd_X9_place_59 : decode cX9_place 59 = .ok (.aload 5, 2) := by decide +kernel
theorem zd_X9_place_61 : decode cX9_place 61 = .ok (.aload_n 0, 1) := by decide +kernel
theorem zd_X9_place_62 : decode cX9_place 62 = .ok (.getfield 18, 3) := by decide +kernel
theorem zd_X9_place_65 : decode cX9_place 65 = .ok (.getfield 200, 3) := by decide +kernel
theorem zd_X9_place_68 : decode cX9_place 68 = .ok (.invokevirtual 203, 3) := by decide +kernel
theorem zd_X9_place_71 : decode cX9_place 71 = .ok (.aload_n 0, 1) := by decide +kernel
theorem zd_X9_place_72 : decode cX9_place 72 = .ok (.getfield 43, 3) := by decide +kernel
theorem zd_X9_place_75 : decode cX9_place 75 = .ok (.iload_n 3, 1) := by decide +kernel
theorem zd_X9_place_76 : decode cX9_place 76 = .ok (.invokevirtual 207, 3) := by decide +kernel
theorem zd_X9_place_79 : decode cX9_place 79 = .ok (.ireturn, 1) := by decide +kernel
theorem zd_X9_matched_0 : decode cX9_matched 0 = .ok (.aload_n 0, 1) := by decide +kernel
theorem zd_X9_matched_1 : decode cX9_matched 1 = .ok (.getfield 18, 3) := by decide +kernel
theorem zd_X9_matched_4 : decode cX9_matched 4 = .ok (.iload_n 1, 1) := by decide +kernel
theorem zd_X9_matched_5 : decode cX9_matched 5 = .ok (.invokevirtual 145, 3) := by decide +kernel
theorem zd_X9_matched_8 : decode cX9_matched 8 = .ok (.astore 4, 2) := by decide +kernel
theorem zd_X9_matched_10 : decode cX9_matched 10 = .ok (.aload_n 0, 1) := by decide +kernel
theorem zd_X9_matched_11 : decode cX9_matched 11 = .ok (.getfield 18, 3) := by decide +kernel
theorem zd_X9_matched_14 : decode cX9_matched 14 = .ok (.iload_n 2, 1) := by decide +kernel
theorem zd_X9_matched_15 : decode cX9_matched 15 = .ok (.invokevirtual 145, 3) := by decide +kernel
theorem zd_X9_matched_18 : decode cX9_matched 18 = .ok (.astore 5, 2) := by decide +kernel
theorem zd_X9_matched_20 : decode cX9_matched 20 = .ok (.aload 4, 2) := by decide +kernel
theorem zd_X9_matched_22 : decode cX9_matched 22 = .ok (.ifnull 8, 3) := by decide +kernel
theorem zd_X9_matched_25 : decode cX9_matched 25 = .ok (.aload 5, 2) := by decide +kernel
theorem zd_X9_matched_27 : decode cX9_matched 27 = .ok (.ifnonnull 9, 3) := by decide +kernel
theorem zd_X9_matched_30 : decode cX9_matched 30 = .ok (.aload_n 0, 1) := by decide +kernel
theorem zd_X9_matched_31 : decode cX9_matched 31 = .ok (.iconst (-1), 1) := by decide +kernel
theorem zd_X9_matched_32 : decode cX9_matched 32 = .ok (.invokevirtual 77, 3) := by decide +kernel
theorem zd_X9_matched_35 : decode cX9_matched 35 = .ok (.ireturn, 1) := by decide +kernel
theorem zd_X9_matched_36 : decode cX9_matched 36 = .ok (.iload_n 3, 1) := by decide +kernel
theorem zd_X9_matched_37 : decode cX9_matched 37 = .ok (.ifCond .lt 8, 3) := by decide +kernel
theorem zd_X9_matched_40 : decode cX9_matched 40 = .ok (.iload_n 3, 1) := by decide +kernel
theorem zd_X9_matched_41 : decode cX9_matched 41 = .ok (.iconst 1, 1) := by decide +kernel
theorem zd_X9_matched_42 : decode cX9_matched 42 = .ok (.if_icmp .le 10, 3) := by decide +kernel
theorem zd_X9_matched_45 : decode cX9_matched 45 = .ok (.aload_n 0, 1) := by decide +kernel
theorem zd_X9_matched_46 : decode cX9_matched 46 = .ok (.bipush (-5), 2) := by decide +kernel
theorem zd_X9_matched_48 : decode cX9_matched 48 = .ok (.invokevirtual 77, 3) := by decide +kernel
theorem zd_X9_matched_51 : decode cX9_matched 51 = .ok (.ireturn, 1) := by decide +kernel
theorem zd_X9_matched_52 : decode cX9_matched 52 = .ok (.aload_n 0, 1) := by decide +kernel
theorem zd_X9_matched_53 : decode cX9_matched 53 = .ok (.getfield 43, 3) := by decide +kernel
theorem zd_X9_matched_56 : decode cX9_matched 56 = .ok (.aload 4, 2) := by decide +kernel
theorem zd_X9_matched_58 : decode cX9_matched 58 = .ok (.aload 5, 2) := by decide +kernel
theorem zd_X9_matched_60 : decode cX9_matched 60 = .ok (.aload_n 0, 1) := by decide +kernel
theorem zd_X9_matched_61 : decode cX9_matched 61 = .ok (.getfield 18, 3) := by decide +kernel
theorem zd_X9_matched_64 : decode cX9_matched 64 = .ok (.getfield 200, 3) := by decide +kernel
theorem zd_X9_matched_67 : decode cX9_matched 67 = .ok (.invokevirtual 203, 3) := by decide +kernel
theorem zd_X9_matched_70 : decode cX9_matched 70 = .ok (.iload_n 3, 1) := by decide +kernel
theorem zd_X9_matched_71 : decode cX9_matched 71 = .ok (.ifCond .ne 13, 3) := by decide +kernel
theorem zd_X9_matched_74 : decode cX9_matched 74 = .ok (.aload_n 0, 1) := by decide +kernel
theorem zd_X9_matched_75 : decode cX9_matched 75 = .ok (.getfield 43, 3) := by decide +kernel
theorem zd_X9_matched_78 : decode cX9_matched 78 = .ok (.getfield 210, 3) := by decide +kernel
theorem zd_X9_matched_81 : decode cX9_matched 81 = .ok (.goto 10, 3) := by decide +kernel
theorem zd_X9_matched_84 : decode cX9_matched 84 = .ok (.aload_n 0, 1) := by decide +kernel
theorem zd_X9_matched_85 : decode cX9_matched 85 = .ok (.getfield 43, 3) := by decide +kernel
theorem zd_X9_matched_88 : decode cX9_matched 88 = .ok (.getfield 213, 3) := by decide +kernel
theorem zd_X9_matched_91 : decode cX9_matched 91 = .ok (.ireturn, 1) := by decide +kernel
theorem zd_X9_through_0 : decode cX9_through 0 = .ok (.aload_n 0, 1) := by decide +kernel
theorem zd_X9_through_1 : decode cX9_through 1 = .ok (.getfield 18, 3) := by decide +kernel
theorem zd_X9_through_4 : decode cX9_through 4 = .ok (.iload_n 1, 1) := by decide +kernel
theorem zd_X9_through_5 : decode cX9_through 5 = .ok (.invokevirtual 145, 3) := by decide +kernel
theorem zd_X9_through_8 : decode cX9_through 8 = .ok (.astore 4, 2) := by decide +kernel
theorem zd_X9_through_10 : decode cX9_through 10 = .ok (.aload_n 0, 1) := by decide +kernel
theorem zd_X9_through_11 : decode cX9_through 11 = .ok (.getfield 18, 3) := by decide +kernel
theorem zd_X9_through_14 : decode cX9_through 14 = .ok (.iload_n 2, 1) := by decide +kernel
theorem zd_X9_through_15 : decode cX9_through 15 = .ok (.invokevirtual 145, 3) := by decide +kernel
theorem zd_X9_through_18 : decode cX9_through 18 = .ok (.astore 5, 2) := by decide +kernel
theorem zd_X9_through_20 : decode cX9_through 20 = .ok (.aload 4, 2) := by decide +kernel
theorem zd_X9_through_22 : decode cX9_through 22 = .ok (.ifnull 8, 3) := by decide +kernel
theorem zd_X9_through_25 : decode cX9_through 25 = .ok (.aload 5, 2) := by decide +kernel
theorem zd_X9_through_27 : decode cX9_through 27 = .ok (.ifnonnull 10, 3) := by decide +kernel
theorem zd_X9_through_30 : decode cX9_through 30 = .ok (.aload_n 0, 1) := by decide +kernel
theorem zd_X9_through_31 : decode cX9_through 31 = .ok (.bipush (-11), 2) := by decide +kernel
theorem zd_X9_through_33 : decode cX9_through 33 = .ok (.invokevirtual 77, 3) := by decide +kernel
theorem zd_X9_through_36 : decode cX9_through 36 = .ok (.ireturn, 1) := by decide +kernel
theorem zd_X9_through_37 : decode cX9_through 37 = .ok (.aload 4, 2) := by decide +kernel
theorem zd_X9_through_39 : decode cX9_through 39 = .ok (.iload_n 3, 1) := by decide +kernel
theorem zd_X9_through_40 : decode cX9_through 40 = .ok (.invokevirtual 174, 3) := by decide +kernel
theorem zd_X9_through_43 : decode cX9_through 43 = .ok (.ifCond .ne 10, 3) := by decide +kernel
theorem zd_X9_through_46 : decode cX9_through 46 = .ok (.aload_n 0, 1) := by decide +kernel
theorem zd_X9_through_47 : decode cX9_through 47 = .ok (.bipush (-15), 2) := by decide +kernel
theorem zd_X9_through_49 : decode cX9_through 49 = .ok (.invokevirtual 77, 3) := by decide +kernel
theorem zd_X9_through_52 : decode cX9_through 52 = .ok (.ireturn, 1) := by decide +kernel
theorem zd_X9_through_53 : decode cX9_through 53 = .ok (.aload_n 0, 1) := by decide +kernel
theorem zd_X9_through_54 : decode cX9_through 54 = .ok (.getfield 52, 3) := by decide +kernel
theorem zd_X9_through_57 : decode cX9_through 57 = .ok (.aload 4, 2) := by decide +kernel
theorem zd_X9_through_59 : decode cX9_through 59 = .ok (.aload 5, 2) := by decide +kernel
theorem zd_X9_through_61 : decode cX9_through 61 = .ok (.invokevirtual 216, 3) := by decide +kernel
theorem zd_X9_through_64 : decode cX9_through 64 = .ok (.ifCond .ne 10, 3) := by decide +kernel
theorem zd_X9_through_67 : decode cX9_through 67 = .ok (.aload_n 0, 1) := by decide +kernel
theorem zd_X9_through_68 : decode cX9_through 68 = .ok (.bipush (-16), 2) := by decide +kernel
theorem zd_X9_through_70 : decode cX9_through 70 = .ok (.invokevirtual 77, 3) := by decide +kernel
theorem zd_X9_through_73 : decode cX9_through 73 = .ok (.ireturn, 1) := by decide +kernel
theorem zd_X9_through_74 : decode cX9_through 74 = .ok (.aload_n 0, 1) := by decide +kernel
theorem zd_X9_through_75 : decode cX9_through 75 = .ok (.getfield 52, 3) := by decide +kernel
theorem zd_X9_through_78 : decode cX9_through 78 = .ok (.iload_n 3, 1) := by decide +kernel
theorem zd_X9_through_79 : decode cX9_through 79 = .ok (.invokevirtual 220, 3) := by decide +kernel
theorem zd_X9_through_82 : decode cX9_through 82 = .ok (.ireturn, 1) := by decide +kernel
theorem zd_X9_origin_0 : decode cX9_origin 0 = .ok (.aload_n 0, 1) := by decide +kernel
theorem zd_X9_origin_1 : decode cX9_origin 1 = .ok (.getfield 18, 3) := by decide +kernel
theorem zd_X9_origin_4 : decode cX9_origin 4 = .ok (.iload_n 1, 1) := by decide +kernel
theorem zd_X9_origin_5 : decode cX9_origin 5 = .ok (.invokevirtual 145, 3) := by decide +kernel
theorem zd_X9_origin_8 : decode cX9_origin 8 = .ok (.astore 4, 2) := by decide +kernel
theorem zd_X9_origin_10 : decode cX9_origin 10 = .ok (.aload 4, 2) := by decide +kernel
theorem zd_X9_origin_12 : decode cX9_origin 12 = .ok (.ifnonnull 9, 3) := by decide +kernel
theorem zd_X9_origin_15 : decode cX9_origin 15 = .ok (.aload_n 0, 1) := by decide +kernel
theorem zd_X9_origin_16 : decode cX9_origin 16 = .ok (.iconst (-1), 1) := by decide +kernel
theorem zd_X9_origin_17 : decode cX9_origin 17 = .ok (.invokevirtual 77, 3) := by decide +kernel
theorem zd_X9_origin_20 : decode cX9_origin 20 = .ok (.ireturn, 1) := by decide +kernel
theorem zd_X9_origin_21 : decode cX9_origin 21 = .ok (.aload 4, 2) := by decide +kernel
theorem zd_X9_origin_23 : decode cX9_origin 23 = .ok (.iload_n 2, 1) := by decide +kernel
theorem zd_X9_origin_24 : decode cX9_origin 24 = .ok (.invokevirtual 174, 3) := by decide +kernel
theorem zd_X9_origin_27 : decode cX9_origin 27 = .ok (.ifCond .eq 12, 3) := by decide +kernel
theorem zd_X9_origin_30 : decode cX9_origin 30 = .ok (.iload_n 3, 1) := by decide +kernel
theorem zd_X9_origin_31 : decode cX9_origin 31 = .ok (.ifCond .lt 8, 3) := by decide +kernel
theorem zd_X9_origin_34 : decode cX9_origin 34 = .ok (.iload_n 3, 1) := by decide +kernel
theorem zd_X9_origin_35 : decode cX9_origin 35 = .ok (.iconst 1, 1) := by decide +kernel
theorem zd_X9_origin_36 : decode cX9_origin 36 = .ok (.if_icmp .le 10, 3) := by decide +kernel
theorem zd_X9_origin_39 : decode cX9_origin 39 = .ok (.aload_n 0, 1) := by decide +kernel
theorem zd_X9_origin_40 : decode cX9_origin 40 = .ok (.bipush (-5), 2) := by decide +kernel
theorem zd_X9_origin_42 : decode cX9_origin 42 = .ok (.invokevirtual 77, 3) := by decide +kernel
theorem zd_X9_origin_45 : decode cX9_origin 45 = .ok (.ireturn, 1) := by decide +kernel
theorem zd_X9_origin_46 : decode cX9_origin 46 = .ok (.iload_n 2, 1) := by decide +kernel
theorem zd_X9_origin_47 : decode cX9_origin 47 = .ok (.istore 5, 2) := by decide +kernel
theorem zd_X9_origin_49 : decode cX9_origin 49 = .ok (.aload 4, 2) := by decide +kernel
theorem zd_X9_origin_51 : decode cX9_origin 51 = .ok (.iload 5, 2) := by decide +kernel
theorem zd_X9_origin_53 : decode cX9_origin 53 = .ok (.invokevirtual 223, 3) := by decide +kernel
theorem zd_X9_origin_56 : decode cX9_origin 56 = .ok (.istore 6, 2) := by decide +kernel
theorem zd_X9_origin_58 : decode cX9_origin 58 = .ok (.aload 4, 2) := by decide +kernel
theorem zd_X9_origin_60 : decode cX9_origin 60 = .ok (.getfield 184, 3) := by decide +kernel
theorem zd_X9_origin_63 : decode cX9_origin 63 = .ok (.astore 7, 2) := by decide +kernel
theorem zd_X9_origin_65 : decode cX9_origin 65 = .ok (.aload 7, 2) := by decide +kernel
theorem zd_X9_origin_67 : decode cX9_origin 67 = .ok (.ifnull 36, 3) := by decide +kernel
theorem zd_X9_origin_70 : decode cX9_origin 70 = .ok (.iload 6, 2) := by decide +kernel
theorem zd_X9_origin_72 : decode cX9_origin 72 = .ok (.iconst (-1), 1) := by decide +kernel
theorem zd_X9_origin_73 : decode cX9_origin 73 = .ok (.if_icmp .eq 30, 3) := by decide +kernel
theorem zd_X9_origin_76 : decode cX9_origin 76 = .ok (.aload 7, 2) := by decide +kernel
theorem zd_X9_origin_78 : decode cX9_origin 78 = .ok (.astore 4, 2) := by decide +kernel
theorem zd_X9_origin_80 : decode cX9_origin 80 = .ok (.iload 6, 2) := by decide +kernel
theorem zd_X9_origin_82 : decode cX9_origin 82 = .ok (.istore 5, 2) := by decide +kernel
theorem zd_X9_origin_84 : decode cX9_origin 84 = .ok (.aload 4, 2) := by decide +kernel
theorem zd_X9_origin_86 : decode cX9_origin 86 = .ok (.iload 5, 2) := by decide +kernel
theorem zd_X9_origin_88 : decode cX9_origin 88 = .ok (.invokevirtual 223, 3) := by decide +kernel
theorem zd_X9_origin_91 : decode cX9_origin 91 = .ok (.istore 6, 2) := by decide +kernel
theorem zd_X9_origin_93 : decode cX9_origin 93 = .ok (.aload 4, 2) := by decide +kernel
theorem zd_X9_origin_95 : decode cX9_origin 95 = .ok (.getfield 184, 3) := by decide +kernel
theorem zd_X9_origin_98 : decode cX9_origin 98 = .ok (.astore 7, 2) := by decide +kernel
theorem zd_X9_origin_100 : decode cX9_origin 100 = .ok (.goto (-35), 3) := by decide +kernel
theorem zd_X9_origin_103 : decode cX9_origin 103 = .ok (.iload_n 3, 1) := by decide +kernel
theorem zd_X9_origin_104 : decode cX9_origin 104 = .ok (.ifCond .ne 11, 3) := by decide +kernel
theorem zd_X9_origin_107 : decode cX9_origin 107 = .ok (.aload 4, 2) := by decide +kernel
theorem zd_X9_origin_109 : decode cX9_origin 109 = .ok (.getfield 166, 3) := by decide +kernel
theorem zd_X9_origin_112 : decode cX9_origin 112 = .ok (.goto 5, 3) := by decide +kernel
theorem zd_X9_origin_115 : decode cX9_origin 115 = .ok (.iload 5, 2) := by decide +kernel
theorem zd_X9_origin_117 : decode cX9_origin 117 = .ok (.ireturn, 1) := by decide +kernel
theorem zd_X9_remark_0 : decode cX9_remark 0 = .ok (.aload_n 0, 1) := by decide +kernel
theorem zd_X9_remark_1 : decode cX9_remark 1 = .ok (.getfield 18, 3) := by decide +kernel
theorem zd_X9_remark_4 : decode cX9_remark 4 = .ok (.iload_n 3, 1) := by decide +kernel
theorem zd_X9_remark_5 : decode cX9_remark 5 = .ok (.invokevirtual 145, 3) := by decide +kernel
theorem zd_X9_remark_8 : decode cX9_remark 8 = .ok (.astore 7, 2) := by decide +kernel
theorem zd_X9_remark_10 : decode cX9_remark 10 = .ok (.iload_n 1, 1) := by decide +kernel
theorem zd_X9_remark_11 : decode cX9_remark 11 = .ok (.invokestatic 131, 3) := by decide +kernel
theorem zd_X9_remark_14 : decode cX9_remark 14 = .ok (.ifCond .eq 26, 3) := by decide +kernel
theorem zd_X9_remark_17 : decode cX9_remark 17 = .ok (.aload 7, 2) := by decide +kernel
theorem zd_X9_remark_19 : decode cX9_remark 19 = .ok (.ifnull 21, 3) := by decide +kernel
theorem zd_X9_remark_22 : decode cX9_remark 22 = .ok (.iload 6, 2) := by decide +kernel
theorem zd_X9_remark_24 : decode cX9_remark 24 = .ok (.iconst (-1), 1) := by decide +kernel
theorem zd_X9_remark_25 : decode cX9_remark 25 = .ok (.if_icmp .eq 21, 3) := by decide +kernel
theorem zd_X9_remark_28 : decode cX9_remark 28 = .ok (.aload_n 0, 1) := by decide +kernel
theorem zd_X9_remark_29 : decode cX9_remark 29 = .ok (.getfield 18, 3) := by decide +kernel
theorem zd_X9_remark_32 : decode cX9_remark 32 = .ok (.iload 6, 2) := by decide +kernel
theorem zd_X9_remark_34 : decode cX9_remark 34 = .ok (.invokevirtual 120, 3) := by decide +kernel
theorem zd_X9_remark_37 : decode cX9_remark 37 = .ok (.ifnonnull 9, 3) := by decide +kernel
theorem zd_X9_remark_40 : decode cX9_remark 40 = .ok (.aload_n 0, 1) := by decide +kernel
theorem zd_X9_remark_41 : decode cX9_remark 41 = .ok (.iconst (-1), 1) := by decide +kernel
theorem zd_X9_remark_42 : decode cX9_remark 42 = .ok (.invokevirtual 77, 3) := by decide +kernel
theorem zd_X9_remark_45 : decode cX9_remark 45 = .ok (.ireturn, 1) := by decide +kernel
theorem zd_X9_remark_46 : decode cX9_remark 46 = .ok (.aload 7, 2) := by decide +kernel
theorem zd_X9_remark_48 : decode cX9_remark 48 = .ok (.iload 4, 2) := by decide +kernel
theorem zd_X9_remark_50 : decode cX9_remark 50 = .ok (.invokevirtual 174, 3) := by decide +kernel
theorem zd_X9_remark_53 : decode cX9_remark 53 = .ok (.ifCond .eq 20, 3) := by decide +kernel
theorem zd_X9_remark_56 : decode cX9_remark 56 = .ok (.aload 7, 2) := by decide +kernel
theorem zd_X9_remark_58 : decode cX9_remark 58 = .ok (.iload 5, 2) := by decide +kernel
theorem zd_X9_remark_60 : decode cX9_remark 60 = .ok (.invokevirtual 174, 3) := by decide +kernel
theorem zd_X9_remark_63 : decode cX9_remark 63 = .ok (.ifCond .eq 10, 3) := by decide +kernel
theorem zd_X9_remark_66 : decode cX9_remark 66 = .ok (.iload 5, 2) := by decide +kernel
theorem zd_X9_remark_68 : decode cX9_remark 68 = .ok (.iload 4, 2) := by decide +kernel
theorem zd_X9_remark_70 : decode cX9_remark 70 = .ok (.if_icmp .ge 10, 3) := by decide +kernel
theorem zd_X9_remark_73 : decode cX9_remark 73 = .ok (.aload_n 0, 1) := by decide +kernel
theorem zd_X9_remark_74 : decode cX9_remark 74 = .ok (.bipush (-5), 2) := by decide +kernel
theorem zd_X9_remark_76 : decode cX9_remark 76 = .ok (.invokevirtual 77, 3) := by decide +kernel
theorem zd_X9_remark_79 : decode cX9_remark 79 = .ok (.ireturn, 1) := by decide +kernel
theorem zd_X9_remark_80 : decode cX9_remark 80 = .ok (.iload_n 2, 1) := by decide +kernel
theorem zd_X9_remark_81 : decode cX9_remark 81 = .ok (.ifCond .lt 9, 3) := by decide +kernel
theorem zd_X9_remark_84 : decode cX9_remark 84 = .ok (.iload_n 2, 1) := by decide +kernel
theorem zd_X9_remark_85 : decode cX9_remark 85 = .ok (.bipush 9, 2) := by decide +kernel
theorem zd_X9_remark_87 : decode cX9_remark 87 = .ok (.if_icmp .le 10, 3) := by decide +kernel
theorem zd_X9_remark_90 : decode cX9_remark 90 = .ok (.aload_n 0, 1) := by decide +kernel
theorem zd_X9_remark_91 : decode cX9_remark 91 = .ok (.bipush (-6), 2) := by decide +kernel
theorem zd_X9_remark_93 : decode cX9_remark 93 = .ok (.invokevirtual 77, 3) := by decide +kernel
theorem zd_X9_remark_96 : decode cX9_remark 96 = .ok (.ireturn, 1) := by decide +kernel
theorem zd_X9_remark_97 : decode cX9_remark 97 = .ok (.aload_n 0, 1) := by decide +kernel
theorem zd_X9_remark_98 : decode cX9_remark 98 = .ok (.getfield 18, 3) := by decide +kernel
theorem zd_X9_remark_101 : decode cX9_remark 101 = .ok (.getfield 226, 3) := by decide +kernel
theorem zd_X9_remark_104 : decode cX9_remark 104 = .ok (.invokevirtual 156, 3) := by decide +kernel
theorem zd_X9_remark_107 : decode cX9_remark 107 = .ok (.istore 8, 2) := by decide +kernel
theorem zd_X9_remark_109 : decode cX9_remark 109 = .ok (.iload 8, 2) := by decide +kernel
theorem zd_X9_remark_111 : decode cX9_remark 111 = .ok (.bipush 16, 2) := by decide +kernel
theorem zd_X9_remark_113 : decode cX9_remark 113 = .ok (.if_icmp .lt 10, 3) := by decide +kernel
theorem zd_X9_remark_116 : decode cX9_remark 116 = .ok (.aload_n 0, 1) := by decide +kernel
theorem zd_X9_remark_117 : decode cX9_remark 117 = .ok (.bipush (-7), 2) := by decide +kernel
theorem zd_X9_remark_119 : decode cX9_remark 119 = .ok (.invokevirtual 77, 3) := by decide +kernel
theorem zd_X9_remark_122 : decode cX9_remark 122 = .ok (.ireturn, 1) := by decide +kernel
theorem zd_X9_remark_123 : decode cX9_remark 123 = .ok (.aload_n 0, 1) := by decide +kernel
theorem zd_X9_remark_124 : decode cX9_remark 124 = .ok (.getfield 18, 3) := by decide +kernel
theorem zd_X9_remark_127 : decode cX9_remark 127 = .ok (.getfield 226, 3) := by decide +kernel
theorem zd_X9_remark_130 : decode cX9_remark 130 = .ok (.new 135, 3) := by decide +kernel
theorem zd_X9_remark_133 : decode cX9_remark 133 = .ok (.dup, 1) := by decide +kernel
theorem zd_X9_remark_134 : decode cX9_remark 134 = .ok (.iload 8, 2) := by decide +kernel
theorem zd_X9_remark_136 : decode cX9_remark 136 = .ok (.iload_n 1, 1) := by decide +kernel
theorem zd_X9_remark_137 : decode cX9_remark 137 = .ok (.iload_n 2, 1) := by decide +kernel
theorem zd_X9_remark_138 : decode cX9_remark 138 = .ok (.aload 7, 2) := by decide +kernel
theorem zd_X9_remark_140 : decode cX9_remark 140 = .ok (.iload 4, 2) := by decide +kernel
theorem zd_X9_remark_142 : decode cX9_remark 142 = .ok (.iload 5, 2) := by decide +kernel
theorem zd_X9_remark_144 : decode cX9_remark 144 = .ok (.invokestatic 229, 3) := by decide +kernel
theorem zd_X9_remark_147 : decode cX9_remark 147 = .ok (.iload 6, 2) := by decide +kernel
theorem zd_X9_remark_149 : decode cX9_remark 149 = .ok (.invokespecial 233, 3) := by decide +kernel
theorem zd_X9_remark_152 : decode cX9_remark 152 = .ok (.invokevirtual 236, 3) := by decide +kernel
theorem zd_X9_remark_155 : decode cX9_remark 155 = .ok (.pop, 1) := by decide +kernel
theorem zd_X9_remark_156 : decode cX9_remark 156 = .ok (.iload 8, 2) := by decide +kernel
theorem zd_X9_remark_158 : decode cX9_remark 158 = .ok (.ireturn, 1) := by decide +kernel
theorem zd_J6_bitCount_0f7a4_0 : decode cJ6_bitCount_0f7a4 0 = .ok (.iload_n 0, 1) := by decide +kernel
theorem zd_J6_bitCount_0f7a4_1 : decode cJ6_bitCount_0f7a4 1 = .ok (.iload_n 0, 1) := by decide +kernel
theorem zd_J6_bitCount_0f7a4_2 : decode cJ6_bitCount_0f7a4 2 = .ok (.iconst 1, 1) := by decide +kernel
theorem zd_J6_bitCount_0f7a4_3 : decode cJ6_bitCount_0f7a4 3 = .ok (.iushr, 1) := by decide +kernel
theorem zd_J6_bitCount_0f7a4_4 : decode cJ6_bitCount_0f7a4 4 = .ok (.ldc_w 265, 3) := by decide +kernel
theorem zd_J6_bitCount_0f7a4_7 : decode cJ6_bitCount_0f7a4 7 = .ok (.iand, 1) := by decide +kernel
theorem zd_J6_bitCount_0f7a4_8 : decode cJ6_bitCount_0f7a4 8 = .ok (.isub, 1) := by decide +kernel
theorem zd_J6_bitCount_0f7a4_9 : decode cJ6_bitCount_0f7a4 9 = .ok (.istore_n 0, 1) := by decide +kernel
theorem zd_J6_bitCount_0f7a4_10 : decode cJ6_bitCount_0f7a4 10 = .ok (.iload_n 0, 1) := by decide +kernel
theorem zd_J6_bitCount_0f7a4_11 : decode cJ6_bitCount_0f7a4 11 = .ok (.ldc_w 266, 3) := by decide +kernel
theorem zd_J6_bitCount_0f7a4_14 : decode cJ6_bitCount_0f7a4 14 = .ok (.iand, 1) := by decide +kernel
theorem zd_J6_bitCount_0f7a4_15 : decode cJ6_bitCount_0f7a4 15 = .ok (.iload_n 0, 1) := by decide +kernel
theorem zd_J6_bitCount_0f7a4_16 : decode cJ6_bitCount_0f7a4 16 = .ok (.iconst 2, 1) := by decide +kernel
theorem zd_J6_bitCount_0f7a4_17 : decode cJ6_bitCount_0f7a4 17 = .ok (.iushr, 1) := by decide +kernel
theorem zd_J6_bitCount_0f7a4_18 : decode cJ6_bitCount_0f7a4 18 = .ok (.ldc_w 266, 3) := by decide +kernel
theorem zd_J6_bitCount_0f7a4_21 : decode cJ6_bitCount_0f7a4 21 = .ok (.iand, 1) := by decide +kernel
theorem zd_J6_bitCount_0f7a4_22 : decode cJ6_bitCount_0f7a4 22 = .ok (.iadd, 1) := by decide +kernel
theorem zd_J6_bitCount_0f7a4_23 : decode cJ6_bitCount_0f7a4 23 = .ok (.istore_n 0, 1) := by decide +kernel
theorem zd_J6_bitCount_0f7a4_24 : decode cJ6_bitCount_0f7a4 24 = .ok (.iload_n 0, 1) := by decide +kernel
theorem zd_J6_bitCount_0f7a4_25 : decode cJ6_bitCount_0f7a4 25 = .ok (.iload_n 0, 1) := by decide +kernel
theorem zd_J6_bitCount_0f7a4_26 : decode cJ6_bitCount_0f7a4 26 = .ok (.iconst 4, 1) := by decide +kernel
theorem zd_J6_bitCount_0f7a4_27 : decode cJ6_bitCount_0f7a4 27 = .ok (.iushr, 1) := by decide +kernel
theorem zd_J6_bitCount_0f7a4_28 : decode cJ6_bitCount_0f7a4 28 = .ok (.iadd, 1) := by decide +kernel
theorem zd_J6_bitCount_0f7a4_29 : decode cJ6_bitCount_0f7a4 29 = .ok (.ldc_w 267, 3) := by decide +kernel
theorem zd_J6_bitCount_0f7a4_32 : decode cJ6_bitCount_0f7a4 32 = .ok (.iand, 1) := by decide +kernel
theorem zd_J6_bitCount_0f7a4_33 : decode cJ6_bitCount_0f7a4 33 = .ok (.istore_n 0, 1) := by decide +kernel
theorem zd_J6_bitCount_0f7a4_34 : decode cJ6_bitCount_0f7a4 34 = .ok (.iload_n 0, 1) := by decide +kernel
theorem zd_J6_bitCount_0f7a4_35 : decode cJ6_bitCount_0f7a4 35 = .ok (.iload_n 0, 1) := by decide +kernel
theorem zd_J6_bitCount_0f7a4_36 : decode cJ6_bitCount_0f7a4 36 = .ok (.bipush 8, 2) := by decide +kernel
theorem zd_J6_bitCount_0f7a4_38 : decode cJ6_bitCount_0f7a4 38 = .ok (.iushr, 1) := by decide +kernel
theorem zd_J6_bitCount_0f7a4_39 : decode cJ6_bitCount_0f7a4 39 = .ok (.iadd, 1) := by decide +kernel
theorem zd_J6_bitCount_0f7a4_40 : decode cJ6_bitCount_0f7a4 40 = .ok (.istore_n 0, 1) := by decide +kernel
theorem zd_J6_bitCount_0f7a4_41 : decode cJ6_bitCount_0f7a4 41 = .ok (.iload_n 0, 1) := by decide +kernel
theorem zd_J6_bitCount_0f7a4_42 : decode cJ6_bitCount_0f7a4 42 = .ok (.iload_n 0, 1) := by decide +kernel
theorem zd_J6_bitCount_0f7a4_43 : decode cJ6_bitCount_0f7a4 43 = .ok (.bipush 16, 2) := by decide +kernel
theorem zd_J6_bitCount_0f7a4_45 : decode cJ6_bitCount_0f7a4 45 = .ok (.iushr, 1) := by decide +kernel
theorem zd_J6_bitCount_0f7a4_46 : decode cJ6_bitCount_0f7a4 46 = .ok (.iadd, 1) := by decide +kernel
theorem zd_J6_bitCount_0f7a4_47 : decode cJ6_bitCount_0f7a4 47 = .ok (.istore_n 0, 1) := by decide +kernel
theorem zd_J6_bitCount_0f7a4_48 : decode cJ6_bitCount_0f7a4 48 = .ok (.iload_n 0, 1) := by decide +kernel
theorem zd_J6_bitCount_0f7a4_49 : decode cJ6_bitCount_0f7a4 49 = .ok (.bipush 63, 2) := by decide +kernel
theorem zd_J6_bitCount_0f7a4_51 : decode cJ6_bitCount_0f7a4 51 = .ok (.iand, 1) := by decide +kernel
theorem zd_J6_bitCount_0f7a4_52 : decode cJ6_bitCount_0f7a4 52 = .ok (.ireturn, 1) := by decide +kernel
theorem zd_X9_remarkOf_0 : decode cX9_remarkOf 0 = .ok (.aload_n 0, 1) := by decide +kernel
theorem zd_X9_remarkOf_1 : decode cX9_remarkOf 1 = .ok (.getfield 18, 3) := by decide +kernel
theorem zd_X9_remarkOf_4 : decode cX9_remarkOf 4 = .ok (.iload_n 1, 1) := by decide +kernel
theorem zd_X9_remarkOf_5 : decode cX9_remarkOf 5 = .ok (.invokevirtual 120, 3) := by decide +kernel
theorem zd_X9_remarkOf_8 : decode cX9_remarkOf 8 = .ok (.astore_n 3, 1) := by decide +kernel
theorem zd_X9_remarkOf_9 : decode cX9_remarkOf 9 = .ok (.aload_n 3, 1) := by decide +kernel
theorem zd_X9_remarkOf_10 : decode cX9_remarkOf 10 = .ok (.ifnull 13, 3) := by decide +kernel
theorem zd_X9_remarkOf_13 : decode cX9_remarkOf 13 = .ok (.iload_n 2, 1) := by decide +kernel
theorem zd_X9_remarkOf_14 : decode cX9_remarkOf 14 = .ok (.ifCond .lt 9, 3) := by decide +kernel
theorem zd_X9_remarkOf_17 : decode cX9_remarkOf 17 = .ok (.iload_n 2, 1) := by decide +kernel
theorem zd_X9_remarkOf_18 : decode cX9_remarkOf 18 = .ok (.bipush 9, 2) := by decide +kernel
theorem zd_X9_remarkOf_20 : decode cX9_remarkOf 20 = .ok (.if_icmp .le 10, 3) := by decide +kernel
theorem zd_X9_remarkOf_23 : decode cX9_remarkOf 23 = .ok (.aload_n 0, 1) := by decide +kernel
theorem zd_X9_remarkOf_24 : decode cX9_remarkOf 24 = .ok (.bipush (-5), 2) := by decide +kernel
theorem zd_X9_remarkOf_26 : decode cX9_remarkOf 26 = .ok (.invokevirtual 77, 3) := by decide +kernel
theorem zd_X9_remarkOf_29 : decode cX9_remarkOf 29 = .ok (.ireturn, 1) := by decide +kernel
theorem zd_X9_remarkOf_30 : decode cX9_remarkOf 30 = .ok (.iload_n 2, 1) := by decide +kernel
theorem zd_X9_remarkOf_31 : decode cX9_remarkOf 31 = .ok (.tableswitch 126 0 8 #[49, 54, 59, 67, 75, 83, 88, 105, 114], 49) := by decide +kernel
theorem zd_X9_remarkOf_80 : decode cX9_remarkOf 80 = .ok (.aload_n 3, 1) := by decide +kernel
theorem zd_X9_remarkOf_81 : decode cX9_remarkOf 81 = .ok (.getfield 134, 3) := by decide +kernel
theorem zd_X9_remarkOf_84 : decode cX9_remarkOf 84 = .ok (.ireturn, 1) := by decide +kernel
theorem zd_X9_remarkOf_85 : decode cX9_remarkOf 85 = .ok (.aload_n 3, 1) := by decide +kernel
theorem zd_X9_remarkOf_86 : decode cX9_remarkOf 86 = .ok (.getfield 240, 3) := by decide +kernel
theorem zd_X9_remarkOf_89 : decode cX9_remarkOf 89 = .ok (.ireturn, 1) := by decide +kernel
theorem zd_X9_remarkOf_90 : decode cX9_remarkOf 90 = .ok (.aload_n 3, 1) := by decide +kernel
theorem zd_X9_remarkOf_91 : decode cX9_remarkOf 91 = .ok (.getfield 243, 3) := by decide +kernel
theorem zd_X9_remarkOf_94 : decode cX9_remarkOf 94 = .ok (.getfield 166, 3) := by decide +kernel
theorem zd_X9_remarkOf_97 : decode cX9_remarkOf 97 = .ok (.ireturn, 1) := by decide +kernel
theorem zd_X9_remarkOf_98 : decode cX9_remarkOf 98 = .ok (.aload_n 3, 1) := by decide +kernel
theorem zd_X9_remarkOf_99 : decode cX9_remarkOf 99 = .ok (.getfield 246, 3) := by decide +kernel
theorem zd_X9_remarkOf_102 : decode cX9_remarkOf 102 = .ok (.invokestatic 249, 3) := by decide +kernel
theorem zd_X9_remarkOf_105 : decode cX9_remarkOf 105 = .ok (.ireturn, 1) := by decide +kernel
theorem zd_X9_remarkOf_106 : decode cX9_remarkOf 106 = .ok (.aload_n 3, 1) := by decide +kernel
theorem zd_X9_remarkOf_107 : decode cX9_remarkOf 107 = .ok (.getfield 246, 3) := by decide +kernel
theorem zd_X9_remarkOf_110 : decode cX9_remarkOf 110 = .ok (.invokestatic 252, 3) := by decide +kernel
theorem zd_X9_remarkOf_113 : decode cX9_remarkOf 113 = .ok (.ireturn, 1) := by decide +kernel
theorem zd_X9_remarkOf_114 : decode cX9_remarkOf 114 = .ok (.aload_n 3, 1) := by decide +kernel
theorem zd_X9_remarkOf_115 : decode cX9_remarkOf 115 = .ok (.getfield 255, 3) := by decide +kernel
theorem zd_X9_remarkOf_118 : decode cX9_remarkOf 118 = .ok (.ireturn, 1) := by decide +kernel
theorem zd_X9_remarkOf_119 : decode cX9_remarkOf 119 = .ok (.aload_n 0, 1) := by decide +kernel
theorem zd_X9_remarkOf_120 : decode cX9_remarkOf 120 = .ok (.getfield 18, 3) := by decide +kernel
theorem zd_X9_remarkOf_123 : decode cX9_remarkOf 123 = .ok (.iload_n 1, 1) := by decide +kernel
theorem zd_X9_remarkOf_124 : decode cX9_remarkOf 124 = .ok (.invokevirtual 258, 3) := by decide +kernel
theorem zd_X9_remarkOf_127 : decode cX9_remarkOf 127 = .ok (.ifCond .eq 7, 3) := by decide +kernel
theorem zd_X9_remarkOf_130 : decode cX9_remarkOf 130 = .ok (.iconst 1, 1) := by decide +kernel
theorem zd_X9_remarkOf_131 : decode cX9_remarkOf 131 = .ok (.goto 4, 3) := by decide +kernel
theorem zd_X9_remarkOf_134 : decode cX9_remarkOf 134 = .ok (.iconst 0, 1) := by decide +kernel
theorem zd_X9_remarkOf_135 : decode cX9_remarkOf 135 = .ok (.ireturn, 1) := by decide +kernel
theorem zd_X9_remarkOf_136 : decode cX9_remarkOf 136 = .ok (.aload_n 0, 1) := by decide +kernel
theorem zd_X9_remarkOf_137 : decode cX9_remarkOf 137 = .ok (.getfield 18, 3) := by decide +kernel
theorem zd_X9_remarkOf_140 : decode cX9_remarkOf 140 = .ok (.iload_n 1, 1) := by decide +kernel
theorem zd_X9_remarkOf_141 : decode cX9_remarkOf 141 = .ok (.invokevirtual 261, 3) := by decide +kernel
theorem zd_X9_remarkOf_144 : decode cX9_remarkOf 144 = .ok (.ireturn, 1) := by decide +kernel
theorem zd_X9_remarkOf_145 : decode cX9_remarkOf 145 = .ok (.aload_n 0, 1) := by decide +kernel
theorem zd_X9_remarkOf_146 : decode cX9_remarkOf 146 = .ok (.getfield 18, 3) := by decide +kernel
theorem zd_X9_remarkOf_149 : decode cX9_remarkOf 149 = .ok (.iload_n 1, 1) := by decide +kernel
theorem zd_X9_remarkOf_150 : decode cX9_remarkOf 150 = .ok (.invokevirtual 264, 3) := by decide +kernel
theorem zd_X9_remarkOf_153 : decode cX9_remarkOf 153 = .ok (.invokestatic 267, 3) := by decide +kernel
theorem zd_X9_remarkOf_156 : decode cX9_remarkOf 156 = .ok (.ireturn, 1) := by decide +kernel
theorem zd_X9_remarkOf_157 : decode cX9_remarkOf 157 = .ok (.aload_n 0, 1) := by decide +kernel
theorem zd_X9_remarkOf_158 : decode cX9_remarkOf 158 = .ok (.getfield 18, 3) := by decide +kernel
theorem zd_X9_remarkOf_161 : decode cX9_remarkOf 161 = .ok (.iload_n 1, 1) := by decide +kernel
theorem zd_X9_remarkOf_162 : decode cX9_remarkOf 162 = .ok (.invokevirtual 272, 3) := by decide +kernel
theorem zd_X9_remarkOf_165 : decode cX9_remarkOf 165 = .ok (.ifCond .eq 7, 3) := by decide +kernel
theorem zd_X9_remarkOf_168 : decode cX9_remarkOf 168 = .ok (.iconst 1, 1) := by decide +kernel
theorem zd_X9_remarkOf_169 : decode cX9_remarkOf 169 = .ok (.goto 4, 3) := by decide +kernel
theorem zd_X9_remarkOf_172 : decode cX9_remarkOf 172 = .ok (.iconst 0, 1) := by decide +kernel
theorem zd_X9_remarkOf_173 : decode cX9_remarkOf 173 = .ok (.ireturn, 1) := by decide +kernel
theorem zd_X9_settle_0 : decode cX9_settle 0 = .ok (.aload_n 0, 1) := by decide +kernel
theorem zd_X9_settle_1 : decode cX9_settle 1 = .ok (.getfield 18, 3) := by decide +kernel
theorem zd_X9_settle_4 : decode cX9_settle 4 = .ok (.iload_n 1, 1) := by decide +kernel
theorem zd_X9_settle_5 : decode cX9_settle 5 = .ok (.invokevirtual 120, 3) := by decide +kernel
theorem zd_X9_settle_8 : decode cX9_settle 8 = .ok (.ifnonnull 9, 3) := by decide +kernel
theorem zd_X9_settle_11 : decode cX9_settle 11 = .ok (.aload_n 0, 1) := by decide +kernel
theorem zd_X9_settle_12 : decode cX9_settle 12 = .ok (.iconst (-1), 1) := by decide +kernel
theorem zd_X9_settle_13 : decode cX9_settle 13 = .ok (.invokevirtual 77, 3) := by decide +kernel
theorem zd_X9_settle_16 : decode cX9_settle 16 = .ok (.ireturn, 1) := by decide +kernel
theorem zd_X9_settle_17 : decode cX9_settle 17 = .ok (.aload_n 0, 1) := by decide +kernel
theorem zd_X9_settle_18 : decode cX9_settle 18 = .ok (.getfield 18, 3) := by decide +kernel
theorem zd_X9_settle_21 : decode cX9_settle 21 = .ok (.iload_n 1, 1) := by decide +kernel
theorem zd_X9_settle_22 : decode cX9_settle 22 = .ok (.invokevirtual 258, 3) := by decide +kernel
theorem zd_X9_settle_25 : decode cX9_settle 25 = .ok (.ifCond .eq 7, 3) := by decide +kernel
theorem zd_X9_settle_28 : decode cX9_settle 28 = .ok (.iconst 1, 1) := by decide +kernel
theorem zd_X9_settle_29 : decode cX9_settle 29 = .ok (.goto 4, 3) := by decide +kernel
theorem zd_X9_settle_32 : decode cX9_settle 32 = .ok (.iconst 0, 1) := by decide +kernel
theorem zd_X9_settle_33 : decode cX9_settle 33 = .ok (.istore_n 3, 1) := by decide +kernel
theorem zd_X9_settle_34 : decode cX9_settle 34 = .ok (.aload_n 0, 1) := by decide +kernel
theorem zd_X9_settle_35 : decode cX9_settle 35 = .ok (.getfield 18, 3) := by decide +kernel
theorem zd_X9_settle_38 : decode cX9_settle 38 = .ok (.iload_n 2, 1) := by decide +kernel
theorem zd_X9_settle_39 : decode cX9_settle 39 = .ok (.ifCond .eq 17, 3) := by decide +kernel
theorem zd_X9_settle_42 : decode cX9_settle 42 = .ok (.aload_n 0, 1) := by decide +kernel
theorem zd_X9_settle_43 : decode cX9_settle 43 = .ok (.getfield 18, 3) := by decide +kernel
theorem zd_X9_settle_46 : decode cX9_settle 46 = .ok (.getfield 275, 3) := by decide +kernel
theorem zd_X9_settle_49 : decode cX9_settle 49 = .ok (.iconst 1, 1) := by decide +kernel
theorem zd_X9_settle_50 : decode cX9_settle 50 = .ok (.iload_n 1, 1) := by decide +kernel
theorem zd_X9_settle_51 : decode cX9_settle 51 = .ok (.ishl, 1) := by decide +kernel
theorem zd_X9_settle_52 : decode cX9_settle 52 = .ok (.ior, 1) := by decide +kernel
theorem zd_X9_settle_53 : decode cX9_settle 53 = .ok (.goto 16, 3) := by decide +kernel
theorem zd_X9_settle_56 : decode cX9_settle 56 = .ok (.aload_n 0, 1) := by decide +kernel
theorem zd_X9_settle_57 : decode cX9_settle 57 = .ok (.getfield 18, 3) := by decide +kernel
theorem zd_X9_settle_60 : decode cX9_settle 60 = .ok (.getfield 275, 3) := by decide +kernel
theorem zd_X9_settle_63 : decode cX9_settle 63 = .ok (.iconst 1, 1) := by decide +kernel
theorem zd_X9_settle_64 : decode cX9_settle 64 = .ok (.iload_n 1, 1) := by decide +kernel
theorem zd_X9_settle_65 : decode cX9_settle 65 = .ok (.ishl, 1) := by decide +kernel
theorem zd_X9_settle_66 : decode cX9_settle 66 = .ok (.iconst (-1), 1) := by decide +kernel
theorem zd_X9_settle_67 : decode cX9_settle 67 = .ok (.ixor, 1) := by decide +kernel
theorem zd_X9_settle_68 : decode cX9_settle 68 = .ok (.iand, 1) := by decide +kernel
theorem zd_X9_settle_69 : decode cX9_settle 69 = .ok (.putfield 275, 3) := by decide +kernel
theorem zd_X9_settle_72 : decode cX9_settle 72 = .ok (.iload_n 3, 1) := by decide +kernel
theorem zd_X9_settle_73 : decode cX9_settle 73 = .ok (.ireturn, 1) := by decide +kernel
theorem zd_X9_put_0 : decode cX9_put 0 = .ok (.aload_n 0, 1) := by decide +kernel
theorem zd_X9_put_1 : decode cX9_put 1 = .ok (.getfield 18, 3) := by decide +kernel
theorem zd_X9_put_4 : decode cX9_put 4 = .ok (.iload_n 1, 1) := by decide +kernel
theorem zd_X9_put_5 : decode cX9_put 5 = .ok (.invokevirtual 120, 3) := by decide +kernel
theorem zd_X9_put_8 : decode cX9_put 8 = .ok (.astore 4, 2) := by decide +kernel
theorem zd_X9_put_10 : decode cX9_put 10 = .ok (.aload_n 0, 1) := by decide +kernel
theorem zd_X9_put_11 : decode cX9_put 11 = .ok (.getfield 18, 3) := by decide +kernel
theorem zd_X9_put_14 : decode cX9_put 14 = .ok (.iload_n 2, 1) := by decide +kernel
theorem zd_X9_put_15 : decode cX9_put 15 = .ok (.invokevirtual 145, 3) := by decide +kernel
theorem zd_X9_put_18 : decode cX9_put 18 = .ok (.astore 5, 2) := by decide +kernel
theorem zd_X9_put_20 : decode cX9_put 20 = .ok (.aload 4, 2) := by decide +kernel
theorem zd_X9_put_22 : decode cX9_put 22 = .ok (.ifnull 8, 3) := by decide +kernel
theorem zd_X9_put_25 : decode cX9_put 25 = .ok (.aload 5, 2) := by decide +kernel
theorem zd_X9_put_27 : decode cX9_put 27 = .ok (.ifnonnull 10, 3) := by decide +kernel
theorem zd_X9_put_30 : decode cX9_put 30 = .ok (.aload_n 0, 1) := by decide +kernel
theorem zd_X9_put_31 : decode cX9_put 31 = .ok (.bipush (-11), 2) := by decide +kernel
theorem zd_X9_put_33 : decode cX9_put 33 = .ok (.invokevirtual 77, 3) := by decide +kernel
theorem zd_X9_put_36 : decode cX9_put 36 = .ok (.ireturn, 1) := by decide +kernel
theorem zd_X9_put_37 : decode cX9_put 37 = .ok (.iload_n 3, 1) := by decide +kernel
theorem zd_X9_put_38 : decode cX9_put 38 = .ok (.ifCond .lt 8, 3) := by decide +kernel
theorem zd_X9_put_41 : decode cX9_put 41 = .ok (.iload_n 3, 1) := by decide +kernel
theorem zd_X9_put_42 : decode cX9_put 42 = .ok (.iconst 2, 1) := by decide +kernel
theorem zd_X9_put_43 : decode cX9_put 43 = .ok (.if_icmp .le 10, 3) := by decide +kernel
theorem zd_X9_put_46 : decode cX9_put 46 = .ok (.aload_n 0, 1) := by decide +kernel
theorem zd_X9_put_47 : decode cX9_put 47 = .ok (.bipush (-15), 2) := by decide +kernel
theorem zd_X9_put_49 : decode cX9_put 49 = .ok (.invokevirtual 77, 3) := by decide +kernel
theorem zd_X9_put_52 : decode cX9_put 52 = .ok (.ireturn, 1) := by decide +kernel
theorem zd_X9_put_53 : decode cX9_put 53 = .ok (.aload_n 0, 1) := by decide +kernel
theorem zd_X9_put_54 : decode cX9_put 54 = .ok (.getfield 52, 3) := by decide +kernel
theorem zd_X9_put_57 : decode cX9_put 57 = .ok (.aload 4, 2) := by decide +kernel
theorem zd_X9_put_59 : decode cX9_put 59 = .ok (.aload 4, 2) := by decide +kernel
theorem zd_X9_put_61 : decode cX9_put 61 = .ok (.getfield 134, 3) := by decide +kernel
theorem zd_X9_put_64 : decode cX9_put 64 = .ok (.aload 5, 2) := by decide +kernel
theorem zd_X9_put_66 : decode cX9_put 66 = .ok (.invokevirtual 278, 3) := by decide +kernel
theorem zd_X9_put_69 : decode cX9_put 69 = .ok (.ifCond .ne 10, 3) := by decide +kernel
theorem zd_X9_put_72 : decode cX9_put 72 = .ok (.aload_n 0, 1) := by decide +kernel
theorem zd_X9_put_73 : decode cX9_put 73 = .ok (.bipush (-16), 2) := by decide +kernel
theorem zd_X9_put_75 : decode cX9_put 75 = .ok (.invokevirtual 77, 3) := by decide +kernel
theorem zd_X9_put_78 : decode cX9_put 78 = .ok (.ireturn, 1) := by decide +kernel
theorem zd_X9_put_79 : decode cX9_put 79 = .ok (.iload_n 3, 1) := by decide +kernel
theorem zd_X9_put_80 : decode cX9_put 80 = .ok (.lookupswitch 50 #[(0, 28), (1, 39)], 28) := by decide +kernel
theorem zd_X9_put_108 : decode cX9_put 108 = .ok (.aload_n 0, 1) := by decide +kernel
theorem zd_X9_put_109 : decode cX9_put 109 = .ok (.getfield 52, 3) := by decide +kernel
theorem zd_X9_put_112 : decode cX9_put 112 = .ok (.getfield 282, 3) := by decide +kernel
theorem zd_X9_put_115 : decode cX9_put 115 = .ok (.invokestatic 249, 3) := by decide +kernel
theorem zd_X9_put_118 : decode cX9_put 118 = .ok (.ireturn, 1) := by decide +kernel
theorem zd_X9_put_119 : decode cX9_put 119 = .ok (.aload_n 0, 1) := by decide +kernel
theorem zd_X9_put_120 : decode cX9_put 120 = .ok (.getfield 52, 3) := by decide +kernel
theorem zd_X9_put_123 : decode cX9_put 123 = .ok (.getfield 282, 3) := by decide +kernel
theorem zd_X9_put_126 : decode cX9_put 126 = .ok (.invokestatic 252, 3) := by decide +kernel
theorem zd_X9_put_129 : decode cX9_put 129 = .ok (.ireturn, 1) := by decide +kernel
theorem zd_X9_put_130 : decode cX9_put 130 = .ok (.aload_n 0, 1) := by decide +kernel
theorem zd_X9_put_131 : decode cX9_put 131 = .ok (.getfield 52, 3) := by decide +kernel
theorem zd_X9_put_134 : decode cX9_put 134 = .ok (.getfield 283, 3) := by decide +kernel
theorem zd_X9_put_137 : decode cX9_put 137 = .ok (.ireturn, 1) := by decide +kernel
theorem zd_X9_score_0 : decode cX9_score 0 = .ok (.aload_n 0, 1) := by decide +kernel
theorem zd_X9_score_1 : decode cX9_score 1 = .ok (.getfield 18, 3) := by decide +kernel
theorem zd_X9_score_4 : decode cX9_score 4 = .ok (.iload_n 1, 1) := by decide +kernel
theorem zd_X9_score_5 : decode cX9_score 5 = .ok (.invokevirtual 120, 3) := by decide +kernel
theorem zd_X9_score_8 : decode cX9_score 8 = .ok (.astore 4, 2) := by decide +kernel
theorem zd_X9_score_10 : decode cX9_score 10 = .ok (.aload_n 0, 1) := by decide +kernel
theorem zd_X9_score_11 : decode cX9_score 11 = .ok (.getfield 18, 3) := by decide +kernel
theorem zd_X9_score_14 : decode cX9_score 14 = .ok (.iload_n 2, 1) := by decide +kernel
theorem zd_X9_score_15 : decode cX9_score 15 = .ok (.invokevirtual 145, 3) := by decide +kernel
theorem zd_X9_score_18 : decode cX9_score 18 = .ok (.astore 5, 2) := by decide +kernel
theorem zd_X9_score_20 : decode cX9_score 20 = .ok (.aload 4, 2) := by decide +kernel
theorem zd_X9_score_22 : decode cX9_score 22 = .ok (.ifnull 8, 3) := by decide +kernel
theorem zd_X9_score_25 : decode cX9_score 25 = .ok (.aload 5, 2) := by decide +kernel
theorem zd_X9_score_27 : decode cX9_score 27 = .ok (.ifnonnull 9, 3) := by decide +kernel
theorem zd_X9_score_30 : decode cX9_score 30 = .ok (.aload_n 0, 1) := by decide +kernel
theorem zd_X9_score_31 : decode cX9_score 31 = .ok (.iconst (-1), 1) := by decide +kernel
theorem zd_X9_score_32 : decode cX9_score 32 = .ok (.invokevirtual 77, 3) := by decide +kernel
theorem zd_X9_score_35 : decode cX9_score 35 = .ok (.ireturn, 1) := by decide +kernel
theorem zd_X9_score_36 : decode cX9_score 36 = .ok (.aload 5, 2) := by decide +kernel
theorem zd_X9_score_38 : decode cX9_score 38 = .ok (.aload 4, 2) := by decide +kernel
theorem zd_X9_score_40 : decode cX9_score 40 = .ok (.getfield 243, 3) := by decide +kernel
theorem zd_X9_score_43 : decode cX9_score 43 = .ok (.if_acmp .eq 22, 3) := by decide +kernel
theorem zd_X9_score_46 : decode cX9_score 46 = .ok (.aload_n 0, 1) := by decide +kernel
theorem zd_X9_score_47 : decode cX9_score 47 = .ok (.getfield 52, 3) := by decide +kernel
theorem zd_X9_score_50 : decode cX9_score 50 = .ok (.aload 4, 2) := by decide +kernel
theorem zd_X9_score_52 : decode cX9_score 52 = .ok (.aload 4, 2) := by decide +kernel
theorem zd_X9_score_54 : decode cX9_score 54 = .ok (.getfield 134, 3) := by decide +kernel
theorem zd_X9_score_57 : decode cX9_score 57 = .ok (.aload 5, 2) := by decide +kernel
theorem zd_X9_score_59 : decode cX9_score 59 = .ok (.invokevirtual 278, 3) := by decide +kernel
theorem zd_X9_score_62 : decode cX9_score 62 = .ok (.ifCond .ne 10, 3) := by decide +kernel
theorem zd_X9_score_65 : decode cX9_score 65 = .ok (.aload_n 0, 1) := by decide +kernel
theorem zd_X9_score_66 : decode cX9_score 66 = .ok (.bipush (-6), 2) := by decide +kernel
theorem zd_X9_score_68 : decode cX9_score 68 = .ok (.invokevirtual 77, 3) := by decide +kernel
theorem zd_X9_score_71 : decode cX9_score 71 = .ok (.ireturn, 1) := by decide +kernel
theorem zd_X9_score_72 : decode cX9_score 72 = .ok (.aload_n 0, 1) := by decide +kernel
theorem zd_X9_score_73 : decode cX9_score 73 = .ok (.getfield 52, 3) := by decide +kernel
theorem zd_X9_score_76 : decode cX9_score 76 = .ok (.aload 5, 2) := by decide +kernel
theorem zd_X9_score_78 : decode cX9_score 78 = .ok (.iload_n 3, 1) := by decide +kernel
theorem zd_X9_score_79 : decode cX9_score 79 = .ok (.invokevirtual 286, 3) := by decide +kernel
theorem zd_X9_score_82 : decode cX9_score 82 = .ok (.ifCond .ne 10, 3) := by decide +kernel
theorem zd_X9_score_85 : decode cX9_score 85 = .ok (.aload_n 0, 1) := by decide +kernel
theorem zd_X9_score_86 : decode cX9_score 86 = .ok (.bipush (-5), 2) := by decide +kernel
theorem zd_X9_score_88 : decode cX9_score 88 = .ok (.invokevirtual 77, 3) := by decide +kernel
theorem zd_X9_score_91 : decode cX9_score 91 = .ok (.ireturn, 1) := by decide +kernel
theorem zd_X9_score_92 : decode cX9_score 92 = .ok (.aload_n 0, 1) := by decide +kernel
theorem zd_X9_score_93 : decode cX9_score 93 = .ok (.getfield 52, 3) := by decide +kernel
theorem zd_X9_score_96 : decode cX9_score 96 = .ok (.aload 5, 2) := by decide +kernel
theorem zd_X9_score_98 : decode cX9_score 98 = .ok (.iload_n 3, 1) := by decide +kernel
theorem zd_X9_score_99 : decode cX9_score 99 = .ok (.invokevirtual 290, 3) := by decide +kernel
theorem zd_X9_score_102 : decode cX9_score 102 = .ok (.ireturn, 1) := by decide +kernel
theorem zd_X9_leastNeed_0 : decode cX9_leastNeed 0 = .ok (.aload_n 0, 1) := by decide +kernel
theorem zd_X9_leastNeed_1 : decode cX9_leastNeed 1 = .ok (.getfield 18, 3) := by decide +kernel
theorem zd_X9_leastNeed_4 : decode cX9_leastNeed 4 = .ok (.iload_n 1, 1) := by decide +kernel
theorem zd_X9_leastNeed_5 : decode cX9_leastNeed 5 = .ok (.invokevirtual 120, 3) := by decide +kernel
theorem zd_X9_leastNeed_8 : decode cX9_leastNeed 8 = .ok (.astore_n 3, 1) := by decide +kernel
theorem zd_X9_leastNeed_9 : decode cX9_leastNeed 9 = .ok (.aload_n 0, 1) := by decide +kernel
theorem zd_X9_leastNeed_10 : decode cX9_leastNeed 10 = .ok (.getfield 18, 3) := by decide +kernel
theorem zd_X9_leastNeed_13 : decode cX9_leastNeed 13 = .ok (.iload_n 2, 1) := by decide +kernel
theorem zd_X9_leastNeed_14 : decode cX9_leastNeed 14 = .ok (.invokevirtual 145, 3) := by decide +kernel
theorem zd_X9_leastNeed_17 : decode cX9_leastNeed 17 = .ok (.astore 4, 2) := by decide +kernel
theorem zd_X9_leastNeed_19 : decode cX9_leastNeed 19 = .ok (.aload_n 3, 1) := by decide +kernel
theorem zd_X9_leastNeed_20 : decode cX9_leastNeed 20 = .ok (.ifnull 8, 3) := by decide +kernel
theorem zd_X9_leastNeed_23 : decode cX9_leastNeed 23 = .ok (.aload 4, 2) := by decide +kernel
theorem zd_X9_leastNeed_25 : decode cX9_leastNeed 25 = .ok (.ifnonnull 10, 3) := by decide +kernel
theorem zd_X9_leastNeed_28 : decode cX9_leastNeed 28 = .ok (.aload_n 0, 1) := by decide +kernel
theorem zd_X9_leastNeed_29 : decode cX9_leastNeed 29 = .ok (.bipush (-11), 2) := by decide +kernel
theorem zd_X9_leastNeed_31 : decode cX9_leastNeed 31 = .ok (.invokevirtual 77, 3) := by decide +kernel
theorem zd_X9_leastNeed_34 : decode cX9_leastNeed 34 = .ok (.ireturn, 1) := by decide +kernel
theorem zd_X9_leastNeed_35 : decode cX9_leastNeed 35 = .ok (.aload 4, 2) := by decide +kernel
theorem zd_X9_leastNeed_37 : decode cX9_leastNeed 37 = .ok (.aload_n 3, 1) := by decide +kernel
theorem zd_X9_leastNeed_38 : decode cX9_leastNeed 38 = .ok (.getfield 243, 3) := by decide +kernel
theorem zd_X9_leastNeed_41 : decode cX9_leastNeed 41 = .ok (.if_acmp .eq 20, 3) := by decide +kernel
theorem zd_X9_leastNeed_44 : decode cX9_leastNeed 44 = .ok (.aload_n 0, 1) := by decide +kernel
theorem zd_X9_leastNeed_45 : decode cX9_leastNeed 45 = .ok (.getfield 52, 3) := by decide +kernel
theorem zd_X9_leastNeed_48 : decode cX9_leastNeed 48 = .ok (.aload_n 3, 1) := by decide +kernel
theorem zd_X9_leastNeed_49 : decode cX9_leastNeed 49 = .ok (.aload_n 3, 1) := by decide +kernel
theorem zd_X9_leastNeed_50 : decode cX9_leastNeed 50 = .ok (.getfield 134, 3) := by decide +kernel
theorem zd_X9_leastNeed_53 : decode cX9_leastNeed 53 = .ok (.aload 4, 2) := by decide +kernel
theorem zd_X9_leastNeed_55 : decode cX9_leastNeed 55 = .ok (.invokevirtual 278, 3) := by decide +kernel
theorem zd_X9_leastNeed_58 : decode cX9_leastNeed 58 = .ok (.ifCond .ne 10, 3) := by decide +kernel
theorem zd_X9_leastNeed_61 : decode cX9_leastNeed 61 = .ok (.aload_n 0, 1) := by decide +kernel
theorem zd_X9_leastNeed_62 : decode cX9_leastNeed 62 = .ok (.bipush (-16), 2) := by decide +kernel
theorem zd_X9_leastNeed_64 : decode cX9_leastNeed 64 = .ok (.invokevirtual 77, 3) := by decide +kernel
theorem zd_X9_leastNeed_67 : decode cX9_leastNeed 67 = .ok (.ireturn, 1) := by decide +kernel
theorem zd_X9_leastNeed_68 : decode cX9_leastNeed 68 = .ok (.aload_n 0, 1) := by decide +kernel
theorem zd_X9_leastNeed_69 : decode cX9_leastNeed 69 = .ok (.getfield 52, 3) := by decide +kernel
theorem zd_X9_leastNeed_72 : decode cX9_leastNeed 72 = .ok (.aload 4, 2) := by decide +kernel
theorem zd_X9_leastNeed_74 : decode cX9_leastNeed 74 = .ok (.invokevirtual 294, 3) := by decide +kernel
theorem zd_X9_leastNeed_77 : decode cX9_leastNeed 77 = .ok (.aload_n 0, 1) := by decide +kernel
theorem zd_X9_leastNeed_78 : decode cX9_leastNeed 78 = .ok (.getfield 52, 3) := by decide +kernel
theorem zd_X9_leastNeed_81 : decode cX9_leastNeed 81 = .ok (.invokevirtual 298, 3) := by decide +kernel
theorem zd_X9_leastNeed_84 : decode cX9_leastNeed 84 = .ok (.ifCond .eq 13, 3) := by decide +kernel
theorem zd_X9_leastNeed_87 : decode cX9_leastNeed 87 = .ok (.aload_n 0, 1) := by decide +kernel
theorem zd_X9_leastNeed_88 : decode cX9_leastNeed 88 = .ok (.getfield 52, 3) := by decide +kernel
theorem zd_X9_leastNeed_91 : decode cX9_leastNeed 91 = .ok (.getfield 301, 3) := by decide +kernel
theorem zd_X9_leastNeed_94 : decode cX9_leastNeed 94 = .ok (.goto 4, 3) := by decide +kernel
theorem zd_X9_leastNeed_97 : decode cX9_leastNeed 97 = .ok (.iconst (-1), 1) := by decide +kernel
theorem zd_X9_leastNeed_98 : decode cX9_leastNeed 98 = .ok (.ireturn, 1) := by decide +kernel
theorem zd_X9_fitting_0 : decode cX9_fitting 0 = .ok (.aload_n 0, 1) := by decide +kernel
theorem zd_X9_fitting_1 : decode cX9_fitting 1 = .ok (.getfield 18, 3) := by decide +kernel
theorem zd_X9_fitting_4 : decode cX9_fitting 4 = .ok (.iload_n 1, 1) := by decide +kernel
theorem zd_X9_fitting_5 : decode cX9_fitting 5 = .ok (.invokevirtual 120, 3) := by decide +kernel
theorem zd_X9_fitting_8 : decode cX9_fitting 8 = .ok (.astore_n 3, 1) := by decide +kernel
theorem zd_X9_fitting_9 : decode cX9_fitting 9 = .ok (.aload_n 0, 1) := by decide +kernel
theorem zd_X9_fitting_10 : decode cX9_fitting 10 = .ok (.getfield 18, 3) := by decide +kernel
theorem zd_X9_fitting_13 : decode cX9_fitting 13 = .ok (.iload_n 2, 1) := by decide +kernel
theorem zd_X9_fitting_14 : decode cX9_fitting 14 = .ok (.invokevirtual 145, 3) := by decide +kernel
theorem zd_X9_fitting_17 : decode cX9_fitting 17 = .ok (.astore 4, 2) := by decide +kernel
theorem zd_X9_fitting_19 : decode cX9_fitting 19 = .ok (.aload_n 3, 1) := by decide +kernel
theorem zd_X9_fitting_20 : decode cX9_fitting 20 = .ok (.ifnull 8, 3) := by decide +kernel
theorem zd_X9_fitting_23 : decode cX9_fitting 23 = .ok (.aload 4, 2) := by decide +kernel
theorem zd_X9_fitting_25 : decode cX9_fitting 25 = .ok (.ifnonnull 9, 3) := by decide +kernel
theorem zd_X9_fitting_28 : decode cX9_fitting 28 = .ok (.aload_n 0, 1) := by decide +kernel
theorem zd_X9_fitting_29 : decode cX9_fitting 29 = .ok (.iconst (-1), 1) := by decide +kernel
theorem zd_X9_fitting_30 : decode cX9_fitting 30 = .ok (.invokevirtual 77, 3) := by decide +kernel
theorem zd_X9_fitting_33 : decode cX9_fitting 33 = .ok (.ireturn, 1) := by decide +kernel
theorem zd_X9_fitting_34 : decode cX9_fitting 34 = .ok (.aload 4, 2) := by decide +kernel
theorem zd_X9_fitting_36 : decode cX9_fitting 36 = .ok (.aload_n 3, 1) := by decide +kernel
theorem zd_X9_fitting_37 : decode cX9_fitting 37 = .ok (.getfield 243, 3) := by decide +kernel
theorem zd_X9_fitting_40 : decode cX9_fitting 40 = .ok (.invokevirtual 304, 3) := by decide +kernel
theorem zd_X9_fitting_43 : decode cX9_fitting 43 = .ok (.ifCond .ne 10, 3) := by decide +kernel
theorem zd_X9_fitting_46 : decode cX9_fitting 46 = .ok (.aload_n 0, 1) := by decide +kernel
theorem zd_X9_fitting_47 : decode cX9_fitting 47 = .ok (.bipush (-6), 2) := by decide +kernel
theorem zd_X9_fitting_49 : decode cX9_fitting 49 = .ok (.invokevirtual 77, 3) := by decide +kernel
theorem zd_X9_fitting_52 : decode cX9_fitting 52 = .ok (.ireturn, 1) := by decide +kernel
theorem zd_X9_fitting_53 : decode cX9_fitting 53 = .ok (.iconst 0, 1) := by decide +kernel
theorem zd_X9_fitting_54 : decode cX9_fitting 54 = .ok (.istore 5, 2) := by decide +kernel
theorem zd_X9_fitting_56 : decode cX9_fitting 56 = .ok (.iconst 0, 1) := by decide +kernel
theorem zd_X9_fitting_57 : decode cX9_fitting 57 = .ok (.istore 6, 2) := by decide +kernel
theorem zd_X9_fitting_59 : decode cX9_fitting 59 = .ok (.iload 6, 2) := by decide +kernel
theorem zd_X9_fitting_61 : decode cX9_fitting 61 = .ok (.bipush 7, 2) := by decide +kernel
theorem zd_X9_fitting_63 : decode cX9_fitting 63 = .ok (.if_icmp .ge 44, 3) := by decide +kernel
theorem zd_X9_fitting_66 : decode cX9_fitting 66 = .ok (.aload_n 0, 1) := by decide +kernel
theorem zd_X9_fitting_67 : decode cX9_fitting 67 = .ok (.getfield 52, 3) := by decide +kernel
theorem zd_X9_fitting_70 : decode cX9_fitting 70 = .ok (.aload_n 3, 1) := by decide +kernel
theorem zd_X9_fitting_71 : decode cX9_fitting 71 = .ok (.iload 6, 2) := by decide +kernel
theorem zd_X9_fitting_73 : decode cX9_fitting 73 = .ok (.aload 4, 2) := by decide +kernel
theorem zd_X9_fitting_75 : decode cX9_fitting 75 = .ok (.invokevirtual 278, 3) := by decide +kernel
theorem zd_X9_fitting_78 : decode cX9_fitting 78 = .ok (.ifCond .eq 23, 3) := by decide +kernel
theorem zd_X9_fitting_81 : decode cX9_fitting 81 = .ok (.aload_n 0, 1) := by decide +kernel
theorem zd_X9_fitting_82 : decode cX9_fitting 82 = .ok (.getfield 52, 3) := by decide +kernel
theorem zd_X9_fitting_85 : decode cX9_fitting 85 = .ok (.getfield 283, 3) := by decide +kernel
theorem zd_X9_fitting_88 : decode cX9_fitting 88 = .ok (.iconst 3, 1) := by decide +kernel
theorem zd_X9_fitting_89 : decode cX9_fitting 89 = .ok (.if_icmp .eq 12, 3) := by decide +kernel
theorem zd_X9_fitting_92 : decode cX9_fitting 92 = .ok (.iload 5, 2) := by decide +kernel
theorem zd_X9_fitting_94 : decode cX9_fitting 94 = .ok (.iconst 1, 1) := by decide +kernel
theorem zd_X9_fitting_95 : decode cX9_fitting 95 = .ok (.iload 6, 2) := by decide +kernel
theorem zd_X9_fitting_97 : decode cX9_fitting 97 = .ok (.ishl, 1) := by decide +kernel
theorem zd_X9_fitting_98 : decode cX9_fitting 98 = .ok (.ior, 1) := by decide +kernel
theorem zd_X9_fitting_99 : decode cX9_fitting 99 = .ok (.istore 5, 2) := by decide +kernel
theorem zd_X9_fitting_101 : decode cX9_fitting 101 = .ok (.iinc 6 1, 3) := by decide +kernel
theorem zd_X9_fitting_104 : decode cX9_fitting 104 = .ok (.goto (-45), 3) := by decide +kernel
theorem zd_X9_fitting_107 : decode cX9_fitting 107 = .ok (.iload 5, 2) := by decide +kernel
theorem zd_X9_fitting_109 : decode cX9_fitting 109 = .ok (.ireturn, 1) := by decide +kernel
theorem zd_X9_inOrder_0 : decode cX9_inOrder 0 = .ok (.aload_n 0, 1) := by decide +kernel
theorem zd_X9_inOrder_1 : decode cX9_inOrder 1 = .ok (.getfield 18, 3) := by decide +kernel
theorem zd_X9_inOrder_4 : decode cX9_inOrder 4 = .ok (.iload_n 1, 1) := by decide +kernel
theorem zd_X9_inOrder_5 : decode cX9_inOrder 5 = .ok (.invokevirtual 145, 3) := by decide +kernel
theorem zd_X9_inOrder_8 : decode cX9_inOrder 8 = .ok (.astore_n 3, 1) := by decide +kernel
theorem zd_X9_inOrder_9 : decode cX9_inOrder 9 = .ok (.aload_n 3, 1) := by decide +kernel
theorem zd_X9_inOrder_10 : decode cX9_inOrder 10 = .ok (.ifnonnull 10, 3) := by decide +kernel
theorem zd_X9_inOrder_13 : decode cX9_inOrder 13 = .ok (.aload_n 0, 1) := by decide +kernel
theorem zd_X9_inOrder_14 : decode cX9_inOrder 14 = .ok (.bipush (-11), 2) := by decide +kernel
theorem zd_X9_inOrder_16 : decode cX9_inOrder 16 = .ok (.invokevirtual 77, 3) := by decide +kernel
theorem zd_X9_inOrder_19 : decode cX9_inOrder 19 = .ok (.ireturn, 1) := by decide +kernel
theorem zd_X9_inOrder_20 : decode cX9_inOrder 20 = .ok (.aload_n 0, 1) := by decide +kernel
theorem zd_X9_inOrder_21 : decode cX9_inOrder 21 = .ok (.getfield 61, 3) := by decide +kernel
theorem zd_X9_inOrder_24 : decode cX9_inOrder 24 = .ok (.aload_n 3, 1) := by decide +kernel
theorem zd_X9_inOrder_25 : decode cX9_inOrder 25 = .ok (.invokevirtual 308, 3) := by decide +kernel
theorem zd_X9_inOrder_28 : decode cX9_inOrder 28 = .ok (.aload_n 0, 1) := by decide +kernel
theorem zd_X9_inOrder_29 : decode cX9_inOrder 29 = .ok (.getfield 61, 3) := by decide +kernel
theorem zd_X9_inOrder_32 : decode cX9_inOrder 32 = .ok (.iload_n 2, 1) := by decide +kernel
theorem zd_X9_inOrder_33 : decode cX9_inOrder 33 = .ok (.invokevirtual 311, 3) := by decide +kernel
theorem zd_X9_inOrder_36 : decode cX9_inOrder 36 = .ok (.ireturn, 1) := by decide +kernel
theorem zd_X9_who_0 : decode cX9_who 0 = .ok (.aload_n 0, 1) := by decide +kernel
theorem zd_X9_who_1 : decode cX9_who 1 = .ok (.getfield 18, 3) := by decide +kernel
theorem zd_X9_who_4 : decode cX9_who 4 = .ok (.iload_n 1, 1) := by decide +kernel
theorem zd_X9_who_5 : decode cX9_who 5 = .ok (.invokevirtual 145, 3) := by decide +kernel
theorem zd_X9_who_8 : decode cX9_who 8 = .ok (.astore_n 3, 1) := by decide +kernel
theorem zd_X9_who_9 : decode cX9_who 9 = .ok (.aload_n 3, 1) := by decide +kernel
theorem zd_X9_who_10 : decode cX9_who 10 = .ok (.ifnonnull 9, 3) := by decide +kernel
theorem zd_X9_who_13 : decode cX9_who 13 = .ok (.aload_n 0, 1) := by decide +kernel
theorem zd_X9_who_14 : decode cX9_who 14 = .ok (.iconst (-1), 1) := by decide +kernel
theorem zd_X9_who_15 : decode cX9_who 15 = .ok (.invokevirtual 77, 3) := by decide +kernel
theorem zd_X9_who_18 : decode cX9_who 18 = .ok (.ireturn, 1) := by decide +kernel
theorem zd_X9_who_19 : decode cX9_who 19 = .ok (.iload_n 2, 1) := by decide +kernel
theorem zd_X9_who_20 : decode cX9_who 20 = .ok (.ifCond .lt 8, 3) := by decide +kernel
theorem zd_X9_who_23 : decode cX9_who 23 = .ok (.iload_n 2, 1) := by decide +kernel
theorem zd_X9_who_24 : decode cX9_who 24 = .ok (.iconst 2, 1) := by decide +kernel
theorem zd_X9_who_25 : decode cX9_who 25 = .ok (.if_icmp .le 10, 3) := by decide +kernel
theorem zd_X9_who_28 : decode cX9_who 28 = .ok (.aload_n 0, 1) := by decide +kernel
theorem zd_X9_who_29 : decode cX9_who 29 = .ok (.bipush (-5), 2) := by decide +kernel
theorem zd_X9_who_31 : decode cX9_who 31 = .ok (.invokevirtual 77, 3) := by decide +kernel
theorem zd_X9_who_34 : decode cX9_who 34 = .ok (.ireturn, 1) := by decide +kernel
theorem zd_X9_who_35 : decode cX9_who 35 = .ok (.aload_n 0, 1) := by decide +kernel
theorem zd_X9_who_36 : decode cX9_who 36 = .ok (.getfield 61, 3) := by decide +kernel
theorem zd_X9_who_39 : decode cX9_who 39 = .ok (.aload_n 3, 1) := by decide +kernel
theorem zd_X9_who_40 : decode cX9_who 40 = .ok (.invokevirtual 308, 3) := by decide +kernel
theorem zd_X9_who_43 : decode cX9_who 43 = .ok (.iload_n 2, 1) := by decide +kernel
theorem zd_X9_who_44 : decode cX9_who 44 = .ok (.lookupswitch 44 #[(0, 28), (1, 36)], 28) := by decide +kernel
theorem zd_X9_who_72 : decode cX9_who 72 = .ok (.aload_n 0, 1) := by decide +kernel
theorem zd_X9_who_73 : decode cX9_who 73 = .ok (.getfield 61, 3) := by decide +kernel
theorem zd_X9_who_76 : decode cX9_who 76 = .ok (.getfield 314, 3) := by decide +kernel
theorem zd_X9_who_79 : decode cX9_who 79 = .ok (.ireturn, 1) := by decide +kernel
theorem zd_X9_who_80 : decode cX9_who 80 = .ok (.aload_n 0, 1) := by decide +kernel
theorem zd_X9_who_81 : decode cX9_who 81 = .ok (.getfield 61, 3) := by decide +kernel
theorem zd_X9_who_84 : decode cX9_who 84 = .ok (.getfield 317, 3) := by decide +kernel
theorem zd_X9_who_87 : decode cX9_who 87 = .ok (.ireturn, 1) := by decide +kernel
theorem zd_X9_who_88 : decode cX9_who 88 = .ok (.aload_n 0, 1) := by decide +kernel
theorem zd_X9_who_89 : decode cX9_who 89 = .ok (.getfield 61, 3) := by decide +kernel
theorem zd_X9_who_92 : decode cX9_who 92 = .ok (.aload_n 3, 1) := by decide +kernel
theorem zd_X9_who_93 : decode cX9_who 93 = .ok (.invokevirtual 171, 3) := by decide +kernel
theorem zd_X9_who_96 : decode cX9_who 96 = .ok (.invokevirtual 320, 3) := by decide +kernel
theorem zd_X9_who_99 : decode cX9_who 99 = .ok (.ireturn, 1) := by decide +kernel
theorem zd_X9_covered_0 : decode cX9_covered 0 = .ok (.aload_n 0, 1) := by decide +kernel
theorem zd_X9_covered_1 : decode cX9_covered 1 = .ok (.getfield 18, 3) := by decide +kernel
theorem zd_X9_covered_4 : decode cX9_covered 4 = .ok (.iload_n 1, 1) := by decide +kernel
theorem zd_X9_covered_5 : decode cX9_covered 5 = .ok (.invokevirtual 145, 3) := by decide +kernel
theorem zd_X9_covered_8 : decode cX9_covered 8 = .ok (.astore_n 2, 1) := by decide +kernel
theorem zd_X9_covered_9 : decode cX9_covered 9 = .ok (.aload_n 2, 1) := by decide +kernel
theorem zd_X9_covered_10 : decode cX9_covered 10 = .ok (.ifnonnull 9, 3) := by decide +kernel
theorem zd_X9_covered_13 : decode cX9_covered 13 = .ok (.aload_n 0, 1) := by decide +kernel
theorem zd_X9_covered_14 : decode cX9_covered 14 = .ok (.iconst (-1), 1) := by decide +kernel
theorem zd_X9_covered_15 : decode cX9_covered 15 = .ok (.invokevirtual 77, 3) := by decide +kernel
theorem zd_X9_covered_18 : decode cX9_covered 18 = .ok (.ireturn, 1) := by decide +kernel
theorem zd_X9_covered_19 : decode cX9_covered 19 = .ok (.aload_n 0, 1) := by decide +kernel
theorem zd_X9_covered_20 : decode cX9_covered 20 = .ok (.getfield 61, 3) := by decide +kernel
theorem zd_X9_covered_23 : decode cX9_covered 23 = .ok (.aload_n 2, 1) := by decide +kernel
theorem zd_X9_covered_24 : decode cX9_covered 24 = .ok (.invokevirtual 308, 3) := by decide +kernel
theorem zd_X9_covered_27 : decode cX9_covered 27 = .ok (.aload_n 0, 1) := by decide +kernel
theorem zd_X9_covered_28 : decode cX9_covered 28 = .ok (.getfield 61, 3) := by decide +kernel
theorem zd_X9_covered_31 : decode cX9_covered 31 = .ok (.aload_n 2, 1) := by decide +kernel
theorem zd_X9_covered_32 : decode cX9_covered 32 = .ok (.invokevirtual 171, 3) := by decide +kernel
theorem zd_X9_covered_35 : decode cX9_covered 35 = .ok (.invokevirtual 323, 3) := by decide +kernel
theorem zd_X9_covered_38 : decode cX9_covered 38 = .ok (.ireturn, 1) := by decide +kernel
theorem zd_X9_judge_0 : decode cX9_judge 0 = .ok (.aload_n 0, 1) := by decide +kernel
theorem zd_X9_judge_1 : decode cX9_judge 1 = .ok (.iload_n 1, 1) := by decide +kernel
theorem zd_X9_judge_2 : decode cX9_judge 2 = .ok (.invokevirtual 73, 3) := by decide +kernel
theorem zd_X9_judge_5 : decode cX9_judge 5 = .ok (.astore 4, 2) := by decide +kernel
theorem zd_X9_judge_7 : decode cX9_judge 7 = .ok (.aload_n 0, 1) := by decide +kernel
theorem zd_X9_judge_8 : decode cX9_judge 8 = .ok (.getfield 18, 3) := by decide +kernel
theorem zd_X9_judge_11 : decode cX9_judge 11 = .ok (.iload_n 2, 1) := by decide +kernel
theorem zd_X9_judge_12 : decode cX9_judge 12 = .ok (.invokevirtual 120, 3) := by decide +kernel
theorem zd_X9_judge_15 : decode cX9_judge 15 = .ok (.astore 5, 2) := by decide +kernel
theorem zd_X9_judge_17 : decode cX9_judge 17 = .ok (.aload_n 0, 1) := by decide +kernel
theorem zd_X9_judge_18 : decode cX9_judge 18 = .ok (.getfield 18, 3) := by decide +kernel
theorem zd_X9_judge_21 : decode cX9_judge 21 = .ok (.iload_n 3, 1) := by decide +kernel
theorem zd_X9_judge_22 : decode cX9_judge 22 = .ok (.invokevirtual 145, 3) := by decide +kernel
theorem zd_X9_judge_25 : decode cX9_judge 25 = .ok (.astore 6, 2) := by decide +kernel
theorem zd_X9_judge_27 : decode cX9_judge 27 = .ok (.aload 4, 2) := by decide +kernel
theorem zd_X9_judge_29 : decode cX9_judge 29 = .ok (.ifnull 13, 3) := by decide +kernel
theorem zd_X9_judge_32 : decode cX9_judge 32 = .ok (.aload 5, 2) := by decide +kernel
theorem zd_X9_judge_34 : decode cX9_judge 34 = .ok (.ifnull 8, 3) := by decide +kernel
theorem zd_X9_judge_37 : decode cX9_judge 37 = .ok (.aload 6, 2) := by decide +kernel
theorem zd_X9_judge_39 : decode cX9_judge 39 = .ok (.ifnonnull 10, 3) := by decide +kernel
theorem zd_X9_judge_42 : decode cX9_judge 42 = .ok (.aload_n 0, 1) := by decide +kernel
theorem zd_X9_judge_43 : decode cX9_judge 43 = .ok (.bipush (-11), 2) := by decide +kernel
theorem zd_X9_judge_45 : decode cX9_judge 45 = .ok (.invokevirtual 77, 3) := by decide +kernel
theorem zd_X9_judge_48 : decode cX9_judge 48 = .ok (.ireturn, 1) := by decide +kernel
theorem zd_X9_judge_49 : decode cX9_judge 49 = .ok (.aload 4, 2) := by decide +kernel
theorem zd_X9_judge_51 : decode cX9_judge 51 = .ok (.invokestatic 85, 3) := by decide +kernel
theorem zd_X9_judge_54 : decode cX9_judge 54 = .ok (.istore 7, 2) := by decide +kernel
theorem zd_X9_judge_56 : decode cX9_judge 56 = .ok (.iload 7, 2) := by decide +kernel
theorem zd_X9_judge_58 : decode cX9_judge 58 = .ok (.ifCond .eq 13, 3) := by decide +kernel
theorem zd_X9_judge_61 : decode cX9_judge 61 = .ok (.aload_n 0, 1) := by decide +kernel
theorem zd_X9_judge_62 : decode cX9_judge 62 = .ok (.iload 7, 2) := by decide +kernel
theorem zd_X9_judge_64 : decode cX9_judge 64 = .ok (.bipush (-10), 2) := by decide +kernel
theorem zd_X9_judge_66 : decode cX9_judge 66 = .ok (.iadd, 1) := by decide +kernel
theorem zd_X9_judge_67 : decode cX9_judge 67 = .ok (.invokevirtual 77, 3) := by decide +kernel
theorem zd_X9_judge_70 : decode cX9_judge 70 = .ok (.ireturn, 1) := by decide +kernel
theorem zd_X9_judge_71 : decode cX9_judge 71 = .ok (.aload_n 0, 1) := by decide +kernel
theorem zd_X9_judge_72 : decode cX9_judge 72 = .ok (.getfield 52, 3) := by decide +kernel
theorem zd_X9_judge_75 : decode cX9_judge 75 = .ok (.aload 5, 2) := by decide +kernel
theorem zd_X9_judge_77 : decode cX9_judge 77 = .ok (.getfield 243, 3) := by decide +kernel
theorem zd_X9_judge_80 : decode cX9_judge 80 = .ok (.aload 6, 2) := by decide +kernel
theorem zd_X9_judge_82 : decode cX9_judge 82 = .ok (.invokevirtual 216, 3) := by decide +kernel
theorem zd_X9_judge_85 : decode cX9_judge 85 = .ok (.ifCond .ne 10, 3) := by decide +kernel
theorem zd_X9_judge_88 : decode cX9_judge 88 = .ok (.aload_n 0, 1) := by decide +kernel
theorem zd_X9_judge_89 : decode cX9_judge 89 = .ok (.bipush (-16), 2) := by decide +kernel
theorem zd_X9_judge_91 : decode cX9_judge 91 = .ok (.invokevirtual 77, 3) := by decide +kernel
theorem zd_X9_judge_94 : decode cX9_judge 94 = .ok (.ireturn, 1) := by decide +kernel
theorem zd_X9_judge_95 : decode cX9_judge 95 = .ok (.aload 4, 2) := by decide +kernel
theorem zd_X9_judge_97 : decode cX9_judge 97 = .ok (.getfield 326, 3) := by decide +kernel
theorem zd_X9_judge_100 : decode cX9_judge 100 = .ok (.aload_n 0, 1) := by decide +kernel
theorem zd_X9_judge_101 : decode cX9_judge 101 = .ok (.getfield 52, 3) := by decide +kernel
theorem zd_X9_judge_104 : decode cX9_judge 104 = .ok (.invokevirtual 328, 3) := by decide +kernel
theorem zd_X9_judge_107 : decode cX9_judge 107 = .ok (.if_icmp .ge 10, 3) := by decide +kernel
theorem zd_X9_judge_110 : decode cX9_judge 110 = .ok (.aload_n 0, 1) := by decide +kernel
theorem zd_X9_judge_111 : decode cX9_judge 111 = .ok (.bipush (-15), 2) := by decide +kernel
theorem zd_X9_judge_113 : decode cX9_judge 113 = .ok (.invokevirtual 77, 3) := by decide +kernel
theorem zd_X9_judge_116 : decode cX9_judge 116 = .ok (.ireturn, 1) := by decide +kernel
theorem zd_X9_judge_117 : decode cX9_judge 117 = .ok (.aload_n 0, 1) := by decide +kernel
theorem zd_X9_judge_118 : decode cX9_judge 118 = .ok (.getfield 52, 3) := by decide +kernel
theorem zd_X9_judge_121 : decode cX9_judge 121 = .ok (.aload 5, 2) := by decide +kernel
theorem zd_X9_judge_123 : decode cX9_judge 123 = .ok (.aload 4, 2) := by decide +kernel
theorem zd_X9_judge_125 : decode cX9_judge 125 = .ok (.invokevirtual 331, 3) := by decide +kernel
theorem zd_X9_judge_128 : decode cX9_judge 128 = .ok (.ireturn, 1) := by decide +kernel
theorem zd_X9_again_0 : decode cX9_again 0 = .ok (.aload_n 0, 1) := by decide +kernel
theorem zd_X9_again_1 : decode cX9_again 1 = .ok (.getfield 18, 3) := by decide +kernel
theorem zd_X9_again_4 : decode cX9_again 4 = .ok (.iload_n 1, 1) := by decide +kernel
theorem zd_X9_again_5 : decode cX9_again 5 = .ok (.invokevirtual 145, 3) := by decide +kernel
theorem zd_X9_again_8 : decode cX9_again 8 = .ok (.astore_n 3, 1) := by decide +kernel
theorem zd_X9_again_9 : decode cX9_again 9 = .ok (.aload_n 0, 1) := by decide +kernel
theorem zd_X9_again_10 : decode cX9_again 10 = .ok (.getfield 18, 3) := by decide +kernel
theorem zd_X9_again_13 : decode cX9_again 13 = .ok (.iload_n 2, 1) := by decide +kernel
theorem zd_X9_again_14 : decode cX9_again 14 = .ok (.invokevirtual 145, 3) := by decide +kernel
theorem zd_X9_again_17 : decode cX9_again 17 = .ok (.astore 4, 2) := by decide +kernel
theorem zd_X9_again_19 : decode cX9_again 19 = .ok (.aload_n 3, 1) := by decide +kernel
theorem zd_X9_again_20 : decode cX9_again 20 = .ok (.ifnull 8, 3) := by decide +kernel
theorem zd_X9_again_23 : decode cX9_again 23 = .ok (.aload 4, 2) := by decide +kernel
theorem zd_X9_again_25 : decode cX9_again 25 = .ok (.ifnonnull 9, 3) := by decide +kernel
theorem zd_X9_again_28 : decode cX9_again 28 = .ok (.aload_n 0, 1) := by decide +kernel
theorem zd_X9_again_29 : decode cX9_again 29 = .ok (.iconst (-1), 1) := by decide +kernel
theorem zd_X9_again_30 : decode cX9_again 30 = .ok (.invokevirtual 77, 3) := by decide +kernel
theorem zd_X9_again_33 : decode cX9_again 33 = .ok (.ireturn, 1) := by decide +kernel
theorem zd_X9_again_34 : decode cX9_again 34 = .ok (.aload 4, 2) := by decide +kernel
theorem zd_X9_again_36 : decode cX9_again 36 = .ok (.aload_n 3, 1) := by decide +kernel
theorem zd_X9_again_37 : decode cX9_again 37 = .ok (.invokevirtual 304, 3) := by decide +kernel
theorem zd_X9_again_40 : decode cX9_again 40 = .ok (.ifCond .eq 10, 3) := by decide +kernel
theorem zd_X9_again_43 : decode cX9_again 43 = .ok (.aload_n 0, 1) := by decide +kernel
theorem zd_X9_again_44 : decode cX9_again 44 = .ok (.bipush (-6), 2) := by decide +kernel
theorem zd_X9_again_46 : decode cX9_again 46 = .ok (.invokevirtual 77, 3) := by decide +kernel
theorem zd_X9_again_49 : decode cX9_again 49 = .ok (.ireturn, 1) := by decide +kernel
theorem zd_X9_again_50 : decode cX9_again 50 = .ok (.aload_n 0, 1) := by decide +kernel
theorem zd_X9_again_51 : decode cX9_again 51 = .ok (.getfield 18, 3) := by decide +kernel
theorem zd_X9_again_54 : decode cX9_again 54 = .ok (.getfield 226, 3) := by decide +kernel
theorem zd_X9_again_57 : decode cX9_again 57 = .ok (.invokevirtual 156, 3) := by decide +kernel
theorem zd_X9_again_60 : decode cX9_again 60 = .ok (.istore 5, 2) := by decide +kernel
theorem zd_X9_again_62 : decode cX9_again 62 = .ok (.aload_n 0, 1) := by decide +kernel
theorem zd_X9_again_63 : decode cX9_again 63 = .ok (.getfield 18, 3) := by decide +kernel
theorem zd_X9_again_66 : decode cX9_again 66 = .ok (.aload_n 3, 1) := by decide +kernel
theorem zd_X9_again_67 : decode cX9_again 67 = .ok (.invokevirtual 335, 3) := by decide +kernel
theorem zd_X9_again_70 : decode cX9_again 70 = .ok (.istore 6, 2) := by decide +kernel
theorem zd_X9_again_72 : decode cX9_again 72 = .ok (.aload_n 0, 1) := by decide +kernel
theorem zd_X9_again_73 : decode cX9_again 73 = .ok (.getfield 18, 3) := by decide +kernel
theorem zd_X9_again_76 : decode cX9_again 76 = .ok (.getfield 152, 3) := by decide +kernel
theorem zd_X9_again_79 : decode cX9_again 79 = .ok (.invokevirtual 156, 3) := by decide +kernel
theorem zd_X9_again_82 : decode cX9_again 82 = .ok (.bipush 16, 2) := by decide +kernel
theorem zd_X9_again_84 : decode cX9_again 84 = .ok (.if_icmp .ge 13, 3) := by decide +kernel
theorem zd_X9_again_87 : decode cX9_again 87 = .ok (.iload 5, 2) := by decide +kernel
theorem zd_X9_again_89 : decode cX9_again 89 = .ok (.iload 6, 2) := by decide +kernel
theorem zd_X9_again_91 : decode cX9_again 91 = .ok (.iadd, 1) := by decide +kernel
theorem zd_X9_again_92 : decode cX9_again 92 = .ok (.bipush 16, 2) := by decide +kernel
theorem zd_X9_again_94 : decode cX9_again 94 = .ok (.if_icmp .le 10, 3) := by decide +kernel
theorem zd_X9_again_97 : decode cX9_again 97 = .ok (.aload_n 0, 1) := by decide +kernel
theorem zd_X9_again_98 : decode cX9_again 98 = .ok (.bipush (-7), 2) := by decide +kernel
theorem zd_X9_again_100 : decode cX9_again 100 = .ok (.invokevirtual 77, 3) := by decide +kernel
theorem zd_X9_again_103 : decode cX9_again 103 = .ok (.ireturn, 1) := by decide +kernel
theorem zd_X9_again_104 : decode cX9_again 104 = .ok (.aload_n 0, 1) := by decide +kernel
theorem zd_X9_again_105 : decode cX9_again 105 = .ok (.getfield 36, 3) := by decide +kernel
theorem zd_X9_again_108 : decode cX9_again 108 = .ok (.aload_n 3, 1) := by decide +kernel
theorem zd_X9_again_109 : decode cX9_again 109 = .ok (.invokevirtual 339, 3) := by decide +kernel
theorem zd_X9_again_112 : decode cX9_again 112 = .ok (.aload_n 0, 1) := by decide +kernel
theorem zd_X9_again_113 : decode cX9_again 113 = .ok (.aload 4, 2) := by decide +kernel
theorem zd_X9_again_115 : decode cX9_again 115 = .ok (.invokevirtual 162, 3) := by decide +kernel
theorem zd_X9_again_118 : decode cX9_again 118 = .ok (.astore 7, 2) := by decide +kernel
theorem zd_X9_again_120 : decode cX9_again 120 = .ok (.iconst 0, 1) := by decide +kernel
theorem zd_X9_again_121 : decode cX9_again 121 = .ok (.istore 8, 2) := by decide +kernel
theorem zd_X9_again_123 : decode cX9_again 123 = .ok (.iload 8, 2) := by decide +kernel
theorem zd_X9_again_125 : decode cX9_again 125 = .ok (.iload 5, 2) := by decide +kernel
theorem zd_X9_again_127 : decode cX9_again 127 = .ok (.if_icmp .ge 75, 3) := by decide +kernel
theorem zd_X9_again_130 : decode cX9_again 130 = .ok (.aload_n 0, 1) := by decide +kernel
theorem zd_X9_again_131 : decode cX9_again 131 = .ok (.getfield 18, 3) := by decide +kernel
theorem zd_X9_again_134 : decode cX9_again 134 = .ok (.getfield 226, 3) := by decide +kernel
theorem zd_X9_again_137 : decode cX9_again 137 = .ok (.iload 8, 2) := by decide +kernel
theorem zd_X9_again_139 : decode cX9_again 139 = .ok (.invokevirtual 342, 3) := by decide +kernel
theorem zd_X9_again_142 : decode cX9_again 142 = .ok (.checkcast 135, 3) := by decide +kernel
theorem zd_X9_again_145 : decode cX9_again 145 = .ok (.astore 9, 2) := by decide +kernel
theorem zd_X9_again_147 : decode cX9_again 147 = .ok (.aload 9, 2) := by decide +kernel
theorem zd_X9_again_149 : decode cX9_again 149 = .ok (.getfield 243, 3) := by decide +kernel
theorem zd_X9_again_152 : decode cX9_again 152 = .ok (.aload_n 3, 1) := by decide +kernel
theorem zd_X9_again_153 : decode cX9_again 153 = .ok (.if_acmp .ne 43, 3) := by decide +kernel
theorem zd_X9_again_156 : decode cX9_again 156 = .ok (.aload_n 0, 1) := by decide +kernel
theorem zd_X9_again_157 : decode cX9_again 157 = .ok (.getfield 18, 3) := by decide +kernel
theorem zd_X9_again_160 : decode cX9_again 160 = .ok (.iload 8, 2) := by decide +kernel
theorem zd_X9_again_162 : decode cX9_again 162 = .ok (.invokevirtual 258, 3) := by decide +kernel
theorem zd_X9_again_165 : decode cX9_again 165 = .ok (.ifCond .ne 31, 3) := by decide +kernel
theorem zd_X9_again_168 : decode cX9_again 168 = .ok (.aload_n 0, 1) := by decide +kernel
theorem zd_X9_again_169 : decode cX9_again 169 = .ok (.getfield 18, 3) := by decide +kernel
theorem zd_X9_again_172 : decode cX9_again 172 = .ok (.getfield 226, 3) := by decide +kernel
theorem zd_X9_again_175 : decode cX9_again 175 = .ok (.aload 9, 2) := by decide +kernel
theorem zd_X9_again_177 : decode cX9_again 177 = .ok (.aload 7, 2) := by decide +kernel
theorem zd_X9_again_179 : decode cX9_again 179 = .ok (.aload_n 0, 1) := by decide +kernel
theorem zd_X9_again_180 : decode cX9_again 180 = .ok (.getfield 18, 3) := by decide +kernel
theorem zd_X9_again_183 : decode cX9_again 183 = .ok (.getfield 226, 3) := by decide +kernel
theorem zd_X9_again_186 : decode cX9_again 186 = .ok (.invokevirtual 156, 3) := by decide +kernel
theorem zd_X9_again_189 : decode cX9_again 189 = .ok (.invokevirtual 346, 3) := by decide +kernel
theorem zd_X9_again_192 : decode cX9_again 192 = .ok (.invokevirtual 236, 3) := by decide +kernel
theorem zd_X9_again_195 : decode cX9_again 195 = .ok (.pop, 1) := by decide +kernel
theorem zd_X9_again_196 : decode cX9_again 196 = .ok (.iinc 8 1, 3) := by decide +kernel
theorem zd_X9_again_199 : decode cX9_again 199 = .ok (.goto (-76), 3) := by decide +kernel
theorem zd_X9_again_202 : decode cX9_again 202 = .ok (.iload 6, 2) := by decide +kernel
theorem zd_X9_again_204 : decode cX9_again 204 = .ok (.ireturn, 1) := by decide +kernel
theorem zd_X9_driftDraft_0 : decode cX9_driftDraft 0 = .ok (.aload_n 0, 1) := by decide +kernel
theorem zd_X9_driftDraft_1 : decode cX9_driftDraft 1 = .ok (.getfield 18, 3) := by decide +kernel
theorem zd_X9_driftDraft_4 : decode cX9_driftDraft 4 = .ok (.iconst 4, 1) := by decide +kernel
theorem zd_X9_driftDraft_5 : decode cX9_driftDraft 5 = .ok (.invokevirtual 396, 3) := by decide +kernel
theorem zd_X9_driftDraft_8 : decode cX9_driftDraft 8 = .ok (.istore_n 1, 1) := by decide +kernel
theorem zd_X9_driftDraft_9 : decode cX9_driftDraft 9 = .ok (.aload_n 0, 1) := by decide +kernel
theorem zd_X9_driftDraft_10 : decode cX9_driftDraft 10 = .ok (.getfield 36, 3) := by decide +kernel
theorem zd_X9_driftDraft_13 : decode cX9_driftDraft 13 = .ok (.getfield 399, 3) := by decide +kernel
theorem zd_X9_driftDraft_16 : decode cX9_driftDraft 16 = .ok (.istore_n 2, 1) := by decide +kernel
theorem zd_X9_driftDraft_17 : decode cX9_driftDraft 17 = .ok (.iload_n 2, 1) := by decide +kernel
theorem zd_X9_driftDraft_18 : decode cX9_driftDraft 18 = .ok (.ifCond .ne 7, 3) := by decide +kernel
theorem zd_X9_driftDraft_21 : decode cX9_driftDraft 21 = .ok (.iconst 0, 1) := by decide +kernel
theorem zd_X9_driftDraft_22 : decode cX9_driftDraft 22 = .ok (.goto 11, 3) := by decide +kernel
theorem zd_X9_driftDraft_25 : decode cX9_driftDraft 25 = .ok (.aload_n 0, 1) := by decide +kernel
theorem zd_X9_driftDraft_26 : decode cX9_driftDraft 26 = .ok (.getfield 18, 3) := by decide +kernel
theorem zd_X9_driftDraft_29 : decode cX9_driftDraft 29 = .ok (.iload_n 2, 1) := by decide +kernel
theorem zd_X9_driftDraft_30 : decode cX9_driftDraft 30 = .ok (.invokevirtual 396, 3) := by decide +kernel
theorem zd_X9_driftDraft_33 : decode cX9_driftDraft 33 = .ok (.istore_n 3, 1) := by decide +kernel
theorem zd_X9_driftDraft_34 : decode cX9_driftDraft 34 = .ok (.iload_n 1, 1) := by decide +kernel
theorem zd_X9_driftDraft_35 : decode cX9_driftDraft 35 = .ok (.ifCond .ne 31, 3) := by decide +kernel
theorem zd_X9_driftDraft_38 : decode cX9_driftDraft 38 = .ok (.iload_n 2, 1) := by decide +kernel
theorem zd_X9_driftDraft_39 : decode cX9_driftDraft 39 = .ok (.bipush 24, 2) := by decide +kernel
theorem zd_X9_driftDraft_41 : decode cX9_driftDraft 41 = .ok (.if_icmp .ge 24, 3) := by decide +kernel
theorem zd_X9_driftDraft_44 : decode cX9_driftDraft 44 = .ok (.aload_n 0, 1) := by decide +kernel
theorem zd_X9_driftDraft_45 : decode cX9_driftDraft 45 = .ok (.getfield 36, 3) := by decide +kernel
theorem zd_X9_driftDraft_48 : decode cX9_driftDraft 48 = .ok (.iload_n 3, 1) := by decide +kernel
theorem zd_X9_driftDraft_49 : decode cX9_driftDraft 49 = .ok (.bipush 97, 2) := by decide +kernel
theorem zd_X9_driftDraft_51 : decode cX9_driftDraft 51 = .ok (.aload_n 0, 1) := by decide +kernel
theorem zd_X9_driftDraft_52 : decode cX9_driftDraft 52 = .ok (.getfield 18, 3) := by decide +kernel
theorem zd_X9_driftDraft_55 : decode cX9_driftDraft 55 = .ok (.bipush 26, 2) := by decide +kernel
theorem zd_X9_driftDraft_57 : decode cX9_driftDraft 57 = .ok (.invokevirtual 396, 3) := by decide +kernel
theorem zd_X9_driftDraft_60 : decode cX9_driftDraft 60 = .ok (.iadd, 1) := by decide +kernel
theorem zd_X9_driftDraft_61 : decode cX9_driftDraft 61 = .ok (.i2l, 1) := by decide +kernel
theorem zd_X9_driftDraft_62 : decode cX9_driftDraft 62 = .ok (.invokevirtual 400, 3) := by decide +kernel
theorem zd_X9_driftDraft_65 : decode cX9_driftDraft 65 = .ok (.return_, 1) := by decide +kernel
theorem zd_X9_driftDraft_66 : decode cX9_driftDraft 66 = .ok (.iload_n 2, 1) := by decide +kernel
theorem zd_X9_driftDraft_67 : decode cX9_driftDraft 67 = .ok (.ifCond .ne 4, 3) := by decide +kernel
theorem zd_X9_driftDraft_70 : decode cX9_driftDraft 70 = .ok (.return_, 1) := by decide +kernel
theorem zd_X9_driftDraft_71 : decode cX9_driftDraft 71 = .ok (.aload_n 0, 1) := by decide +kernel
theorem zd_X9_driftDraft_72 : decode cX9_driftDraft 72 = .ok (.getfield 36, 3) := by decide +kernel
theorem zd_X9_driftDraft_75 : decode cX9_driftDraft 75 = .ok (.iload_n 3, 1) := by decide +kernel
theorem zd_X9_driftDraft_76 : decode cX9_driftDraft 76 = .ok (.invokevirtual 403, 3) := by decide +kernel
theorem zd_X9_driftDraft_79 : decode cX9_driftDraft 79 = .ok (.lstore 4, 2) := by decide +kernel
theorem zd_X9_driftDraft_81 : decode cX9_driftDraft 81 = .ok (.iload_n 1, 1) := by decide +kernel
theorem zd_X9_driftDraft_82 : decode cX9_driftDraft 82 = .ok (.iconst 2, 1) := by decide +kernel
theorem zd_X9_driftDraft_83 : decode cX9_driftDraft 83 = .ok (.if_icmp .ne 16, 3) := by decide +kernel
theorem zd_X9_driftDraft_86 : decode cX9_driftDraft 86 = .ok (.aload_n 0, 1) := by decide +kernel
theorem zd_X9_driftDraft_87 : decode cX9_driftDraft 87 = .ok (.getfield 36, 3) := by decide +kernel
theorem zd_X9_driftDraft_90 : decode cX9_driftDraft 90 = .ok (.iconst 0, 1) := by decide +kernel
theorem zd_X9_driftDraft_91 : decode cX9_driftDraft 91 = .ok (.lload 4, 2) := by decide +kernel
theorem zd_X9_driftDraft_93 : decode cX9_driftDraft 93 = .ok (.invokevirtual 400, 3) := by decide +kernel
theorem zd_X9_driftDraft_96 : decode cX9_driftDraft 96 = .ok (.goto 19, 3) := by decide +kernel
theorem zd_X9_driftDraft_99 : decode cX9_driftDraft 99 = .ok (.iload_n 1, 1) := by decide +kernel
theorem zd_X9_driftDraft_100 : decode cX9_driftDraft 100 = .ok (.iconst 3, 1) := by decide +kernel
theorem zd_X9_driftDraft_101 : decode cX9_driftDraft 101 = .ok (.if_icmp .ne 14, 3) := by decide +kernel
theorem zd_X9_driftDraft_104 : decode cX9_driftDraft 104 = .ok (.aload_n 0, 1) := by decide +kernel
theorem zd_X9_driftDraft_105 : decode cX9_driftDraft 105 = .ok (.getfield 36, 3) := by decide +kernel
theorem zd_X9_driftDraft_108 : decode cX9_driftDraft 108 = .ok (.iload_n 3, 1) := by decide +kernel
theorem zd_X9_driftDraft_109 : decode cX9_driftDraft 109 = .ok (.ldc2_w 406, 3) := by decide +kernel
theorem zd_X9_driftDraft_112 : decode cX9_driftDraft 112 = .ok (.invokevirtual 400, 3) := by decide +kernel
theorem zd_X9_driftDraft_115 : decode cX9_driftDraft 115 = .ok (.return_, 1) := by decide +kernel
theorem zd_X9_drift_0 : decode cX9_drift 0 = .ok (.aload_n 0, 1) := by decide +kernel
theorem zd_X9_drift_1 : decode cX9_drift 1 = .ok (.getfield 18, 3) := by decide +kernel
theorem zd_X9_drift_4 : decode cX9_drift 4 = .ok (.getfield 152, 3) := by decide +kernel
theorem zd_X9_drift_7 : decode cX9_drift 7 = .ok (.invokevirtual 156, 3) := by decide +kernel
theorem zd_X9_drift_10 : decode cX9_drift 10 = .ok (.istore_n 2, 1) := by decide +kernel
theorem zd_X9_drift_11 : decode cX9_drift 11 = .ok (.iload_n 2, 1) := by decide +kernel
theorem zd_X9_drift_12 : decode cX9_drift 12 = .ok (.ifCond .ne 10, 3) := by decide +kernel
theorem zd_X9_drift_15 : decode cX9_drift 15 = .ok (.aload_n 0, 1) := by decide +kernel
theorem zd_X9_drift_16 : decode cX9_drift 16 = .ok (.bipush (-5), 2) := by decide +kernel
theorem zd_X9_drift_18 : decode cX9_drift 18 = .ok (.invokevirtual 77, 3) := by decide +kernel
theorem zd_X9_drift_21 : decode cX9_drift 21 = .ok (.ireturn, 1) := by decide +kernel
theorem zd_X9_drift_22 : decode cX9_drift 22 = .ok (.iload_n 1, 1) := by decide +kernel
theorem zd_X9_drift_23 : decode cX9_drift 23 = .ok (.iconst 1, 1) := by decide +kernel
theorem zd_X9_drift_24 : decode cX9_drift 24 = .ok (.if_icmp .lt 9, 3) := by decide +kernel
theorem zd_X9_drift_27 : decode cX9_drift 27 = .ok (.iload_n 1, 1) := by decide +kernel
theorem zd_X9_drift_28 : decode cX9_drift 28 = .ok (.bipush 15, 2) := by decide +kernel
theorem zd_X9_drift_30 : decode cX9_drift 30 = .ok (.if_icmp .le 10, 3) := by decide +kernel
theorem zd_X9_drift_33 : decode cX9_drift 33 = .ok (.aload_n 0, 1) := by decide +kernel
theorem zd_X9_drift_34 : decode cX9_drift 34 = .ok (.bipush (-6), 2) := by decide +kernel
theorem zd_X9_drift_36 : decode cX9_drift 36 = .ok (.invokevirtual 77, 3) := by decide +kernel
theorem zd_X9_drift_39 : decode cX9_drift 39 = .ok (.ireturn, 1) := by decide +kernel
theorem zd_X9_drift_40 : decode cX9_drift 40 = .ok (.iload_n 2, 1) := by decide +kernel
theorem zd_X9_drift_41 : decode cX9_drift 41 = .ok (.iload_n 1, 1) := by decide +kernel
theorem zd_X9_drift_42 : decode cX9_drift 42 = .ok (.iadd, 1) := by decide +kernel
theorem zd_X9_drift_43 : decode cX9_drift 43 = .ok (.bipush 16, 2) := by decide +kernel
theorem zd_X9_drift_45 : decode cX9_drift 45 = .ok (.if_icmp .le 10, 3) := by decide +kernel
theorem zd_X9_drift_48 : decode cX9_drift 48 = .ok (.aload_n 0, 1) := by decide +kernel
theorem zd_X9_drift_49 : decode cX9_drift 49 = .ok (.bipush (-7), 2) := by decide +kernel
theorem zd_X9_drift_51 : decode cX9_drift 51 = .ok (.invokevirtual 77, 3) := by decide +kernel
theorem zd_X9_drift_54 : decode cX9_drift 54 = .ok (.ireturn, 1) := by decide +kernel
theorem zd_X9_drift_55 : decode cX9_drift 55 = .ok (.aload_n 0, 1) := by decide +kernel
theorem zd_X9_drift_56 : decode cX9_drift 56 = .ok (.getfield 18, 3) := by decide +kernel
theorem zd_X9_drift_59 : decode cX9_drift 59 = .ok (.getfield 152, 3) := by decide +kernel
theorem zd_X9_drift_62 : decode cX9_drift 62 = .ok (.iload_n 2, 1) := by decide +kernel
theorem zd_X9_drift_63 : decode cX9_drift 63 = .ok (.iconst 1, 1) := by decide +kernel
theorem zd_X9_drift_64 : decode cX9_drift 64 = .ok (.isub, 1) := by decide +kernel
theorem zd_X9_drift_65 : decode cX9_drift 65 = .ok (.invokevirtual 342, 3) := by decide +kernel
theorem zd_X9_drift_68 : decode cX9_drift 68 = .ok (.checkcast 167, 3) := by decide +kernel
theorem zd_X9_drift_71 : decode cX9_drift 71 = .ok (.astore_n 3, 1) := by decide +kernel
theorem zd_X9_drift_72 : decode cX9_drift 72 = .ok (.iconst 0, 1) := by decide +kernel
theorem zd_X9_drift_73 : decode cX9_drift 73 = .ok (.istore 4, 2) := by decide +kernel
theorem zd_X9_drift_75 : decode cX9_drift 75 = .ok (.iload 4, 2) := by decide +kernel
theorem zd_X9_drift_77 : decode cX9_drift 77 = .ok (.iload_n 1, 1) := by decide +kernel
theorem zd_X9_drift_78 : decode cX9_drift 78 = .ok (.if_icmp .ge 27, 3) := by decide +kernel
theorem zd_X9_drift_81 : decode cX9_drift 81 = .ok (.aload_n 0, 1) := by decide +kernel
theorem zd_X9_drift_82 : decode cX9_drift 82 = .ok (.getfield 36, 3) := by decide +kernel
theorem zd_X9_drift_85 : decode cX9_drift 85 = .ok (.aload_n 3, 1) := by decide +kernel
theorem zd_X9_drift_86 : decode cX9_drift 86 = .ok (.invokevirtual 339, 3) := by decide +kernel
theorem zd_X9_drift_89 : decode cX9_drift 89 = .ok (.aload_n 0, 1) := by decide +kernel
theorem zd_X9_drift_90 : decode cX9_drift 90 = .ok (.invokevirtual 350, 3) := by decide +kernel
theorem zd_X9_drift_93 : decode cX9_drift 93 = .ok (.aload_n 0, 1) := by decide +kernel
theorem zd_X9_drift_94 : decode cX9_drift 94 = .ok (.aload_n 3, 1) := by decide +kernel
theorem zd_X9_drift_95 : decode cX9_drift 95 = .ok (.invokevirtual 162, 3) := by decide +kernel
theorem zd_X9_drift_98 : decode cX9_drift 98 = .ok (.astore_n 3, 1) := by decide +kernel
theorem zd_X9_drift_99 : decode cX9_drift 99 = .ok (.iinc 4 1, 3) := by decide +kernel
theorem zd_X9_drift_102 : decode cX9_drift 102 = .ok (.goto (-27), 3) := by decide +kernel
theorem zd_X9_drift_105 : decode cX9_drift 105 = .ok (.aload_n 3, 1) := by decide +kernel
theorem zd_X9_drift_106 : decode cX9_drift 106 = .ok (.getfield 166, 3) := by decide +kernel
theorem zd_X9_drift_109 : decode cX9_drift 109 = .ok (.ireturn, 1) := by decide +kernel
theorem zd_X9_seed_0 : decode cX9_seed 0 = .ok (.aload_n 0, 1) := by decide +kernel
theorem zd_X9_seed_1 : decode cX9_seed 1 = .ok (.getfield 18, 3) := by decide +kernel
theorem zd_X9_seed_4 : decode cX9_seed 4 = .ok (.getfield 353, 3) := by decide +kernel
theorem zd_X9_seed_7 : decode cX9_seed 7 = .ok (.istore_n 2, 1) := by decide +kernel
theorem zd_X9_seed_8 : decode cX9_seed 8 = .ok (.aload_n 0, 1) := by decide +kernel
theorem zd_X9_seed_9 : decode cX9_seed 9 = .ok (.getfield 18, 3) := by decide +kernel
theorem zd_X9_seed_12 : decode cX9_seed 12 = .ok (.iload_n 1, 1) := by decide +kernel
theorem zd_X9_seed_13 : decode cX9_seed 13 = .ok (.putfield 353, 3) := by decide +kernel
theorem zd_X9_seed_16 : decode cX9_seed 16 = .ok (.iload_n 2, 1) := by decide +kernel
theorem zd_X9_seed_17 : decode cX9_seed 17 = .ok (.ireturn, 1) := by decide +kernel
theorem zd_X9_act_0 : decode cX9_act 0 = .ok (.aload_n 0, 1) := by decide +kernel
theorem zd_X9_act_1 : decode cX9_act 1 = .ok (.getfield 68, 3) := by decide +kernel
theorem zd_X9_act_4 : decode cX9_act 4 = .ok (.invokevirtual 356, 3) := by decide +kernel
theorem zd_X9_act_7 : decode cX9_act 7 = .ok (.aload_n 0, 1) := by decide +kernel
theorem zd_X9_act_8 : decode cX9_act 8 = .ok (.getfield 18, 3) := by decide +kernel
theorem zd_X9_act_11 : decode cX9_act 11 = .ok (.iload_n 1, 1) := by decide +kernel
theorem zd_X9_act_12 : decode cX9_act 12 = .ok (.invokevirtual 120, 3) := by decide +kernel
theorem zd_X9_act_15 : decode cX9_act 15 = .ok (.astore 4, 2) := by decide +kernel
theorem zd_X9_act_17 : decode cX9_act 17 = .ok (.aload 4, 2) := by decide +kernel
theorem zd_X9_act_19 : decode cX9_act 19 = .ok (.ifnull 12, 3) := by decide +kernel
theorem zd_X9_act_22 : decode cX9_act 22 = .ok (.iload_n 2, 1) := by decide +kernel
theorem zd_X9_act_23 : decode cX9_act 23 = .ok (.ifCond .lt 8, 3) := by decide +kernel
theorem zd_X9_act_26 : decode cX9_act 26 = .ok (.iload_n 2, 1) := by decide +kernel
theorem zd_X9_act_27 : decode cX9_act 27 = .ok (.iconst 3, 1) := by decide +kernel
theorem zd_X9_act_28 : decode cX9_act 28 = .ok (.if_icmp .lt 5, 3) := by decide +kernel
theorem zd_X9_act_31 : decode cX9_act 31 = .ok (.iconst 0, 1) := by decide +kernel
theorem zd_X9_act_32 : decode cX9_act 32 = .ok (.ireturn, 1) := by decide +kernel
theorem zd_X9_act_33 : decode cX9_act 33 = .ok (.aload_n 0, 1) := by decide +kernel
theorem zd_X9_act_34 : decode cX9_act 34 = .ok (.getfield 68, 3) := by decide +kernel
theorem zd_X9_act_37 : decode cX9_act 37 = .ok (.aload 4, 2) := by decide +kernel
theorem zd_X9_act_39 : decode cX9_act 39 = .ok (.iload_n 2, 1) := by decide +kernel
theorem zd_X9_act_40 : decode cX9_act 40 = .ok (.iload_n 3, 1) := by decide +kernel
theorem zd_X9_act_41 : decode cX9_act 41 = .ok (.invokevirtual 359, 3) := by decide +kernel
theorem zd_X9_act_44 : decode cX9_act 44 = .ok (.ireturn, 1) := by decide +kernel
theorem zd_X9_trace_0 : decode cX9_trace 0 = .ok (.aload_n 0, 1) := by decide +kernel
theorem zd_X9_trace_1 : decode cX9_trace 1 = .ok (.getfield 68, 3) := by decide +kernel
theorem zd_X9_trace_4 : decode cX9_trace 4 = .ok (.iload_n 1, 1) := by decide +kernel
theorem zd_X9_trace_5 : decode cX9_trace 5 = .ok (.invokevirtual 363, 3) := by decide +kernel
theorem zd_X9_trace_8 : decode cX9_trace 8 = .ok (.ireturn, 1) := by decide +kernel
theorem zd_X9_image_0 : decode cX9_image 0 = .ok (.aload_n 0, 1) := by decide +kernel
theorem zd_X9_image_1 : decode cX9_image 1 = .ok (.getfield 22, 3) := by decide +kernel
theorem zd_X9_image_4 : decode cX9_image 4 = .ok (.aload_n 0, 1) := by decide +kernel
theorem zd_X9_image_5 : decode cX9_image 5 = .ok (.getfield 18, 3) := by decide +kernel
theorem zd_X9_image_8 : decode cX9_image 8 = .ok (.invokevirtual 366, 3) := by decide +kernel
theorem zd_X9_image_11 : decode cX9_image 11 = .ok (.aload_n 0, 1) := by decide +kernel
theorem zd_X9_image_12 : decode cX9_image 12 = .ok (.iconst 1, 1) := by decide +kernel
theorem zd_X9_image_13 : decode cX9_image 13 = .ok (.putfield 369, 3) := by decide +kernel
theorem zd_X9_image_16 : decode cX9_image 16 = .ok (.aload_n 0, 1) := by decide +kernel
theorem zd_X9_image_17 : decode cX9_image 17 = .ok (.getfield 18, 3) := by decide +kernel
theorem zd_X9_image_20 : decode cX9_image 20 = .ok (.getfield 226, 3) := by decide +kernel
theorem zd_X9_image_23 : decode cX9_image 23 = .ok (.invokevirtual 156, 3) := by decide +kernel
theorem zd_X9_image_26 : decode cX9_image 26 = .ok (.ireturn, 1) := by decide +kernel
theorem zd_X9_restore_0 : decode cX9_restore 0 = .ok (.aload_n 0, 1) := by decide +kernel
theorem zd_X9_restore_1 : decode cX9_restore 1 = .ok (.getfield 369, 3) := by decide +kernel
theorem zd_X9_restore_4 : decode cX9_restore 4 = .ok (.ifCond .ne 10, 3) := by decide +kernel
theorem zd_X9_restore_7 : decode cX9_restore 7 = .ok (.aload_n 0, 1) := by decide +kernel
theorem zd_X9_restore_8 : decode cX9_restore 8 = .ok (.bipush (-6), 2) := by decide +kernel
theorem zd_X9_restore_10 : decode cX9_restore 10 = .ok (.invokevirtual 77, 3) := by decide +kernel
theorem zd_X9_restore_13 : decode cX9_restore 13 = .ok (.ireturn, 1) := by decide +kernel
theorem zd_X9_restore_14 : decode cX9_restore 14 = .ok (.aload_n 0, 1) := by decide +kernel
theorem zd_X9_restore_15 : decode cX9_restore 15 = .ok (.getfield 18, 3) := by decide +kernel
theorem zd_X9_restore_18 : decode cX9_restore 18 = .ok (.aload_n 0, 1) := by decide +kernel
theorem zd_X9_restore_19 : decode cX9_restore 19 = .ok (.getfield 22, 3) := by decide +kernel
theorem zd_X9_restore_22 : decode cX9_restore 22 = .ok (.invokevirtual 366, 3) := by decide +kernel
theorem zd_X9_restore_25 : decode cX9_restore 25 = .ok (.aload_n 0, 1) := by decide +kernel
theorem zd_X9_restore_26 : decode cX9_restore 26 = .ok (.invokevirtual 197, 3) := by decide +kernel
theorem zd_X9_restore_29 : decode cX9_restore 29 = .ok (.iconst 0, 1) := by decide +kernel
theorem zd_X9_restore_30 : decode cX9_restore 30 = .ok (.istore_n 1, 1) := by decide +kernel
theorem zd_X9_restore_31 : decode cX9_restore 31 = .ok (.iload_n 1, 1) := by decide +kernel
theorem zd_X9_restore_32 : decode cX9_restore 32 = .ok (.bipush 8, 2) := by decide +kernel
theorem zd_X9_restore_34 : decode cX9_restore 34 = .ok (.if_icmp .ge 45, 3) := by decide +kernel
theorem zd_X9_restore_37 : decode cX9_restore 37 = .ok (.aload_n 0, 1) := by decide +kernel
theorem zd_X9_restore_38 : decode cX9_restore 38 = .ok (.iload_n 1, 1) := by decide +kernel
theorem zd_X9_restore_39 : decode cX9_restore 39 = .ok (.invokevirtual 73, 3) := by decide +kernel
theorem zd_X9_restore_42 : decode cX9_restore 42 = .ok (.astore_n 2, 1) := by decide +kernel
theorem zd_X9_restore_43 : decode cX9_restore 43 = .ok (.aload_n 2, 1) := by decide +kernel
theorem zd_X9_restore_44 : decode cX9_restore 44 = .ok (.ifnull 29, 3) := by decide +kernel
theorem zd_X9_restore_47 : decode cX9_restore 47 = .ok (.aload_n 2, 1) := by decide +kernel
theorem zd_X9_restore_48 : decode cX9_restore 48 = .ok (.invokevirtual 97, 3) := by decide +kernel
theorem zd_X9_restore_51 : decode cX9_restore 51 = .ok (.ifCond .eq 22, 3) := by decide +kernel
theorem zd_X9_restore_54 : decode cX9_restore 54 = .ok (.aload_n 0, 1) := by decide +kernel
theorem zd_X9_restore_55 : decode cX9_restore 55 = .ok (.getfield 18, 3) := by decide +kernel
theorem zd_X9_restore_58 : decode cX9_restore 58 = .ok (.aload_n 2, 1) := by decide +kernel
theorem zd_X9_restore_59 : decode cX9_restore 59 = .ok (.getfield 128, 3) := by decide +kernel
theorem zd_X9_restore_62 : decode cX9_restore 62 = .ok (.invokevirtual 120, 3) := by decide +kernel
theorem zd_X9_restore_65 : decode cX9_restore 65 = .ok (.ifnonnull 8, 3) := by decide +kernel
theorem zd_X9_restore_68 : decode cX9_restore 68 = .ok (.aload_n 2, 1) := by decide +kernel
theorem zd_X9_restore_69 : decode cX9_restore 69 = .ok (.iconst (-1), 1) := by decide +kernel
theorem zd_X9_restore_70 : decode cX9_restore 70 = .ok (.invokevirtual 124, 3) := by decide +kernel
theorem zd_X9_restore_73 : decode cX9_restore 73 = .ok (.iinc 1 1, 3) := by decide +kernel
theorem zd_X9_restore_76 : decode cX9_restore 76 = .ok (.goto (-45), 3) := by decide +kernel
theorem zd_X9_restore_79 : decode cX9_restore 79 = .ok (.aload_n 0, 1) := by decide +kernel
theorem zd_X9_restore_80 : decode cX9_restore 80 = .ok (.getfield 18, 3) := by decide +kernel
theorem zd_X9_restore_83 : decode cX9_restore 83 = .ok (.getfield 226, 3) := by decide +kernel
theorem zd_X9_restore_86 : decode cX9_restore 86 = .ok (.invokevirtual 156, 3) := by decide +kernel
theorem zd_X9_restore_89 : decode cX9_restore 89 = .ok (.ireturn, 1) := by decide +kernel
theorem zd_X9_status_0 : decode cX9_status 0 = .ok (.iload_n 1, 1) := by decide +kernel
theorem zd_X9_status_1 : decode cX9_status 1 = .ok (.tableswitch 131 0 9 #[55, 66, 77, 88, 96, 96, 96, 107, 115, 123], 55) := by decide +kernel
theorem zd_X9_status_56 : decode cX9_status 56 = .ok (.aload_n 0, 1) := by decide +kernel
theorem zd_X9_status_57 : decode cX9_status 57 = .ok (.getfield 18, 3) := by decide +kernel
theorem zd_X9_status_60 : decode cX9_status 60 = .ok (.getfield 152, 3) := by decide +kernel
theorem zd_X9_status_63 : decode cX9_status 63 = .ok (.invokevirtual 156, 3) := by decide +kernel
theorem zd_X9_status_66 : decode cX9_status 66 = .ok (.ireturn, 1) := by decide +kernel
theorem zd_X9_status_67 : decode cX9_status 67 = .ok (.aload_n 0, 1) := by decide +kernel
theorem zd_X9_status_68 : decode cX9_status 68 = .ok (.getfield 18, 3) := by decide +kernel
theorem zd_X9_status_71 : decode cX9_status 71 = .ok (.getfield 226, 3) := by decide +kernel
theorem zd_X9_status_74 : decode cX9_status 74 = .ok (.invokevirtual 156, 3) := by decide +kernel
theorem zd_X9_status_77 : decode cX9_status 77 = .ok (.ireturn, 1) := by decide +kernel
theorem zd_X9_status_78 : decode cX9_status 78 = .ok (.aload_n 0, 1) := by decide +kernel
theorem zd_X9_status_79 : decode cX9_status 79 = .ok (.getfield 18, 3) := by decide +kernel
theorem zd_X9_status_82 : decode cX9_status 82 = .ok (.getfield 275, 3) := by decide +kernel
theorem zd_X9_status_85 : decode cX9_status 85 = .ok (.invokestatic 267, 3) := by decide +kernel
theorem zd_X9_status_88 : decode cX9_status 88 = .ok (.ireturn, 1) := by decide +kernel
theorem zd_X9_status_89 : decode cX9_status 89 = .ok (.aload_n 0, 1) := by decide +kernel
theorem zd_X9_status_90 : decode cX9_status 90 = .ok (.getfield 18, 3) := by decide +kernel
theorem zd_X9_status_93 : decode cX9_status 93 = .ok (.invokevirtual 373, 3) := by decide +kernel
theorem zd_X9_status_96 : decode cX9_status 96 = .ok (.ireturn, 1) := by decide +kernel
theorem zd_X9_status_97 : decode cX9_status 97 = .ok (.aload_n 0, 1) := by decide +kernel
theorem zd_X9_status_98 : decode cX9_status 98 = .ok (.getfield 18, 3) := by decide +kernel
theorem zd_X9_status_101 : decode cX9_status 101 = .ok (.iload_n 1, 1) := by decide +kernel
theorem zd_X9_status_102 : decode cX9_status 102 = .ok (.iconst 4, 1) := by decide +kernel
theorem zd_X9_status_103 : decode cX9_status 103 = .ok (.isub, 1) := by decide +kernel
theorem zd_X9_status_104 : decode cX9_status 104 = .ok (.invokevirtual 191, 3) := by decide +kernel
theorem zd_X9_status_107 : decode cX9_status 107 = .ok (.ireturn, 1) := by decide +kernel
theorem zd_X9_status_108 : decode cX9_status 108 = .ok (.aload_n 0, 1) := by decide +kernel
theorem zd_X9_status_109 : decode cX9_status 109 = .ok (.getfield 18, 3) := by decide +kernel
theorem zd_X9_status_112 : decode cX9_status 112 = .ok (.getfield 353, 3) := by decide +kernel
theorem zd_X9_status_115 : decode cX9_status 115 = .ok (.ireturn, 1) := by decide +kernel
theorem zd_X9_status_116 : decode cX9_status 116 = .ok (.aload_n 0, 1) := by decide +kernel
theorem zd_X9_status_117 : decode cX9_status 117 = .ok (.getfield 18, 3) := by decide +kernel
theorem zd_X9_status_120 : decode cX9_status 120 = .ok (.invokevirtual 376, 3) := by decide +kernel
theorem zd_X9_status_123 : decode cX9_status 123 = .ok (.ireturn, 1) := by decide +kernel
theorem zd_X9_status_124 : decode cX9_status 124 = .ok (.aload_n 0, 1) := by decide +kernel
theorem zd_X9_status_125 : decode cX9_status 125 = .ok (.getfield 68, 3) := by decide +kernel
theorem zd_X9_status_128 : decode cX9_status 128 = .ok (.getfield 379, 3) := by decide +kernel
theorem zd_X9_status_131 : decode cX9_status 131 = .ok (.ireturn, 1) := by decide +kernel
theorem zd_X9_status_132 : decode cX9_status 132 = .ok (.iload_n 1, 1) := by decide +kernel
theorem zd_X9_status_133 : decode cX9_status 133 = .ok (.bipush 10, 2) := by decide +kernel
theorem zd_X9_status_135 : decode cX9_status 135 = .ok (.if_icmp .le 21, 3) := by decide +kernel
theorem zd_X9_status_138 : decode cX9_status 138 = .ok (.iload_n 1, 1) := by decide +kernel
theorem zd_X9_status_139 : decode cX9_status 139 = .ok (.bipush 18, 2) := by decide +kernel
theorem zd_X9_status_141 : decode cX9_status 141 = .ok (.if_icmp .ge 15, 3) := by decide +kernel
theorem zd_X9_status_144 : decode cX9_status 144 = .ok (.aload_n 0, 1) := by decide +kernel
theorem zd_X9_status_145 : decode cX9_status 145 = .ok (.getfield 25, 3) := by decide +kernel
theorem zd_X9_status_148 : decode cX9_status 148 = .ok (.iload_n 1, 1) := by decide +kernel
theorem zd_X9_status_149 : decode cX9_status 149 = .ok (.bipush 10, 2) := by decide +kernel
theorem zd_X9_status_151 : decode cX9_status 151 = .ok (.isub, 1) := by decide +kernel
theorem zd_X9_status_152 : decode cX9_status 152 = .ok (.iaload, 1) := by decide +kernel
theorem zd_X9_status_153 : decode cX9_status 153 = .ok (.goto 4, 3) := by decide +kernel
theorem zd_X9_status_156 : decode cX9_status 156 = .ok (.iconst (-1), 1) := by decide +kernel
theorem zd_X9_status_157 : decode cX9_status 157 = .ok (.ireturn, 1) := by decide +kernel
theorem zd_J7_copyOf_1904c_0 : decode cJ7_copyOf_1904c 0 = .ok (.aload_n 0, 1) := by decide +kernel
theorem zd_J7_copyOf_1904c_1 : decode cJ7_copyOf_1904c 1 = .ok (.iload_n 1, 1) := by decide +kernel
theorem zd_J7_copyOf_1904c_2 : decode cJ7_copyOf_1904c 2 = .ok (.aload_n 0, 1) := by decide +kernel
theorem zd_J7_copyOf_1904c_3 : decode cJ7_copyOf_1904c 3 = .ok (.invokevirtual 86, 3) := by decide +kernel
theorem zd_J7_copyOf_1904c_6 : decode cJ7_copyOf_1904c 6 = .ok (.invokestatic 300, 3) := by decide +kernel
theorem zd_J7_copyOf_1904c_9 : decode cJ7_copyOf_1904c 9 = .ok (.areturn, 1) := by decide +kernel
theorem zd_J7_copyOf_6403c_0 : decode cJ7_copyOf_6403c 0 = .ok (.aload_n 2, 1) := by decide +kernel
theorem zd_J7_copyOf_6403c_1 : decode cJ7_copyOf_6403c 1 = .ok (.ldc 110, 2) := by decide +kernel
theorem zd_J7_copyOf_6403c_3 : decode cJ7_copyOf_6403c 3 = .ok (.if_acmp .ne 10, 3) := by decide +kernel
theorem zd_J7_copyOf_6403c_6 : decode cJ7_copyOf_6403c 6 = .ok (.iload_n 1, 1) := by decide +kernel
theorem zd_J7_copyOf_6403c_7 : decode cJ7_copyOf_6403c 7 = .ok (.anewarray 2, 3) := by decide +kernel
theorem zd_J7_copyOf_6403c_10 : decode cJ7_copyOf_6403c 10 = .ok (.goto 14, 3) := by decide +kernel
theorem zd_J7_copyOf_6403c_13 : decode cJ7_copyOf_6403c 13 = .ok (.aload_n 2, 1) := by decide +kernel
theorem zd_J7_copyOf_6403c_14 : decode cJ7_copyOf_6403c 14 = .ok (.invokevirtual 90, 3) := by decide +kernel
theorem zd_J7_copyOf_6403c_17 : decode cJ7_copyOf_6403c 17 = .ok (.iload_n 1, 1) := by decide +kernel
theorem zd_J7_copyOf_6403c_18 : decode cJ7_copyOf_6403c 18 = .ok (.invokestatic 95, 3) := by decide +kernel
theorem zd_J7_copyOf_6403c_21 : decode cJ7_copyOf_6403c 21 = .ok (.checkcast 110, 3) := by decide +kernel
theorem zd_J7_copyOf_6403c_24 : decode cJ7_copyOf_6403c 24 = .ok (.astore_n 3, 1) := by decide +kernel
theorem zd_J7_copyOf_6403c_25 : decode cJ7_copyOf_6403c 25 = .ok (.aload_n 0, 1) := by decide +kernel
theorem zd_J7_copyOf_6403c_26 : decode cJ7_copyOf_6403c 26 = .ok (.iconst 0, 1) := by decide +kernel
theorem zd_J7_copyOf_6403c_27 : decode cJ7_copyOf_6403c 27 = .ok (.aload_n 3, 1) := by decide +kernel
theorem zd_J7_copyOf_6403c_28 : decode cJ7_copyOf_6403c 28 = .ok (.iconst 0, 1) := by decide +kernel
theorem zd_J7_copyOf_6403c_29 : decode cJ7_copyOf_6403c 29 = .ok (.aload_n 0, 1) := by decide +kernel
theorem zd_J7_copyOf_6403c_30 : decode cJ7_copyOf_6403c 30 = .ok (.arraylength, 1) := by decide +kernel
theorem zd_J7_copyOf_6403c_31 : decode cJ7_copyOf_6403c 31 = .ok (.iload_n 1, 1) := by decide +kernel
theorem zd_J7_copyOf_6403c_32 : decode cJ7_copyOf_6403c 32 = .ok (.invokestatic 304, 3) := by decide +kernel
theorem zd_J7_copyOf_6403c_35 : decode cJ7_copyOf_6403c 35 = .ok (.invokestatic 150, 3) := by decide +kernel
theorem zd_J7_copyOf_6403c_38 : decode cJ7_copyOf_6403c 38 = .ok (.aload_n 3, 1) := by decide +kernel
theorem zd_J7_copyOf_6403c_39 : decode cJ7_copyOf_6403c 39 = .ok (.areturn, 1) := by decide +kernel
