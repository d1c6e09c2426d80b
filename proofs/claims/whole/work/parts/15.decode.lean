theorem zd_J7_copyOf_c38d5_1 : decode cJ7_copyOf_c38d5 1 = .ok (.aload_n 0, 1) := by decide +kernel
theorem zd_J7_copyOf_c38d5_2 : decode cJ7_copyOf_c38d5 2 = .ok (.arraylength, 1) := by decide +kernel
theorem zd_J7_copyOf_c38d5_3 : decode cJ7_copyOf_c38d5 3 = .ok (.if_icmp .ne 11, 3) := by decide +kernel
theorem zd_J7_copyOf_c38d5_6 : decode cJ7_copyOf_c38d5 6 = .ok (.aload_n 0, 1) := by decide +kernel
theorem zd_J7_copyOf_c38d5_7 : decode cJ7_copyOf_c38d5 7 = .ok (.invokevirtual 319, 3) := by decide +kernel
theorem zd_J7_copyOf_c38d5_10 : decode cJ7_copyOf_c38d5 10 = .ok (.checkcast 320, 3) := by decide +kernel
theorem zd_J7_copyOf_c38d5_13 : decode cJ7_copyOf_c38d5 13 = .ok (.areturn, 1) := by decide +kernel
theorem zd_J7_copyOf_c38d5_14 : decode cJ7_copyOf_c38d5 14 = .ok (.iload_n 1, 1) := by decide +kernel
theorem zd_J7_copyOf_c38d5_15 : decode cJ7_copyOf_c38d5 15 = .ok (.newarray .long, 2) := by decide +kernel
theorem zd_J7_copyOf_c38d5_17 : decode cJ7_copyOf_c38d5 17 = .ok (.astore_n 2, 1) := by decide +kernel
theorem zd_J7_copyOf_c38d5_18 : decode cJ7_copyOf_c38d5 18 = .ok (.aload_n 0, 1) := by decide +kernel
theorem zd_J7_copyOf_c38d5_19 : decode cJ7_copyOf_c38d5 19 = .ok (.iconst 0, 1) := by decide +kernel
theorem zd_J7_copyOf_c38d5_20 : decode cJ7_copyOf_c38d5 20 = .ok (.aload_n 2, 1) := by decide +kernel
theorem zd_J7_copyOf_c38d5_21 : decode cJ7_copyOf_c38d5 21 = .ok (.iconst 0, 1) := by decide +kernel
theorem zd_J7_copyOf_c38d5_22 : decode cJ7_copyOf_c38d5 22 = .ok (.aload_n 0, 1) := by decide +kernel
theorem zd_J7_copyOf_c38d5_23 : decode cJ7_copyOf_c38d5 23 = .ok (.arraylength, 1) := by decide +kernel
theorem zd_J7_copyOf_c38d5_24 : decode cJ7_copyOf_c38d5 24 = .ok (.iload_n 1, 1) := by decide +kernel
theorem zd_J7_copyOf_c38d5_25 : decode cJ7_copyOf_c38d5 25 = .ok (.invokestatic 304, 3) := by decide +kernel
theorem zd_J7_copyOf_c38d5_28 : decode cJ7_copyOf_c38d5 28 = .ok (.invokestatic 150, 3) := by decide +kernel
theorem zd_J7_copyOf_c38d5_31 : decode cJ7_copyOf_c38d5 31 = .ok (.aload_n 2, 1) := by decide +kernel
theorem zd_J7_copyOf_c38d5_32 : decode cJ7_copyOf_c38d5 32 = .ok (.areturn, 1) := by decide +kernel
theorem zd_X0_linesSoFar_0 : decode cX0_linesSoFar 0 = .ok (.aload_n 0, 1) := by decide +kernel
theorem zd_X0_linesSoFar_1 : decode cX0_linesSoFar 1 = .ok (.getfield 9, 3) := by decide +kernel
theorem zd_X0_linesSoFar_4 : decode cX0_linesSoFar 4 = .ok (.aload_n 0, 1) := by decide +kernel
theorem zd_X0_linesSoFar_5 : decode cX0_linesSoFar 5 = .ok (.getfield 15, 3) := by decide +kernel
theorem zd_X0_linesSoFar_8 : decode cX0_linesSoFar 8 = .ok (.ifCond .ge 7, 3) := by decide +kernel
theorem zd_X0_linesSoFar_11 : decode cX0_linesSoFar 11 = .ok (.iconst 0, 1) := by decide +kernel
theorem zd_X0_linesSoFar_12 : decode cX0_linesSoFar 12 = .ok (.goto 7, 3) := by decide +kernel
theorem zd_X0_linesSoFar_15 : decode cX0_linesSoFar 15 = .ok (.aload_n 0, 1) := by decide +kernel
theorem zd_X0_linesSoFar_16 : decode cX0_linesSoFar 16 = .ok (.getfield 15, 3) := by decide +kernel
theorem zd_X0_linesSoFar_19 : decode cX0_linesSoFar 19 = .ok (.invokestatic 40, 3) := by decide +kernel
theorem zd_X0_linesSoFar_22 : decode cX0_linesSoFar 22 = .ok (.areturn, 1) := by decide +kernel
theorem zd_X1_init_0 : decode cX1_init 0 = .ok (.aload_n 0, 1) := by decide +kernel
theorem zd_X1_init_1 : decode cX1_init 1 = .ok (.invokespecial 3, 3) := by decide +kernel
theorem zd_X1_init_4 : decode cX1_init 4 = .ok (.aload_n 0, 1) := by decide +kernel
theorem zd_X1_init_5 : decode cX1_init 5 = .ok (.sipush 625, 3) := by decide +kernel
theorem zd_X1_init_8 : decode cX1_init 8 = .ok (.newarray .int, 2) := by decide +kernel
theorem zd_X1_init_10 : decode cX1_init 10 = .ok (.putfield 11, 3) := by decide +kernel
theorem zd_X1_init_13 : decode cX1_init 13 = .ok (.aload_n 0, 1) := by decide +kernel
theorem zd_X1_init_14 : decode cX1_init 14 = .ok (.bipush 24, 2) := by decide +kernel
theorem zd_X1_init_16 : decode cX1_init 16 = .ok (.newarray .int, 2) := by decide +kernel
theorem zd_X1_init_18 : decode cX1_init 18 = .ok (.putfield 15, 3) := by decide +kernel
theorem zd_X1_init_21 : decode cX1_init 21 = .ok (.aload_n 0, 1) := by decide +kernel
theorem zd_X1_init_22 : decode cX1_init 22 = .ok (.bipush 24, 2) := by decide +kernel
theorem zd_X1_init_24 : decode cX1_init 24 = .ok (.newarray .boolean, 2) := by decide +kernel
theorem zd_X1_init_26 : decode cX1_init 26 = .ok (.putfield 18, 3) := by decide +kernel
theorem zd_X1_init_29 : decode cX1_init 29 = .ok (.return_, 1) := by decide +kernel
theorem zd_X1_placeOf_0 : decode cX1_placeOf 0 = .ok (.iload_n 1, 1) := by decide +kernel
theorem zd_X1_placeOf_1 : decode cX1_placeOf 1 = .ok (.ifCond .lt 21, 3) := by decide +kernel
theorem zd_X1_placeOf_4 : decode cX1_placeOf 4 = .ok (.iload_n 1, 1) := by decide +kernel
theorem zd_X1_placeOf_5 : decode cX1_placeOf 5 = .ok (.aload_n 0, 1) := by decide +kernel
theorem zd_X1_placeOf_6 : decode cX1_placeOf 6 = .ok (.getfield 15, 3) := by decide +kernel
theorem zd_X1_placeOf_9 : decode cX1_placeOf 9 = .ok (.arraylength, 1) := by decide +kernel
theorem zd_X1_placeOf_10 : decode cX1_placeOf 10 = .ok (.if_icmp .ge 12, 3) := by decide +kernel
theorem zd_X1_placeOf_13 : decode cX1_placeOf 13 = .ok (.aload_n 0, 1) := by decide +kernel
theorem zd_X1_placeOf_14 : decode cX1_placeOf 14 = .ok (.getfield 15, 3) := by decide +kernel
theorem zd_X1_placeOf_17 : decode cX1_placeOf 17 = .ok (.iload_n 1, 1) := by decide +kernel
theorem zd_X1_placeOf_18 : decode cX1_placeOf 18 = .ok (.iaload, 1) := by decide +kernel
theorem zd_X1_placeOf_19 : decode cX1_placeOf 19 = .ok (.goto 4, 3) := by decide +kernel
theorem zd_X1_placeOf_22 : decode cX1_placeOf 22 = .ok (.iconst (-1), 1) := by decide +kernel
theorem zd_X1_placeOf_23 : decode cX1_placeOf 23 = .ok (.ireturn, 1) := by decide +kernel
theorem zd_J7_fill_53178_0 : decode cJ7_fill_53178 0 = .ok (.iconst 0, 1) := by decide +kernel
theorem zd_J7_fill_53178_1 : decode cJ7_fill_53178 1 = .ok (.istore_n 2, 1) := by decide +kernel
theorem zd_J7_fill_53178_2 : decode cJ7_fill_53178 2 = .ok (.aload_n 0, 1) := by decide +kernel
theorem zd_J7_fill_53178_3 : decode cJ7_fill_53178 3 = .ok (.arraylength, 1) := by decide +kernel
theorem zd_J7_fill_53178_4 : decode cJ7_fill_53178 4 = .ok (.istore_n 3, 1) := by decide +kernel
theorem zd_J7_fill_53178_5 : decode cJ7_fill_53178 5 = .ok (.iload_n 2, 1) := by decide +kernel
theorem zd_J7_fill_53178_6 : decode cJ7_fill_53178 6 = .ok (.iload_n 3, 1) := by decide +kernel
theorem zd_J7_fill_53178_7 : decode cJ7_fill_53178 7 = .ok (.if_icmp .ge 13, 3) := by decide +kernel
theorem zd_J7_fill_53178_10 : decode cJ7_fill_53178 10 = .ok (.aload_n 0, 1) := by decide +kernel
theorem zd_J7_fill_53178_11 : decode cJ7_fill_53178 11 = .ok (.iload_n 2, 1) := by decide +kernel
theorem zd_J7_fill_53178_12 : decode cJ7_fill_53178 12 = .ok (.iload_n 1, 1) := by decide +kernel
theorem zd_J7_fill_53178_13 : decode cJ7_fill_53178 13 = .ok (.iastore, 1) := by decide +kernel
theorem zd_J7_fill_53178_14 : decode cJ7_fill_53178 14 = .ok (.iinc 2 1, 3) := by decide +kernel
theorem zd_J7_fill_53178_17 : decode cJ7_fill_53178 17 = .ok (.goto (-12), 3) := by decide +kernel
theorem zd_J7_fill_53178_20 : decode cJ7_fill_53178 20 = .ok (.return_, 1) := by decide +kernel
theorem zd_X1_countCommon_0 : decode cX1_countCommon 0 = .ok (.aload_n 0, 1) := by decide +kernel
theorem zd_X1_countCommon_1 : decode cX1_countCommon 1 = .ok (.getfield 11, 3) := by decide +kernel
theorem zd_X1_countCommon_4 : decode cX1_countCommon 4 = .ok (.iconst 0, 1) := by decide +kernel
theorem zd_X1_countCommon_5 : decode cX1_countCommon 5 = .ok (.invokestatic 22, 3) := by decide +kernel
theorem zd_X1_countCommon_8 : decode cX1_countCommon 8 = .ok (.aload_n 1, 1) := by decide +kernel
theorem zd_X1_countCommon_9 : decode cX1_countCommon 9 = .ok (.invokevirtual 46, 3) := by decide +kernel
theorem zd_X1_countCommon_12 : decode cX1_countCommon 12 = .ok (.iconst 1, 1) := by decide +kernel
theorem zd_X1_countCommon_13 : decode cX1_countCommon 13 = .ok (.isub, 1) := by decide +kernel
theorem zd_X1_countCommon_14 : decode cX1_countCommon 14 = .ok (.istore_n 3, 1) := by decide +kernel
theorem zd_X1_countCommon_15 : decode cX1_countCommon 15 = .ok (.iload_n 3, 1) := by decide +kernel
theorem zd_X1_countCommon_16 : decode cX1_countCommon 16 = .ok (.ifCond .lt 116, 3) := by decide +kernel
theorem zd_X1_countCommon_19 : decode cX1_countCommon 19 = .ok (.aload_n 2, 1) := by decide +kernel
theorem zd_X1_countCommon_20 : decode cX1_countCommon 20 = .ok (.invokevirtual 46, 3) := by decide +kernel
theorem zd_X1_countCommon_23 : decode cX1_countCommon 23 = .ok (.iconst 1, 1) := by decide +kernel
theorem zd_X1_countCommon_24 : decode cX1_countCommon 24 = .ok (.isub, 1) := by decide +kernel
theorem zd_X1_countCommon_25 : decode cX1_countCommon 25 = .ok (.istore 4, 2) := by decide +kernel
theorem zd_X1_countCommon_27 : decode cX1_countCommon 27 = .ok (.iload 4, 2) := by decide +kernel
theorem zd_X1_countCommon_29 : decode cX1_countCommon 29 = .ok (.ifCond .lt 97, 3) := by decide +kernel
theorem zd_X1_countCommon_32 : decode cX1_countCommon 32 = .ok (.iload_n 3, 1) := by decide +kernel
theorem zd_X1_countCommon_33 : decode cX1_countCommon 33 = .ok (.bipush 25, 2) := by decide +kernel
theorem zd_X1_countCommon_35 : decode cX1_countCommon 35 = .ok (.imul, 1) := by decide +kernel
theorem zd_X1_countCommon_36 : decode cX1_countCommon 36 = .ok (.iload 4, 2) := by decide +kernel
theorem zd_X1_countCommon_38 : decode cX1_countCommon 38 = .ok (.iadd, 1) := by decide +kernel
theorem zd_X1_countCommon_39 : decode cX1_countCommon 39 = .ok (.istore 5, 2) := by decide +kernel
theorem zd_X1_countCommon_41 : decode cX1_countCommon 41 = .ok (.iload 5, 2) := by decide +kernel
theorem zd_X1_countCommon_43 : decode cX1_countCommon 43 = .ok (.bipush 25, 2) := by decide +kernel
theorem zd_X1_countCommon_45 : decode cX1_countCommon 45 = .ok (.iadd, 1) := by decide +kernel
theorem zd_X1_countCommon_46 : decode cX1_countCommon 46 = .ok (.iconst 1, 1) := by decide +kernel
theorem zd_X1_countCommon_47 : decode cX1_countCommon 47 = .ok (.iadd, 1) := by decide +kernel
theorem zd_X1_countCommon_48 : decode cX1_countCommon 48 = .ok (.aload_n 0, 1) := by decide +kernel
theorem zd_X1_countCommon_49 : decode cX1_countCommon 49 = .ok (.getfield 11, 3) := by decide +kernel
theorem zd_X1_countCommon_52 : decode cX1_countCommon 52 = .ok (.arraylength, 1) := by decide +kernel
theorem zd_X1_countCommon_53 : decode cX1_countCommon 53 = .ok (.if_icmp .lt 6, 3) := by decide +kernel
theorem zd_X1_countCommon_56 : decode cX1_countCommon 56 = .ok (.goto 64, 3) := by decide +kernel
theorem zd_X1_countCommon_59 : decode cX1_countCommon 59 = .ok (.aload_n 0, 1) := by decide +kernel
theorem zd_X1_countCommon_60 : decode cX1_countCommon 60 = .ok (.getfield 11, 3) := by decide +kernel
theorem zd_X1_countCommon_63 : decode cX1_countCommon 63 = .ok (.iload 5, 2) := by decide +kernel
theorem zd_X1_countCommon_65 : decode cX1_countCommon 65 = .ok (.aload_n 1, 1) := by decide +kernel
theorem zd_X1_countCommon_66 : decode cX1_countCommon 66 = .ok (.iload_n 3, 1) := by decide +kernel
theorem zd_X1_countCommon_67 : decode cX1_countCommon 67 = .ok (.invokevirtual 52, 3) := by decide +kernel
theorem zd_X1_countCommon_70 : decode cX1_countCommon 70 = .ok (.aload_n 2, 1) := by decide +kernel
theorem zd_X1_countCommon_71 : decode cX1_countCommon 71 = .ok (.iload 4, 2) := by decide +kernel
theorem zd_X1_countCommon_73 : decode cX1_countCommon 73 = .ok (.invokevirtual 52, 3) := by decide +kernel
theorem zd_X1_countCommon_76 : decode cX1_countCommon 76 = .ok (.lcmp, 1) := by decide +kernel
theorem zd_X1_countCommon_77 : decode cX1_countCommon 77 = .ok (.ifCond .ne 20, 3) := by decide +kernel
theorem zd_X1_countCommon_80 : decode cX1_countCommon 80 = .ok (.aload_n 0, 1) := by decide +kernel
theorem zd_X1_countCommon_81 : decode cX1_countCommon 81 = .ok (.getfield 11, 3) := by decide +kernel
theorem zd_X1_countCommon_84 : decode cX1_countCommon 84 = .ok (.iload 5, 2) := by decide +kernel
theorem zd_X1_countCommon_86 : decode cX1_countCommon 86 = .ok (.bipush 25, 2) := by decide +kernel
theorem zd_X1_countCommon_88 : decode cX1_countCommon 88 = .ok (.iadd, 1) := by decide +kernel
theorem zd_X1_countCommon_89 : decode cX1_countCommon 89 = .ok (.iconst 1, 1) := by decide +kernel
theorem zd_X1_countCommon_90 : decode cX1_countCommon 90 = .ok (.iadd, 1) := by decide +kernel
theorem zd_X1_countCommon_91 : decode cX1_countCommon 91 = .ok (.iaload, 1) := by decide +kernel
theorem zd_X1_countCommon_92 : decode cX1_countCommon 92 = .ok (.iconst 1, 1) := by decide +kernel
theorem zd_X1_countCommon_93 : decode cX1_countCommon 93 = .ok (.iadd, 1) := by decide +kernel
theorem zd_X1_countCommon_94 : decode cX1_countCommon 94 = .ok (.goto 25, 3) := by decide +kernel
theorem zd_X1_countCommon_97 : decode cX1_countCommon 97 = .ok (.aload_n 0, 1) := by decide +kernel
theorem zd_X1_countCommon_98 : decode cX1_countCommon 98 = .ok (.getfield 11, 3) := by decide +kernel
theorem zd_X1_countCommon_101 : decode cX1_countCommon 101 = .ok (.iload 5, 2) := by decide +kernel
theorem zd_X1_countCommon_103 : decode cX1_countCommon 103 = .ok (.bipush 25, 2) := by decide +kernel
theorem zd_X1_countCommon_105 : decode cX1_countCommon 105 = .ok (.iadd, 1) := by decide +kernel
theorem zd_X1_countCommon_106 : decode cX1_countCommon 106 = .ok (.iaload, 1) := by decide +kernel
theorem zd_X1_countCommon_107 : decode cX1_countCommon 107 = .ok (.aload_n 0, 1) := by decide +kernel
theorem zd_X1_countCommon_108 : decode cX1_countCommon 108 = .ok (.getfield 11, 3) := by decide +kernel
theorem zd_X1_countCommon_111 : decode cX1_countCommon 111 = .ok (.iload 5, 2) := by decide +kernel
theorem zd_X1_countCommon_113 : decode cX1_countCommon 113 = .ok (.iconst 1, 1) := by decide +kernel
theorem zd_X1_countCommon_114 : decode cX1_countCommon 114 = .ok (.iadd, 1) := by decide +kernel
theorem zd_X1_countCommon_115 : decode cX1_countCommon 115 = .ok (.iaload, 1) := by decide +kernel
theorem zd_X1_countCommon_116 : decode cX1_countCommon 116 = .ok (.invokestatic 56, 3) := by decide +kernel
theorem zd_X1_countCommon_119 : decode cX1_countCommon 119 = .ok (.iastore, 1) := by decide +kernel
theorem zd_X1_countCommon_120 : decode cX1_countCommon 120 = .ok (.iinc 4 (-1), 3) := by decide +kernel
theorem zd_X1_countCommon_123 : decode cX1_countCommon 123 = .ok (.goto (-96), 3) := by decide +kernel
theorem zd_X1_countCommon_126 : decode cX1_countCommon 126 = .ok (.iinc 3 (-1), 3) := by decide +kernel
theorem zd_X1_countCommon_129 : decode cX1_countCommon 129 = .ok (.goto (-114), 3) := by decide +kernel
theorem zd_X1_countCommon_132 : decode cX1_countCommon 132 = .ok (.return_, 1) := by decide +kernel
theorem zd_X1_commonFrom_0 : decode cX1_commonFrom 0 = .ok (.iload_n 1, 1) := by decide +kernel
theorem zd_X1_commonFrom_1 : decode cX1_commonFrom 1 = .ok (.bipush 25, 2) := by decide +kernel
theorem zd_X1_commonFrom_3 : decode cX1_commonFrom 3 = .ok (.imul, 1) := by decide +kernel
theorem zd_X1_commonFrom_4 : decode cX1_commonFrom 4 = .ok (.iload_n 2, 1) := by decide +kernel
theorem zd_X1_commonFrom_5 : decode cX1_commonFrom 5 = .ok (.iadd, 1) := by decide +kernel
theorem zd_X1_commonFrom_6 : decode cX1_commonFrom 6 = .ok (.istore_n 3, 1) := by decide +kernel
theorem zd_X1_commonFrom_7 : decode cX1_commonFrom 7 = .ok (.iload_n 3, 1) := by decide +kernel
theorem zd_X1_commonFrom_8 : decode cX1_commonFrom 8 = .ok (.ifCond .lt 21, 3) := by decide +kernel
theorem zd_X1_commonFrom_11 : decode cX1_commonFrom 11 = .ok (.iload_n 3, 1) := by decide +kernel
theorem zd_X1_commonFrom_12 : decode cX1_commonFrom 12 = .ok (.aload_n 0, 1) := by decide +kernel
theorem zd_X1_commonFrom_13 : decode cX1_commonFrom 13 = .ok (.getfield 11, 3) := by decide +kernel
theorem zd_X1_commonFrom_16 : decode cX1_commonFrom 16 = .ok (.arraylength, 1) := by decide +kernel
theorem zd_X1_commonFrom_17 : decode cX1_commonFrom 17 = .ok (.if_icmp .ge 12, 3) := by decide +kernel
theorem zd_X1_commonFrom_20 : decode cX1_commonFrom 20 = .ok (.aload_n 0, 1) := by decide +kernel
theorem zd_X1_commonFrom_21 : decode cX1_commonFrom 21 = .ok (.getfield 11, 3) := by decide +kernel
theorem zd_X1_commonFrom_24 : decode cX1_commonFrom 24 = .ok (.iload_n 3, 1) := by decide +kernel
theorem zd_X1_commonFrom_25 : decode cX1_commonFrom 25 = .ok (.iaload, 1) := by decide +kernel
theorem zd_X1_commonFrom_26 : decode cX1_commonFrom 26 = .ok (.goto 4, 3) := by decide +kernel
theorem zd_X1_commonFrom_29 : decode cX1_commonFrom 29 = .ok (.iconst 0, 1) := by decide +kernel
theorem zd_X1_commonFrom_30 : decode cX1_commonFrom 30 = .ok (.ireturn, 1) := by decide +kernel
theorem zd_X1_take_0 : decode cX1_take 0 = .ok (.iload_n 1, 1) := by decide +kernel
theorem zd_X1_take_1 : decode cX1_take 1 = .ok (.ifCond .lt 39, 3) := by decide +kernel
theorem zd_X1_take_4 : decode cX1_take 4 = .ok (.iload_n 1, 1) := by decide +kernel
theorem zd_X1_take_5 : decode cX1_take 5 = .ok (.aload_n 0, 1) := by decide +kernel
theorem zd_X1_take_6 : decode cX1_take 6 = .ok (.getfield 15, 3) := by decide +kernel
theorem zd_X1_take_9 : decode cX1_take 9 = .ok (.arraylength, 1) := by decide +kernel
theorem zd_X1_take_10 : decode cX1_take 10 = .ok (.if_icmp .ge 30, 3) := by decide +kernel
theorem zd_X1_take_13 : decode cX1_take 13 = .ok (.iload_n 2, 1) := by decide +kernel
theorem zd_X1_take_14 : decode cX1_take 14 = .ok (.ifCond .lt 26, 3) := by decide +kernel
theorem zd_X1_take_17 : decode cX1_take 17 = .ok (.iload_n 2, 1) := by decide +kernel
theorem zd_X1_take_18 : decode cX1_take 18 = .ok (.aload_n 0, 1) := by decide +kernel
theorem zd_X1_take_19 : decode cX1_take 19 = .ok (.getfield 18, 3) := by decide +kernel
theorem zd_X1_take_22 : decode cX1_take 22 = .ok (.arraylength, 1) := by decide +kernel
theorem zd_X1_take_23 : decode cX1_take 23 = .ok (.if_icmp .ge 17, 3) := by decide +kernel
theorem zd_X1_take_26 : decode cX1_take 26 = .ok (.aload_n 0, 1) := by decide +kernel
theorem zd_X1_take_27 : decode cX1_take 27 = .ok (.getfield 15, 3) := by decide +kernel
theorem zd_X1_take_30 : decode cX1_take 30 = .ok (.iload_n 1, 1) := by decide +kernel
theorem zd_X1_take_31 : decode cX1_take 31 = .ok (.iload_n 2, 1) := by decide +kernel
theorem zd_X1_take_32 : decode cX1_take 32 = .ok (.iastore, 1) := by decide +kernel
theorem zd_X1_take_33 : decode cX1_take 33 = .ok (.aload_n 0, 1) := by decide +kernel
theorem zd_X1_take_34 : decode cX1_take 34 = .ok (.getfield 18, 3) := by decide +kernel
theorem zd_X1_take_37 : decode cX1_take 37 = .ok (.iload_n 2, 1) := by decide +kernel
theorem zd_X1_take_38 : decode cX1_take 38 = .ok (.iconst 1, 1) := by decide +kernel
theorem zd_X1_take_39 : decode cX1_take 39 = .ok (.bastore, 1) := by decide +kernel
theorem zd_X1_take_40 : decode cX1_take 40 = .ok (.return_, 1) := by decide +kernel
theorem zd_X1_pairUp_0 : decode cX1_pairUp 0 = .ok (.iconst 0, 1) := by decide +kernel
theorem zd_X1_pairUp_1 : decode cX1_pairUp 1 = .ok (.istore_n 3, 1) := by decide +kernel
theorem zd_X1_pairUp_2 : decode cX1_pairUp 2 = .ok (.iconst 0, 1) := by decide +kernel
theorem zd_X1_pairUp_3 : decode cX1_pairUp 3 = .ok (.istore 4, 2) := by decide +kernel
theorem zd_X1_pairUp_5 : decode cX1_pairUp 5 = .ok (.iload_n 3, 1) := by decide +kernel
theorem zd_X1_pairUp_6 : decode cX1_pairUp 6 = .ok (.aload_n 1, 1) := by decide +kernel
theorem zd_X1_pairUp_7 : decode cX1_pairUp 7 = .ok (.invokevirtual 46, 3) := by decide +kernel
theorem zd_X1_pairUp_10 : decode cX1_pairUp 10 = .ok (.if_icmp .ge 86, 3) := by decide +kernel
theorem zd_X1_pairUp_13 : decode cX1_pairUp 13 = .ok (.iload 4, 2) := by decide +kernel
theorem zd_X1_pairUp_15 : decode cX1_pairUp 15 = .ok (.aload_n 2, 1) := by decide +kernel
theorem zd_X1_pairUp_16 : decode cX1_pairUp 16 = .ok (.invokevirtual 46, 3) := by decide +kernel
theorem zd_X1_pairUp_19 : decode cX1_pairUp 19 = .ok (.if_icmp .ge 77, 3) := by decide +kernel
theorem zd_X1_pairUp_22 : decode cX1_pairUp 22 = .ok (.aload_n 1, 1) := by decide +kernel
theorem zd_X1_pairUp_23 : decode cX1_pairUp 23 = .ok (.iload_n 3, 1) := by decide +kernel
theorem zd_X1_pairUp_24 : decode cX1_pairUp 24 = .ok (.invokevirtual 52, 3) := by decide +kernel
theorem zd_X1_pairUp_27 : decode cX1_pairUp 27 = .ok (.aload_n 2, 1) := by decide +kernel
theorem zd_X1_pairUp_28 : decode cX1_pairUp 28 = .ok (.iload 4, 2) := by decide +kernel
theorem zd_X1_pairUp_30 : decode cX1_pairUp 30 = .ok (.invokevirtual 52, 3) := by decide +kernel
theorem zd_X1_pairUp_33 : decode cX1_pairUp 33 = .ok (.lcmp, 1) := by decide +kernel
theorem zd_X1_pairUp_34 : decode cX1_pairUp 34 = .ok (.ifCond .ne 29, 3) := by decide +kernel
theorem zd_X1_pairUp_37 : decode cX1_pairUp 37 = .ok (.aload_n 0, 1) := by decide +kernel
theorem zd_X1_pairUp_38 : decode cX1_pairUp 38 = .ok (.iload_n 3, 1) := by decide +kernel
theorem zd_X1_pairUp_39 : decode cX1_pairUp 39 = .ok (.iload 4, 2) := by decide +kernel
theorem zd_X1_pairUp_41 : decode cX1_pairUp 41 = .ok (.invokevirtual 62, 3) := by decide +kernel
theorem zd_X1_pairUp_44 : decode cX1_pairUp 44 = .ok (.aload_n 0, 1) := by decide +kernel
theorem zd_X1_pairUp_45 : decode cX1_pairUp 45 = .ok (.dup, 1) := by decide +kernel
theorem zd_X1_pairUp_46 : decode cX1_pairUp 46 = .ok (.getfield 28, 3) := by decide +kernel
theorem zd_X1_pairUp_49 : decode cX1_pairUp 49 = .ok (.iconst 1, 1) := by decide +kernel
theorem zd_X1_pairUp_50 : decode cX1_pairUp 50 = .ok (.iadd, 1) := by decide +kernel
theorem zd_X1_pairUp_51 : decode cX1_pairUp 51 = .ok (.putfield 28, 3) := by decide +kernel
theorem zd_X1_pairUp_54 : decode cX1_pairUp 54 = .ok (.iinc 3 1, 3) := by decide +kernel
theorem zd_X1_pairUp_57 : decode cX1_pairUp 57 = .ok (.iinc 4 1, 3) := by decide +kernel
theorem zd_X1_pairUp_60 : decode cX1_pairUp 60 = .ok (.goto (-55), 3) := by decide +kernel
theorem zd_X1_pairUp_63 : decode cX1_pairUp 63 = .ok (.aload_n 0, 1) := by decide +kernel
theorem zd_X1_pairUp_64 : decode cX1_pairUp 64 = .ok (.iload_n 3, 1) := by decide +kernel
theorem zd_X1_pairUp_65 : decode cX1_pairUp 65 = .ok (.iconst 1, 1) := by decide +kernel
theorem zd_X1_pairUp_66 : decode cX1_pairUp 66 = .ok (.iadd, 1) := by decide +kernel
theorem zd_X1_pairUp_67 : decode cX1_pairUp 67 = .ok (.iload 4, 2) := by decide +kernel
theorem zd_X1_pairUp_69 : decode cX1_pairUp 69 = .ok (.invokevirtual 66, 3) := by decide +kernel
theorem zd_X1_pairUp_72 : decode cX1_pairUp 72 = .ok (.aload_n 0, 1) := by decide +kernel
theorem zd_X1_pairUp_73 : decode cX1_pairUp 73 = .ok (.iload_n 3, 1) := by decide +kernel
theorem zd_X1_pairUp_74 : decode cX1_pairUp 74 = .ok (.iload 4, 2) := by decide +kernel
theorem zd_X1_pairUp_76 : decode cX1_pairUp 76 = .ok (.iconst 1, 1) := by decide +kernel
theorem zd_X1_pairUp_77 : decode cX1_pairUp 77 = .ok (.iadd, 1) := by decide +kernel
theorem zd_X1_pairUp_78 : decode cX1_pairUp 78 = .ok (.invokevirtual 66, 3) := by decide +kernel
theorem zd_X1_pairUp_81 : decode cX1_pairUp 81 = .ok (.if_icmp .lt 9, 3) := by decide +kernel
theorem zd_X1_pairUp_84 : decode cX1_pairUp 84 = .ok (.iinc 3 1, 3) := by decide +kernel
theorem zd_X1_pairUp_87 : decode cX1_pairUp 87 = .ok (.goto (-82), 3) := by decide +kernel
theorem zd_X1_pairUp_90 : decode cX1_pairUp 90 = .ok (.iinc 4 1, 3) := by decide +kernel
theorem zd_X1_pairUp_93 : decode cX1_pairUp 93 = .ok (.goto (-88), 3) := by decide +kernel
theorem zd_X1_pairUp_96 : decode cX1_pairUp 96 = .ok (.return_, 1) := by decide +kernel
theorem zd_X1_isFree_0 : decode cX1_isFree 0 = .ok (.iload_n 1, 1) := by decide +kernel
theorem zd_X1_isFree_1 : decode cX1_isFree 1 = .ok (.ifCond .lt 48, 3) := by decide +kernel
theorem zd_X1_isFree_4 : decode cX1_isFree 4 = .ok (.iload_n 1, 1) := by decide +kernel
theorem zd_X1_isFree_5 : decode cX1_isFree 5 = .ok (.aload_n 0, 1) := by decide +kernel
theorem zd_X1_isFree_6 : decode cX1_isFree 6 = .ok (.getfield 15, 3) := by decide +kernel
theorem zd_X1_isFree_9 : decode cX1_isFree 9 = .ok (.arraylength, 1) := by decide +kernel
theorem zd_X1_isFree_10 : decode cX1_isFree 10 = .ok (.if_icmp .ge 39, 3) := by decide +kernel
theorem zd_X1_isFree_13 : decode cX1_isFree 13 = .ok (.aload_n 0, 1) := by decide +kernel
theorem zd_X1_isFree_14 : decode cX1_isFree 14 = .ok (.getfield 15, 3) := by decide +kernel
theorem zd_X1_isFree_17 : decode cX1_isFree 17 = .ok (.iload_n 1, 1) := by decide +kernel
theorem zd_X1_isFree_18 : decode cX1_isFree 18 = .ok (.iaload, 1) := by decide +kernel
theorem zd_X1_isFree_19 : decode cX1_isFree 19 = .ok (.iconst (-1), 1) := by decide +kernel
theorem zd_X1_isFree_20 : decode cX1_isFree 20 = .ok (.if_icmp .ne 29, 3) := by decide +kernel
theorem zd_X1_isFree_23 : decode cX1_isFree 23 = .ok (.iload_n 2, 1) := by decide +kernel
theorem zd_X1_isFree_24 : decode cX1_isFree 24 = .ok (.ifCond .lt 25, 3) := by decide +kernel
theorem zd_X1_isFree_27 : decode cX1_isFree 27 = .ok (.iload_n 2, 1) := by decide +kernel
theorem zd_X1_isFree_28 : decode cX1_isFree 28 = .ok (.aload_n 0, 1) := by decide +kernel
theorem zd_X1_isFree_29 : decode cX1_isFree 29 = .ok (.getfield 18, 3) := by decide +kernel
theorem zd_X1_isFree_32 : decode cX1_isFree 32 = .ok (.arraylength, 1) := by decide +kernel
theorem zd_X1_isFree_33 : decode cX1_isFree 33 = .ok (.if_icmp .ge 16, 3) := by decide +kernel
theorem zd_X1_isFree_36 : decode cX1_isFree 36 = .ok (.aload_n 0, 1) := by decide +kernel
theorem zd_X1_isFree_37 : decode cX1_isFree 37 = .ok (.getfield 18, 3) := by decide +kernel
theorem zd_X1_isFree_40 : decode cX1_isFree 40 = .ok (.iload_n 2, 1) := by decide +kernel
theorem zd_X1_isFree_41 : decode cX1_isFree 41 = .ok (.baload, 1) := by decide +kernel
theorem zd_X1_isFree_42 : decode cX1_isFree 42 = .ok (.ifCond .ne 7, 3) := by decide +kernel
theorem zd_X1_isFree_45 : decode cX1_isFree 45 = .ok (.iconst 1, 1) := by decide +kernel
theorem zd_X1_isFree_46 : decode cX1_isFree 46 = .ok (.goto 4, 3) := by decide +kernel
theorem zd_X1_isFree_49 : decode cX1_isFree 49 = .ok (.iconst 0, 1) := by decide +kernel
theorem zd_X1_isFree_50 : decode cX1_isFree 50 = .ok (.ireturn, 1) := by decide +kernel
theorem zd_X1_runAt_0 : decode cX1_runAt 0 = .ok (.iconst 0, 1) := by decide +kernel
theorem zd_X1_runAt_1 : decode cX1_runAt 1 = .ok (.istore 5, 2) := by decide +kernel
theorem zd_X1_runAt_3 : decode cX1_runAt 3 = .ok (.iload_n 3, 1) := by decide +kernel
theorem zd_X1_runAt_4 : decode cX1_runAt 4 = .ok (.iload 5, 2) := by decide +kernel
theorem zd_X1_runAt_6 : decode cX1_runAt 6 = .ok (.iadd, 1) := by decide +kernel
theorem zd_X1_runAt_7 : decode cX1_runAt 7 = .ok (.aload_n 1, 1) := by decide +kernel
theorem zd_X1_runAt_8 : decode cX1_runAt 8 = .ok (.invokevirtual 46, 3) := by decide +kernel
theorem zd_X1_runAt_11 : decode cX1_runAt 11 = .ok (.if_icmp .ge 58, 3) := by decide +kernel
theorem zd_X1_runAt_14 : decode cX1_runAt 14 = .ok (.iload 4, 2) := by decide +kernel
theorem zd_X1_runAt_16 : decode cX1_runAt 16 = .ok (.iload 5, 2) := by decide +kernel
theorem zd_X1_runAt_18 : decode cX1_runAt 18 = .ok (.iadd, 1) := by decide +kernel
theorem zd_X1_runAt_19 : decode cX1_runAt 19 = .ok (.aload_n 2, 1) := by decide +kernel
theorem zd_X1_runAt_20 : decode cX1_runAt 20 = .ok (.invokevirtual 46, 3) := by decide +kernel
theorem zd_X1_runAt_23 : decode cX1_runAt 23 = .ok (.if_icmp .ge 46, 3) := by decide +kernel
theorem zd_X1_runAt_26 : decode cX1_runAt 26 = .ok (.aload_n 1, 1) := by decide +kernel
theorem zd_X1_runAt_27 : decode cX1_runAt 27 = .ok (.iload_n 3, 1) := by decide +kernel
theorem zd_X1_runAt_28 : decode cX1_runAt 28 = .ok (.iload 5, 2) := by decide +kernel
theorem zd_X1_runAt_30 : decode cX1_runAt 30 = .ok (.iadd, 1) := by decide +kernel
theorem zd_X1_runAt_31 : decode cX1_runAt 31 = .ok (.invokevirtual 52, 3) := by decide +kernel
theorem zd_X1_runAt_34 : decode cX1_runAt 34 = .ok (.aload_n 2, 1) := by decide +kernel
theorem zd_X1_runAt_35 : decode cX1_runAt 35 = .ok (.iload 4, 2) := by decide +kernel
theorem zd_X1_runAt_37 : decode cX1_runAt 37 = .ok (.iload 5, 2) := by decide +kernel
theorem zd_X1_runAt_39 : decode cX1_runAt 39 = .ok (.iadd, 1) := by decide +kernel
theorem zd_X1_runAt_40 : decode cX1_runAt 40 = .ok (.invokevirtual 52, 3) := by decide +kernel
theorem zd_X1_runAt_43 : decode cX1_runAt 43 = .ok (.lcmp, 1) := by decide +kernel
theorem zd_X1_runAt_44 : decode cX1_runAt 44 = .ok (.ifCond .ne 25, 3) := by decide +kernel
theorem zd_X1_runAt_47 : decode cX1_runAt 47 = .ok (.aload_n 0, 1) := by decide +kernel
theorem zd_X1_runAt_48 : decode cX1_runAt 48 = .ok (.iload_n 3, 1) := by decide +kernel
theorem zd_X1_runAt_49 : decode cX1_runAt 49 = .ok (.iload 5, 2) := by decide +kernel
theorem zd_X1_runAt_51 : decode cX1_runAt 51 = .ok (.iadd, 1) := by decide +kernel
theorem zd_X1_runAt_52 : decode cX1_runAt 52 = .ok (.iload 4, 2) := by decide +kernel
theorem zd_X1_runAt_54 : decode cX1_runAt 54 = .ok (.iload 5, 2) := by decide +kernel
theorem zd_X1_runAt_56 : decode cX1_runAt 56 = .ok (.iadd, 1) := by decide +kernel
theorem zd_X1_runAt_57 : decode cX1_runAt 57 = .ok (.invokevirtual 73, 3) := by decide +kernel
theorem zd_X1_runAt_60 : decode cX1_runAt 60 = .ok (.ifCond .eq 9, 3) := by decide +kernel
theorem zd_X1_runAt_63 : decode cX1_runAt 63 = .ok (.iinc 5 1, 3) := by decide +kernel
theorem zd_X1_runAt_66 : decode cX1_runAt 66 = .ok (.goto (-63), 3) := by decide +kernel
theorem zd_X1_runAt_69 : decode cX1_runAt 69 = .ok (.iload 5, 2) := by decide +kernel
theorem zd_X1_runAt_71 : decode cX1_runAt 71 = .ok (.ireturn, 1) := by decide +kernel
theorem zd_X1_moveLongest_0 : decode cX1_moveLongest 0 = .ok (.iconst 0, 1) := by decide +kernel
theorem zd_X1_moveLongest_1 : decode cX1_moveLongest 1 = .ok (.istore 4, 2) := by decide +kernel
theorem zd_X1_moveLongest_3 : decode cX1_moveLongest 3 = .ok (.iconst 0, 1) := by decide +kernel
theorem zd_X1_moveLongest_4 : decode cX1_moveLongest 4 = .ok (.istore 5, 2) := by decide +kernel
theorem zd_X1_moveLongest_6 : decode cX1_moveLongest 6 = .ok (.iconst 0, 1) := by decide +kernel
theorem zd_X1_moveLongest_7 : decode cX1_moveLongest 7 = .ok (.istore 6, 2) := by decide +kernel
theorem zd_X1_moveLongest_9 : decode cX1_moveLongest 9 = .ok (.iconst 0, 1) := by decide +kernel
theorem zd_X1_moveLongest_10 : decode cX1_moveLongest 10 = .ok (.istore 7, 2) := by decide +kernel
theorem zd_X1_moveLongest_12 : decode cX1_moveLongest 12 = .ok (.iload 7, 2) := by decide +kernel
theorem zd_X1_moveLongest_14 : decode cX1_moveLongest 14 = .ok (.aload_n 1, 1) := by decide +kernel
theorem zd_X1_moveLongest_15 : decode cX1_moveLongest 15 = .ok (.invokevirtual 46, 3) := by decide +kernel
theorem zd_X1_moveLongest_18 : decode cX1_moveLongest 18 = .ok (.if_icmp .ge 58, 3) := by decide +kernel
theorem zd_X1_moveLongest_21 : decode cX1_moveLongest 21 = .ok (.iconst 0, 1) := by decide +kernel
theorem zd_X1_moveLongest_22 : decode cX1_moveLongest 22 = .ok (.istore 8, 2) := by decide +kernel
theorem zd_X1_moveLongest_24 : decode cX1_moveLongest 24 = .ok (.iload 8, 2) := by decide +kernel
theorem zd_X1_moveLongest_26 : decode cX1_moveLongest 26 = .ok (.aload_n 2, 1) := by decide +kernel
theorem zd_X1_moveLongest_27 : decode cX1_moveLongest 27 = .ok (.invokevirtual 46, 3) := by decide +kernel
theorem zd_X1_moveLongest_30 : decode cX1_moveLongest 30 = .ok (.if_icmp .ge 40, 3) := by decide +kernel
theorem zd_X1_moveLongest_33 : decode cX1_moveLongest 33 = .ok (.aload_n 0, 1) := by decide +kernel
theorem zd_X1_moveLongest_34 : decode cX1_moveLongest 34 = .ok (.aload_n 1, 1) := by decide +kernel
theorem zd_X1_moveLongest_35 : decode cX1_moveLongest 35 = .ok (.aload_n 2, 1) := by decide +kernel
theorem zd_X1_moveLongest_36 : decode cX1_moveLongest 36 = .ok (.iload 7, 2) := by decide +kernel
theorem zd_X1_moveLongest_38 : decode cX1_moveLongest 38 = .ok (.iload 8, 2) := by decide +kernel
theorem zd_X1_moveLongest_40 : decode cX1_moveLongest 40 = .ok (.invokevirtual 69, 3) := by decide +kernel
theorem zd_X1_moveLongest_43 : decode cX1_moveLongest 43 = .ok (.istore 9, 2) := by decide +kernel
theorem zd_X1_moveLongest_45 : decode cX1_moveLongest 45 = .ok (.iload 9, 2) := by decide +kernel
theorem zd_X1_moveLongest_47 : decode cX1_moveLongest 47 = .ok (.iload 4, 2) := by decide +kernel
theorem zd_X1_moveLongest_49 : decode cX1_moveLongest 49 = .ok (.if_icmp .le 15, 3) := by decide +kernel
theorem zd_X1_moveLongest_52 : decode cX1_moveLongest 52 = .ok (.iload 9, 2) := by decide +kernel
theorem zd_X1_moveLongest_54 : decode cX1_moveLongest 54 = .ok (.istore 4, 2) := by decide +kernel
theorem zd_X1_moveLongest_56 : decode cX1_moveLongest 56 = .ok (.iload 7, 2) := by decide +kernel
theorem zd_X1_moveLongest_58 : decode cX1_moveLongest 58 = .ok (.istore 5, 2) := by decide +kernel
theorem zd_X1_moveLongest_60 : decode cX1_moveLongest 60 = .ok (.iload 8, 2) := by decide +kernel
theorem zd_X1_moveLongest_62 : decode cX1_moveLongest 62 = .ok (.istore 6, 2) := by decide +kernel
theorem zd_X1_moveLongest_64 : decode cX1_moveLongest 64 = .ok (.iinc 8 1, 3) := by decide +kernel
theorem zd_X1_moveLongest_67 : decode cX1_moveLongest 67 = .ok (.goto (-43), 3) := by decide +kernel
theorem zd_X1_moveLongest_70 : decode cX1_moveLongest 70 = .ok (.iinc 7 1, 3) := by decide +kernel
theorem zd_X1_moveLongest_73 : decode cX1_moveLongest 73 = .ok (.goto (-61), 3) := by decide +kernel
theorem zd_X1_moveLongest_76 : decode cX1_moveLongest 76 = .ok (.iload 4, 2) := by decide +kernel
theorem zd_X1_moveLongest_78 : decode cX1_moveLongest 78 = .ok (.ifCond .eq 9, 3) := by decide +kernel
theorem zd_X1_moveLongest_81 : decode cX1_moveLongest 81 = .ok (.iload 4, 2) := by decide +kernel
theorem zd_X1_moveLongest_83 : decode cX1_moveLongest 83 = .ok (.iload_n 3, 1) := by decide +kernel
theorem zd_X1_moveLongest_84 : decode cX1_moveLongest 84 = .ok (.if_icmp .ge 5, 3) := by decide +kernel
theorem zd_X1_moveLongest_87 : decode cX1_moveLongest 87 = .ok (.iconst 0, 1) := by decide +kernel
theorem zd_X1_moveLongest_88 : decode cX1_moveLongest 88 = .ok (.ireturn, 1) := by decide +kernel
theorem zd_X1_moveLongest_89 : decode cX1_moveLongest 89 = .ok (.iconst 0, 1) := by decide +kernel
theorem zd_X1_moveLongest_90 : decode cX1_moveLongest 90 = .ok (.istore 7, 2) := by decide +kernel
theorem zd_X1_moveLongest_92 : decode cX1_moveLongest 92 = .ok (.iload 7, 2) := by decide +kernel
theorem zd_X1_moveLongest_94 : decode cX1_moveLongest 94 = .ok (.iload 4, 2) := by decide +kernel
theorem zd_X1_moveLongest_96 : decode cX1_moveLongest 96 = .ok (.if_icmp .ge 23, 3) := by decide +kernel
theorem zd_X1_moveLongest_99 : decode cX1_moveLongest 99 = .ok (.aload_n 0, 1) := by decide +kernel
theorem zd_X1_moveLongest_100 : decode cX1_moveLongest 100 = .ok (.iload 5, 2) := by decide +kernel
theorem zd_X1_moveLongest_102 : decode cX1_moveLongest 102 = .ok (.iload 7, 2) := by decide +kernel
theorem zd_X1_moveLongest_104 : decode cX1_moveLongest 104 = .ok (.iadd, 1) := by decide +kernel
theorem zd_X1_moveLongest_105 : decode cX1_moveLongest 105 = .ok (.iload 6, 2) := by decide +kernel
theorem zd_X1_moveLongest_107 : decode cX1_moveLongest 107 = .ok (.iload 7, 2) := by decide +kernel
theorem zd_X1_moveLongest_109 : decode cX1_moveLongest 109 = .ok (.iadd, 1) := by decide +kernel
theorem zd_X1_moveLongest_110 : decode cX1_moveLongest 110 = .ok (.invokevirtual 62, 3) := by decide +kernel
theorem zd_X1_moveLongest_113 : decode cX1_moveLongest 113 = .ok (.iinc 7 1, 3) := by decide +kernel
theorem zd_X1_moveLongest_116 : decode cX1_moveLongest 116 = .ok (.goto (-24), 3) := by decide +kernel
theorem zd_X1_moveLongest_119 : decode cX1_moveLongest 119 = .ok (.aload_n 0, 1) := by decide +kernel
theorem zd_X1_moveLongest_120 : decode cX1_moveLongest 120 = .ok (.dup, 1) := by decide +kernel
theorem zd_X1_moveLongest_121 : decode cX1_moveLongest 121 = .ok (.getfield 32, 3) := by decide +kernel
theorem zd_X1_moveLongest_124 : decode cX1_moveLongest 124 = .ok (.iload 4, 2) := by decide +kernel
theorem zd_X1_moveLongest_126 : decode cX1_moveLongest 126 = .ok (.iadd, 1) := by decide +kernel
theorem zd_X1_moveLongest_127 : decode cX1_moveLongest 127 = .ok (.putfield 32, 3) := by decide +kernel
theorem zd_X1_moveLongest_130 : decode cX1_moveLongest 130 = .ok (.iconst 1, 1) := by decide +kernel
theorem zd_X1_moveLongest_131 : decode cX1_moveLongest 131 = .ok (.ireturn, 1) := by decide +kernel
theorem zd_X1_match_0 : decode cX1_match 0 = .ok (.aload_n 0, 1) := by decide +kernel
theorem zd_X1_match_1 : decode cX1_match 1 = .ok (.getfield 15, 3) := by decide +kernel
theorem zd_X1_match_4 : decode cX1_match 4 = .ok (.iconst (-1), 1) := by decide +kernel
theorem zd_X1_match_5 : decode cX1_match 5 = .ok (.invokestatic 22, 3) := by decide +kernel
theorem zd_X1_match_8 : decode cX1_match 8 = .ok (.iconst 0, 1) := by decide +kernel
theorem zd_X1_match_9 : decode cX1_match 9 = .ok (.istore 4, 2) := by decide +kernel
theorem zd_X1_match_11 : decode cX1_match 11 = .ok (.iload 4, 2) := by decide +kernel
theorem zd_X1_match_13 : decode cX1_match 13 = .ok (.bipush 24, 2) := by decide +kernel
theorem zd_X1_match_15 : decode cX1_match 15 = .ok (.if_icmp .ge 17, 3) := by decide +kernel
theorem zd_X1_match_18 : decode cX1_match 18 = .ok (.aload_n 0, 1) := by decide +kernel
theorem zd_X1_match_19 : decode cX1_match 19 = .ok (.getfield 18, 3) := by decide +kernel
theorem zd_X1_match_22 : decode cX1_match 22 = .ok (.iload 4, 2) := by decide +kernel
theorem zd_X1_match_24 : decode cX1_match 24 = .ok (.iconst 0, 1) := by decide +kernel
theorem zd_X1_match_25 : decode cX1_match 25 = .ok (.bastore, 1) := by decide +kernel
theorem zd_X1_match_26 : decode cX1_match 26 = .ok (.iinc 4 1, 3) := by decide +kernel
theorem zd_X1_match_29 : decode cX1_match 29 = .ok (.goto (-18), 3) := by decide +kernel
theorem zd_X1_match_32 : decode cX1_match 32 = .ok (.aload_n 0, 1) := by decide +kernel
theorem zd_X1_match_33 : decode cX1_match 33 = .ok (.iconst 0, 1) := by decide +kernel
theorem zd_X1_match_34 : decode cX1_match 34 = .ok (.putfield 28, 3) := by decide +kernel
theorem zd_X1_match_37 : decode cX1_match 37 = .ok (.aload_n 0, 1) := by decide +kernel
theorem zd_X1_match_38 : decode cX1_match 38 = .ok (.iconst 0, 1) := by decide +kernel
theorem zd_X1_match_39 : decode cX1_match 39 = .ok (.putfield 32, 3) := by decide +kernel
theorem zd_X1_match_42 : decode cX1_match 42 = .ok (.aload_n 0, 1) := by decide +kernel
theorem zd_X1_match_43 : decode cX1_match 43 = .ok (.aload_n 1, 1) := by decide +kernel
theorem zd_X1_match_44 : decode cX1_match 44 = .ok (.aload_n 2, 1) := by decide +kernel
theorem zd_X1_match_45 : decode cX1_match 45 = .ok (.invokevirtual 35, 3) := by decide +kernel
theorem zd_X1_match_48 : decode cX1_match 48 = .ok (.aload_n 0, 1) := by decide +kernel
theorem zd_X1_match_49 : decode cX1_match 49 = .ok (.aload_n 1, 1) := by decide +kernel
theorem zd_X1_match_50 : decode cX1_match 50 = .ok (.aload_n 2, 1) := by decide +kernel
theorem zd_X1_match_51 : decode cX1_match 51 = .ok (.invokevirtual 39, 3) := by decide +kernel
theorem zd_X1_match_54 : decode cX1_match 54 = .ok (.iconst 0, 1) := by decide +kernel
theorem zd_X1_match_55 : decode cX1_match 55 = .ok (.istore 4, 2) := by decide +kernel
theorem zd_X1_match_57 : decode cX1_match 57 = .ok (.iload 4, 2) := by decide +kernel
theorem zd_X1_match_59 : decode cX1_match 59 = .ok (.bipush 24, 2) := by decide +kernel
theorem zd_X1_match_61 : decode cX1_match 61 = .ok (.if_icmp .ge 22, 3) := by decide +kernel
theorem zd_X1_match_64 : decode cX1_match 64 = .ok (.aload_n 0, 1) := by decide +kernel
theorem zd_X1_match_65 : decode cX1_match 65 = .ok (.aload_n 1, 1) := by decide +kernel
theorem zd_X1_match_66 : decode cX1_match 66 = .ok (.aload_n 2, 1) := by decide +kernel
theorem zd_X1_match_67 : decode cX1_match 67 = .ok (.iload_n 3, 1) := by decide +kernel
theorem zd_X1_match_68 : decode cX1_match 68 = .ok (.invokevirtual 42, 3) := by decide +kernel
theorem zd_X1_match_71 : decode cX1_match 71 = .ok (.ifCond .ne 6, 3) := by decide +kernel
theorem zd_X1_match_74 : decode cX1_match 74 = .ok (.goto 9, 3) := by decide +kernel
theorem zd_X1_match_77 : decode cX1_match 77 = .ok (.iinc 4 1, 3) := by decide +kernel
theorem zd_X1_match_80 : decode cX1_match 80 = .ok (.goto (-23), 3) := by decide +kernel
theorem zd_X1_match_83 : decode cX1_match 83 = .ok (.return_, 1) := by decide +kernel
theorem zd_X2_init_0 : decode cX2_init 0 = .ok (.aload_n 0, 1) := by decide +kernel
theorem zd_X2_init_1 : decode cX2_init 1 = .ok (.invokespecial 3, 3) := by decide +kernel
theorem zd_X2_init_4 : decode cX2_init 4 = .ok (.aload_n 0, 1) := by decide +kernel
theorem zd_X2_init_5 : decode cX2_init 5 = .ok (.bipush 20, 2) := by decide +kernel
theorem zd_X2_init_7 : decode cX2_init 7 = .ok (.newarray .int, 2) := by decide +kernel
theorem zd_X2_init_9 : decode cX2_init 9 = .ok (.putfield 11, 3) := by decide +kernel
theorem zd_X2_init_12 : decode cX2_init 12 = .ok (.return_, 1) := by decide +kernel
theorem zd_X2_forget_0 : decode cX2_forget 0 = .ok (.aload_n 0, 1) := by decide +kernel
theorem zd_X2_forget_1 : decode cX2_forget 1 = .ok (.iconst 0, 1) := by decide +kernel
theorem zd_X2_forget_2 : decode cX2_forget 2 = .ok (.putfield 15, 3) := by decide +kernel
theorem zd_X2_forget_5 : decode cX2_forget 5 = .ok (.return_, 1) := by decide +kernel
theorem zd_X2_bodyAt_0 : decode cX2_bodyAt 0 = .ok (.iload_n 1, 1) := by decide +kernel
theorem zd_X2_bodyAt_1 : decode cX2_bodyAt 1 = .ok (.ifCond .lt 29, 3) := by decide +kernel
theorem zd_X2_bodyAt_4 : decode cX2_bodyAt 4 = .ok (.iload_n 1, 1) := by decide +kernel
theorem zd_X2_bodyAt_5 : decode cX2_bodyAt 5 = .ok (.aload_n 0, 1) := by decide +kernel
theorem zd_X2_bodyAt_6 : decode cX2_bodyAt 6 = .ok (.getfield 15, 3) := by decide +kernel
theorem zd_X2_bodyAt_9 : decode cX2_bodyAt 9 = .ok (.if_icmp .ge 21, 3) := by decide +kernel
theorem zd_X2_bodyAt_12 : decode cX2_bodyAt 12 = .ok (.iload_n 1, 1) := by decide +kernel
theorem zd_X2_bodyAt_13 : decode cX2_bodyAt 13 = .ok (.aload_n 0, 1) := by decide +kernel
theorem zd_X2_bodyAt_14 : decode cX2_bodyAt 14 = .ok (.getfield 11, 3) := by decide +kernel
theorem zd_X2_bodyAt_17 : decode cX2_bodyAt 17 = .ok (.arraylength, 1) := by decide +kernel
theorem zd_X2_bodyAt_18 : decode cX2_bodyAt 18 = .ok (.if_icmp .ge 12, 3) := by decide +kernel
theorem zd_X2_bodyAt_21 : decode cX2_bodyAt 21 = .ok (.aload_n 0, 1) := by decide +kernel
theorem zd_X2_bodyAt_22 : decode cX2_bodyAt 22 = .ok (.getfield 11, 3) := by decide +kernel
theorem zd_X2_bodyAt_25 : decode cX2_bodyAt 25 = .ok (.iload_n 1, 1) := by decide +kernel
theorem zd_X2_bodyAt_26 : decode cX2_bodyAt 26 = .ok (.iaload, 1) := by decide +kernel
theorem zd_X2_bodyAt_27 : decode cX2_bodyAt 27 = .ok (.goto 4, 3) := by decide +kernel
theorem zd_X2_bodyAt_30 : decode cX2_bodyAt 30 = .ok (.iconst (-1), 1) := by decide +kernel
theorem zd_X2_bodyAt_31 : decode cX2_bodyAt 31 = .ok (.ireturn, 1) := by decide +kernel
theorem zd_X9_isKind_0 : decode cX9_isKind 0 = .ok (.iload_n 0, 1) := by decide +kernel
theorem zd_X9_isKind_1 : decode cX9_isKind 1 = .ok (.ifCond .lt 13, 3) := by decide +kernel
theorem zd_X9_isKind_4 : decode cX9_isKind 4 = .ok (.iload_n 0, 1) := by decide +kernel
theorem zd_X9_isKind_5 : decode cX9_isKind 5 = .ok (.bipush 7, 2) := by decide +kernel
theorem zd_X9_isKind_7 : decode cX9_isKind 7 = .ok (.if_icmp .ge 7, 3) := by decide +kernel
theorem zd_X9_isKind_10 : decode cX9_isKind 10 = .ok (.iconst 1, 1) := by decide +kernel
theorem zd_X9_isKind_11 : decode cX9_isKind 11 = .ok (.goto 4, 3) := by decide +kernel
theorem zd_X9_isKind_14 : decode cX9_isKind 14 = .ok (.iconst 0, 1) := by decide +kernel
theorem zd_X9_isKind_15 : decode cX9_isKind 15 = .ok (.ireturn, 1) := by decide +kernel
theorem zd_X2_bodyOf_0 : decode cX2_bodyOf 0 = .ok (.iload_n 1, 1) := by decide +kernel
theorem zd_X2_bodyOf_1 : decode cX2_bodyOf 1 = .ok (.istore_n 2, 1) := by decide +kernel
theorem zd_X2_bodyOf_2 : decode cX2_bodyOf 2 = .ok (.iconst 0, 1) := by decide +kernel
theorem zd_X2_bodyOf_3 : decode cX2_bodyOf 3 = .ok (.istore_n 3, 1) := by decide +kernel
theorem zd_X2_bodyOf_4 : decode cX2_bodyOf 4 = .ok (.iload_n 3, 1) := by decide +kernel
theorem zd_X2_bodyOf_5 : decode cX2_bodyOf 5 = .ok (.bipush 7, 2) := by decide +kernel
theorem zd_X2_bodyOf_7 : decode cX2_bodyOf 7 = .ok (.if_icmp .ge 59, 3) := by decide +kernel
theorem zd_X2_bodyOf_10 : decode cX2_bodyOf 10 = .ok (.iload_n 2, 1) := by decide +kernel
theorem zd_X2_bodyOf_11 : decode cX2_bodyOf 11 = .ok (.invokestatic 57, 3) := by decide +kernel
theorem zd_X2_bodyOf_14 : decode cX2_bodyOf 14 = .ok (.ifCond .eq 52, 3) := by decide +kernel
theorem zd_X2_bodyOf_17 : decode cX2_bodyOf 17 = .ok (.iload_n 2, 1) := by decide +kernel
theorem zd_X2_bodyOf_18 : decode cX2_bodyOf 18 = .ok (.iconst 3, 1) := by decide +kernel
theorem zd_X2_bodyOf_19 : decode cX2_bodyOf 19 = .ok (.imul, 1) := by decide +kernel
theorem zd_X2_bodyOf_20 : decode cX2_bodyOf 20 = .ok (.iload_n 0, 1) := by decide +kernel
theorem zd_X2_bodyOf_21 : decode cX2_bodyOf 21 = .ok (.iadd, 1) := by decide +kernel
theorem zd_X2_bodyOf_22 : decode cX2_bodyOf 22 = .ok (.istore 4, 2) := by decide +kernel
theorem zd_X2_bodyOf_24 : decode cX2_bodyOf 24 = .ok (.iload 4, 2) := by decide +kernel
theorem zd_X2_bodyOf_26 : decode cX2_bodyOf 26 = .ok (.ifCond .lt 28, 3) := by decide +kernel
theorem zd_X2_bodyOf_29 : decode cX2_bodyOf 29 = .ok (.iload 4, 2) := by decide +kernel
theorem zd_X2_bodyOf_31 : decode cX2_bodyOf 31 = .ok (.getstatic 64, 3) := by decide +kernel
theorem zd_X2_bodyOf_34 : decode cX2_bodyOf 34 = .ok (.arraylength, 1) := by decide +kernel
theorem zd_X2_bodyOf_35 : decode cX2_bodyOf 35 = .ok (.if_icmp .ge 19, 3) := by decide +kernel
theorem zd_X2_bodyOf_38 : decode cX2_bodyOf 38 = .ok (.getstatic 64, 3) := by decide +kernel
theorem zd_X2_bodyOf_41 : decode cX2_bodyOf 41 = .ok (.iload 4, 2) := by decide +kernel
theorem zd_X2_bodyOf_43 : decode cX2_bodyOf 43 = .ok (.iaload, 1) := by decide +kernel
theorem zd_X2_bodyOf_44 : decode cX2_bodyOf 44 = .ok (.ifCond .eq 10, 3) := by decide +kernel
theorem zd_X2_bodyOf_47 : decode cX2_bodyOf 47 = .ok (.getstatic 64, 3) := by decide +kernel
theorem zd_X2_bodyOf_50 : decode cX2_bodyOf 50 = .ok (.iload 4, 2) := by decide +kernel
theorem zd_X2_bodyOf_52 : decode cX2_bodyOf 52 = .ok (.iaload, 1) := by decide +kernel
theorem zd_X2_bodyOf_53 : decode cX2_bodyOf 53 = .ok (.ireturn, 1) := by decide +kernel
theorem zd_X2_bodyOf_54 : decode cX2_bodyOf 54 = .ok (.getstatic 61, 3) := by decide +kernel
theorem zd_X2_bodyOf_57 : decode cX2_bodyOf 57 = .ok (.iload_n 2, 1) := by decide +kernel
theorem zd_X2_bodyOf_58 : decode cX2_bodyOf 58 = .ok (.iaload, 1) := by decide +kernel
theorem zd_X2_bodyOf_59 : decode cX2_bodyOf 59 = .ok (.istore_n 2, 1) := by decide +kernel
theorem zd_X2_bodyOf_60 : decode cX2_bodyOf 60 = .ok (.iinc 3 1, 3) := by decide +kernel
theorem zd_X2_bodyOf_63 : decode cX2_bodyOf 63 = .ok (.goto (-59), 3) := by decide +kernel
theorem zd_X2_bodyOf_66 : decode cX2_bodyOf 66 = .ok (.iconst 0, 1) := by decide +kernel
theorem zd_X2_bodyOf_67 : decode cX2_bodyOf 67 = .ok (.ireturn, 1) := by decide +kernel
theorem zd_X2_began_0 : decode cX2_began 0 = .ok (.aload_n 0, 1) := by decide +kernel
theorem zd_X2_began_1 : decode cX2_began 1 = .ok (.getfield 15, 3) := by decide +kernel
theorem zd_X2_began_4 : decode cX2_began 4 = .ok (.ifCond .lt 25, 3) := by decide +kernel
theorem zd_X2_began_7 : decode cX2_began 7 = .ok (.aload_n 0, 1) := by decide +kernel
theorem zd_X2_began_8 : decode cX2_began 8 = .ok (.getfield 15, 3) := by decide +kernel
theorem zd_X2_began_11 : decode cX2_began 11 = .ok (.aload_n 0, 1) := by decide +kernel
theorem zd_X2_began_12 : decode cX2_began 12 = .ok (.getfield 11, 3) := by decide +kernel
theorem zd_X2_began_15 : decode cX2_began 15 = .ok (.arraylength, 1) := by decide +kernel
theorem zd_X2_began_16 : decode cX2_began 16 = .ok (.if_icmp .ge 13, 3) := by decide +kernel
theorem zd_X2_began_19 : decode cX2_began 19 = .ok (.aload_n 0, 1) := by decide +kernel
theorem zd_X2_began_20 : decode cX2_began 20 = .ok (.getfield 11, 3) := by decide +kernel
theorem zd_X2_began_23 : decode cX2_began 23 = .ok (.aload_n 0, 1) := by decide +kernel
theorem zd_X2_began_24 : decode cX2_began 24 = .ok (.getfield 15, 3) := by decide +kernel
theorem zd_X2_began_27 : decode cX2_began 27 = .ok (.iload_n 1, 1) := by decide +kernel
theorem zd_X2_began_28 : decode cX2_began 28 = .ok (.iastore, 1) := by decide +kernel
theorem zd_X2_began_29 : decode cX2_began 29 = .ok (.aload_n 0, 1) := by decide +kernel
theorem zd_X2_began_30 : decode cX2_began 30 = .ok (.dup, 1) := by decide +kernel
theorem zd_X2_began_31 : decode cX2_began 31 = .ok (.getfield 15, 3) := by decide +kernel
theorem zd_X2_began_34 : decode cX2_began 34 = .ok (.iconst 1, 1) := by decide +kernel
theorem zd_X2_began_35 : decode cX2_began 35 = .ok (.iadd, 1) := by decide +kernel
theorem zd_X2_began_36 : decode cX2_began 36 = .ok (.putfield 15, 3) := by decide +kernel
theorem zd_X2_began_39 : decode cX2_began 39 = .ok (.return_, 1) := by decide +kernel
theorem zd_X2_aboveOf_0 : decode cX2_aboveOf 0 = .ok (.iload_n 0, 1) := by decide +kernel
theorem zd_X2_aboveOf_1 : decode cX2_aboveOf 1 = .ok (.invokestatic 57, 3) := by decide +kernel
theorem zd_X2_aboveOf_4 : decode cX2_aboveOf 4 = .ok (.ifCond .eq 11, 3) := by decide +kernel
theorem zd_X2_aboveOf_7 : decode cX2_aboveOf 7 = .ok (.getstatic 61, 3) := by decide +kernel
theorem zd_X2_aboveOf_10 : decode cX2_aboveOf 10 = .ok (.iload_n 0, 1) := by decide +kernel
theorem zd_X2_aboveOf_11 : decode cX2_aboveOf 11 = .ok (.iaload, 1) := by decide +kernel
theorem zd_X2_aboveOf_12 : decode cX2_aboveOf 12 = .ok (.goto 4, 3) := by decide +kernel
theorem zd_X2_aboveOf_15 : decode cX2_aboveOf 15 = .ok (.iconst (-1), 1) := by decide +kernel
theorem zd_X2_aboveOf_16 : decode cX2_aboveOf 16 = .ok (.ireturn, 1) := by decide +kernel
theorem zd_X2_answerOf_0 : decode cX2_answerOf 0 = .ok (.iload_n 1, 1) := by decide +kernel
theorem zd_X2_answerOf_1 : decode cX2_answerOf 1 = .ok (.bipush 10, 2) := by decide +kernel
theorem zd_X2_answerOf_3 : decode cX2_answerOf 3 = .ok (.idiv, 1) := by decide +kernel
theorem zd_X2_answerOf_4 : decode cX2_answerOf 4 = .ok (.iconst 1, 1) := by decide +kernel
theorem zd_X2_answerOf_5 : decode cX2_answerOf 5 = .ok (.isub, 1) := by decide +kernel
theorem zd_X2_answerOf_6 : decode cX2_answerOf 6 = .ok (.invokestatic 53, 3) := by decide +kernel
theorem zd_X2_answerOf_9 : decode cX2_answerOf 9 = .ok (.istore 4, 2) := by decide +kernel
theorem zd_X2_answerOf_11 : decode cX2_answerOf 11 = .ok (.iload_n 1, 1) := by decide +kernel
theorem zd_X2_answerOf_12 : decode cX2_answerOf 12 = .ok (.lookupswitch 231 #[(10, 92), (11, 99), (12, 113), (20, 142), (30, 157), (40, 169), (50, 181), (51, 192), (60, 207), (70, 219)], 92) := by decide +kernel
theorem zd_X2_answerOf_104 : decode cX2_answerOf 104 = .ok (.iload_n 2, 1) := by decide +kernel
theorem zd_X2_answerOf_105 : decode cX2_answerOf 105 = .ok (.aload_n 0, 1) := by decide +kernel
theorem zd_X2_answerOf_106 : decode cX2_answerOf 106 = .ok (.getfield 28, 3) := by decide +kernel
theorem zd_X2_answerOf_109 : decode cX2_answerOf 109 = .ok (.iadd, 1) := by decide +kernel
theorem zd_X2_answerOf_110 : decode cX2_answerOf 110 = .ok (.ireturn, 1) := by decide +kernel
theorem zd_X2_answerOf_111 : decode cX2_answerOf 111 = .ok (.aload_n 0, 1) := by decide +kernel
theorem zd_X2_answerOf_112 : decode cX2_answerOf 112 = .ok (.iconst 0, 1) := by decide +kernel
theorem zd_X2_answerOf_113 : decode cX2_answerOf 113 = .ok (.aload_n 0, 1) := by decide +kernel
theorem zd_X2_answerOf_114 : decode cX2_answerOf 114 = .ok (.getfield 24, 3) := by decide +kernel
theorem zd_X2_answerOf_117 : decode cX2_answerOf 117 = .ok (.iload_n 2, 1) := by decide +kernel
theorem zd_X2_answerOf_118 : decode cX2_answerOf 118 = .ok (.iload_n 3, 1) := by decide +kernel
theorem zd_X2_answerOf_119 : decode cX2_answerOf 119 = .ok (.invokevirtual 37, 3) := by decide +kernel
theorem zd_X2_answerOf_122 : decode cX2_answerOf 122 = .ok (.iconst 2, 1) := by decide +kernel
theorem zd_X2_answerOf_123 : decode cX2_answerOf 123 = .ok (.imul, 1) := by decide +kernel
theorem zd_X2_answerOf_124 : decode cX2_answerOf 124 = .ok (.ireturn, 1) := by decide +kernel
theorem zd_X2_answerOf_125 : decode cX2_answerOf 125 = .ok (.aload_n 0, 1) := by decide +kernel
theorem zd_X2_answerOf_126 : decode cX2_answerOf 126 = .ok (.iconst 1, 1) := by decide +kernel
theorem zd_X2_answerOf_127 : decode cX2_answerOf 127 = .ok (.aload_n 0, 1) := by decide +kernel
theorem zd_X2_answerOf_128 : decode cX2_answerOf 128 = .ok (.getfield 24, 3) := by decide +kernel
theorem zd_X2_answerOf_131 : decode cX2_answerOf 131 = .ok (.iload_n 2, 1) := by decide +kernel
theorem zd_X2_answerOf_132 : decode cX2_answerOf 132 = .ok (.iload_n 3, 1) := by decide +kernel
theorem zd_X2_answerOf_133 : decode cX2_answerOf 133 = .ok (.invokevirtual 37, 3) := by decide +kernel
theorem zd_X2_answerOf_136 : decode cX2_answerOf 136 = .ok (.aload_n 0, 1) := by decide +kernel
theorem zd_X2_answerOf_137 : decode cX2_answerOf 137 = .ok (.iconst 0, 1) := by decide +kernel
theorem zd_X2_answerOf_138 : decode cX2_answerOf 138 = .ok (.aload_n 0, 1) := by decide +kernel
theorem zd_X2_answerOf_139 : decode cX2_answerOf 139 = .ok (.getfield 24, 3) := by decide +kernel
theorem zd_X2_answerOf_142 : decode cX2_answerOf 142 = .ok (.iload_n 2, 1) := by decide +kernel
theorem zd_X2_answerOf_143 : decode cX2_answerOf 143 = .ok (.aload_n 0, 1) := by decide +kernel
theorem zd_X2_answerOf_144 : decode cX2_answerOf 144 = .ok (.getfield 34, 3) := by decide +kernel
theorem zd_X2_answerOf_147 : decode cX2_answerOf 147 = .ok (.isub, 1) := by decide +kernel
theorem zd_X2_answerOf_148 : decode cX2_answerOf 148 = .ok (.iload_n 3, 1) := by decide +kernel
theorem zd_X2_answerOf_149 : decode cX2_answerOf 149 = .ok (.invokevirtual 37, 3) := by decide +kernel
theorem zd_X2_answerOf_152 : decode cX2_answerOf 152 = .ok (.ixor, 1) := by decide +kernel
theorem zd_X2_answerOf_153 : decode cX2_answerOf 153 = .ok (.ireturn, 1) := by decide +kernel
theorem zd_X2_answerOf_154 : decode cX2_answerOf 154 = .ok (.aload_n 0, 1) := by decide +kernel
theorem zd_X2_answerOf_155 : decode cX2_answerOf 155 = .ok (.iconst 0, 1) := by decide +kernel
theorem zd_X2_answerOf_156 : decode cX2_answerOf 156 = .ok (.iload 4, 2) := by decide +kernel
theorem zd_X2_answerOf_158 : decode cX2_answerOf 158 = .ok (.iload_n 2, 1) := by decide +kernel
theorem zd_X2_answerOf_159 : decode cX2_answerOf 159 = .ok (.iload_n 3, 1) := by decide +kernel
theorem zd_X2_answerOf_160 : decode cX2_answerOf 160 = .ok (.invokevirtual 37, 3) := by decide +kernel
theorem zd_X2_answerOf_163 : decode cX2_answerOf 163 = .ok (.aload_n 0, 1) := by decide +kernel
theorem zd_X2_answerOf_164 : decode cX2_answerOf 164 = .ok (.getfield 34, 3) := by decide +kernel
theorem zd_X2_answerOf_167 : decode cX2_answerOf 167 = .ok (.iadd, 1) := by decide +kernel
theorem zd_X2_answerOf_168 : decode cX2_answerOf 168 = .ok (.ireturn, 1) := by decide +kernel
theorem zd_X2_answerOf_169 : decode cX2_answerOf 169 = .ok (.aload_n 0, 1) := by decide +kernel
theorem zd_X2_answerOf_170 : decode cX2_answerOf 170 = .ok (.iconst 1, 1) := by decide +kernel
theorem zd_X2_answerOf_171 : decode cX2_answerOf 171 = .ok (.iload 4, 2) := by decide +kernel
theorem zd_X2_answerOf_173 : decode cX2_answerOf 173 = .ok (.iload_n 2, 1) := by decide +kernel
theorem zd_X2_answerOf_174 : decode cX2_answerOf 174 = .ok (.iload_n 3, 1) := by decide +kernel
theorem zd_X2_answerOf_175 : decode cX2_answerOf 175 = .ok (.invokevirtual 37, 3) := by decide +kernel
theorem zd_X2_answerOf_178 : decode cX2_answerOf 178 = .ok (.iconst 3, 1) := by decide +kernel
theorem zd_X2_answerOf_179 : decode cX2_answerOf 179 = .ok (.imul, 1) := by decide +kernel
theorem zd_X2_answerOf_180 : decode cX2_answerOf 180 = .ok (.ireturn, 1) := by decide +kernel
theorem zd_X2_answerOf_181 : decode cX2_answerOf 181 = .ok (.aload_n 0, 1) := by decide +kernel
theorem zd_X2_answerOf_182 : decode cX2_answerOf 182 = .ok (.iconst 0, 1) := by decide +kernel
theorem zd_X2_answerOf_183 : decode cX2_answerOf 183 = .ok (.iload 4, 2) := by decide +kernel
theorem zd_X2_answerOf_185 : decode cX2_answerOf 185 = .ok (.iload_n 2, 1) := by decide +kernel
theorem zd_X2_answerOf_186 : decode cX2_answerOf 186 = .ok (.iconst 1, 1) := by decide +kernel
theorem zd_X2_answerOf_187 : decode cX2_answerOf 187 = .ok (.iadd, 1) := by decide +kernel
theorem zd_X2_answerOf_188 : decode cX2_answerOf 188 = .ok (.iload_n 3, 1) := by decide +kernel
theorem zd_X2_answerOf_189 : decode cX2_answerOf 189 = .ok (.invokevirtual 37, 3) := by decide +kernel
theorem zd_X2_answerOf_192 : decode cX2_answerOf 192 = .ok (.ireturn, 1) := by decide +kernel
theorem zd_X2_answerOf_193 : decode cX2_answerOf 193 = .ok (.aload_n 0, 1) := by decide +kernel
theorem zd_X2_answerOf_194 : decode cX2_answerOf 194 = .ok (.iconst 2, 1) := by decide +kernel
theorem zd_X2_answerOf_195 : decode cX2_answerOf 195 = .ok (.iload 4, 2) := by decide +kernel
theorem zd_X2_answerOf_197 : decode cX2_answerOf 197 = .ok (.iload_n 2, 1) := by decide +kernel
theorem zd_X2_answerOf_198 : decode cX2_answerOf 198 = .ok (.iload_n 3, 1) := by decide +kernel
theorem zd_X2_answerOf_199 : decode cX2_answerOf 199 = .ok (.invokevirtual 37, 3) := by decide +kernel
theorem zd_X2_answerOf_202 : decode cX2_answerOf 202 = .ok (.ineg, 1) := by decide +kernel
theorem zd_X2_answerOf_203 : decode cX2_answerOf 203 = .ok (.ireturn, 1) := by decide +kernel
theorem zd_X2_answerOf_204 : decode cX2_answerOf 204 = .ok (.aload_n 0, 1) := by decide +kernel
theorem zd_X2_answerOf_205 : decode cX2_answerOf 205 = .ok (.iconst 0, 1) := by decide +kernel
theorem zd_X2_answerOf_206 : decode cX2_answerOf 206 = .ok (.iload 4, 2) := by decide +kernel
theorem zd_X2_answerOf_208 : decode cX2_answerOf 208 = .ok (.iload_n 2, 1) := by decide +kernel
theorem zd_X2_answerOf_209 : decode cX2_answerOf 209 = .ok (.iload_n 3, 1) := by decide +kernel
theorem zd_X2_answerOf_210 : decode cX2_answerOf 210 = .ok (.invokevirtual 37, 3) := by decide +kernel
theorem zd_X2_answerOf_213 : decode cX2_answerOf 213 = .ok (.aload_n 0, 1) := by decide +kernel
theorem zd_X2_answerOf_214 : decode cX2_answerOf 214 = .ok (.getfield 28, 3) := by decide +kernel
theorem zd_X2_answerOf_217 : decode cX2_answerOf 217 = .ok (.isub, 1) := by decide +kernel
theorem zd_X2_answerOf_218 : decode cX2_answerOf 218 = .ok (.ireturn, 1) := by decide +kernel
theorem zd_X2_answerOf_219 : decode cX2_answerOf 219 = .ok (.aload_n 0, 1) := by decide +kernel
theorem zd_X2_answerOf_220 : decode cX2_answerOf 220 = .ok (.iconst 2, 1) := by decide +kernel
theorem zd_X2_answerOf_221 : decode cX2_answerOf 221 = .ok (.iload 4, 2) := by decide +kernel
theorem zd_X2_answerOf_223 : decode cX2_answerOf 223 = .ok (.iload_n 2, 1) := by decide +kernel
theorem zd_X2_answerOf_224 : decode cX2_answerOf 224 = .ok (.iload_n 3, 1) := by decide +kernel
theorem zd_X2_answerOf_225 : decode cX2_answerOf 225 = .ok (.invokevirtual 37, 3) := by decide +kernel
theorem zd_X2_answerOf_228 : decode cX2_answerOf 228 = .ok (.iconst 5, 1) := by decide +kernel
theorem zd_X2_answerOf_229 : decode cX2_answerOf 229 = .ok (.ixor, 1) := by decide +kernel
theorem zd_X2_answerOf_230 : decode cX2_answerOf 230 = .ok (.ireturn, 1) := by decide +kernel
theorem zd_X2_answerOf_231 : decode cX2_answerOf 231 = .ok (.aload_n 0, 1) := by decide +kernel
theorem zd_X2_answerOf_232 : decode cX2_answerOf 232 = .ok (.iconst 0, 1) := by decide +kernel
theorem zd_X2_answerOf_233 : decode cX2_answerOf 233 = .ok (.iload 4, 2) := by decide +kernel
theorem zd_X2_answerOf_235 : decode cX2_answerOf 235 = .ok (.iload_n 2, 1) := by decide +kernel
theorem zd_X2_answerOf_236 : decode cX2_answerOf 236 = .ok (.iload_n 3, 1) := by decide +kernel
theorem zd_X2_answerOf_237 : decode cX2_answerOf 237 = .ok (.invokevirtual 37, 3) := by decide +kernel
theorem zd_X2_answerOf_240 : decode cX2_answerOf 240 = .ok (.iconst 2, 1) := by decide +kernel
theorem zd_X2_answerOf_241 : decode cX2_answerOf 241 = .ok (.imul, 1) := by decide +kernel
theorem zd_X2_answerOf_242 : decode cX2_answerOf 242 = .ok (.ireturn, 1) := by decide +kernel
theorem zd_X2_answerOf_243 : decode cX2_answerOf 243 = .ok (.aload_n 0, 1) := by decide +kernel
theorem zd_X2_answerOf_244 : decode cX2_answerOf 244 = .ok (.iconst 1, 1) := by decide +kernel
theorem zd_X2_answerOf_245 : decode cX2_answerOf 245 = .ok (.iload 4, 2) := by decide +kernel
theorem zd_X2_answerOf_247 : decode cX2_answerOf 247 = .ok (.iload_n 2, 1) := by decide +kernel
theorem zd_X2_answerOf_248 : decode cX2_answerOf 248 = .ok (.aload_n 0, 1) := by decide +kernel
theorem zd_X2_answerOf_249 : decode cX2_answerOf 249 = .ok (.getfield 34, 3) := by decide +kernel
theorem zd_X2_answerOf_252 : decode cX2_answerOf 252 = .ok (.isub, 1) := by decide +kernel
theorem zd_X2_answerOf_253 : decode cX2_answerOf 253 = .ok (.iload_n 3, 1) := by decide +kernel
theorem zd_X2_answerOf_254 : decode cX2_answerOf 254 = .ok (.invokevirtual 37, 3) := by decide +kernel
theorem zd_X2_answerOf_257 : decode cX2_answerOf 257 = .ok (.ireturn, 1) := by decide +kernel
theorem zd_X2_run_0 : decode cX2_run 0 = .ok (.iload_n 1, 1) := by decide +kernel
theorem zd_X2_run_1 : decode cX2_run 1 = .ok (.iload_n 2, 1) := by decide +kernel
theorem zd_X2_run_2 : decode cX2_run 2 = .ok (.invokestatic 41, 3) := by decide +kernel
theorem zd_X2_run_5 : decode cX2_run 5 = .ok (.istore 5, 2) := by decide +kernel
theorem zd_X2_run_7 : decode cX2_run 7 = .ok (.iload 5, 2) := by decide +kernel
theorem zd_X2_run_9 : decode cX2_run 9 = .ok (.ifCond .eq 10, 3) := by decide +kernel
theorem zd_X2_run_12 : decode cX2_run 12 = .ok (.iload 4, 2) := by decide +kernel
theorem zd_X2_run_14 : decode cX2_run 14 = .ok (.bipush 40, 2) := by decide +kernel
theorem zd_X2_run_16 : decode cX2_run 16 = .ok (.if_icmp .le 5, 3) := by decide +kernel
theorem zd_X2_run_19 : decode cX2_run 19 = .ok (.iconst 0, 1) := by decide +kernel
theorem zd_X2_run_20 : decode cX2_run 20 = .ok (.ireturn, 1) := by decide +kernel
theorem zd_X2_run_21 : decode cX2_run 21 = .ok (.aload_n 0, 1) := by decide +kernel
theorem zd_X2_run_22 : decode cX2_run 22 = .ok (.iload 5, 2) := by decide +kernel
theorem zd_X2_run_24 : decode cX2_run 24 = .ok (.invokevirtual 45, 3) := by decide +kernel
theorem zd_X2_run_27 : decode cX2_run 27 = .ok (.aload_n 0, 1) := by decide +kernel
theorem zd_X2_run_28 : decode cX2_run 28 = .ok (.iload 5, 2) := by decide +kernel
theorem zd_X2_run_30 : decode cX2_run 30 = .ok (.iload_n 3, 1) := by decide +kernel
theorem zd_X2_run_31 : decode cX2_run 31 = .ok (.iload 4, 2) := by decide +kernel
theorem zd_X2_run_33 : decode cX2_run 33 = .ok (.iconst 1, 1) := by decide +kernel
theorem zd_X2_run_34 : decode cX2_run 34 = .ok (.iadd, 1) := by decide +kernel
theorem zd_X2_run_35 : decode cX2_run 35 = .ok (.invokevirtual 49, 3) := by decide +kernel
theorem zd_X2_run_38 : decode cX2_run 38 = .ok (.ireturn, 1) := by decide +kernel
theorem zd_X2_perform_0 : decode cX2_perform 0 = .ok (.aload_n 0, 1) := by decide +kernel
theorem zd_X2_perform_1 : decode cX2_perform 1 = .ok (.aload_n 1, 1) := by decide +kernel
theorem zd_X2_perform_2 : decode cX2_perform 2 = .ok (.getfield 19, 3) := by decide +kernel
theorem zd_X2_perform_5 : decode cX2_perform 5 = .ok (.putfield 24, 3) := by decide +kernel
theorem zd_X2_perform_8 : decode cX2_perform 8 = .ok (.aload_n 0, 1) := by decide +kernel
theorem zd_X2_perform_9 : decode cX2_perform 9 = .ok (.aload_n 1, 1) := by decide +kernel
theorem zd_X2_perform_10 : decode cX2_perform 10 = .ok (.getfield 25, 3) := by decide +kernel
theorem zd_X2_perform_13 : decode cX2_perform 13 = .ok (.putfield 28, 3) := by decide +kernel
theorem zd_X2_perform_16 : decode cX2_perform 16 = .ok (.aload_n 0, 1) := by decide +kernel
theorem zd_X2_perform_17 : decode cX2_perform 17 = .ok (.aload_n 1, 1) := by decide +kernel
theorem zd_X2_perform_18 : decode cX2_perform 18 = .ok (.getfield 31, 3) := by decide +kernel
theorem zd_X2_perform_21 : decode cX2_perform 21 = .ok (.putfield 34, 3) := by decide +kernel
theorem zd_X2_perform_24 : decode cX2_perform 24 = .ok (.aload_n 0, 1) := by decide +kernel
theorem zd_X2_perform_25 : decode cX2_perform 25 = .ok (.iload_n 2, 1) := by decide +kernel
theorem zd_X2_perform_26 : decode cX2_perform 26 = .ok (.aload_n 0, 1) := by decide +kernel
theorem zd_X2_perform_27 : decode cX2_perform 27 = .ok (.getfield 24, 3) := by decide +kernel
theorem zd_X2_perform_30 : decode cX2_perform 30 = .ok (.iload_n 3, 1) := by decide +kernel
theorem zd_X2_perform_31 : decode cX2_perform 31 = .ok (.iconst 0, 1) := by decide +kernel
theorem zd_X2_perform_32 : decode cX2_perform 32 = .ok (.invokevirtual 37, 3) := by decide +kernel
theorem zd_X2_perform_35 : decode cX2_perform 35 = .ok (.ireturn, 1) := by decide +kernel
theorem zd_X3_init_0 : decode cX3_init 0 = .ok (.aload_n 0, 1) := by decide +kernel
theorem zd_X3_init_1 : decode cX3_init 1 = .ok (.invokespecial 3, 3) := by decide +kernel
theorem zd_X3_init_4 : decode cX3_init 4 = .ok (.aload_n 0, 1) := by decide +kernel
theorem zd_X3_init_5 : decode cX3_init 5 = .ok (.iload_n 1, 1) := by decide +kernel
theorem zd_X3_init_6 : decode cX3_init 6 = .ok (.putfield 9, 3) := by decide +kernel
theorem zd_X3_init_9 : decode cX3_init 9 = .ok (.aload_n 0, 1) := by decide +kernel
theorem zd_X3_init_10 : decode cX3_init 10 = .ok (.iload_n 2, 1) := by decide +kernel
theorem zd_X3_init_11 : decode cX3_init 11 = .ok (.putfield 15, 3) := by decide +kernel
theorem zd_X3_init_14 : decode cX3_init 14 = .ok (.aload_n 0, 1) := by decide +kernel
theorem zd_X3_init_15 : decode cX3_init 15 = .ok (.iload_n 3, 1) := by decide +kernel
theorem zd_X3_init_16 : decode cX3_init 16 = .ok (.putfield 18, 3) := by decide +kernel
theorem zd_X3_init_19 : decode cX3_init 19 = .ok (.aload_n 0, 1) := by decide +kernel
theorem zd_X3_init_20 : decode cX3_init 20 = .ok (.aload 4, 2) := by decide +kernel
theorem zd_X3_init_22 : decode cX3_init 22 = .ok (.putfield 21, 3) := by decide +kernel
theorem zd_X3_init_25 : decode cX3_init 25 = .ok (.aload_n 0, 1) := by decide +kernel
theorem zd_X3_init_26 : decode cX3_init 26 = .ok (.iload 5, 2) := by decide +kernel
theorem zd_X3_init_28 : decode cX3_init 28 = .ok (.putfield 25, 3) := by decide +kernel
theorem zd_X3_init_31 : decode cX3_init 31 = .ok (.aload_n 0, 1) := by decide +kernel
theorem zd_X3_init_32 : decode cX3_init 32 = .ok (.iload 6, 2) := by decide +kernel
theorem zd_X3_init_34 : decode cX3_init 34 = .ok (.putfield 28, 3) := by decide +kernel
theorem zd_X3_init_37 : decode cX3_init 37 = .ok (.return_, 1) := by decide +kernel
theorem zd_X3_madeOn_0 : decode cX3_madeOn 0 = .ok (.new 10, 3) := by decide +kernel
theorem zd_X3_madeOn_3 : decode cX3_madeOn 3 = .ok (.dup, 1) := by decide +kernel
theorem zd_X3_madeOn_4 : decode cX3_madeOn 4 = .ok (.iload_n 2, 1) := by decide +kernel
theorem zd_X3_madeOn_5 : decode cX3_madeOn 5 = .ok (.aload_n 0, 1) := by decide +kernel
theorem zd_X3_madeOn_6 : decode cX3_madeOn 6 = .ok (.getfield 15, 3) := by decide +kernel
theorem zd_X3_madeOn_9 : decode cX3_madeOn 9 = .ok (.aload_n 0, 1) := by decide +kernel
theorem zd_X3_madeOn_10 : decode cX3_madeOn 10 = .ok (.getfield 18, 3) := by decide +kernel
theorem zd_X3_madeOn_13 : decode cX3_madeOn 13 = .ok (.aload_n 1, 1) := by decide +kernel
theorem zd_X3_madeOn_14 : decode cX3_madeOn 14 = .ok (.aload_n 0, 1) := by decide +kernel
theorem zd_X3_madeOn_15 : decode cX3_madeOn 15 = .ok (.getfield 25, 3) := by decide +kernel
theorem zd_X3_madeOn_18 : decode cX3_madeOn 18 = .ok (.aload_n 0, 1) := by decide +kernel
theorem zd_X3_madeOn_19 : decode cX3_madeOn 19 = .ok (.getfield 28, 3) := by decide +kernel
theorem zd_X3_madeOn_22 : decode cX3_madeOn 22 = .ok (.invokespecial 31, 3) := by decide +kernel
theorem zd_X3_madeOn_25 : decode cX3_madeOn 25 = .ok (.areturn, 1) := by decide +kernel
theorem zd_X9_lastOf_0 : decode cX9_lastOf 0 = .ok (.iload_n 0, 1) := by decide +kernel
theorem zd_X9_lastOf_1 : decode cX9_lastOf 1 = .ok (.iconst (-1), 1) := by decide +kernel
theorem zd_X9_lastOf_2 : decode cX9_lastOf 2 = .ok (.if_icmp .ne 7, 3) := by decide +kernel
theorem zd_X9_lastOf_5 : decode cX9_lastOf 5 = .ok (.iconst (-1), 1) := by decide +kernel
theorem zd_X9_lastOf_6 : decode cX9_lastOf 6 = .ok (.goto 7, 3) := by decide +kernel
theorem zd_X9_lastOf_9 : decode cX9_lastOf 9 = .ok (.iload_n 0, 1) := by decide +kernel
theorem zd_X9_lastOf_10 : decode cX9_lastOf 10 = .ok (.bipush 31, 2) := by decide +kernel
theorem zd_X9_lastOf_12 : decode cX9_lastOf 12 = .ok (.iand, 1) := by decide +kernel
theorem zd_X9_lastOf_13 : decode cX9_lastOf 13 = .ok (.ireturn, 1) := by decide +kernel
theorem zd_X9_firstOf_0 : decode cX9_firstOf 0 = .ok (.iload_n 0, 1) := by decide +kernel
theorem zd_X9_firstOf_1 : decode cX9_firstOf 1 = .ok (.iconst (-1), 1) := by decide +kernel
theorem zd_X9_firstOf_2 : decode cX9_firstOf 2 = .ok (.if_icmp .ne 7, 3) := by decide +kernel
theorem zd_X9_firstOf_5 : decode cX9_firstOf 5 = .ok (.iconst (-1), 1) := by decide +kernel
theorem zd_X9_firstOf_6 : decode cX9_firstOf 6 = .ok (.goto 6, 3) := by decide +kernel
theorem zd_X9_firstOf_9 : decode cX9_firstOf 9 = .ok (.iload_n 0, 1) := by decide +kernel
theorem zd_X9_firstOf_10 : decode cX9_firstOf 10 = .ok (.iconst 5, 1) := by decide +kernel
theorem zd_X9_firstOf_11 : decode cX9_firstOf 11 = .ok (.ishr, 1) := by decide +kernel
theorem zd_X9_firstOf_12 : decode cX9_firstOf 12 = .ok (.ireturn, 1) := by decide +kernel
theorem zd_X9_lengthOf_0 : decode cX9_lengthOf 0 = .ok (.iload_n 0, 1) := by decide +kernel
theorem zd_X9_lengthOf_1 : decode cX9_lengthOf 1 = .ok (.invokestatic 252, 3) := by decide +kernel
theorem zd_X9_lengthOf_4 : decode cX9_lengthOf 4 = .ok (.iload_n 0, 1) := by decide +kernel
theorem zd_X9_lengthOf_5 : decode cX9_lengthOf 5 = .ok (.invokestatic 249, 3) := by decide +kernel
theorem zd_X9_lengthOf_8 : decode cX9_lengthOf 8 = .ok (.isub, 1) := by decide +kernel
theorem zd_X9_lengthOf_9 : decode cX9_lengthOf 9 = .ok (.iconst 1, 1) := by decide +kernel
theorem zd_X9_lengthOf_10 : decode cX9_lengthOf 10 = .ok (.iadd, 1) := by decide +kernel
theorem zd_X9_lengthOf_11 : decode cX9_lengthOf 11 = .ok (.ireturn, 1) := by decide +kernel
theorem zd_X3_wordAs_0 : decode cX3_wordAs 0 = .ok (.iload_n 1, 1) := by decide +kernel
theorem zd_X3_wordAs_1 : decode cX3_wordAs 1 = .ok (.tableswitch 68 1 6 #[39, 44, 39, 52, 44, 60], 39) := by decide +kernel
theorem zd_X3_wordAs_40 : decode cX3_wordAs 40 = .ok (.aload_n 0, 1) := by decide +kernel
theorem zd_X3_wordAs_41 : decode cX3_wordAs 41 = .ok (.getfield 18, 3) := by decide +kernel
theorem zd_X3_wordAs_44 : decode cX3_wordAs 44 = .ok (.ireturn, 1) := by decide +kernel
theorem zd_X3_wordAs_45 : decode cX3_wordAs 45 = .ok (.aload_n 0, 1) := by decide +kernel
theorem zd_X3_wordAs_46 : decode cX3_wordAs 46 = .ok (.getfield 25, 3) := by decide +kernel
theorem zd_X3_wordAs_49 : decode cX3_wordAs 49 = .ok (.invokestatic 34, 3) := by decide +kernel
theorem zd_X3_wordAs_52 : decode cX3_wordAs 52 = .ok (.ireturn, 1) := by decide +kernel
theorem zd_X3_wordAs_53 : decode cX3_wordAs 53 = .ok (.aload_n 0, 1) := by decide +kernel
theorem zd_X3_wordAs_54 : decode cX3_wordAs 54 = .ok (.getfield 25, 3) := by decide +kernel
theorem zd_X3_wordAs_57 : decode cX3_wordAs 57 = .ok (.invokestatic 38, 3) := by decide +kernel
theorem zd_X3_wordAs_60 : decode cX3_wordAs 60 = .ok (.ireturn, 1) := by decide +kernel
theorem zd_X3_wordAs_61 : decode cX3_wordAs 61 = .ok (.aload_n 0, 1) := by decide +kernel
theorem zd_X3_wordAs_62 : decode cX3_wordAs 62 = .ok (.getfield 21, 3) := by decide +kernel
theorem zd_X3_wordAs_65 : decode cX3_wordAs 65 = .ok (.getfield 41, 3) := by decide +kernel
theorem zd_X3_wordAs_68 : decode cX3_wordAs 68 = .ok (.ireturn, 1) := by decide +kernel
theorem zd_X3_wordAs_69 : decode cX3_wordAs 69 = .ok (.aload_n 0, 1) := by decide +kernel
theorem zd_X3_wordAs_70 : decode cX3_wordAs 70 = .ok (.getfield 25, 3) := by decide +kernel
theorem zd_X3_wordAs_73 : decode cX3_wordAs 73 = .ok (.invokestatic 44, 3) := by decide +kernel
theorem zd_X3_wordAs_76 : decode cX3_wordAs 76 = .ok (.ireturn, 1) := by decide +kernel
theorem zd_X4_placeOf_0 : decode cX4_placeOf 0 = .ok (.iload_n 1, 1) := by decide +kernel
theorem zd_X4_placeOf_1 : decode cX4_placeOf 1 = .ok (.ifCond .lt 21, 3) := by decide +kernel
theorem zd_X4_placeOf_4 : decode cX4_placeOf 4 = .ok (.iload_n 1, 1) := by decide +kernel
theorem zd_X4_placeOf_5 : decode cX4_placeOf 5 = .ok (.aload_n 0, 1) := by decide +kernel
theorem zd_X4_placeOf_6 : decode cX4_placeOf 6 = .ok (.getfield 23, 3) := by decide +kernel
theorem zd_X4_placeOf_9 : decode cX4_placeOf 9 = .ok (.arraylength, 1) := by decide +kernel
theorem zd_X4_placeOf_10 : decode cX4_placeOf 10 = .ok (.if_icmp .ge 12, 3) := by decide +kernel
theorem zd_X4_placeOf_13 : decode cX4_placeOf 13 = .ok (.aload_n 0, 1) := by decide +kernel
theorem zd_X4_placeOf_14 : decode cX4_placeOf 14 = .ok (.getfield 23, 3) := by decide +kernel
theorem zd_X4_placeOf_17 : decode cX4_placeOf 17 = .ok (.iload_n 1, 1) := by decide +kernel
theorem zd_X4_placeOf_18 : decode cX4_placeOf 18 = .ok (.iaload, 1) := by decide +kernel
theorem zd_X4_placeOf_19 : decode cX4_placeOf 19 = .ok (.goto 4, 3) := by decide +kernel
theorem zd_X4_placeOf_22 : decode cX4_placeOf 22 = .ok (.iconst (-1), 1) := by decide +kernel
theorem zd_X4_placeOf_23 : decode cX4_placeOf 23 = .ok (.ireturn, 1) := by decide +kernel
theorem zd_X9_spanOf_0 : decode cX9_spanOf 0 = .ok (.iload_n 0, 1) := by decide +kernel
theorem zd_X9_spanOf_1 : decode cX9_spanOf 1 = .ok (.bipush 32, 2) := by decide +kernel
theorem zd_X9_spanOf_3 : decode cX9_spanOf 3 = .ok (.imul, 1) := by decide +kernel
theorem zd_X9_spanOf_4 : decode cX9_spanOf 4 = .ok (.iload_n 1, 1) := by decide +kernel
theorem zd_X9_spanOf_5 : decode cX9_spanOf 5 = .ok (.iadd, 1) := by decide +kernel
theorem zd_X9_spanOf_6 : decode cX9_spanOf 6 = .ok (.ireturn, 1) := by decide +kernel
theorem zd_X4_spreadOf_0 : decode cX4_spreadOf 0 = .ok (.iconst (-1), 1) := by decide +kernel
theorem zd_X4_spreadOf_1 : decode cX4_spreadOf 1 = .ok (.istore_n 3, 1) := by decide +kernel
theorem zd_X4_spreadOf_2 : decode cX4_spreadOf 2 = .ok (.iconst (-1), 1) := by decide +kernel
theorem zd_X4_spreadOf_3 : decode cX4_spreadOf 3 = .ok (.istore 4, 2) := by decide +kernel
theorem zd_X4_spreadOf_5 : decode cX4_spreadOf 5 = .ok (.iload_n 1, 1) := by decide +kernel
theorem zd_X4_spreadOf_6 : decode cX4_spreadOf 6 = .ok (.istore 5, 2) := by decide +kernel
theorem zd_X4_spreadOf_8 : decode cX4_spreadOf 8 = .ok (.iload 5, 2) := by decide +kernel
theorem zd_X4_spreadOf_10 : decode cX4_spreadOf 10 = .ok (.iload_n 2, 1) := by decide +kernel
theorem zd_X4_spreadOf_11 : decode cX4_spreadOf 11 = .ok (.if_icmp .gt 49, 3) := by decide +kernel
theorem zd_X4_spreadOf_14 : decode cX4_spreadOf 14 = .ok (.aload_n 0, 1) := by decide +kernel
theorem zd_X4_spreadOf_15 : decode cX4_spreadOf 15 = .ok (.iload 5, 2) := by decide +kernel
theorem zd_X4_spreadOf_17 : decode cX4_spreadOf 17 = .ok (.invokevirtual 40, 3) := by decide +kernel
theorem zd_X4_spreadOf_20 : decode cX4_spreadOf 20 = .ok (.istore 6, 2) := by decide +kernel
theorem zd_X4_spreadOf_22 : decode cX4_spreadOf 22 = .ok (.iload 6, 2) := by decide +kernel
theorem zd_X4_spreadOf_24 : decode cX4_spreadOf 24 = .ok (.iconst (-1), 1) := by decide +kernel
theorem zd_X4_spreadOf_25 : decode cX4_spreadOf 25 = .ok (.if_icmp .eq 29, 3) := by decide +kernel
theorem zd_X4_spreadOf_28 : decode cX4_spreadOf 28 = .ok (.iload_n 3, 1) := by decide +kernel
theorem zd_X4_spreadOf_29 : decode cX4_spreadOf 29 = .ok (.iconst (-1), 1) := by decide +kernel
theorem zd_X4_spreadOf_30 : decode cX4_spreadOf 30 = .ok (.if_icmp .ne 8, 3) := by decide +kernel
theorem zd_X4_spreadOf_33 : decode cX4_spreadOf 33 = .ok (.iload 6, 2) := by decide +kernel
theorem zd_X4_spreadOf_35 : decode cX4_spreadOf 35 = .ok (.goto 9, 3) := by decide +kernel
theorem zd_X4_spreadOf_38 : decode cX4_spreadOf 38 = .ok (.iload_n 3, 1) := by decide +kernel
theorem zd_X4_spreadOf_39 : decode cX4_spreadOf 39 = .ok (.iload 6, 2) := by decide +kernel
theorem zd_X4_spreadOf_41 : decode cX4_spreadOf 41 = .ok (.invokestatic 41, 3) := by decide +kernel
theorem zd_X4_spreadOf_44 : decode cX4_spreadOf 44 = .ok (.istore_n 3, 1) := by decide +kernel
theorem zd_X4_spreadOf_45 : decode cX4_spreadOf 45 = .ok (.iload 4, 2) := by decide +kernel
theorem zd_X4_spreadOf_47 : decode cX4_spreadOf 47 = .ok (.iload 6, 2) := by decide +kernel
theorem zd_X4_spreadOf_49 : decode cX4_spreadOf 49 = .ok (.invokestatic 47, 3) := by decide +kernel
theorem zd_X4_spreadOf_52 : decode cX4_spreadOf 52 = .ok (.istore 4, 2) := by decide +kernel
theorem zd_X4_spreadOf_54 : decode cX4_spreadOf 54 = .ok (.iinc 5 1, 3) := by decide +kernel
theorem zd_X4_spreadOf_57 : decode cX4_spreadOf 57 = .ok (.goto (-49), 3) := by decide +kernel
theorem zd_X4_spreadOf_60 : decode cX4_spreadOf 60 = .ok (.iload_n 3, 1) := by decide +kernel
theorem zd_X4_spreadOf_61 : decode cX4_spreadOf 61 = .ok (.iconst (-1), 1) := by decide +kernel
theorem zd_X4_spreadOf_62 : decode cX4_spreadOf 62 = .ok (.if_icmp .ne 7, 3) := by decide +kernel
theorem zd_X4_spreadOf_65 : decode cX4_spreadOf 65 = .ok (.iconst (-1), 1) := by decide +kernel
theorem zd_X4_spreadOf_66 : decode cX4_spreadOf 66 = .ok (.goto 9, 3) := by decide +kernel
theorem zd_X4_spreadOf_69 : decode cX4_spreadOf 69 = .ok (.iload_n 3, 1) := by decide +kernel
theorem zd_X4_spreadOf_70 : decode cX4_spreadOf 70 = .ok (.iload 4, 2) := by decide +kernel
theorem zd_X4_spreadOf_72 : decode cX4_spreadOf 72 = .ok (.invokestatic 50, 3) := by decide +kernel
theorem zd_X4_spreadOf_75 : decode cX4_spreadOf 75 = .ok (.ireturn, 1) := by decide +kernel
theorem zd_X4_placedOf_0 : decode cX4_placedOf 0 = .ok (.iconst 0, 1) := by decide +kernel
theorem zd_X4_placedOf_1 : decode cX4_placedOf 1 = .ok (.istore_n 3, 1) := by decide +kernel
theorem zd_X4_placedOf_2 : decode cX4_placedOf 2 = .ok (.iload_n 1, 1) := by decide +kernel
theorem zd_X4_placedOf_3 : decode cX4_placedOf 3 = .ok (.istore 4, 2) := by decide +kernel
theorem zd_X4_placedOf_5 : decode cX4_placedOf 5 = .ok (.iload 4, 2) := by decide +kernel
theorem zd_X4_placedOf_7 : decode cX4_placedOf 7 = .ok (.iload_n 2, 1) := by decide +kernel
theorem zd_X4_placedOf_8 : decode cX4_placedOf 8 = .ok (.if_icmp .gt 22, 3) := by decide +kernel
theorem zd_X4_placedOf_11 : decode cX4_placedOf 11 = .ok (.aload_n 0, 1) := by decide +kernel
theorem zd_X4_placedOf_12 : decode cX4_placedOf 12 = .ok (.iload 4, 2) := by decide +kernel
theorem zd_X4_placedOf_14 : decode cX4_placedOf 14 = .ok (.invokevirtual 40, 3) := by decide +kernel
theorem zd_X4_placedOf_17 : decode cX4_placedOf 17 = .ok (.iconst (-1), 1) := by decide +kernel
theorem zd_X4_placedOf_18 : decode cX4_placedOf 18 = .ok (.if_icmp .eq 6, 3) := by decide +kernel
theorem zd_X4_placedOf_21 : decode cX4_placedOf 21 = .ok (.iinc 3 1, 3) := by decide +kernel
theorem zd_X4_placedOf_24 : decode cX4_placedOf 24 = .ok (.iinc 4 1, 3) := by decide +kernel
theorem zd_X4_placedOf_27 : decode cX4_placedOf 27 = .ok (.goto (-22), 3) := by decide +kernel
theorem zd_X4_placedOf_30 : decode cX4_placedOf 30 = .ok (.iload_n 3, 1) := by decide +kernel
theorem zd_X4_placedOf_31 : decode cX4_placedOf 31 = .ok (.ireturn, 1) := by decide +kernel
theorem zd_X3_whole_0 : decode cX3_whole 0 = .ok (.iload_n 1, 1) := by decide +kernel
theorem zd_X3_whole_1 : decode cX3_whole 1 = .ok (.iload_n 0, 1) := by decide +kernel
theorem zd_X3_whole_2 : decode cX3_whole 2 = .ok (.isub, 1) := by decide +kernel
theorem zd_X3_whole_3 : decode cX3_whole 3 = .ok (.iconst 1, 1) := by decide +kernel
theorem zd_X3_whole_4 : decode cX3_whole 4 = .ok (.iadd, 1) := by decide +kernel
theorem zd_X3_whole_5 : decode cX3_whole 5 = .ok (.istore 4, 2) := by decide +kernel
theorem zd_X3_whole_7 : decode cX3_whole 7 = .ok (.aload_n 2, 1) := by decide +kernel
theorem zd_X3_whole_8 : decode cX3_whole 8 = .ok (.iload_n 0, 1) := by decide +kernel
theorem zd_X3_whole_9 : decode cX3_whole 9 = .ok (.iload_n 1, 1) := by decide +kernel
theorem zd_X3_whole_10 : decode cX3_whole 10 = .ok (.invokevirtual 59, 3) := by decide +kernel
theorem zd_X3_whole_13 : decode cX3_whole 13 = .ok (.iload 4, 2) := by decide +kernel
theorem zd_X3_whole_15 : decode cX3_whole 15 = .ok (.if_icmp .ge 5, 3) := by decide +kernel
theorem zd_X3_whole_18 : decode cX3_whole 18 = .ok (.iconst (-1), 1) := by decide +kernel
theorem zd_X3_whole_19 : decode cX3_whole 19 = .ok (.ireturn, 1) := by decide +kernel
theorem zd_X3_whole_20 : decode cX3_whole 20 = .ok (.aload_n 2, 1) := by decide +kernel
theorem zd_X3_whole_21 : decode cX3_whole 21 = .ok (.iload_n 0, 1) := by decide +kernel
theorem zd_X3_whole_22 : decode cX3_whole 22 = .ok (.iload_n 1, 1) := by decide +kernel
theorem zd_X3_whole_23 : decode cX3_whole 23 = .ok (.invokevirtual 47, 3) := by decide +kernel
theorem zd_X3_whole_26 : decode cX3_whole 26 = .ok (.istore 5, 2) := by decide +kernel
theorem zd_X3_whole_28 : decode cX3_whole 28 = .ok (.iload 5, 2) := by decide +kernel
theorem zd_X3_whole_30 : decode cX3_whole 30 = .ok (.invokestatic 34, 3) := by decide +kernel
theorem zd_X3_whole_33 : decode cX3_whole 33 = .ok (.iload 4, 2) := by decide +kernel
theorem zd_X3_whole_35 : decode cX3_whole 35 = .ok (.iload_n 3, 1) := by decide +kernel
theorem zd_X3_whole_36 : decode cX3_whole 36 = .ok (.iadd, 1) := by decide +kernel
theorem zd_X3_whole_37 : decode cX3_whole 37 = .ok (.if_icmp .le 7, 3) := by decide +kernel
theorem zd_X3_whole_40 : decode cX3_whole 40 = .ok (.iconst (-1), 1) := by decide +kernel
theorem zd_X3_whole_41 : decode cX3_whole 41 = .ok (.goto 5, 3) := by decide +kernel
theorem zd_X3_whole_44 : decode cX3_whole 44 = .ok (.iload 5, 2) := by decide +kernel
theorem zd_X3_whole_46 : decode cX3_whole 46 = .ok (.ireturn, 1) := by decide +kernel
theorem zd_X3_nearest_0 : decode cX3_nearest 0 = .ok (.iload_n 0, 1) := by decide +kernel
theorem zd_X3_nearest_1 : decode cX3_nearest 1 = .ok (.istore_n 2, 1) := by decide +kernel
theorem zd_X3_nearest_2 : decode cX3_nearest 2 = .ok (.iload_n 2, 1) := by decide +kernel
theorem zd_X3_nearest_3 : decode cX3_nearest 3 = .ok (.ifCond .lt 26, 3) := by decide +kernel
theorem zd_X3_nearest_6 : decode cX3_nearest 6 = .ok (.aload_n 1, 1) := by decide +kernel
theorem zd_X3_nearest_7 : decode cX3_nearest 7 = .ok (.iload_n 2, 1) := by decide +kernel
theorem zd_X3_nearest_8 : decode cX3_nearest 8 = .ok (.invokevirtual 65, 3) := by decide +kernel
theorem zd_X3_nearest_11 : decode cX3_nearest 11 = .ok (.istore_n 3, 1) := by decide +kernel
theorem zd_X3_nearest_12 : decode cX3_nearest 12 = .ok (.iload_n 3, 1) := by decide +kernel
theorem zd_X3_nearest_13 : decode cX3_nearest 13 = .ok (.iconst (-1), 1) := by decide +kernel
theorem zd_X3_nearest_14 : decode cX3_nearest 14 = .ok (.if_icmp .eq 9, 3) := by decide +kernel
theorem zd_X3_nearest_17 : decode cX3_nearest 17 = .ok (.iload_n 3, 1) := by decide +kernel
theorem zd_X3_nearest_18 : decode cX3_nearest 18 = .ok (.iload_n 3, 1) := by decide +kernel
theorem zd_X3_nearest_19 : decode cX3_nearest 19 = .ok (.invokestatic 68, 3) := by decide +kernel
theorem zd_X3_nearest_22 : decode cX3_nearest 22 = .ok (.ireturn, 1) := by decide +kernel
theorem zd_X3_nearest_23 : decode cX3_nearest 23 = .ok (.iinc 2 (-1), 3) := by decide +kernel
theorem zd_X3_nearest_26 : decode cX3_nearest 26 = .ok (.goto (-24), 3) := by decide +kernel
theorem zd_X3_nearest_29 : decode cX3_nearest 29 = .ok (.iconst (-1), 1) := by decide +kernel
theorem zd_X3_nearest_30 : decode cX3_nearest 30 = .ok (.ireturn, 1) := by decide +kernel
theorem zd_X3_toTheEnd_0 : decode cX3_toTheEnd 0 = .ok (.iload_n 0, 1) := by decide +kernel
theorem zd_X3_toTheEnd_1 : decode cX3_toTheEnd 1 = .ok (.iconst (-1), 1) := by decide +kernel
theorem zd_X3_toTheEnd_2 : decode cX3_toTheEnd 2 = .ok (.if_icmp .ne 7, 3) := by decide +kernel
theorem zd_X3_toTheEnd_5 : decode cX3_toTheEnd 5 = .ok (.iconst (-1), 1) := by decide +kernel
theorem zd_X3_toTheEnd_6 : decode cX3_toTheEnd 6 = .ok (.goto 16, 3) := by decide +kernel
theorem zd_X3_toTheEnd_9 : decode cX3_toTheEnd 9 = .ok (.iload_n 0, 1) := by decide +kernel
theorem zd_X3_toTheEnd_10 : decode cX3_toTheEnd 10 = .ok (.invokestatic 44, 3) := by decide +kernel
theorem zd_X3_toTheEnd_13 : decode cX3_toTheEnd 13 = .ok (.aload_n 1, 1) := by decide +kernel
theorem zd_X3_toTheEnd_14 : decode cX3_toTheEnd 14 = .ok (.invokevirtual 71, 3) := by decide +kernel
theorem zd_X3_toTheEnd_17 : decode cX3_toTheEnd 17 = .ok (.iconst 1, 1) := by decide +kernel
theorem zd_X3_toTheEnd_18 : decode cX3_toTheEnd 18 = .ok (.isub, 1) := by decide +kernel
theorem zd_X3_toTheEnd_19 : decode cX3_toTheEnd 19 = .ok (.invokestatic 68, 3) := by decide +kernel
theorem zd_X3_toTheEnd_22 : decode cX3_toTheEnd 22 = .ok (.ireturn, 1) := by decide +kernel
theorem zd_X3_followed_0 : decode cX3_followed 0 = .ok (.iload_n 1, 1) := by decide +kernel
theorem zd_X3_followed_1 : decode cX3_followed 1 = .ok (.tableswitch 122 1 6 #[39, 47, 56, 63, 98, 110], 39) := by decide +kernel
theorem zd_X3_followed_40 : decode cX3_followed 40 = .ok (.aload 4, 2) := by decide +kernel
theorem zd_X3_followed_42 : decode cX3_followed 42 = .ok (.iload_n 2, 1) := by decide +kernel
theorem zd_X3_followed_43 : decode cX3_followed 43 = .ok (.iload_n 2, 1) := by decide +kernel
theorem zd_X3_followed_44 : decode cX3_followed 44 = .ok (.invokevirtual 47, 3) := by decide +kernel
theorem zd_X3_followed_47 : decode cX3_followed 47 = .ok (.ireturn, 1) := by decide +kernel
theorem zd_X3_followed_48 : decode cX3_followed 48 = .ok (.iload_n 2, 1) := by decide +kernel
theorem zd_X3_followed_49 : decode cX3_followed 49 = .ok (.iload_n 3, 1) := by decide +kernel
theorem zd_X3_followed_50 : decode cX3_followed 50 = .ok (.aload 4, 2) := by decide +kernel
theorem zd_X3_followed_52 : decode cX3_followed 52 = .ok (.iconst 0, 1) := by decide +kernel
theorem zd_X3_followed_53 : decode cX3_followed 53 = .ok (.invokestatic 51, 3) := by decide +kernel
theorem zd_X3_followed_56 : decode cX3_followed 56 = .ok (.ireturn, 1) := by decide +kernel
theorem zd_X3_followed_57 : decode cX3_followed 57 = .ok (.iload_n 2, 1) := by decide +kernel
theorem zd_X3_followed_58 : decode cX3_followed 58 = .ok (.aload 4, 2) := by decide +kernel
theorem zd_X3_followed_60 : decode cX3_followed 60 = .ok (.invokestatic 55, 3) := by decide +kernel
theorem zd_X3_followed_63 : decode cX3_followed 63 = .ok (.ireturn, 1) := by decide +kernel
theorem zd_X3_followed_64 : decode cX3_followed 64 = .ok (.bipush 10, 2) := by decide +kernel
theorem zd_X3_followed_66 : decode cX3_followed 66 = .ok (.aload 4, 2) := by decide +kernel
theorem zd_X3_followed_68 : decode cX3_followed 68 = .ok (.iload_n 2, 1) := by decide +kernel
theorem zd_X3_followed_69 : decode cX3_followed 69 = .ok (.iload_n 3, 1) := by decide +kernel
theorem zd_X3_followed_70 : decode cX3_followed 70 = .ok (.invokevirtual 59, 3) := by decide +kernel
theorem zd_X3_followed_73 : decode cX3_followed 73 = .ok (.imul, 1) := by decide +kernel
theorem zd_X3_followed_74 : decode cX3_followed 74 = .ok (.aload_n 0, 1) := by decide +kernel
theorem zd_X3_followed_75 : decode cX3_followed 75 = .ok (.getfield 18, 3) := by decide +kernel
theorem zd_X3_followed_78 : decode cX3_followed 78 = .ok (.iload_n 3, 1) := by decide +kernel
theorem zd_X3_followed_79 : decode cX3_followed 79 = .ok (.iload_n 2, 1) := by decide +kernel
theorem zd_X3_followed_80 : decode cX3_followed 80 = .ok (.isub, 1) := by decide +kernel
theorem zd_X3_followed_81 : decode cX3_followed 81 = .ok (.iconst 1, 1) := by decide +kernel
theorem zd_X3_followed_82 : decode cX3_followed 82 = .ok (.iadd, 1) := by decide +kernel
theorem zd_X3_followed_83 : decode cX3_followed 83 = .ok (.imul, 1) := by decide +kernel
theorem zd_X3_followed_84 : decode cX3_followed 84 = .ok (.if_icmp .ge 7, 3) := by decide +kernel
theorem zd_X3_followed_87 : decode cX3_followed 87 = .ok (.iconst (-1), 1) := by decide +kernel
theorem zd_X3_followed_88 : decode cX3_followed 88 = .ok (.goto 10, 3) := by decide +kernel
theorem zd_X3_followed_91 : decode cX3_followed 91 = .ok (.aload 4, 2) := by decide +kernel
theorem zd_X3_followed_93 : decode cX3_followed 93 = .ok (.iload_n 2, 1) := by decide +kernel
theorem zd_X3_followed_94 : decode cX3_followed 94 = .ok (.iload_n 3, 1) := by decide +kernel
theorem zd_X3_followed_95 : decode cX3_followed 95 = .ok (.invokevirtual 47, 3) := by decide +kernel
theorem zd_X3_followed_98 : decode cX3_followed 98 = .ok (.ireturn, 1) := by decide +kernel
theorem zd_X3_followed_99 : decode cX3_followed 99 = .ok (.iload_n 2, 1) := by decide +kernel
theorem zd_X3_followed_100 : decode cX3_followed 100 = .ok (.iload_n 3, 1) := by decide +kernel
theorem zd_X3_followed_101 : decode cX3_followed 101 = .ok (.aload 4, 2) := by decide +kernel
theorem zd_X3_followed_103 : decode cX3_followed 103 = .ok (.aload_n 0, 1) := by decide +kernel
theorem zd_X3_followed_104 : decode cX3_followed 104 = .ok (.getfield 18, 3) := by decide +kernel
theorem zd_X3_followed_107 : decode cX3_followed 107 = .ok (.invokestatic 51, 3) := by decide +kernel
theorem zd_X3_followed_110 : decode cX3_followed 110 = .ok (.ireturn, 1) := by decide +kernel
theorem zd_X3_followed_111 : decode cX3_followed 111 = .ok (.iload_n 2, 1) := by decide +kernel
theorem zd_X3_followed_112 : decode cX3_followed 112 = .ok (.aload 4, 2) := by decide +kernel
theorem zd_X3_followed_114 : decode cX3_followed 114 = .ok (.invokestatic 55, 3) := by decide +kernel
theorem zd_X3_followed_117 : decode cX3_followed 117 = .ok (.aload 4, 2) := by decide +kernel
theorem zd_X3_followed_119 : decode cX3_followed 119 = .ok (.invokestatic 62, 3) := by decide +kernel
theorem zd_X3_followed_122 : decode cX3_followed 122 = .ok (.ireturn, 1) := by decide +kernel
theorem zd_X3_followed_123 : decode cX3_followed 123 = .ok (.aload 4, 2) := by decide +kernel
theorem zd_X3_followed_125 : decode cX3_followed 125 = .ok (.iload_n 2, 1) := by decide +kernel
theorem zd_X3_followed_126 : decode cX3_followed 126 = .ok (.iload_n 3, 1) := by decide +kernel
theorem zd_X3_followed_127 : decode cX3_followed 127 = .ok (.invokevirtual 47, 3) := by decide +kernel
theorem zd_X3_followed_130 : decode cX3_followed 130 = .ok (.ireturn, 1) := by decide +kernel
theorem zd_X4_init_0 : decode cX4_init 0 = .ok (.aload_n 0, 1) := by decide +kernel
theorem zd_X4_init_1 : decode cX4_init 1 = .ok (.invokespecial 3, 3) := by decide +kernel
theorem zd_X4_init_4 : decode cX4_init 4 = .ok (.aload_n 0, 1) := by decide +kernel
theorem zd_X4_init_5 : decode cX4_init 5 = .ok (.iload_n 1, 1) := by decide +kernel
theorem zd_X4_init_6 : decode cX4_init 6 = .ok (.putfield 9, 3) := by decide +kernel
theorem zd_X4_init_9 : decode cX4_init 9 = .ok (.aload_n 0, 1) := by decide +kernel
theorem zd_X4_init_10 : decode cX4_init 10 = .ok (.aload_n 2, 1) := by decide +kernel
theorem zd_X4_init_11 : decode cX4_init 11 = .ok (.putfield 15, 3) := by decide +kernel
theorem zd_X4_init_14 : decode cX4_init 14 = .ok (.aload_n 0, 1) := by decide +kernel
theorem zd_X4_init_15 : decode cX4_init 15 = .ok (.aload_n 3, 1) := by decide +kernel
theorem zd_X4_init_16 : decode cX4_init 16 = .ok (.putfield 19, 3) := by decide +kernel
theorem zd_X4_init_19 : decode cX4_init 19 = .ok (.aload_n 0, 1) := by decide +kernel
theorem zd_X4_init_20 : decode cX4_init 20 = .ok (.aload_n 2, 1) := by decide +kernel
theorem zd_X4_init_21 : decode cX4_init 21 = .ok (.ifnonnull 7, 3) := by decide +kernel
theorem zd_X4_init_24 : decode cX4_init 24 = .ok (.iconst 0, 1) := by decide +kernel
theorem zd_X4_init_25 : decode cX4_init 25 = .ok (.goto 8, 3) := by decide +kernel
theorem zd_X4_init_28 : decode cX4_init 28 = .ok (.aload_n 2, 1) := by decide +kernel
theorem zd_X4_init_29 : decode cX4_init 29 = .ok (.getfield 19, 3) := by decide +kernel
theorem zd_X4_init_32 : decode cX4_init 32 = .ok (.arraylength, 1) := by decide +kernel
theorem zd_X4_init_33 : decode cX4_init 33 = .ok (.newarray .int, 2) := by decide +kernel
theorem zd_X4_init_35 : decode cX4_init 35 = .ok (.putfield 23, 3) := by decide +kernel
theorem zd_X4_init_38 : decode cX4_init 38 = .ok (.return_, 1) := by decide +kernel
theorem zd_X4_hasLine_0 : decode cX4_hasLine 0 = .ok (.iload_n 1, 1) := by decide +kernel
theorem zd_X4_hasLine_1 : decode cX4_hasLine 1 = .ok (.ifCond .lt 16, 3) := by decide +kernel
theorem zd_X4_hasLine_4 : decode cX4_hasLine 4 = .ok (.iload_n 1, 1) := by decide +kernel
theorem zd_X4_hasLine_5 : decode cX4_hasLine 5 = .ok (.aload_n 0, 1) := by decide +kernel
theorem zd_X4_hasLine_6 : decode cX4_hasLine 6 = .ok (.getfield 19, 3) := by decide +kernel
theorem zd_X4_hasLine_9 : decode cX4_hasLine 9 = .ok (.arraylength, 1) := by decide +kernel
theorem zd_X4_hasLine_10 : decode cX4_hasLine 10 = .ok (.if_icmp .ge 7, 3) := by decide +kernel
theorem zd_X4_hasLine_13 : decode cX4_hasLine 13 = .ok (.iconst 1, 1) := by decide +kernel
theorem zd_X4_hasLine_14 : decode cX4_hasLine 14 = .ok (.goto 4, 3) := by decide +kernel
theorem zd_X4_hasLine_17 : decode cX4_hasLine 17 = .ok (.iconst 0, 1) := by decide +kernel
theorem zd_X4_hasLine_18 : decode cX4_hasLine 18 = .ok (.ireturn, 1) := by decide +kernel
theorem zd_X4_isBehind_0 : decode cX4_isBehind 0 = .ok (.aload_n 0, 1) := by decide +kernel
theorem zd_X4_isBehind_1 : decode cX4_isBehind 1 = .ok (.astore_n 2, 1) := by decide +kernel
theorem zd_X4_isBehind_2 : decode cX4_isBehind 2 = .ok (.aload_n 2, 1) := by decide +kernel
theorem zd_X4_isBehind_3 : decode cX4_isBehind 3 = .ok (.ifnull 18, 3) := by decide +kernel
theorem zd_X4_isBehind_6 : decode cX4_isBehind 6 = .ok (.aload_n 2, 1) := by decide +kernel
theorem zd_X4_isBehind_7 : decode cX4_isBehind 7 = .ok (.aload_n 1, 1) := by decide +kernel
theorem zd_X4_isBehind_8 : decode cX4_isBehind 8 = .ok (.if_acmp .ne 5, 3) := by decide +kernel
theorem zd_X4_isBehind_11 : decode cX4_isBehind 11 = .ok (.iconst 1, 1) := by decide +kernel
theorem zd_X4_isBehind_12 : decode cX4_isBehind 12 = .ok (.ireturn, 1) := by decide +kernel
theorem zd_X4_isBehind_13 : decode cX4_isBehind 13 = .ok (.aload_n 2, 1) := by decide +kernel
theorem zd_X4_isBehind_14 : decode cX4_isBehind 14 = .ok (.getfield 15, 3) := by decide +kernel
theorem zd_X4_isBehind_17 : decode cX4_isBehind 17 = .ok (.astore_n 2, 1) := by decide +kernel
theorem zd_X4_isBehind_18 : decode cX4_isBehind 18 = .ok (.goto (-16), 3) := by decide +kernel
theorem zd_X4_isBehind_21 : decode cX4_isBehind 21 = .ok (.iconst 0, 1) := by decide +kernel
theorem zd_X4_isBehind_22 : decode cX4_isBehind 22 = .ok (.ireturn, 1) := by decide +kernel
theorem zd_X4_readyStep_0 : decode cX4_readyStep 0 = .ok (.aload_n 0, 1) := by decide +kernel
theorem zd_X4_readyStep_1 : decode cX4_readyStep 1 = .ok (.getfield 15, 3) := by decide +kernel
theorem zd_X4_readyStep_4 : decode cX4_readyStep 4 = .ok (.ifnull 11, 3) := by decide +kernel
theorem zd_X4_readyStep_7 : decode cX4_readyStep 7 = .ok (.aload_n 0, 1) := by decide +kernel
theorem zd_X4_readyStep_8 : decode cX4_readyStep 8 = .ok (.getfield 27, 3) := by decide +kernel
theorem zd_X4_readyStep_11 : decode cX4_readyStep 11 = .ok (.iload_n 2, 1) := by decide +kernel
theorem zd_X4_readyStep_12 : decode cX4_readyStep 12 = .ok (.if_icmp .ne 4, 3) := by decide +kernel
theorem zd_X4_readyStep_15 : decode cX4_readyStep 15 = .ok (.return_, 1) := by decide +kernel
theorem zd_X4_readyStep_16 : decode cX4_readyStep 16 = .ok (.aload_n 1, 1) := by decide +kernel
theorem zd_X4_readyStep_17 : decode cX4_readyStep 17 = .ok (.aload_n 0, 1) := by decide +kernel
theorem zd_X4_readyStep_18 : decode cX4_readyStep 18 = .ok (.getfield 15, 3) := by decide +kernel
theorem zd_X4_readyStep_21 : decode cX4_readyStep 21 = .ok (.aload_n 0, 1) := by decide +kernel
theorem zd_X4_readyStep_22 : decode cX4_readyStep 22 = .ok (.iload_n 2, 1) := by decide +kernel
theorem zd_X4_readyStep_23 : decode cX4_readyStep 23 = .ok (.invokevirtual 30, 3) := by decide +kernel
theorem zd_X4_readyStep_26 : decode cX4_readyStep 26 = .ok (.iconst 0, 1) := by decide +kernel
theorem zd_X4_readyStep_27 : decode cX4_readyStep 27 = .ok (.istore_n 3, 1) := by decide +kernel
theorem zd_X4_readyStep_28 : decode cX4_readyStep 28 = .ok (.iload_n 3, 1) := by decide +kernel
theorem zd_X4_readyStep_29 : decode cX4_readyStep 29 = .ok (.aload_n 0, 1) := by decide +kernel
theorem zd_X4_readyStep_30 : decode cX4_readyStep 30 = .ok (.getfield 23, 3) := by decide +kernel
theorem zd_X4_readyStep_33 : decode cX4_readyStep 33 = .ok (.arraylength, 1) := by decide +kernel
theorem zd_X4_readyStep_34 : decode cX4_readyStep 34 = .ok (.if_icmp .ge 20, 3) := by decide +kernel
theorem zd_X4_readyStep_37 : decode cX4_readyStep 37 = .ok (.aload_n 0, 1) := by decide +kernel
theorem zd_X4_readyStep_38 : decode cX4_readyStep 38 = .ok (.getfield 23, 3) := by decide +kernel
theorem zd_X4_readyStep_41 : decode cX4_readyStep 41 = .ok (.iload_n 3, 1) := by decide +kernel
theorem zd_X4_readyStep_42 : decode cX4_readyStep 42 = .ok (.aload_n 1, 1) := by decide +kernel
theorem zd_X4_readyStep_43 : decode cX4_readyStep 43 = .ok (.iload_n 3, 1) := by decide +kernel
theorem zd_X4_readyStep_44 : decode cX4_readyStep 44 = .ok (.invokevirtual 36, 3) := by decide +kernel
theorem zd_X4_readyStep_47 : decode cX4_readyStep 47 = .ok (.iastore, 1) := by decide +kernel
theorem zd_X4_readyStep_48 : decode cX4_readyStep 48 = .ok (.iinc 3 1, 3) := by decide +kernel
theorem zd_X4_readyStep_51 : decode cX4_readyStep 51 = .ok (.goto (-23), 3) := by decide +kernel
theorem zd_X4_readyStep_54 : decode cX4_readyStep 54 = .ok (.aload_n 0, 1) := by decide +kernel
theorem zd_X4_readyStep_55 : decode cX4_readyStep 55 = .ok (.iload_n 2, 1) := by decide +kernel
theorem zd_X4_readyStep_56 : decode cX4_readyStep 56 = .ok (.putfield 27, 3) := by decide +kernel
theorem zd_X4_readyStep_59 : decode cX4_readyStep 59 = .ok (.return_, 1) := by decide +kernel
theorem zd_X4_sourceOf_0 : decode cX4_sourceOf 0 = .ok (.iconst 0, 1) := by decide +kernel
theorem zd_X4_sourceOf_1 : decode cX4_sourceOf 1 = .ok (.istore_n 2, 1) := by decide +kernel
theorem zd_X4_sourceOf_2 : decode cX4_sourceOf 2 = .ok (.iload_n 2, 1) := by decide +kernel
theorem zd_X4_sourceOf_3 : decode cX4_sourceOf 3 = .ok (.aload_n 0, 1) := by decide +kernel
theorem zd_X4_sourceOf_4 : decode cX4_sourceOf 4 = .ok (.getfield 23, 3) := by decide +kernel
theorem zd_X4_sourceOf_7 : decode cX4_sourceOf 7 = .ok (.arraylength, 1) := by decide +kernel
theorem zd_X4_sourceOf_8 : decode cX4_sourceOf 8 = .ok (.if_icmp .ge 21, 3) := by decide +kernel
theorem zd_X4_sourceOf_11 : decode cX4_sourceOf 11 = .ok (.aload_n 0, 1) := by decide +kernel
theorem zd_X4_sourceOf_12 : decode cX4_sourceOf 12 = .ok (.getfield 23, 3) := by decide +kernel
theorem zd_X4_sourceOf_15 : decode cX4_sourceOf 15 = .ok (.iload_n 2, 1) := by decide +kernel
theorem zd_X4_sourceOf_16 : decode cX4_sourceOf 16 = .ok (.iaload, 1) := by decide +kernel
theorem zd_X4_sourceOf_17 : decode cX4_sourceOf 17 = .ok (.iload_n 1, 1) := by decide +kernel
theorem zd_X4_sourceOf_18 : decode cX4_sourceOf 18 = .ok (.if_icmp .ne 5, 3) := by decide +kernel
theorem zd_X4_sourceOf_21 : decode cX4_sourceOf 21 = .ok (.iload_n 2, 1) := by decide +kernel
theorem zd_X4_sourceOf_22 : decode cX4_sourceOf 22 = .ok (.ireturn, 1) := by decide +kernel
theorem zd_X4_sourceOf_23 : decode cX4_sourceOf 23 = .ok (.iinc 2 1, 3) := by decide +kernel
theorem zd_X4_sourceOf_26 : decode cX4_sourceOf 26 = .ok (.goto (-24), 3) := by decide +kernel
theorem zd_X4_sourceOf_29 : decode cX4_sourceOf 29 = .ok (.iconst (-1), 1) := by decide +kernel
theorem zd_X4_sourceOf_30 : decode cX4_sourceOf 30 = .ok (.ireturn, 1) := by decide +kernel
theorem zd_X5_init_0 : decode cX5_init 0 = .ok (.aload_n 0, 1) := by decide +kernel
theorem zd_X5_init_1 : decode cX5_init 1 = .ok (.invokespecial 3, 3) := by decide +kernel
theorem zd_X5_init_4 : decode cX5_init 4 = .ok (.aload_n 0, 1) := by decide +kernel
theorem zd_X5_init_5 : decode cX5_init 5 = .ok (.iconst (-1), 1) := by decide +kernel
theorem zd_X5_init_6 : decode cX5_init 6 = .ok (.putfield 9, 3) := by decide +kernel
theorem zd_X5_init_9 : decode cX5_init 9 = .ok (.aload_n 0, 1) := by decide +kernel
theorem zd_X5_init_10 : decode cX5_init 10 = .ok (.sipush 160, 3) := by decide +kernel
theorem zd_X5_init_13 : decode cX5_init 13 = .ok (.newarray .long, 2) := by decide +kernel
theorem zd_X5_init_15 : decode cX5_init 15 = .ok (.putfield 15, 3) := by decide +kernel
theorem zd_X5_init_18 : decode cX5_init 18 = .ok (.return_, 1) := by decide +kernel
theorem zd_X5_hasRemark_0 : decode cX5_hasRemark 0 = .ok (.aload_n 0, 1) := by decide +kernel
theorem zd_X5_hasRemark_1 : decode cX5_hasRemark 1 = .ok (.getfield 9, 3) := by decide +kernel
theorem zd_X5_hasRemark_4 : decode cX5_hasRemark 4 = .ok (.iconst (-1), 1) := by decide +kernel
theorem zd_X5_hasRemark_5 : decode cX5_hasRemark 5 = .ok (.if_icmp .eq 16, 3) := by decide +kernel
theorem zd_X5_hasRemark_8 : decode cX5_hasRemark 8 = .ok (.aload_n 0, 1) := by decide +kernel
theorem zd_X5_hasRemark_9 : decode cX5_hasRemark 9 = .ok (.getfield 9, 3) := by decide +kernel
theorem zd_X5_hasRemark_12 : decode cX5_hasRemark 12 = .ok (.bipush 100, 2) := by decide +kernel
theorem zd_X5_hasRemark_14 : decode cX5_hasRemark 14 = .ok (.if_icmp .ge 7, 3) := by decide +kernel
theorem zd_X5_hasRemark_17 : decode cX5_hasRemark 17 = .ok (.iconst 1, 1) := by decide +kernel
theorem zd_X5_hasRemark_18 : decode cX5_hasRemark 18 = .ok (.goto 4, 3) := by decide +kernel
theorem zd_X5_hasRemark_21 : decode cX5_hasRemark 21 = .ok (.iconst 0, 1) := by decide +kernel
theorem zd_X5_hasRemark_22 : decode cX5_hasRemark 22 = .ok (.ireturn, 1) := by decide +kernel
theorem zd_X5_hold_0 : decode cX5_hold 0 = .ok (.aload_n 0, 1) := by decide +kernel
theorem zd_X5_hold_1 : decode cX5_hold 1 = .ok (.iload_n 1, 1) := by decide +kernel
theorem zd_X5_hold_2 : decode cX5_hold 2 = .ok (.putfield 9, 3) := by decide +kernel
theorem zd_X5_hold_5 : decode cX5_hold 5 = .ok (.return_, 1) := by decide +kernel
theorem zd_J7_fill_d0a16_0 : decode cJ7_fill_d0a16 0 = .ok (.iconst 0, 1) := by decide +kernel
theorem zd_J7_fill_d0a16_1 : decode cJ7_fill_d0a16 1 = .ok (.istore_n 3, 1) := by decide +kernel
theorem zd_J7_fill_d0a16_2 : decode cJ7_fill_d0a16 2 = .ok (.aload_n 0, 1) := by decide +kernel
theorem zd_J7_fill_d0a16_3 : decode cJ7_fill_d0a16 3 = .ok (.arraylength, 1) := by decide +kernel
theorem zd_J7_fill_d0a16_4 : decode cJ7_fill_d0a16 4 = .ok (.istore 4, 2) := by decide +kernel
theorem zd_J7_fill_d0a16_6 : decode cJ7_fill_d0a16 6 = .ok (.iload_n 3, 1) := by decide +kernel
theorem zd_J7_fill_d0a16_7 : decode cJ7_fill_d0a16 7 = .ok (.iload 4, 2) := by decide +kernel
theorem zd_J7_fill_d0a16_9 : decode cJ7_fill_d0a16 9 = .ok (.if_icmp .ge 13, 3) := by decide +kernel
theorem zd_J7_fill_d0a16_12 : decode cJ7_fill_d0a16 12 = .ok (.aload_n 0, 1) := by decide +kernel
theorem zd_J7_fill_d0a16_13 : decode cJ7_fill_d0a16 13 = .ok (.iload_n 3, 1) := by decide +kernel
theorem zd_J7_fill_d0a16_14 : decode cJ7_fill_d0a16 14 = .ok (.lload_n 1, 1) := by decide +kernel
theorem zd_J7_fill_d0a16_15 : decode cJ7_fill_d0a16 15 = .ok (.lastore, 1) := by decide +kernel
theorem zd_J7_fill_d0a16_16 : decode cJ7_fill_d0a16 16 = .ok (.iinc 3 1, 3) := by decide +kernel
theorem zd_J7_fill_d0a16_19 : decode cJ7_fill_d0a16 19 = .ok (.goto (-13), 3) := by decide +kernel
theorem zd_J7_fill_d0a16_22 : decode cJ7_fill_d0a16 22 = .ok (.return_, 1) := by decide +kernel
theorem zd_X5_holdRow_0 : decode cX5_holdRow 0 = .ok (.aload_n 0, 1) := by decide +kernel
theorem zd_X5_holdRow_1 : decode cX5_holdRow 1 = .ok (.bipush 100, 2) := by decide +kernel
theorem zd_X5_holdRow_3 : decode cX5_holdRow 3 = .ok (.iload_n 1, 1) := by decide +kernel
theorem zd_X5_holdRow_4 : decode cX5_holdRow 4 = .ok (.iadd, 1) := by decide +kernel
theorem zd_X5_holdRow_5 : decode cX5_holdRow 5 = .ok (.putfield 9, 3) := by decide +kernel
theorem zd_X5_holdRow_8 : decode cX5_holdRow 8 = .ok (.aload_n 0, 1) := by decide +kernel
theorem zd_X5_holdRow_9 : decode cX5_holdRow 9 = .ok (.iload_n 2, 1) := by decide +kernel
theorem zd_X5_holdRow_10 : decode cX5_holdRow 10 = .ok (.putfield 19, 3) := by decide +kernel
theorem zd_X5_holdRow_13 : decode cX5_holdRow 13 = .ok (.aload_n 0, 1) := by decide +kernel
theorem zd_X5_holdRow_14 : decode cX5_holdRow 14 = .ok (.getfield 15, 3) := by decide +kernel
theorem zd_X5_holdRow_17 : decode cX5_holdRow 17 = .ok (.lconst 0, 1) := by decide +kernel
theorem zd_X5_holdRow_18 : decode cX5_holdRow 18 = .ok (.invokestatic 22, 3) := by decide +kernel
theorem zd_X5_holdRow_21 : decode cX5_holdRow 21 = .ok (.return_, 1) := by decide +kernel
theorem zd_X5_hasStretch_0 : decode cX5_hasStretch 0 = .ok (.aload_n 0, 1) := by decide +kernel
theorem zd_X5_hasStretch_1 : decode cX5_hasStretch 1 = .ok (.invokevirtual 28, 3) := by decide +kernel
theorem zd_X5_hasStretch_4 : decode cX5_hasStretch 4 = .ok (.ifCond .eq 25, 3) := by decide +kernel
theorem zd_X5_hasStretch_7 : decode cX5_hasStretch 7 = .ok (.iload_n 1, 1) := by decide +kernel
theorem zd_X5_hasStretch_8 : decode cX5_hasStretch 8 = .ok (.ifCond .lt 21, 3) := by decide +kernel
theorem zd_X5_hasStretch_11 : decode cX5_hasStretch 11 = .ok (.iload_n 2, 1) := by decide +kernel
theorem zd_X5_hasStretch_12 : decode cX5_hasStretch 12 = .ok (.ifCond .lt 17, 3) := by decide +kernel
theorem zd_X5_hasStretch_15 : decode cX5_hasStretch 15 = .ok (.iload_n 2, 1) := by decide +kernel
theorem zd_X5_hasStretch_16 : decode cX5_hasStretch 16 = .ok (.aload_n 0, 1) := by decide +kernel
theorem zd_X5_hasStretch_17 : decode cX5_hasStretch 17 = .ok (.getfield 19, 3) := by decide +kernel
theorem zd_X5_hasStretch_20 : decode cX5_hasStretch 20 = .ok (.iload_n 1, 1) := by decide +kernel
theorem zd_X5_hasStretch_21 : decode cX5_hasStretch 21 = .ok (.isub, 1) := by decide +kernel
theorem zd_X5_hasStretch_22 : decode cX5_hasStretch 22 = .ok (.if_icmp .gt 7, 3) := by decide +kernel
theorem zd_X5_hasStretch_25 : decode cX5_hasStretch 25 = .ok (.iconst 1, 1) := by decide +kernel
theorem zd_X5_hasStretch_26 : decode cX5_hasStretch 26 = .ok (.goto 4, 3) := by decide +kernel
theorem zd_X5_hasStretch_29 : decode cX5_hasStretch 29 = .ok (.iconst 0, 1) := by decide +kernel
theorem zd_X5_hasStretch_30 : decode cX5_hasStretch 30 = .ok (.ireturn, 1) := by decide +kernel
theorem zd_X5_lowestBits_0 : decode cX5_lowestBits 0 = .ok (.aload_n 0, 1) := by decide +kernel
theorem zd_X5_lowestBits_1 : decode cX5_lowestBits 1 = .ok (.getfield 9, 3) := by decide +kernel
theorem zd_X5_lowestBits_4 : decode cX5_lowestBits 4 = .ok (.bipush 100, 2) := by decide +kernel
theorem zd_X5_lowestBits_6 : decode cX5_lowestBits 6 = .ok (.isub, 1) := by decide +kernel
theorem zd_X5_lowestBits_7 : decode cX5_lowestBits 7 = .ok (.tableswitch 39 0 2 #[25, 30, 35], 25) := by decide +kernel
theorem zd_X5_lowestBits_32 : decode cX5_lowestBits 32 = .ok (.lload_n 1, 1) := by decide +kernel
theorem zd_X5_lowestBits_33 : decode cX5_lowestBits 33 = .ok (.l2i, 1) := by decide +kernel
theorem zd_X5_lowestBits_34 : decode cX5_lowestBits 34 = .ok (.i2b, 1) := by decide +kernel
theorem zd_X5_lowestBits_35 : decode cX5_lowestBits 35 = .ok (.i2l, 1) := by decide +kernel
theorem zd_X5_lowestBits_36 : decode cX5_lowestBits 36 = .ok (.lreturn, 1) := by decide +kernel
theorem zd_X5_lowestBits_37 : decode cX5_lowestBits 37 = .ok (.lload_n 1, 1) := by decide +kernel
theorem zd_X5_lowestBits_38 : decode cX5_lowestBits 38 = .ok (.l2i, 1) := by decide +kernel
theorem zd_X5_lowestBits_39 : decode cX5_lowestBits 39 = .ok (.i2s, 1) := by decide +kernel
theorem zd_X5_lowestBits_40 : decode cX5_lowestBits 40 = .ok (.i2l, 1) := by decide +kernel
theorem zd_X5_lowestBits_41 : decode cX5_lowestBits 41 = .ok (.lreturn, 1) := by decide +kernel
theorem zd_X5_lowestBits_42 : decode cX5_lowestBits 42 = .ok (.lload_n 1, 1) := by decide +kernel
theorem zd_X5_lowestBits_43 : decode cX5_lowestBits 43 = .ok (.l2i, 1) := by decide +kernel
theorem zd_X5_lowestBits_44 : decode cX5_lowestBits 44 = .ok (.i2l, 1) := by decide +kernel
theorem zd_X5_lowestBits_45 : decode cX5_lowestBits 45 = .ok (.lreturn, 1) := by decide +kernel
theorem zd_X5_lowestBits_46 : decode cX5_lowestBits 46 = .ok (.lload_n 1, 1) := by decide +kernel
theorem zd_X5_lowestBits_47 : decode cX5_lowestBits 47 = .ok (.lreturn, 1) := by decide +kernel
theorem zd_X5_store_0 : decode cX5_store 0 = .ok (.aload_n 0, 1) := by decide +kernel
theorem zd_X5_store_1 : decode cX5_store 1 = .ok (.iload_n 1, 1) := by decide +kernel
theorem zd_X5_store_2 : decode cX5_store 2 = .ok (.invokevirtual 32, 3) := by decide +kernel
theorem zd_X5_store_5 : decode cX5_store 5 = .ok (.ifCond .eq 14, 3) := by decide +kernel
theorem zd_X5_store_8 : decode cX5_store 8 = .ok (.aload_n 0, 1) := by decide +kernel
theorem zd_X5_store_9 : decode cX5_store 9 = .ok (.getfield 15, 3) := by decide +kernel
theorem zd_X5_store_12 : decode cX5_store 12 = .ok (.iload_n 1, 1) := by decide +kernel
theorem zd_X5_store_13 : decode cX5_store 13 = .ok (.aload_n 0, 1) := by decide +kernel
theorem zd_X5_store_14 : decode cX5_store 14 = .ok (.lload_n 2, 1) := by decide +kernel
theorem zd_X5_store_15 : decode cX5_store 15 = .ok (.invokevirtual 36, 3) := by decide +kernel
theorem zd_X5_store_18 : decode cX5_store 18 = .ok (.lastore, 1) := by decide +kernel
theorem zd_X5_store_19 : decode cX5_store 19 = .ok (.return_, 1) := by decide +kernel
theorem zd_X5_takeStretch_0 : decode cX5_takeStretch 0 = .ok (.aload_n 1, 1) := by decide +kernel
theorem zd_X5_takeStretch_1 : decode cX5_takeStretch 1 = .ok (.iload_n 2, 1) := by decide +kernel
theorem zd_X5_takeStretch_2 : decode cX5_takeStretch 2 = .ok (.iload 4, 2) := by decide +kernel
theorem zd_X5_takeStretch_4 : decode cX5_takeStretch 4 = .ok (.invokevirtual 44, 3) := by decide +kernel
theorem zd_X5_takeStretch_7 : decode cX5_takeStretch 7 = .ok (.ifCond .eq 28, 3) := by decide +kernel
theorem zd_X5_takeStretch_10 : decode cX5_takeStretch 10 = .ok (.aload_n 0, 1) := by decide +kernel
theorem zd_X5_takeStretch_11 : decode cX5_takeStretch 11 = .ok (.iload_n 3, 1) := by decide +kernel
theorem zd_X5_takeStretch_12 : decode cX5_takeStretch 12 = .ok (.iload 4, 2) := by decide +kernel
theorem zd_X5_takeStretch_14 : decode cX5_takeStretch 14 = .ok (.invokevirtual 44, 3) := by decide +kernel
theorem zd_X5_takeStretch_17 : decode cX5_takeStretch 17 = .ok (.ifCond .eq 18, 3) := by decide +kernel
theorem zd_X5_takeStretch_20 : decode cX5_takeStretch 20 = .ok (.aload_n 1, 1) := by decide +kernel
theorem zd_X5_takeStretch_21 : decode cX5_takeStretch 21 = .ok (.getfield 15, 3) := by decide +kernel
theorem zd_X5_takeStretch_24 : decode cX5_takeStretch 24 = .ok (.iload_n 2, 1) := by decide +kernel
theorem zd_X5_takeStretch_25 : decode cX5_takeStretch 25 = .ok (.aload_n 0, 1) := by decide +kernel
theorem zd_X5_takeStretch_26 : decode cX5_takeStretch 26 = .ok (.getfield 15, 3) := by decide +kernel
theorem zd_X5_takeStretch_29 : decode cX5_takeStretch 29 = .ok (.iload_n 3, 1) := by decide +kernel
theorem zd_X5_takeStretch_30 : decode cX5_takeStretch 30 = .ok (.iload 4, 2) := by decide +kernel
theorem zd_X5_takeStretch_32 : decode cX5_takeStretch 32 = .ok (.invokestatic 48, 3) := by decide +kernel
theorem zd_X5_takeStretch_35 : decode cX5_takeStretch 35 = .ok (.return_, 1) := by decide +kernel
theorem zd_Jxa1e45_init_da8c8_0 : decode cJxa1e45_init_da8c8 0 = .ok (.aload_n 0, 1) := by decide +kernel
theorem zd_Jxa1e45_init_da8c8_1 : decode cJxa1e45_init_da8c8 1 = .ok (.invokespecial 1, 3) := by decide +kernel
theorem zd_Jxa1e45_init_da8c8_4 : decode cJxa1e45_init_da8c8 4 = .ok (.return_, 1) := by decide +kernel
theorem zd_Jxc12de_init_da8c8_0 : decode cJxc12de_init_da8c8 0 = .ok (.aload_n 0, 1) := by decide +kernel
theorem zd_Jxc12de_init_da8c8_1 : decode cJxc12de_init_da8c8 1 = .ok (.invokespecial 1, 3) := by decide +kernel
theorem zd_Jxc12de_init_da8c8_4 : decode cJxc12de_init_da8c8 4 = .ok (.aload_n 0, 1) := by decide +kernel
theorem zd_Jxc12de_init_da8c8_5 : decode cJxc12de_init_da8c8 5 = .ok (.iconst 0, 1) := by decide +kernel
theorem zd_Jxc12de_init_da8c8_6 : decode cJxc12de_init_da8c8 6 = .ok (.putfield 7, 3) := by decide +kernel
theorem zd_Jxc12de_init_da8c8_9 : decode cJxc12de_init_da8c8 9 = .ok (.return_, 1) := by decide +kernel
theorem zd_Jx4a65c_init_da8c8_0 : decode cJx4a65c_init_da8c8 0 = .ok (.aload_n 0, 1) := by decide +kernel
theorem zd_Jx4a65c_init_da8c8_1 : decode cJx4a65c_init_da8c8 1 = .ok (.invokespecial 1, 3) := by decide +kernel
theorem zd_Jx4a65c_init_da8c8_4 : decode cJx4a65c_init_da8c8 4 = .ok (.aload_n 0, 1) := by decide +kernel
theorem zd_Jx4a65c_init_da8c8_5 : decode cJx4a65c_init_da8c8 5 = .ok (.getstatic 39, 3) := by decide +kernel
theorem zd_Jx4a65c_init_da8c8_8 : decode cJx4a65c_init_da8c8 8 = .ok (.putfield 9, 3) := by decide +kernel
theorem zd_Jx4a65c_init_da8c8_11 : decode cJx4a65c_init_da8c8 11 = .ok (.return_, 1) := by decide +kernel
theorem zd_X6_init_0 : decode cX6_init 0 = .ok (.aload_n 0, 1) := by decide +kernel
theorem zd_X6_init_1 : decode cX6_init 1 = .ok (.invokespecial 3, 3) := by decide +kernel
theorem zd_X6_init_4 : decode cX6_init 4 = .ok (.aload_n 0, 1) := by decide +kernel
theorem zd_X6_init_5 : decode cX6_init 5 = .ok (.new 9, 3) := by decide +kernel
theorem zd_X6_init_8 : decode cX6_init 8 = .ok (.dup, 1) := by decide +kernel
theorem zd_X6_init_9 : decode cX6_init 9 = .ok (.invokespecial 11, 3) := by decide +kernel
theorem zd_X6_init_12 : decode cX6_init 12 = .ok (.putfield 12, 3) := by decide +kernel
theorem zd_X6_init_15 : decode cX6_init 15 = .ok (.aload_n 0, 1) := by decide +kernel
theorem zd_X6_init_16 : decode cX6_init 16 = .ok (.new 9, 3) := by decide +kernel
theorem zd_X6_init_19 : decode cX6_init 19 = .ok (.dup, 1) := by decide +kernel
theorem zd_X6_init_20 : decode cX6_init 20 = .ok (.invokespecial 11, 3) := by decide +kernel
theorem zd_X6_init_23 : decode cX6_init 23 = .ok (.putfield 18, 3) := by decide +kernel
theorem zd_X6_init_26 : decode cX6_init 26 = .ok (.aload_n 0, 1) := by decide +kernel
theorem zd_X6_init_27 : decode cX6_init 27 = .ok (.iconst 2, 1) := by decide +kernel
theorem zd_X6_init_28 : decode cX6_init 28 = .ok (.putfield 21, 3) := by decide +kernel
theorem zd_X6_init_31 : decode cX6_init 31 = .ok (.aload_n 0, 1) := by decide +kernel
theorem zd_X6_init_32 : decode cX6_init 32 = .ok (.bipush 6, 2) := by decide +kernel
theorem zd_X6_init_34 : decode cX6_init 34 = .ok (.putfield 25, 3) := by decide +kernel
theorem zd_X6_init_37 : decode cX6_init 37 = .ok (.aload_n 0, 1) := by decide +kernel
theorem zd_X6_init_38 : decode cX6_init 38 = .ok (.iconst 1, 1) := by decide +kernel
theorem zd_X6_init_39 : decode cX6_init 39 = .ok (.putfield 28, 3) := by decide +kernel
theorem zd_X6_init_42 : decode cX6_init 42 = .ok (.aload_n 0, 1) := by decide +kernel
theorem zd_X6_init_43 : decode cX6_init 43 = .ok (.iconst 1, 1) := by decide +kernel
theorem zd_X6_init_44 : decode cX6_init 44 = .ok (.putfield 31, 3) := by decide +kernel
theorem zd_X6_init_47 : decode cX6_init 47 = .ok (.return_, 1) := by decide +kernel
theorem zd_Jx4a65c_clear_da8c8_0 : decode cJx4a65c_clear_da8c8 0 = .ok (.aload_n 0, 1) := by decide +kernel
theorem zd_Jx4a65c_clear_da8c8_1 : decode cJx4a65c_clear_da8c8 1 = .ok (.dup, 1) := by decide +kernel
theorem zd_Jx4a65c_clear_da8c8_2 : decode cJx4a65c_clear_da8c8 2 = .ok (.getfield 63, 3) := by decide +kernel
theorem zd_Jx4a65c_clear_da8c8_5 : decode cJx4a65c_clear_da8c8 5 = .ok (.iconst 1, 1) := by decide +kernel
theorem zd_Jx4a65c_clear_da8c8_6 : decode cJx4a65c_clear_da8c8 6 = .ok (.iadd, 1) := by decide +kernel
theorem zd_Jx4a65c_clear_da8c8_7 : decode cJx4a65c_clear_da8c8 7 = .ok (.putfield 63, 3) := by decide +kernel
theorem zd_Jx4a65c_clear_da8c8_10 : decode cJx4a65c_clear_da8c8 10 = .ok (.aload_n 0, 1) := by decide +kernel
theorem zd_Jx4a65c_clear_da8c8_11 : decode cJx4a65c_clear_da8c8 11 = .ok (.getfield 9, 3) := by decide +kernel
theorem zd_Jx4a65c_clear_da8c8_14 : decode cJx4a65c_clear_da8c8 14 = .ok (.astore_n 1, 1) := by decide +kernel
theorem zd_Jx4a65c_clear_da8c8_15 : decode cJx4a65c_clear_da8c8 15 = .ok (.aload_n 0, 1) := by decide +kernel
theorem zd_Jx4a65c_clear_da8c8_16 : decode cJx4a65c_clear_da8c8 16 = .ok (.getfield 48, 3) := by decide +kernel
theorem zd_Jx4a65c_clear_da8c8_19 : decode cJx4a65c_clear_da8c8 19 = .ok (.istore_n 2, 1) := by decide +kernel
theorem zd_Jx4a65c_clear_da8c8_20 : decode cJx4a65c_clear_da8c8 20 = .ok (.aload_n 0, 1) := by decide +kernel
theorem zd_Jx4a65c_clear_da8c8_21 : decode cJx4a65c_clear_da8c8 21 = .ok (.iconst 0, 1) := by decide +kernel
theorem zd_Jx4a65c_clear_da8c8_22 : decode cJx4a65c_clear_da8c8 22 = .ok (.dup_x1, 1) := by decide +kernel
theorem zd_Jx4a65c_clear_da8c8_23 : decode cJx4a65c_clear_da8c8 23 = .ok (.putfield 48, 3) := by decide +kernel
theorem zd_Jx4a65c_clear_da8c8_26 : decode cJx4a65c_clear_da8c8 26 = .ok (.istore_n 3, 1) := by decide +kernel
theorem zd_Jx4a65c_clear_da8c8_27 : decode cJx4a65c_clear_da8c8 27 = .ok (.iload_n 3, 1) := by decide +kernel
theorem zd_Jx4a65c_clear_da8c8_28 : decode cJx4a65c_clear_da8c8 28 = .ok (.iload_n 2, 1) := by decide +kernel
theorem zd_Jx4a65c_clear_da8c8_29 : decode cJx4a65c_clear_da8c8 29 = .ok (.if_icmp .ge 13, 3) := by decide +kernel
theorem zd_Jx4a65c_clear_da8c8_32 : decode cJx4a65c_clear_da8c8 32 = .ok (.aload_n 1, 1) := by decide +kernel
theorem zd_Jx4a65c_clear_da8c8_33 : decode cJx4a65c_clear_da8c8 33 = .ok (.iload_n 3, 1) := by decide +kernel
theorem zd_Jx4a65c_clear_da8c8_34 : decode cJx4a65c_clear_da8c8 34 = .ok (.aconst_null, 1) := by decide +kernel
theorem zd_Jx4a65c_clear_da8c8_35 : decode cJx4a65c_clear_da8c8 35 = .ok (.aastore, 1) := by decide +kernel
theorem zd_Jx4a65c_clear_da8c8_36 : decode cJx4a65c_clear_da8c8 36 = .ok (.iinc 3 1, 3) := by decide +kernel
theorem zd_Jx4a65c_clear_da8c8_39 : decode cJx4a65c_clear_da8c8 39 = .ok (.goto (-12), 3) := by decide +kernel
theorem zd_Jx4a65c_clear_da8c8_42 : decode cJx4a65c_clear_da8c8 42 = .ok (.return_, 1) := by decide +kernel
theorem zd_Jx4a65c_size_8abf5_0 : decode cJx4a65c_size_8abf5 0 = .ok (.aload_n 0, 1) := by decide +kernel
theorem zd_Jx4a65c_size_8abf5_1 : decode cJx4a65c_size_8abf5 1 = .ok (.getfield 48, 3) := by decide +kernel
theorem zd_Jx4a65c_size_8abf5_4 : decode cJx4a65c_size_8abf5 4 = .ok (.ireturn, 1) := by decide +kernel
theorem zd_J3_checkIndex_8e157_0 : decode cJ3_checkIndex_8e157 0 = .ok (.iload_n 0, 1) := by decide +kernel
theorem zd_J3_checkIndex_8e157_1 : decode cJ3_checkIndex_8e157 1 = .ok (.ifCond .lt 8, 3) := by decide +kernel
theorem zd_J3_checkIndex_8e157_4 : decode cJ3_checkIndex_8e157 4 = .ok (.iload_n 0, 1) := by decide +kernel
theorem zd_J3_checkIndex_8e157_5 : decode cJ3_checkIndex_8e157 5 = .ok (.iload_n 1, 1) := by decide +kernel
theorem zd_J3_checkIndex_8e157_6 : decode cJ3_checkIndex_8e157 6 = .ok (.if_icmp .lt 10, 3) := by decide +kernel
theorem zd_J3_checkIndex_8e157_16 : decode cJ3_checkIndex_8e157 16 = .ok (.iload_n 0, 1) := by decide +kernel
theorem zd_J3_checkIndex_8e157_17 : decode cJ3_checkIndex_8e157 17 = .ok (.ireturn, 1) := by decide +kernel
theorem zd_J15_checkIndex_7cf53_0 : decode cJ15_checkIndex_7cf53 0 = .ok (.iload_n 0, 1) := by decide +kernel
theorem zd_J15_checkIndex_7cf53_1 : decode cJ15_checkIndex_7cf53 1 = .ok (.iload_n 1, 1) := by decide +kernel
theorem zd_J15_checkIndex_7cf53_2 : decode cJ15_checkIndex_7cf53 2 = .ok (.aconst_null, 1) := by decide +kernel
theorem zd_J15_checkIndex_7cf53_3 : decode cJ15_checkIndex_7cf53 3 = .ok (.invokestatic 105, 3) := by decide +kernel
theorem zd_J15_checkIndex_7cf53_6 : decode cJ15_checkIndex_7cf53 6 = .ok (.ireturn, 1) := by decide +kernel
theorem zd_Jx4a65c_elementData_915e3_0 : decode cJx4a65c_elementData_915e3 0 = .ok (.aload_n 0, 1) := by decide +kernel
theorem zd_Jx4a65c_elementData_915e3_1 : decode cJx4a65c_elementData_915e3 1 = .ok (.getfield 9, 3) := by decide +kernel
theorem zd_Jx4a65c_elementData_915e3_4 : decode cJx4a65c_elementData_915e3 4 = .ok (.iload_n 1, 1) := by decide +kernel
theorem zd_Jx4a65c_elementData_915e3_5 : decode cJx4a65c_elementData_915e3 5 = .ok (.aaload, 1) := by decide +kernel
theorem zd_Jx4a65c_elementData_915e3_6 : decode cJx4a65c_elementData_915e3 6 = .ok (.areturn, 1) := by decide +kernel
theorem zd_Jx4a65c_get_915e3_0 : decode cJx4a65c_get_915e3 0 = .ok (.iload_n 1, 1) := by decide +kernel
theorem zd_Jx4a65c_get_915e3_1 : decode cJx4a65c_get_915e3 1 = .ok (.aload_n 0, 1) := by decide +kernel
theorem zd_Jx4a65c_get_915e3_2 : decode cJx4a65c_get_915e3 2 = .ok (.getfield 48, 3) := by decide +kernel
theorem zd_Jx4a65c_get_915e3_5 : decode cJx4a65c_get_915e3 5 = .ok (.invokestatic 118, 3) := by decide +kernel
theorem zd_Jx4a65c_get_915e3_8 : decode cJx4a65c_get_915e3 8 = .ok (.pop, 1) := by decide +kernel
theorem zd_Jx4a65c_get_915e3_9 : decode cJx4a65c_get_915e3 9 = .ok (.aload_n 0, 1) := by decide +kernel
theorem zd_Jx4a65c_get_915e3_10 : decode cJx4a65c_get_915e3 10 = .ok (.iload_n 1, 1) := by decide +kernel
theorem zd_Jx4a65c_get_915e3_11 : decode cJx4a65c_get_915e3 11 = .ok (.invokevirtual 123, 3) := by decide +kernel
theorem zd_Jx4a65c_get_915e3_14 : decode cJx4a65c_get_915e3 14 = .ok (.areturn, 1) := by decide +kernel
theorem zd_J8_hugeLength_7cf53_0 : decode cJ8_hugeLength_7cf53 0 = .ok (.iload_n 0, 1) := by decide +kernel
theorem zd_J8_hugeLength_7cf53_1 : decode cJ8_hugeLength_7cf53 1 = .ok (.iload_n 1, 1) := by decide +kernel
theorem zd_J8_hugeLength_7cf53_2 : decode cJ8_hugeLength_7cf53 2 = .ok (.iadd, 1) := by decide +kernel
theorem zd_J8_hugeLength_7cf53_3 : decode cJ8_hugeLength_7cf53 3 = .ok (.istore_n 2, 1) := by decide +kernel
theorem zd_J8_hugeLength_7cf53_4 : decode cJ8_hugeLength_7cf53 4 = .ok (.iload_n 2, 1) := by decide +kernel
theorem zd_J8_hugeLength_7cf53_5 : decode cJ8_hugeLength_7cf53 5 = .ok (.ifCond .ge 44, 3) := by decide +kernel
theorem zd_J8_hugeLength_7cf53_49 : decode cJ8_hugeLength_7cf53 49 = .ok (.iload_n 2, 1) := by decide +kernel
theorem zd_J8_hugeLength_7cf53_50 : decode cJ8_hugeLength_7cf53 50 = .ok (.ldc 200, 2) := by decide +kernel
theorem zd_J8_hugeLength_7cf53_52 : decode cJ8_hugeLength_7cf53 52 = .ok (.if_icmp .gt 6, 3) := by decide +kernel
theorem zd_J8_hugeLength_7cf53_55 : decode cJ8_hugeLength_7cf53 55 = .ok (.ldc 200, 2) := by decide +kernel
theorem zd_J8_hugeLength_7cf53_57 : decode cJ8_hugeLength_7cf53 57 = .ok (.ireturn, 1) := by decide +kernel
theorem zd_J8_hugeLength_7cf53_58 : decode cJ8_hugeLength_7cf53 58 = .ok (.iload_n 2, 1) := by decide +kernel
theorem zd_J8_hugeLength_7cf53_59 : decode cJ8_hugeLength_7cf53 59 = .ok (.ireturn, 1) := by decide +kernel
theorem zd_J8_newLength_cabcc_0 : decode cJ8_newLength_cabcc 0 = .ok (.iload_n 0, 1) := by decide +kernel
theorem zd_J8_newLength_cabcc_1 : decode cJ8_newLength_cabcc 1 = .ok (.iload_n 1, 1) := by decide +kernel
theorem zd_J8_newLength_cabcc_2 : decode cJ8_newLength_cabcc 2 = .ok (.iload_n 2, 1) := by decide +kernel
theorem zd_J8_newLength_cabcc_3 : decode cJ8_newLength_cabcc 3 = .ok (.invokestatic 194, 3) := by decide +kernel
theorem zd_J8_newLength_cabcc_6 : decode cJ8_newLength_cabcc 6 = .ok (.iadd, 1) := by decide +kernel
theorem zd_J8_newLength_cabcc_7 : decode cJ8_newLength_cabcc 7 = .ok (.istore_n 3, 1) := by decide +kernel
theorem zd_J8_newLength_cabcc_8 : decode cJ8_newLength_cabcc 8 = .ok (.iconst 0, 1) := by decide +kernel
theorem zd_J8_newLength_cabcc_9 : decode cJ8_newLength_cabcc 9 = .ok (.iload_n 3, 1) := by decide +kernel
theorem zd_J8_newLength_cabcc_10 : decode cJ8_newLength_cabcc 10 = .ok (.if_icmp .ge 11, 3) := by decide +kernel
theorem zd_J8_newLength_cabcc_13 : decode cJ8_newLength_cabcc 13 = .ok (.iload_n 3, 1) := by decide +kernel
theorem zd_J8_newLength_cabcc_14 : decode cJ8_newLength_cabcc 14 = .ok (.ldc 200, 2) := by decide +kernel
theorem zd_J8_newLength_cabcc_16 : decode cJ8_newLength_cabcc 16 = .ok (.if_icmp .gt 5, 3) := by decide +kernel
theorem zd_J8_newLength_cabcc_19 : decode cJ8_newLength_cabcc 19 = .ok (.iload_n 3, 1) := by decide +kernel
theorem zd_J8_newLength_cabcc_20 : decode cJ8_newLength_cabcc 20 = .ok (.ireturn, 1) := by decide +kernel
theorem zd_J8_newLength_cabcc_21 : decode cJ8_newLength_cabcc 21 = .ok (.iload_n 0, 1) := by decide +kernel
theorem zd_J8_newLength_cabcc_22 : decode cJ8_newLength_cabcc 22 = .ok (.iload_n 1, 1) := by decide +kernel
theorem zd_J8_newLength_cabcc_23 : decode cJ8_newLength_cabcc 23 = .ok (.invokestatic 201, 3) := by decide +kernel
theorem zd_J8_newLength_cabcc_26 : decode cJ8_newLength_cabcc 26 = .ok (.ireturn, 1) := by decide +kernel
theorem zd_Jx4a65c_grow_92f84_0 : decode cJx4a65c_grow_92f84 0 = .ok (.aload_n 0, 1) := by decide +kernel
theorem zd_Jx4a65c_grow_92f84_1 : decode cJx4a65c_grow_92f84 1 = .ok (.getfield 9, 3) := by decide +kernel
theorem zd_Jx4a65c_grow_92f84_4 : decode cJx4a65c_grow_92f84 4 = .ok (.arraylength, 1) := by decide +kernel
theorem zd_Jx4a65c_grow_92f84_5 : decode cJx4a65c_grow_92f84 5 = .ok (.istore_n 2, 1) := by decide +kernel
theorem zd_Jx4a65c_grow_92f84_6 : decode cJx4a65c_grow_92f84 6 = .ok (.iload_n 2, 1) := by decide +kernel
theorem zd_Jx4a65c_grow_92f84_7 : decode cJx4a65c_grow_92f84 7 = .ok (.ifCond .gt 13, 3) := by decide +kernel
theorem zd_Jx4a65c_grow_92f84_10 : decode cJx4a65c_grow_92f84 10 = .ok (.aload_n 0, 1) := by decide +kernel
theorem zd_Jx4a65c_grow_92f84_11 : decode cJx4a65c_grow_92f84 11 = .ok (.getfield 9, 3) := by decide +kernel
theorem zd_Jx4a65c_grow_92f84_14 : decode cJx4a65c_grow_92f84 14 = .ok (.getstatic 39, 3) := by decide +kernel
theorem zd_Jx4a65c_grow_92f84_17 : decode cJx4a65c_grow_92f84 17 = .ok (.if_acmp .eq 28, 3) := by decide +kernel
theorem zd_Jx4a65c_grow_92f84_20 : decode cJx4a65c_grow_92f84 20 = .ok (.iload_n 2, 1) := by decide +kernel
theorem zd_Jx4a65c_grow_92f84_21 : decode cJx4a65c_grow_92f84 21 = .ok (.iload_n 1, 1) := by decide +kernel
theorem zd_Jx4a65c_grow_92f84_22 : decode cJx4a65c_grow_92f84 22 = .ok (.iload_n 2, 1) := by decide +kernel
theorem zd_Jx4a65c_grow_92f84_23 : decode cJx4a65c_grow_92f84 23 = .ok (.isub, 1) := by decide +kernel
theorem zd_Jx4a65c_grow_92f84_24 : decode cJx4a65c_grow_92f84 24 = .ok (.iload_n 2, 1) := by decide +kernel
theorem zd_Jx4a65c_grow_92f84_25 : decode cJx4a65c_grow_92f84 25 = .ok (.iconst 1, 1) := by decide +kernel
theorem zd_Jx4a65c_grow_92f84_26 : decode cJx4a65c_grow_92f84 26 = .ok (.ishr, 1) := by decide +kernel
theorem zd_Jx4a65c_grow_92f84_27 : decode cJx4a65c_grow_92f84 27 = .ok (.invokestatic 73, 3) := by decide +kernel
theorem zd_Jx4a65c_grow_92f84_30 : decode cJx4a65c_grow_92f84 30 = .ok (.istore_n 3, 1) := by decide +kernel
theorem zd_Jx4a65c_grow_92f84_31 : decode cJx4a65c_grow_92f84 31 = .ok (.aload_n 0, 1) := by decide +kernel
theorem zd_Jx4a65c_grow_92f84_32 : decode cJx4a65c_grow_92f84 32 = .ok (.aload_n 0, 1) := by decide +kernel
theorem zd_Jx4a65c_grow_92f84_33 : decode cJx4a65c_grow_92f84 33 = .ok (.getfield 9, 3) := by decide +kernel
theorem zd_Jx4a65c_grow_92f84_36 : decode cJx4a65c_grow_92f84 36 = .ok (.iload_n 3, 1) := by decide +kernel
theorem zd_Jx4a65c_grow_92f84_37 : decode cJx4a65c_grow_92f84 37 = .ok (.invokestatic 66, 3) := by decide +kernel
theorem zd_Jx4a65c_grow_92f84_40 : decode cJx4a65c_grow_92f84 40 = .ok (.dup_x1, 1) := by decide +kernel
theorem zd_Jx4a65c_grow_92f84_41 : decode cJx4a65c_grow_92f84 41 = .ok (.putfield 9, 3) := by decide +kernel
theorem zd_Jx4a65c_grow_92f84_44 : decode cJx4a65c_grow_92f84 44 = .ok (.areturn, 1) := by decide +kernel
theorem zd_Jx4a65c_grow_92f84_45 : decode cJx4a65c_grow_92f84 45 = .ok (.aload_n 0, 1) := by decide +kernel
theorem zd_Jx4a65c_grow_92f84_46 : decode cJx4a65c_grow_92f84 46 = .ok (.bipush 10, 2) := by decide +kernel
theorem zd_Jx4a65c_grow_92f84_48 : decode cJx4a65c_grow_92f84 48 = .ok (.iload_n 1, 1) := by decide +kernel
theorem zd_Jx4a65c_grow_92f84_49 : decode cJx4a65c_grow_92f84 49 = .ok (.invokestatic 79, 3) := by decide +kernel
theorem zd_Jx4a65c_grow_92f84_52 : decode cJx4a65c_grow_92f84 52 = .ok (.anewarray 7, 3) := by decide +kernel
theorem zd_Jx4a65c_grow_92f84_55 : decode cJx4a65c_grow_92f84 55 = .ok (.dup_x1, 1) := by decide +kernel
theorem zd_Jx4a65c_grow_92f84_56 : decode cJx4a65c_grow_92f84 56 = .ok (.putfield 9, 3) := by decide +kernel
theorem zd_Jx4a65c_grow_92f84_59 : decode cJx4a65c_grow_92f84 59 = .ok (.areturn, 1) := by decide +kernel
theorem zd_Jx4a65c_grow_d5877_0 : decode cJx4a65c_grow_d5877 0 = .ok (.aload_n 0, 1) := by decide +kernel
theorem zd_Jx4a65c_grow_d5877_1 : decode cJx4a65c_grow_d5877 1 = .ok (.aload_n 0, 1) := by decide +kernel
theorem zd_Jx4a65c_grow_d5877_2 : decode cJx4a65c_grow_d5877 2 = .ok (.getfield 48, 3) := by decide +kernel
theorem zd_Jx4a65c_grow_d5877_5 : decode cJx4a65c_grow_d5877 5 = .ok (.iconst 1, 1) := by decide +kernel
theorem zd_Jx4a65c_grow_d5877_6 : decode cJx4a65c_grow_d5877 6 = .ok (.iadd, 1) := by decide +kernel
theorem zd_Jx4a65c_grow_d5877_7 : decode cJx4a65c_grow_d5877 7 = .ok (.invokevirtual 69, 3) := by decide +kernel
theorem zd_Jx4a65c_grow_d5877_10 : decode cJx4a65c_grow_d5877 10 = .ok (.areturn, 1) := by decide +kernel
theorem zd_Jx4a65c_add_72be8_0 : decode cJx4a65c_add_72be8 0 = .ok (.iload_n 3, 1) := by decide +kernel
theorem zd_Jx4a65c_add_72be8_1 : decode cJx4a65c_add_72be8 1 = .ok (.aload_n 2, 1) := by decide +kernel
theorem zd_Jx4a65c_add_72be8_2 : decode cJx4a65c_add_72be8 2 = .ok (.arraylength, 1) := by decide +kernel
theorem zd_Jx4a65c_add_72be8_3 : decode cJx4a65c_add_72be8 3 = .ok (.if_icmp .ne 8, 3) := by decide +kernel
theorem zd_Jx4a65c_add_72be8_6 : decode cJx4a65c_add_72be8 6 = .ok (.aload_n 0, 1) := by decide +kernel
theorem zd_Jx4a65c_add_72be8_7 : decode cJx4a65c_add_72be8 7 = .ok (.invokevirtual 129, 3) := by decide +kernel
theorem zd_Jx4a65c_add_72be8_10 : decode cJx4a65c_add_72be8 10 = .ok (.astore_n 2, 1) := by decide +kernel
theorem zd_Jx4a65c_add_72be8_11 : decode cJx4a65c_add_72be8 11 = .ok (.aload_n 2, 1) := by decide +kernel
theorem zd_Jx4a65c_add_72be8_12 : decode cJx4a65c_add_72be8 12 = .ok (.iload_n 3, 1) := by decide +kernel
theorem zd_Jx4a65c_add_72be8_13 : decode cJx4a65c_add_72be8 13 = .ok (.aload_n 1, 1) := by decide +kernel
theorem zd_Jx4a65c_add_72be8_14 : decode cJx4a65c_add_72be8 14 = .ok (.aastore, 1) := by decide +kernel
theorem zd_Jx4a65c_add_72be8_15 : decode cJx4a65c_add_72be8 15 = .ok (.aload_n 0, 1) := by decide +kernel
theorem zd_Jx4a65c_add_72be8_16 : decode cJx4a65c_add_72be8 16 = .ok (.iload_n 3, 1) := by decide +kernel
theorem zd_Jx4a65c_add_72be8_17 : decode cJx4a65c_add_72be8 17 = .ok (.iconst 1, 1) := by decide +kernel
theorem zd_Jx4a65c_add_72be8_18 : decode cJx4a65c_add_72be8 18 = .ok (.iadd, 1) := by decide +kernel
theorem zd_Jx4a65c_add_72be8_19 : decode cJx4a65c_add_72be8 19 = .ok (.putfield 48, 3) := by decide +kernel
theorem zd_Jx4a65c_add_72be8_22 : decode cJx4a65c_add_72be8 22 = .ok (.return_, 1) := by decide +kernel
theorem zd_Jx4a65c_add_9ea2d_0 : decode cJx4a65c_add_9ea2d 0 = .ok (.aload_n 0, 1) := by decide +kernel
theorem zd_Jx4a65c_add_9ea2d_1 : decode cJx4a65c_add_9ea2d 1 = .ok (.dup, 1) := by decide +kernel
theorem zd_Jx4a65c_add_9ea2d_2 : decode cJx4a65c_add_9ea2d 2 = .ok (.getfield 63, 3) := by decide +kernel
theorem zd_Jx4a65c_add_9ea2d_5 : decode cJx4a65c_add_9ea2d 5 = .ok (.iconst 1, 1) := by decide +kernel
theorem zd_Jx4a65c_add_9ea2d_6 : decode cJx4a65c_add_9ea2d 6 = .ok (.iadd, 1) := by decide +kernel
theorem zd_Jx4a65c_add_9ea2d_7 : decode cJx4a65c_add_9ea2d 7 = .ok (.putfield 63, 3) := by decide +kernel
theorem zd_Jx4a65c_add_9ea2d_10 : decode cJx4a65c_add_9ea2d 10 = .ok (.aload_n 0, 1) := by decide +kernel
theorem zd_Jx4a65c_add_9ea2d_11 : decode cJx4a65c_add_9ea2d 11 = .ok (.aload_n 1, 1) := by decide +kernel
theorem zd_Jx4a65c_add_9ea2d_12 : decode cJx4a65c_add_9ea2d 12 = .ok (.aload_n 0, 1) := by decide +kernel
theorem zd_Jx4a65c_add_9ea2d_13 : decode cJx4a65c_add_9ea2d 13 = .ok (.getfield 9, 3) := by decide +kernel
theorem zd_Jx4a65c_add_9ea2d_16 : decode cJx4a65c_add_9ea2d 16 = .ok (.aload_n 0, 1) := by decide +kernel
theorem zd_Jx4a65c_add_9ea2d_17 : decode cJx4a65c_add_9ea2d 17 = .ok (.getfield 48, 3) := by decide +kernel
theorem zd_Jx4a65c_add_9ea2d_20 : decode cJx4a65c_add_9ea2d 20 = .ok (.invokevirtual 131, 3) := by decide +kernel
theorem zd_Jx4a65c_add_9ea2d_23 : decode cJx4a65c_add_9ea2d 23 = .ok (.iconst 1, 1) := by decide +kernel
theorem zd_Jx4a65c_add_9ea2d_24 : decode cJx4a65c_add_9ea2d 24 = .ok (.ireturn, 1) := by decide +kernel
theorem zd_X6_becomeLike_0 : decode cX6_becomeLike 0 = .ok (.aload_n 0, 1) := by decide +kernel
theorem zd_X6_becomeLike_1 : decode cX6_becomeLike 1 = .ok (.getfield 12, 3) := by decide +kernel
theorem zd_X6_becomeLike_4 : decode cX6_becomeLike 4 = .ok (.invokevirtual 34, 3) := by decide +kernel
theorem zd_X6_becomeLike_7 : decode cX6_becomeLike 7 = .ok (.iconst 0, 1) := by decide +kernel
theorem zd_X6_becomeLike_8 : decode cX6_becomeLike 8 = .ok (.istore_n 2, 1) := by decide +kernel
theorem zd_X6_becomeLike_9 : decode cX6_becomeLike 9 = .ok (.iload_n 2, 1) := by decide +kernel
theorem zd_X6_becomeLike_10 : decode cX6_becomeLike 10 = .ok (.aload_n 1, 1) := by decide +kernel
theorem zd_X6_becomeLike_11 : decode cX6_becomeLike 11 = .ok (.getfield 12, 3) := by decide +kernel
theorem zd_X6_becomeLike_14 : decode cX6_becomeLike 14 = .ok (.invokevirtual 37, 3) := by decide +kernel
theorem zd_X6_becomeLike_17 : decode cX6_becomeLike 17 = .ok (.if_icmp .ge 28, 3) := by decide +kernel
theorem zd_X6_becomeLike_20 : decode cX6_becomeLike 20 = .ok (.aload_n 0, 1) := by decide +kernel
theorem zd_X6_becomeLike_21 : decode cX6_becomeLike 21 = .ok (.getfield 12, 3) := by decide +kernel
theorem zd_X6_becomeLike_24 : decode cX6_becomeLike 24 = .ok (.aload_n 1, 1) := by decide +kernel
theorem zd_X6_becomeLike_25 : decode cX6_becomeLike 25 = .ok (.getfield 12, 3) := by decide +kernel
theorem zd_X6_becomeLike_28 : decode cX6_becomeLike 28 = .ok (.iload_n 2, 1) := by decide +kernel
theorem zd_X6_becomeLike_29 : decode cX6_becomeLike 29 = .ok (.invokevirtual 41, 3) := by decide +kernel
theorem zd_X6_becomeLike_32 : decode cX6_becomeLike 32 = .ok (.checkcast 45, 3) := by decide +kernel
theorem zd_X6_becomeLike_35 : decode cX6_becomeLike 35 = .ok (.invokevirtual 47, 3) := by decide +kernel
theorem zd_X6_becomeLike_38 : decode cX6_becomeLike 38 = .ok (.pop, 1) := by decide +kernel
theorem zd_X6_becomeLike_39 : decode cX6_becomeLike 39 = .ok (.iinc 2 1, 3) := by decide +kernel
theorem zd_X6_becomeLike_42 : decode cX6_becomeLike 42 = .ok (.goto (-33), 3) := by decide +kernel
theorem zd_X6_becomeLike_45 : decode cX6_becomeLike 45 = .ok (.aload_n 0, 1) := by decide +kernel
theorem zd_X6_becomeLike_46 : decode cX6_becomeLike 46 = .ok (.getfield 18, 3) := by decide +kernel
theorem zd_X6_becomeLike_49 : decode cX6_becomeLike 49 = .ok (.invokevirtual 34, 3) := by decide +kernel
theorem zd_X6_becomeLike_52 : decode cX6_becomeLike 52 = .ok (.iconst 0, 1) := by decide +kernel
theorem zd_X6_becomeLike_53 : decode cX6_becomeLike 53 = .ok (.istore_n 2, 1) := by decide +kernel
theorem zd_X6_becomeLike_54 : decode cX6_becomeLike 54 = .ok (.iload_n 2, 1) := by decide +kernel
theorem zd_X6_becomeLike_55 : decode cX6_becomeLike 55 = .ok (.aload_n 1, 1) := by decide +kernel
theorem zd_X6_becomeLike_56 : decode cX6_becomeLike 56 = .ok (.getfield 18, 3) := by decide +kernel
theorem zd_X6_becomeLike_59 : decode cX6_becomeLike 59 = .ok (.invokevirtual 37, 3) := by decide +kernel
theorem zd_X6_becomeLike_62 : decode cX6_becomeLike 62 = .ok (.if_icmp .ge 28, 3) := by decide +kernel
theorem zd_X6_becomeLike_65 : decode cX6_becomeLike 65 = .ok (.aload_n 0, 1) := by decide +kernel
theorem zd_X6_becomeLike_66 : decode cX6_becomeLike 66 = .ok (.getfield 18, 3) := by decide +kernel
theorem zd_X6_becomeLike_69 : decode cX6_becomeLike 69 = .ok (.aload_n 1, 1) := by decide +kernel
theorem zd_X6_becomeLike_70 : decode cX6_becomeLike 70 = .ok (.getfield 18, 3) := by decide +kernel
theorem zd_X6_becomeLike_73 : decode cX6_becomeLike 73 = .ok (.iload_n 2, 1) := by decide +kernel
theorem zd_X6_becomeLike_74 : decode cX6_becomeLike 74 = .ok (.invokevirtual 41, 3) := by decide +kernel
theorem zd_X6_becomeLike_77 : decode cX6_becomeLike 77 = .ok (.checkcast 51, 3) := by decide +kernel
theorem zd_X6_becomeLike_80 : decode cX6_becomeLike 80 = .ok (.invokevirtual 47, 3) := by decide +kernel
theorem zd_X6_becomeLike_83 : decode cX6_becomeLike 83 = .ok (.pop, 1) := by decide +kernel
theorem zd_X6_becomeLike_84 : decode cX6_becomeLike 84 = .ok (.iinc 2 1, 3) := by decide +kernel
theorem zd_X6_becomeLike_87 : decode cX6_becomeLike 87 = .ok (.goto (-33), 3) := by decide +kernel
theorem zd_X6_becomeLike_90 : decode cX6_becomeLike 90 = .ok (.aload_n 0, 1) := by decide +kernel
theorem zd_X6_becomeLike_91 : decode cX6_becomeLike 91 = .ok (.aload_n 1, 1) := by decide +kernel
theorem zd_X6_becomeLike_92 : decode cX6_becomeLike 92 = .ok (.getfield 53, 3) := by decide +kernel
theorem zd_X6_becomeLike_95 : decode cX6_becomeLike 95 = .ok (.putfield 53, 3) := by decide +kernel
theorem zd_X6_becomeLike_98 : decode cX6_becomeLike 98 = .ok (.aload_n 0, 1) := by decide +kernel
theorem zd_X6_becomeLike_99 : decode cX6_becomeLike 99 = .ok (.aload_n 1, 1) := by decide +kernel
theorem zd_X6_becomeLike_100 : decode cX6_becomeLike 100 = .ok (.getfield 21, 3) := by decide +kernel
theorem zd_X6_becomeLike_103 : decode cX6_becomeLike 103 = .ok (.putfield 21, 3) := by decide +kernel
theorem zd_X6_becomeLike_106 : decode cX6_becomeLike 106 = .ok (.aload_n 0, 1) := by decide +kernel
theorem zd_X6_becomeLike_107 : decode cX6_becomeLike 107 = .ok (.aload_n 1, 1) := by decide +kernel
theorem zd_X6_becomeLike_108 : decode cX6_becomeLike 108 = .ok (.getfield 25, 3) := by decide +kernel
theorem zd_X6_becomeLike_111 : decode cX6_becomeLike 111 = .ok (.putfield 25, 3) := by decide +kernel
theorem zd_X6_becomeLike_114 : decode cX6_becomeLike 114 = .ok (.aload_n 0, 1) := by decide +kernel
theorem zd_X6_becomeLike_115 : decode cX6_becomeLike 115 = .ok (.aload_n 1, 1) := by decide +kernel
theorem zd_X6_becomeLike_116 : decode cX6_becomeLike 116 = .ok (.getfield 28, 3) := by decide +kernel
theorem zd_X6_becomeLike_119 : decode cX6_becomeLike 119 = .ok (.putfield 28, 3) := by decide +kernel
theorem zd_X6_becomeLike_122 : decode cX6_becomeLike 122 = .ok (.aload_n 0, 1) := by decide +kernel
theorem zd_X6_becomeLike_123 : decode cX6_becomeLike 123 = .ok (.aload_n 1, 1) := by decide +kernel
theorem zd_X6_becomeLike_124 : decode cX6_becomeLike 124 = .ok (.getfield 31, 3) := by decide +kernel
theorem zd_X6_becomeLike_127 : decode cX6_becomeLike 127 = .ok (.putfield 31, 3) := by decide +kernel
theorem zd_X6_becomeLike_130 : decode cX6_becomeLike 130 = .ok (.return_, 1) := by decide +kernel
theorem zd_X6_revisionAt_0 : decode cX6_revisionAt 0 = .ok (.iload_n 1, 1) := by decide +kernel
theorem zd_X6_revisionAt_1 : decode cX6_revisionAt 1 = .ok (.ifCond .lt 28, 3) := by decide +kernel
theorem zd_X6_revisionAt_4 : decode cX6_revisionAt 4 = .ok (.iload_n 1, 1) := by decide +kernel
theorem zd_X6_revisionAt_5 : decode cX6_revisionAt 5 = .ok (.aload_n 0, 1) := by decide +kernel
theorem zd_X6_revisionAt_6 : decode cX6_revisionAt 6 = .ok (.getfield 12, 3) := by decide +kernel
theorem zd_X6_revisionAt_9 : decode cX6_revisionAt 9 = .ok (.invokevirtual 37, 3) := by decide +kernel
theorem zd_X6_revisionAt_12 : decode cX6_revisionAt 12 = .ok (.if_icmp .ge 17, 3) := by decide +kernel
theorem zd_X6_revisionAt_15 : decode cX6_revisionAt 15 = .ok (.aload_n 0, 1) := by decide +kernel
theorem zd_X6_revisionAt_16 : decode cX6_revisionAt 16 = .ok (.getfield 12, 3) := by decide +kernel
theorem zd_X6_revisionAt_19 : decode cX6_revisionAt 19 = .ok (.iload_n 1, 1) := by decide +kernel
theorem zd_X6_revisionAt_20 : decode cX6_revisionAt 20 = .ok (.invokevirtual 41, 3) := by decide +kernel
theorem zd_X6_revisionAt_23 : decode cX6_revisionAt 23 = .ok (.checkcast 45, 3) := by decide +kernel
theorem zd_X6_revisionAt_26 : decode cX6_revisionAt 26 = .ok (.goto 4, 3) := by decide +kernel
theorem zd_X6_revisionAt_29 : decode cX6_revisionAt 29 = .ok (.aconst_null, 1) := by decide +kernel
theorem zd_X6_revisionAt_30 : decode cX6_revisionAt 30 = .ok (.areturn, 1) := by decide +kernel
theorem zd_X6_remarkAt_0 : decode cX6_remarkAt 0 = .ok (.iload_n 1, 1) := by decide +kernel
theorem zd_X6_remarkAt_1 : decode cX6_remarkAt 1 = .ok (.ifCond .lt 28, 3) := by decide +kernel
theorem zd_X6_remarkAt_4 : decode cX6_remarkAt 4 = .ok (.iload_n 1, 1) := by decide +kernel
theorem zd_X6_remarkAt_5 : decode cX6_remarkAt 5 = .ok (.aload_n 0, 1) := by decide +kernel
theorem zd_X6_remarkAt_6 : decode cX6_remarkAt 6 = .ok (.getfield 18, 3) := by decide +kernel
theorem zd_X6_remarkAt_9 : decode cX6_remarkAt 9 = .ok (.invokevirtual 37, 3) := by decide +kernel
theorem zd_X6_remarkAt_12 : decode cX6_remarkAt 12 = .ok (.if_icmp .ge 17, 3) := by decide +kernel
theorem zd_X6_remarkAt_15 : decode cX6_remarkAt 15 = .ok (.aload_n 0, 1) := by decide +kernel
theorem zd_X6_remarkAt_16 : decode cX6_remarkAt 16 = .ok (.getfield 18, 3) := by decide +kernel
theorem zd_X6_remarkAt_19 : decode cX6_remarkAt 19 = .ok (.iload_n 1, 1) := by decide +kernel
theorem zd_X6_remarkAt_20 : decode cX6_remarkAt 20 = .ok (.invokevirtual 41, 3) := by decide +kernel
theorem zd_X6_remarkAt_23 : decode cX6_remarkAt 23 = .ok (.checkcast 51, 3) := by decide +kernel
theorem zd_X6_remarkAt_26 : decode cX6_remarkAt 26 = .ok (.goto 4, 3) := by decide +kernel
theorem zd_X6_remarkAt_29 : decode cX6_remarkAt 29 = .ok (.aconst_null, 1) := by decide +kernel
theorem zd_X6_remarkAt_30 : decode cX6_remarkAt 30 = .ok (.areturn, 1) := by decide +kernel
theorem zd_X6_latestCount_0 : decode cX6_latestCount 0 = .ok (.aload_n 0, 1) := by decide +kernel
theorem zd_X6_latestCount_1 : decode cX6_latestCount 1 = .ok (.aload_n 0, 1) := by decide +kernel
theorem zd_X6_latestCount_2 : decode cX6_latestCount 2 = .ok (.getfield 12, 3) := by decide +kernel
theorem zd_X6_latestCount_5 : decode cX6_latestCount 5 = .ok (.invokevirtual 37, 3) := by decide +kernel
theorem zd_X6_latestCount_8 : decode cX6_latestCount 8 = .ok (.iconst 1, 1) := by decide +kernel
theorem zd_X6_latestCount_9 : decode cX6_latestCount 9 = .ok (.isub, 1) := by decide +kernel
theorem zd_X6_latestCount_10 : decode cX6_latestCount 10 = .ok (.invokevirtual 56, 3) := by decide +kernel
theorem zd_X6_latestCount_13 : decode cX6_latestCount 13 = .ok (.astore_n 1, 1) := by decide +kernel
theorem zd_X6_latestCount_14 : decode cX6_latestCount 14 = .ok (.aload_n 1, 1) := by decide +kernel
theorem zd_X6_latestCount_15 : decode cX6_latestCount 15 = .ok (.ifnonnull 7, 3) := by decide +kernel
theorem zd_X6_latestCount_18 : decode cX6_latestCount 18 = .ok (.iconst 0, 1) := by decide +kernel
theorem zd_X6_latestCount_19 : decode cX6_latestCount 19 = .ok (.goto 7, 3) := by decide +kernel
theorem zd_X6_latestCount_22 : decode cX6_latestCount 22 = .ok (.aload_n 1, 1) := by decide +kernel
theorem zd_X6_latestCount_23 : decode cX6_latestCount 23 = .ok (.invokevirtual 60, 3) := by decide +kernel
theorem zd_X6_latestCount_26 : decode cX6_latestCount 26 = .ok (.ireturn, 1) := by decide +kernel
theorem zd_X6_mayBeRule_0 : decode cX6_mayBeRule 0 = .ok (.iload_n 1, 1) := by decide +kernel
theorem zd_X6_mayBeRule_1 : decode cX6_mayBeRule 1 = .ok (.tableswitch 76 0 2 #[27, 44, 60], 27) := by decide +kernel
theorem zd_X6_mayBeRule_28 : decode cX6_mayBeRule 28 = .ok (.iload_n 2, 1) := by decide +kernel
theorem zd_X6_mayBeRule_29 : decode cX6_mayBeRule 29 = .ok (.iconst 1, 1) := by decide +kernel
theorem zd_X6_mayBeRule_30 : decode cX6_mayBeRule 30 = .ok (.if_icmp .lt 13, 3) := by decide +kernel
theorem zd_X6_mayBeRule_33 : decode cX6_mayBeRule 33 = .ok (.iload_n 2, 1) := by decide +kernel
theorem zd_X6_mayBeRule_34 : decode cX6_mayBeRule 34 = .ok (.bipush 9, 2) := by decide +kernel
theorem zd_X6_mayBeRule_36 : decode cX6_mayBeRule 36 = .ok (.if_icmp .gt 7, 3) := by decide +kernel
theorem zd_X6_mayBeRule_39 : decode cX6_mayBeRule 39 = .ok (.iconst 1, 1) := by decide +kernel
theorem zd_X6_mayBeRule_40 : decode cX6_mayBeRule 40 = .ok (.goto 4, 3) := by decide +kernel
theorem zd_X6_mayBeRule_43 : decode cX6_mayBeRule 43 = .ok (.iconst 0, 1) := by decide +kernel
theorem zd_X6_mayBeRule_44 : decode cX6_mayBeRule 44 = .ok (.ireturn, 1) := by decide +kernel
theorem zd_X6_mayBeRule_45 : decode cX6_mayBeRule 45 = .ok (.iload_n 2, 1) := by decide +kernel
theorem zd_X6_mayBeRule_46 : decode cX6_mayBeRule 46 = .ok (.ifCond .lt 13, 3) := by decide +kernel
theorem zd_X6_mayBeRule_49 : decode cX6_mayBeRule 49 = .ok (.iload_n 2, 1) := by decide +kernel
theorem zd_X6_mayBeRule_50 : decode cX6_mayBeRule 50 = .ok (.bipush 99, 2) := by decide +kernel
theorem zd_X6_mayBeRule_52 : decode cX6_mayBeRule 52 = .ok (.if_icmp .gt 7, 3) := by decide +kernel
theorem zd_X6_mayBeRule_55 : decode cX6_mayBeRule 55 = .ok (.iconst 1, 1) := by decide +kernel
theorem zd_X6_mayBeRule_56 : decode cX6_mayBeRule 56 = .ok (.goto 4, 3) := by decide +kernel
theorem zd_X6_mayBeRule_59 : decode cX6_mayBeRule 59 = .ok (.iconst 0, 1) := by decide +kernel
theorem zd_X6_mayBeRule_60 : decode cX6_mayBeRule 60 = .ok (.ireturn, 1) := by decide +kernel
theorem zd_X6_mayBeRule_61 : decode cX6_mayBeRule 61 = .ok (.iload_n 2, 1) := by decide +kernel
theorem zd_X6_mayBeRule_62 : decode cX6_mayBeRule 62 = .ok (.ifCond .lt 13, 3) := by decide +kernel
theorem zd_X6_mayBeRule_65 : decode cX6_mayBeRule 65 = .ok (.iload_n 2, 1) := by decide +kernel
theorem zd_X6_mayBeRule_66 : decode cX6_mayBeRule 66 = .ok (.bipush 20, 2) := by decide +kernel
theorem zd_X6_mayBeRule_68 : decode cX6_mayBeRule 68 = .ok (.if_icmp .gt 7, 3) := by decide +kernel
theorem zd_X6_mayBeRule_71 : decode cX6_mayBeRule 71 = .ok (.iconst 1, 1) := by decide +kernel
theorem zd_X6_mayBeRule_72 : decode cX6_mayBeRule 72 = .ok (.goto 4, 3) := by decide +kernel
theorem zd_X6_mayBeRule_75 : decode cX6_mayBeRule 75 = .ok (.iconst 0, 1) := by decide +kernel
theorem zd_X6_mayBeRule_76 : decode cX6_mayBeRule 76 = .ok (.ireturn, 1) := by decide +kernel
theorem zd_X6_mayBeRule_77 : decode cX6_mayBeRule 77 = .ok (.iconst 0, 1) := by decide +kernel
theorem zd_X6_mayBeRule_78 : decode cX6_mayBeRule 78 = .ok (.ireturn, 1) := by decide +kernel
theorem zd_X6_ruleOf_0 : decode cX6_ruleOf 0 = .ok (.iload_n 1, 1) := by decide +kernel
theorem zd_X6_ruleOf_1 : decode cX6_ruleOf 1 = .ok (.lookupswitch 37 #[(0, 27), (1, 32)], 27) := by decide +kernel
theorem zd_X6_ruleOf_28 : decode cX6_ruleOf 28 = .ok (.aload_n 0, 1) := by decide +kernel
theorem zd_X6_ruleOf_29 : decode cX6_ruleOf 29 = .ok (.getfield 21, 3) := by decide +kernel
theorem zd_X6_ruleOf_32 : decode cX6_ruleOf 32 = .ok (.ireturn, 1) := by decide +kernel
theorem zd_X6_ruleOf_33 : decode cX6_ruleOf 33 = .ok (.aload_n 0, 1) := by decide +kernel
theorem zd_X6_ruleOf_34 : decode cX6_ruleOf 34 = .ok (.getfield 25, 3) := by decide +kernel
theorem zd_X6_ruleOf_37 : decode cX6_ruleOf 37 = .ok (.ireturn, 1) := by decide +kernel
theorem zd_X6_ruleOf_38 : decode cX6_ruleOf 38 = .ok (.aload_n 0, 1) := by decide +kernel
theorem zd_X6_ruleOf_39 : decode cX6_ruleOf 39 = .ok (.getfield 28, 3) := by decide +kernel
theorem zd_X6_ruleOf_42 : decode cX6_ruleOf 42 = .ok (.ireturn, 1) := by decide +kernel
theorem zd_X6_changeRule_0 : decode cX6_changeRule 0 = .ok (.iload_n 1, 1) := by decide +kernel
theorem zd_X6_changeRule_1 : decode cX6_changeRule 1 = .ok (.lookupswitch 43 #[(0, 27), (1, 35)], 27) := by decide +kernel
theorem zd_X6_changeRule_28 : decode cX6_changeRule 28 = .ok (.aload_n 0, 1) := by decide +kernel
theorem zd_X6_changeRule_29 : decode cX6_changeRule 29 = .ok (.iload_n 2, 1) := by decide +kernel
theorem zd_X6_changeRule_30 : decode cX6_changeRule 30 = .ok (.putfield 21, 3) := by decide +kernel
theorem zd_X6_changeRule_33 : decode cX6_changeRule 33 = .ok (.goto 16, 3) := by decide +kernel
theorem zd_X6_changeRule_36 : decode cX6_changeRule 36 = .ok (.aload_n 0, 1) := by decide +kernel
theorem zd_X6_changeRule_37 : decode cX6_changeRule 37 = .ok (.iload_n 2, 1) := by decide +kernel
theorem zd_X6_changeRule_38 : decode cX6_changeRule 38 = .ok (.putfield 25, 3) := by decide +kernel
theorem zd_X6_changeRule_41 : decode cX6_changeRule 41 = .ok (.goto 8, 3) := by decide +kernel
theorem zd_X6_changeRule_44 : decode cX6_changeRule 44 = .ok (.aload_n 0, 1) := by decide +kernel
theorem zd_X6_changeRule_45 : decode cX6_changeRule 45 = .ok (.iload_n 2, 1) := by decide +kernel
theorem zd_X6_changeRule_46 : decode cX6_changeRule 46 = .ok (.putfield 28, 3) := by decide +kernel
theorem zd_X6_changeRule_49 : decode cX6_changeRule 49 = .ok (.return_, 1) := by decide +kernel
theorem zd_X6_draw_0 : decode cX6_draw 0 = .ok (.aload_n 0, 1) := by decide +kernel
theorem zd_X6_draw_1 : decode cX6_draw 1 = .ok (.aload_n 0, 1) := by decide +kernel
theorem zd_X6_draw_2 : decode cX6_draw 2 = .ok (.getfield 31, 3) := by decide +kernel
theorem zd_X6_draw_5 : decode cX6_draw 5 = .ok (.ldc 63, 2) := by decide +kernel
theorem zd_X6_draw_7 : decode cX6_draw 7 = .ok (.imul, 1) := by decide +kernel
theorem zd_X6_draw_8 : decode cX6_draw 8 = .ok (.sipush 12345, 3) := by decide +kernel
theorem zd_X6_draw_11 : decode cX6_draw 11 = .ok (.iadd, 1) := by decide +kernel
theorem zd_X6_draw_12 : decode cX6_draw 12 = .ok (.putfield 31, 3) := by decide +kernel
theorem zd_X6_draw_15 : decode cX6_draw 15 = .ok (.iload_n 1, 1) := by decide +kernel
theorem zd_X6_draw_16 : decode cX6_draw 16 = .ok (.ifCond .gt 7, 3) := by decide +kernel
theorem zd_X6_draw_19 : decode cX6_draw 19 = .ok (.iconst 0, 1) := by decide +kernel
theorem zd_X6_draw_20 : decode cX6_draw 20 = .ok (.goto 12, 3) := by decide +kernel
theorem zd_X6_draw_23 : decode cX6_draw 23 = .ok (.aload_n 0, 1) := by decide +kernel
theorem zd_X6_draw_24 : decode cX6_draw 24 = .ok (.getfield 31, 3) := by decide +kernel
theorem zd_X6_draw_27 : decode cX6_draw 27 = .ok (.bipush 16, 2) := by decide +kernel
theorem zd_X6_draw_29 : decode cX6_draw 29 = .ok (.iushr, 1) := by decide +kernel
theorem zd_X6_draw_30 : decode cX6_draw 30 = .ok (.iload_n 1, 1) := by decide +kernel
theorem zd_X6_draw_31 : decode cX6_draw 31 = .ok (.irem, 1) := by decide +kernel
theorem zd_X6_draw_32 : decode cX6_draw 32 = .ok (.ireturn, 1) := by decide +kernel
theorem zd_X6_isSettled_0 : decode cX6_isSettled 0 = .ok (.aload_n 0, 1) := by decide +kernel
theorem zd_X6_isSettled_1 : decode cX6_isSettled 1 = .ok (.getfield 53, 3) := by decide +kernel
theorem zd_X6_isSettled_4 : decode cX6_isSettled 4 = .ok (.iload_n 1, 1) := by decide +kernel
theorem zd_X6_isSettled_5 : decode cX6_isSettled 5 = .ok (.ishr, 1) := by decide +kernel
theorem zd_X6_isSettled_6 : decode cX6_isSettled 6 = .ok (.iconst 1, 1) := by decide +kernel
theorem zd_X6_isSettled_7 : decode cX6_isSettled 7 = .ok (.iand, 1) := by decide +kernel
theorem zd_X6_isSettled_8 : decode cX6_isSettled 8 = .ok (.iconst 1, 1) := by decide +kernel
theorem zd_X6_isSettled_9 : decode cX6_isSettled 9 = .ok (.if_icmp .ne 7, 3) := by decide +kernel
theorem zd_X6_isSettled_12 : decode cX6_isSettled 12 = .ok (.iconst 1, 1) := by decide +kernel
theorem zd_X6_isSettled_13 : decode cX6_isSettled 13 = .ok (.goto 4, 3) := by decide +kernel
theorem zd_X6_isSettled_16 : decode cX6_isSettled 16 = .ok (.iconst 0, 1) := by decide +kernel
theorem zd_X6_isSettled_17 : decode cX6_isSettled 17 = .ok (.ireturn, 1) := by decide +kernel
theorem zd_X6_unsettledOn_0 : decode cX6_unsettledOn 0 = .ok (.iconst 0, 1) := by decide +kernel
theorem zd_X6_unsettledOn_1 : decode cX6_unsettledOn 1 = .ok (.istore_n 2, 1) := by decide +kernel
theorem zd_X6_unsettledOn_2 : decode cX6_unsettledOn 2 = .ok (.iconst 0, 1) := by decide +kernel
theorem zd_X6_unsettledOn_3 : decode cX6_unsettledOn 3 = .ok (.istore_n 3, 1) := by decide +kernel
theorem zd_X6_unsettledOn_4 : decode cX6_unsettledOn 4 = .ok (.iload_n 3, 1) := by decide +kernel
theorem zd_X6_unsettledOn_5 : decode cX6_unsettledOn 5 = .ok (.aload_n 0, 1) := by decide +kernel
theorem zd_X6_unsettledOn_6 : decode cX6_unsettledOn 6 = .ok (.getfield 18, 3) := by decide +kernel
theorem zd_X6_unsettledOn_9 : decode cX6_unsettledOn 9 = .ok (.invokevirtual 37, 3) := by decide +kernel
theorem zd_X6_unsettledOn_12 : decode cX6_unsettledOn 12 = .ok (.if_icmp .ge 38, 3) := by decide +kernel
theorem zd_X6_unsettledOn_15 : decode cX6_unsettledOn 15 = .ok (.aload_n 0, 1) := by decide +kernel
theorem zd_X6_unsettledOn_16 : decode cX6_unsettledOn 16 = .ok (.getfield 18, 3) := by decide +kernel
theorem zd_X6_unsettledOn_19 : decode cX6_unsettledOn 19 = .ok (.iload_n 3, 1) := by decide +kernel
theorem zd_X6_unsettledOn_20 : decode cX6_unsettledOn 20 = .ok (.invokevirtual 41, 3) := by decide +kernel
theorem zd_X6_unsettledOn_23 : decode cX6_unsettledOn 23 = .ok (.checkcast 51, 3) := by decide +kernel
theorem zd_X6_unsettledOn_26 : decode cX6_unsettledOn 26 = .ok (.getfield 64, 3) := by decide +kernel
theorem zd_X6_unsettledOn_29 : decode cX6_unsettledOn 29 = .ok (.aload_n 1, 1) := by decide +kernel
theorem zd_X6_unsettledOn_30 : decode cX6_unsettledOn 30 = .ok (.if_acmp .ne 14, 3) := by decide +kernel
theorem zd_X6_unsettledOn_33 : decode cX6_unsettledOn 33 = .ok (.aload_n 0, 1) := by decide +kernel
theorem zd_X6_unsettledOn_34 : decode cX6_unsettledOn 34 = .ok (.iload_n 3, 1) := by decide +kernel
theorem zd_X6_unsettledOn_35 : decode cX6_unsettledOn 35 = .ok (.invokevirtual 68, 3) := by decide +kernel
theorem zd_X6_unsettledOn_38 : decode cX6_unsettledOn 38 = .ok (.ifCond .ne 6, 3) := by decide +kernel
theorem zd_X6_unsettledOn_41 : decode cX6_unsettledOn 41 = .ok (.iinc 2 1, 3) := by decide +kernel
theorem zd_X6_unsettledOn_44 : decode cX6_unsettledOn 44 = .ok (.iinc 3 1, 3) := by decide +kernel
theorem zd_X6_unsettledOn_47 : decode cX6_unsettledOn 47 = .ok (.goto (-43), 3) := by decide +kernel
theorem zd_X6_unsettledOn_50 : decode cX6_unsettledOn 50 = .ok (.iload_n 2, 1) := by decide +kernel
theorem zd_X6_unsettledOn_51 : decode cX6_unsettledOn 51 = .ok (.ireturn, 1) := by decide +kernel
theorem zd_X6_depthOf_0 : decode cX6_depthOf 0 = .ok (.iconst 0, 1) := by decide +kernel
theorem zd_X6_depthOf_1 : decode cX6_depthOf 1 = .ok (.istore_n 2, 1) := by decide +kernel
theorem zd_X6_depthOf_2 : decode cX6_depthOf 2 = .ok (.aload_n 0, 1) := by decide +kernel
theorem zd_X6_depthOf_3 : decode cX6_depthOf 3 = .ok (.iload_n 1, 1) := by decide +kernel
theorem zd_X6_depthOf_4 : decode cX6_depthOf 4 = .ok (.invokevirtual 72, 3) := by decide +kernel
theorem zd_X6_depthOf_7 : decode cX6_depthOf 7 = .ok (.astore_n 3, 1) := by decide +kernel
theorem zd_X6_depthOf_8 : decode cX6_depthOf 8 = .ok (.aload_n 3, 1) := by decide +kernel
theorem zd_X6_depthOf_9 : decode cX6_depthOf 9 = .ok (.ifnull 32, 3) := by decide +kernel
theorem zd_X6_depthOf_12 : decode cX6_depthOf 12 = .ok (.aload_n 3, 1) := by decide +kernel
theorem zd_X6_depthOf_13 : decode cX6_depthOf 13 = .ok (.getfield 76, 3) := by decide +kernel
theorem zd_X6_depthOf_16 : decode cX6_depthOf 16 = .ok (.iconst (-1), 1) := by decide +kernel
theorem zd_X6_depthOf_17 : decode cX6_depthOf 17 = .ok (.if_icmp .eq 24, 3) := by decide +kernel
theorem zd_X6_depthOf_20 : decode cX6_depthOf 20 = .ok (.iload_n 2, 1) := by decide +kernel
theorem zd_X6_depthOf_21 : decode cX6_depthOf 21 = .ok (.bipush 16, 2) := by decide +kernel
theorem zd_X6_depthOf_23 : decode cX6_depthOf 23 = .ok (.if_icmp .ge 18, 3) := by decide +kernel
theorem zd_X6_depthOf_26 : decode cX6_depthOf 26 = .ok (.iinc 2 1, 3) := by decide +kernel
theorem zd_X6_depthOf_29 : decode cX6_depthOf 29 = .ok (.aload_n 0, 1) := by decide +kernel
theorem zd_X6_depthOf_30 : decode cX6_depthOf 30 = .ok (.aload_n 3, 1) := by decide +kernel
theorem zd_X6_depthOf_31 : decode cX6_depthOf 31 = .ok (.getfield 76, 3) := by decide +kernel
theorem zd_X6_depthOf_34 : decode cX6_depthOf 34 = .ok (.invokevirtual 72, 3) := by decide +kernel
theorem zd_X6_depthOf_37 : decode cX6_depthOf 37 = .ok (.astore_n 3, 1) := by decide +kernel
theorem zd_X6_depthOf_38 : decode cX6_depthOf 38 = .ok (.goto (-30), 3) := by decide +kernel
theorem zd_X6_depthOf_41 : decode cX6_depthOf 41 = .ok (.iload_n 2, 1) := by decide +kernel
theorem zd_X6_depthOf_42 : decode cX6_depthOf 42 = .ok (.ireturn, 1) := by decide +kernel
theorem zd_X6_threadOf_0 : decode cX6_threadOf 0 = .ok (.iconst 0, 1) := by decide +kernel
theorem zd_X6_threadOf_1 : decode cX6_threadOf 1 = .ok (.istore_n 2, 1) := by decide +kernel
theorem zd_X6_threadOf_2 : decode cX6_threadOf 2 = .ok (.iconst 0, 1) := by decide +kernel
theorem zd_X6_threadOf_3 : decode cX6_threadOf 3 = .ok (.istore_n 3, 1) := by decide +kernel
theorem zd_X6_threadOf_4 : decode cX6_threadOf 4 = .ok (.iload_n 3, 1) := by decide +kernel
theorem zd_X6_threadOf_5 : decode cX6_threadOf 5 = .ok (.aload_n 0, 1) := by decide +kernel
theorem zd_X6_threadOf_6 : decode cX6_threadOf 6 = .ok (.getfield 18, 3) := by decide +kernel
theorem zd_X6_threadOf_9 : decode cX6_threadOf 9 = .ok (.invokevirtual 37, 3) := by decide +kernel
theorem zd_X6_threadOf_12 : decode cX6_threadOf 12 = .ok (.if_icmp .ge 53, 3) := by decide +kernel
theorem zd_X6_threadOf_15 : decode cX6_threadOf 15 = .ok (.aload_n 0, 1) := by decide +kernel
theorem zd_X6_threadOf_16 : decode cX6_threadOf 16 = .ok (.getfield 18, 3) := by decide +kernel
theorem zd_X6_threadOf_19 : decode cX6_threadOf 19 = .ok (.iload_n 3, 1) := by decide +kernel
theorem zd_X6_threadOf_20 : decode cX6_threadOf 20 = .ok (.invokevirtual 41, 3) := by decide +kernel
theorem zd_X6_threadOf_23 : decode cX6_threadOf 23 = .ok (.checkcast 51, 3) := by decide +kernel
theorem zd_X6_threadOf_26 : decode cX6_threadOf 26 = .ok (.getfield 76, 3) := by decide +kernel
theorem zd_X6_threadOf_29 : decode cX6_threadOf 29 = .ok (.istore 4, 2) := by decide +kernel
theorem zd_X6_threadOf_31 : decode cX6_threadOf 31 = .ok (.iload 4, 2) := by decide +kernel
theorem zd_X6_threadOf_33 : decode cX6_threadOf 33 = .ok (.iconst (-1), 1) := by decide +kernel
theorem zd_X6_threadOf_34 : decode cX6_threadOf 34 = .ok (.if_icmp .eq 25, 3) := by decide +kernel
theorem zd_X6_threadOf_37 : decode cX6_threadOf 37 = .ok (.iload 4, 2) := by decide +kernel
theorem zd_X6_threadOf_39 : decode cX6_threadOf 39 = .ok (.iload_n 1, 1) := by decide +kernel
theorem zd_X6_threadOf_40 : decode cX6_threadOf 40 = .ok (.if_icmp .eq 13, 3) := by decide +kernel
theorem zd_X6_threadOf_43 : decode cX6_threadOf 43 = .ok (.iload_n 2, 1) := by decide +kernel
theorem zd_X6_threadOf_44 : decode cX6_threadOf 44 = .ok (.iload 4, 2) := by decide +kernel
theorem zd_X6_threadOf_46 : decode cX6_threadOf 46 = .ok (.ishr, 1) := by decide +kernel
theorem zd_X6_threadOf_47 : decode cX6_threadOf 47 = .ok (.iconst 1, 1) := by decide +kernel
theorem zd_X6_threadOf_48 : decode cX6_threadOf 48 = .ok (.iand, 1) := by decide +kernel
theorem zd_X6_threadOf_49 : decode cX6_threadOf 49 = .ok (.iconst 1, 1) := by decide +kernel
theorem zd_X6_threadOf_50 : decode cX6_threadOf 50 = .ok (.if_icmp .ne 9, 3) := by decide +kernel
theorem zd_X6_threadOf_53 : decode cX6_threadOf 53 = .ok (.iload_n 2, 1) := by decide +kernel
theorem zd_X6_threadOf_54 : decode cX6_threadOf 54 = .ok (.iconst 1, 1) := by decide +kernel
theorem zd_X6_threadOf_55 : decode cX6_threadOf 55 = .ok (.iload_n 3, 1) := by decide +kernel
theorem zd_X6_threadOf_56 : decode cX6_threadOf 56 = .ok (.ishl, 1) := by decide +kernel
theorem zd_X6_threadOf_57 : decode cX6_threadOf 57 = .ok (.ior, 1) := by decide +kernel
theorem zd_X6_threadOf_58 : decode cX6_threadOf 58 = .ok (.istore_n 2, 1) := by decide +kernel
theorem zd_X6_threadOf_59 : decode cX6_threadOf 59 = .ok (.iinc 3 1, 3) := by decide +kernel
theorem zd_X6_threadOf_62 : decode cX6_threadOf 62 = .ok (.goto (-58), 3) := by decide +kernel
theorem zd_X6_threadOf_65 : decode cX6_threadOf 65 = .ok (.iload_n 2, 1) := by decide +kernel
theorem zd_X6_threadOf_66 : decode cX6_threadOf 66 = .ok (.ireturn, 1) := by decide +kernel
theorem zd_X6_isOpen_0 : decode cX6_isOpen 0 = .ok (.aload_n 0, 1) := by decide +kernel
theorem zd_X6_isOpen_1 : decode cX6_isOpen 1 = .ok (.iload_n 1, 1) := by decide +kernel
theorem zd_X6_isOpen_2 : decode cX6_isOpen 2 = .ok (.invokevirtual 79, 3) := by decide +kernel
theorem zd_X6_isOpen_5 : decode cX6_isOpen 5 = .ok (.iconst 1, 1) := by decide +kernel
theorem zd_X6_isOpen_6 : decode cX6_isOpen 6 = .ok (.iload_n 1, 1) := by decide +kernel
theorem zd_X6_isOpen_7 : decode cX6_isOpen 7 = .ok (.ishl, 1) := by decide +kernel
theorem zd_X6_isOpen_8 : decode cX6_isOpen 8 = .ok (.ior, 1) := by decide +kernel
theorem zd_X6_isOpen_9 : decode cX6_isOpen 9 = .ok (.aload_n 0, 1) := by decide +kernel
theorem zd_X6_isOpen_10 : decode cX6_isOpen 10 = .ok (.getfield 53, 3) := by decide +kernel
theorem zd_X6_isOpen_13 : decode cX6_isOpen 13 = .ok (.iconst (-1), 1) := by decide +kernel
theorem zd_X6_isOpen_14 : decode cX6_isOpen 14 = .ok (.ixor, 1) := by decide +kernel
theorem zd_X6_isOpen_15 : decode cX6_isOpen 15 = .ok (.iand, 1) := by decide +kernel
theorem zd_X6_isOpen_16 : decode cX6_isOpen 16 = .ok (.ifCond .eq 7, 3) := by decide +kernel
theorem zd_X6_isOpen_19 : decode cX6_isOpen 19 = .ok (.iconst 1, 1) := by decide +kernel
theorem zd_X6_isOpen_20 : decode cX6_isOpen 20 = .ok (.goto 4, 3) := by decide +kernel
theorem zd_X6_isOpen_23 : decode cX6_isOpen 23 = .ok (.iconst 0, 1) := by decide +kernel
theorem zd_X6_isOpen_24 : decode cX6_isOpen 24 = .ok (.ireturn, 1) := by decide +kernel
theorem zd_X6_openRoots_0 : decode cX6_openRoots 0 = .ok (.iconst 0, 1) := by decide +kernel
theorem zd_X6_openRoots_1 : decode cX6_openRoots 1 = .ok (.istore_n 1, 1) := by decide +kernel
theorem zd_X6_openRoots_2 : decode cX6_openRoots 2 = .ok (.iconst 0, 1) := by decide +kernel
theorem zd_X6_openRoots_3 : decode cX6_openRoots 3 = .ok (.istore_n 2, 1) := by decide +kernel
theorem zd_X6_openRoots_4 : decode cX6_openRoots 4 = .ok (.iload_n 2, 1) := by decide +kernel
theorem zd_X6_openRoots_5 : decode cX6_openRoots 5 = .ok (.aload_n 0, 1) := by decide +kernel
theorem zd_X6_openRoots_6 : decode cX6_openRoots 6 = .ok (.getfield 18, 3) := by decide +kernel
theorem zd_X6_openRoots_9 : decode cX6_openRoots 9 = .ok (.invokevirtual 37, 3) := by decide +kernel
theorem zd_X6_openRoots_12 : decode cX6_openRoots 12 = .ok (.if_icmp .ge 38, 3) := by decide +kernel
theorem zd_X6_openRoots_15 : decode cX6_openRoots 15 = .ok (.aload_n 0, 1) := by decide +kernel
theorem zd_X6_openRoots_16 : decode cX6_openRoots 16 = .ok (.getfield 18, 3) := by decide +kernel
theorem zd_X6_openRoots_19 : decode cX6_openRoots 19 = .ok (.iload_n 2, 1) := by decide +kernel
theorem zd_X6_openRoots_20 : decode cX6_openRoots 20 = .ok (.invokevirtual 41, 3) := by decide +kernel
theorem zd_X6_openRoots_23 : decode cX6_openRoots 23 = .ok (.checkcast 51, 3) := by decide +kernel
theorem zd_X6_openRoots_26 : decode cX6_openRoots 26 = .ok (.getfield 76, 3) := by decide +kernel
theorem zd_X6_openRoots_29 : decode cX6_openRoots 29 = .ok (.iconst (-1), 1) := by decide +kernel
theorem zd_X6_openRoots_30 : decode cX6_openRoots 30 = .ok (.if_icmp .ne 14, 3) := by decide +kernel
theorem zd_X6_openRoots_33 : decode cX6_openRoots 33 = .ok (.aload_n 0, 1) := by decide +kernel
theorem zd_X6_openRoots_34 : decode cX6_openRoots 34 = .ok (.iload_n 2, 1) := by decide +kernel
theorem zd_X6_openRoots_35 : decode cX6_openRoots 35 = .ok (.invokevirtual 83, 3) := by decide +kernel
theorem zd_X6_openRoots_38 : decode cX6_openRoots 38 = .ok (.ifCond .eq 6, 3) := by decide +kernel
theorem zd_X6_openRoots_41 : decode cX6_openRoots 41 = .ok (.iinc 1 1, 3) := by decide +kernel
theorem zd_X6_openRoots_44 : decode cX6_openRoots 44 = .ok (.iinc 2 1, 3) := by decide +kernel
theorem zd_X6_openRoots_47 : decode cX6_openRoots 47 = .ok (.goto (-43), 3) := by decide +kernel
theorem zd_X6_openRoots_50 : decode cX6_openRoots 50 = .ok (.iload_n 1, 1) := by decide +kernel
theorem zd_X6_openRoots_51 : decode cX6_openRoots 51 = .ok (.ireturn, 1) := by decide +kernel
theorem zd_X7_init_0 : decode cX7_init 0 = .ok (.aload_n 0, 1) := by decide +kernel
theorem zd_X7_init_1 : decode cX7_init 1 = .ok (.invokespecial 3, 3) := by decide +kernel
theorem zd_X7_init_4 : decode cX7_init 4 = .ok (.aload_n 0, 1) := by decide +kernel
theorem zd_X7_init_5 : decode cX7_init 5 = .ok (.bipush 16, 2) := by decide +kernel
theorem zd_X7_init_7 : decode cX7_init 7 = .ok (.newarray .int, 2) := by decide +kernel
theorem zd_X7_init_9 : decode cX7_init 9 = .ok (.putfield 9, 3) := by decide +kernel
theorem zd_X7_init_12 : decode cX7_init 12 = .ok (.aload_n 0, 1) := by decide +kernel
theorem zd_X7_init_13 : decode cX7_init 13 = .ok (.aload_n 1, 1) := by decide +kernel
theorem zd_X7_init_14 : decode cX7_init 14 = .ok (.putfield 15, 3) := by decide +kernel
theorem zd_X7_init_17 : decode cX7_init 17 = .ok (.aload_n 0, 1) := by decide +kernel
theorem zd_X7_init_18 : decode cX7_init 18 = .ok (.aload_n 2, 1) := by decide +kernel
theorem zd_X7_init_19 : decode cX7_init 19 = .ok (.putfield 19, 3) := by decide +kernel
theorem zd_X7_init_22 : decode cX7_init 22 = .ok (.return_, 1) := by decide +kernel
theorem zd_X8_layWay_0 : decode cX8_layWay 0 = .ok (.aload_n 0, 1) := by decide +kernel
theorem zd_X8_layWay_1 : decode cX8_layWay 1 = .ok (.getfield 12, 3) := by decide +kernel
theorem zd_X8_layWay_4 : decode cX8_layWay 4 = .ok (.invokevirtual 42, 3) := by decide +kernel
theorem zd_X8_layWay_7 : decode cX8_layWay 7 = .ok (.aload_n 2, 1) := by decide +kernel
theorem zd_X8_layWay_8 : decode cX8_layWay 8 = .ok (.astore_n 3, 1) := by decide +kernel
theorem zd_X8_layWay_9 : decode cX8_layWay 9 = .ok (.aload_n 3, 1) := by decide +kernel
theorem zd_X8_layWay_10 : decode cX8_layWay 10 = .ok (.ifnull 27, 3) := by decide +kernel
theorem zd_X8_layWay_13 : decode cX8_layWay 13 = .ok (.aload_n 0, 1) := by decide +kernel
theorem zd_X8_layWay_14 : decode cX8_layWay 14 = .ok (.getfield 12, 3) := by decide +kernel
theorem zd_X8_layWay_17 : decode cX8_layWay 17 = .ok (.aload_n 3, 1) := by decide +kernel
theorem zd_X8_layWay_18 : decode cX8_layWay 18 = .ok (.invokevirtual 45, 3) := by decide +kernel
theorem zd_X8_layWay_21 : decode cX8_layWay 21 = .ok (.pop, 1) := by decide +kernel
theorem zd_X8_layWay_22 : decode cX8_layWay 22 = .ok (.aload_n 3, 1) := by decide +kernel
theorem zd_X8_layWay_23 : decode cX8_layWay 23 = .ok (.aload_n 1, 1) := by decide +kernel
theorem zd_X8_layWay_24 : decode cX8_layWay 24 = .ok (.if_acmp .ne 5, 3) := by decide +kernel
theorem zd_X8_layWay_27 : decode cX8_layWay 27 = .ok (.iconst 1, 1) := by decide +kernel
theorem zd_X8_layWay_28 : decode cX8_layWay 28 = .ok (.ireturn, 1) := by decide +kernel
theorem zd_X8_layWay_29 : decode cX8_layWay 29 = .ok (.aload_n 3, 1) := by decide +kernel
theorem zd_X8_layWay_30 : decode cX8_layWay 30 = .ok (.getfield 49, 3) := by decide +kernel
theorem zd_X8_layWay_33 : decode cX8_layWay 33 = .ok (.astore_n 3, 1) := by decide +kernel
theorem zd_X8_layWay_34 : decode cX8_layWay 34 = .ok (.goto (-25), 3) := by decide +kernel
theorem zd_X8_layWay_37 : decode cX8_layWay 37 = .ok (.iconst 0, 1) := by decide +kernel
theorem zd_X8_layWay_38 : decode cX8_layWay 38 = .ok (.ireturn, 1) := by decide +kernel
theorem zd_X8_begin_0 : decode cX8_begin 0 = .ok (.aload_n 0, 1) := by decide +kernel
theorem zd_X8_begin_1 : decode cX8_begin 1 = .ok (.aload_n 1, 1) := by decide +kernel
theorem zd_X8_begin_2 : decode cX8_begin 2 = .ok (.getfield 95, 3) := by decide +kernel
theorem zd_X8_begin_5 : decode cX8_begin 5 = .ok (.putfield 18, 3) := by decide +kernel
theorem zd_X8_begin_8 : decode cX8_begin 8 = .ok (.aload_n 0, 1) := by decide +kernel
theorem zd_X8_begin_9 : decode cX8_begin 9 = .ok (.iconst 0, 1) := by decide +kernel
theorem zd_X8_begin_10 : decode cX8_begin 10 = .ok (.putfield 22, 3) := by decide +kernel
theorem zd_X8_begin_13 : decode cX8_begin 13 = .ok (.return_, 1) := by decide +kernel
theorem zd_X8_scoreAt_0 : decode cX8_scoreAt 0 = .ok (.iconst 0, 1) := by decide +kernel
theorem zd_X8_scoreAt_1 : decode cX8_scoreAt 1 = .ok (.istore_n 3, 1) := by decide +kernel
theorem zd_X8_scoreAt_2 : decode cX8_scoreAt 2 = .ok (.iconst 0, 1) := by decide +kernel
theorem zd_X8_scoreAt_3 : decode cX8_scoreAt 3 = .ok (.istore 4, 2) := by decide +kernel
theorem zd_X8_scoreAt_5 : decode cX8_scoreAt 5 = .ok (.iload 4, 2) := by decide +kernel
theorem zd_X8_scoreAt_7 : decode cX8_scoreAt 7 = .ok (.aload_n 0, 1) := by decide +kernel
theorem zd_X8_scoreAt_8 : decode cX8_scoreAt 8 = .ok (.getfield 119, 3) := by decide +kernel
theorem zd_X8_scoreAt_11 : decode cX8_scoreAt 11 = .ok (.iconst 2, 1) := by decide +kernel
theorem zd_X8_scoreAt_12 : decode cX8_scoreAt 12 = .ok (.iadd, 1) := by decide +kernel
theorem zd_X8_scoreAt_13 : decode cX8_scoreAt 13 = .ok (.if_icmp .ge 64, 3) := by decide +kernel
theorem zd_X8_scoreAt_16 : decode cX8_scoreAt 16 = .ok (.iload 4, 2) := by decide +kernel
theorem zd_X8_scoreAt_18 : decode cX8_scoreAt 18 = .ok (.aload_n 0, 1) := by decide +kernel
theorem zd_X8_scoreAt_19 : decode cX8_scoreAt 19 = .ok (.getfield 25, 3) := by decide +kernel
theorem zd_X8_scoreAt_22 : decode cX8_scoreAt 22 = .ok (.arraylength, 1) := by decide +kernel
theorem zd_X8_scoreAt_23 : decode cX8_scoreAt 23 = .ok (.if_icmp .ge 54, 3) := by decide +kernel
theorem zd_X8_scoreAt_26 : decode cX8_scoreAt 26 = .ok (.aload_n 0, 1) := by decide +kernel
theorem zd_X8_scoreAt_27 : decode cX8_scoreAt 27 = .ok (.getfield 25, 3) := by decide +kernel
theorem zd_X8_scoreAt_30 : decode cX8_scoreAt 30 = .ok (.iload 4, 2) := by decide +kernel
theorem zd_X8_scoreAt_32 : decode cX8_scoreAt 32 = .ok (.laload, 1) := by decide +kernel
theorem zd_X8_scoreAt_33 : decode cX8_scoreAt 33 = .ok (.aload_n 1, 1) := by decide +kernel
theorem zd_X8_scoreAt_34 : decode cX8_scoreAt 34 = .ok (.iload_n 2, 1) := by decide +kernel
theorem zd_X8_scoreAt_35 : decode cX8_scoreAt 35 = .ok (.iconst 1, 1) := by decide +kernel
theorem zd_X8_scoreAt_36 : decode cX8_scoreAt 36 = .ok (.isub, 1) := by decide +kernel
theorem zd_X8_scoreAt_37 : decode cX8_scoreAt 37 = .ok (.iload 4, 2) := by decide +kernel
theorem zd_X8_scoreAt_39 : decode cX8_scoreAt 39 = .ok (.iadd, 1) := by decide +kernel
theorem zd_X8_scoreAt_40 : decode cX8_scoreAt 40 = .ok (.invokevirtual 129, 3) := by decide +kernel
theorem zd_X8_scoreAt_43 : decode cX8_scoreAt 43 = .ok (.lcmp, 1) := by decide +kernel
theorem zd_X8_scoreAt_44 : decode cX8_scoreAt 44 = .ok (.ifCond .ne 27, 3) := by decide +kernel
theorem zd_X8_scoreAt_47 : decode cX8_scoreAt 47 = .ok (.iload_n 3, 1) := by decide +kernel
theorem zd_X8_scoreAt_48 : decode cX8_scoreAt 48 = .ok (.iload 4, 2) := by decide +kernel
theorem zd_X8_scoreAt_50 : decode cX8_scoreAt 50 = .ok (.ifCond .eq 14, 3) := by decide +kernel
theorem zd_X8_scoreAt_53 : decode cX8_scoreAt 53 = .ok (.iload 4, 2) := by decide +kernel
theorem zd_X8_scoreAt_55 : decode cX8_scoreAt 55 = .ok (.aload_n 0, 1) := by decide +kernel
theorem zd_X8_scoreAt_56 : decode cX8_scoreAt 56 = .ok (.getfield 119, 3) := by decide +kernel
theorem zd_X8_scoreAt_59 : decode cX8_scoreAt 59 = .ok (.iconst 1, 1) := by decide +kernel
theorem zd_X8_scoreAt_60 : decode cX8_scoreAt 60 = .ok (.iadd, 1) := by decide +kernel
theorem zd_X8_scoreAt_61 : decode cX8_scoreAt 61 = .ok (.if_icmp .ne 7, 3) := by decide +kernel
theorem zd_X8_scoreAt_64 : decode cX8_scoreAt 64 = .ok (.iconst 2, 1) := by decide +kernel
theorem zd_X8_scoreAt_65 : decode cX8_scoreAt 65 = .ok (.goto 4, 3) := by decide +kernel
theorem zd_X8_scoreAt_68 : decode cX8_scoreAt 68 = .ok (.iconst 3, 1) := by decide +kernel
theorem zd_X8_scoreAt_69 : decode cX8_scoreAt 69 = .ok (.iadd, 1) := by decide +kernel
theorem zd_X8_scoreAt_70 : decode cX8_scoreAt 70 = .ok (.istore_n 3, 1) := by decide +kernel
theorem zd_X8_scoreAt_71 : decode cX8_scoreAt 71 = .ok (.iinc 4 1, 3) := by decide +kernel
theorem zd_X8_scoreAt_74 : decode cX8_scoreAt 74 = .ok (.goto (-69), 3) := by decide +kernel
theorem zd_X8_scoreAt_77 : decode cX8_scoreAt 77 = .ok (.iload_n 3, 1) := by decide +kernel
theorem zd_X8_scoreAt_78 : decode cX8_scoreAt 78 = .ok (.ireturn, 1) := by decide +kernel
theorem zd_X8_weigh_0 : decode cX8_weigh 0 = .ok (.aload_n 0, 1) := by decide +kernel
theorem zd_X8_weigh_1 : decode cX8_weigh 1 = .ok (.iconst (-1), 1) := by decide +kernel
theorem zd_X8_weigh_2 : decode cX8_weigh 2 = .ok (.putfield 29, 3) := by decide +kernel
theorem zd_X8_weigh_5 : decode cX8_weigh 5 = .ok (.aload_n 0, 1) := by decide +kernel
theorem zd_X8_weigh_6 : decode cX8_weigh 6 = .ok (.iconst (-1), 1) := by decide +kernel
theorem zd_X8_weigh_7 : decode cX8_weigh 7 = .ok (.putfield 32, 3) := by decide +kernel
theorem zd_X8_weigh_10 : decode cX8_weigh 10 = .ok (.aload_n 0, 1) := by decide +kernel
theorem zd_X8_weigh_11 : decode cX8_weigh 11 = .ok (.iconst (-1), 1) := by decide +kernel
theorem zd_X8_weigh_12 : decode cX8_weigh 12 = .ok (.putfield 35, 3) := by decide +kernel
theorem zd_X8_weigh_15 : decode cX8_weigh 15 = .ok (.iconst 0, 1) := by decide +kernel
theorem zd_X8_weigh_16 : decode cX8_weigh 16 = .ok (.istore_n 2, 1) := by decide +kernel
theorem zd_X8_weigh_17 : decode cX8_weigh 17 = .ok (.iload_n 2, 1) := by decide +kernel
theorem zd_X8_weigh_18 : decode cX8_weigh 18 = .ok (.aload_n 1, 1) := by decide +kernel
theorem zd_X8_weigh_19 : decode cX8_weigh 19 = .ok (.invokevirtual 133, 3) := by decide +kernel
theorem zd_X8_weigh_22 : decode cX8_weigh 22 = .ok (.aload_n 0, 1) := by decide +kernel
theorem zd_X8_weigh_23 : decode cX8_weigh 23 = .ok (.getfield 119, 3) := by decide +kernel
theorem zd_X8_weigh_26 : decode cX8_weigh 26 = .ok (.isub, 1) := by decide +kernel
theorem zd_X8_weigh_27 : decode cX8_weigh 27 = .ok (.if_icmp .gt 57, 3) := by decide +kernel
theorem zd_X8_weigh_30 : decode cX8_weigh 30 = .ok (.aload_n 0, 1) := by decide +kernel
theorem zd_X8_weigh_31 : decode cX8_weigh 31 = .ok (.aload_n 1, 1) := by decide +kernel
theorem zd_X8_weigh_32 : decode cX8_weigh 32 = .ok (.iload_n 2, 1) := by decide +kernel
theorem zd_X8_weigh_33 : decode cX8_weigh 33 = .ok (.invokevirtual 136, 3) := by decide +kernel
theorem zd_X8_weigh_36 : decode cX8_weigh 36 = .ok (.istore_n 3, 1) := by decide +kernel
theorem zd_X8_weigh_37 : decode cX8_weigh 37 = .ok (.iload_n 3, 1) := by decide +kernel
theorem zd_X8_weigh_38 : decode cX8_weigh 38 = .ok (.aload_n 0, 1) := by decide +kernel
theorem zd_X8_weigh_39 : decode cX8_weigh 39 = .ok (.getfield 29, 3) := by decide +kernel
theorem zd_X8_weigh_42 : decode cX8_weigh 42 = .ok (.if_icmp .le 24, 3) := by decide +kernel
theorem zd_X8_weigh_45 : decode cX8_weigh 45 = .ok (.aload_n 0, 1) := by decide +kernel
theorem zd_X8_weigh_46 : decode cX8_weigh 46 = .ok (.aload_n 0, 1) := by decide +kernel
theorem zd_X8_weigh_47 : decode cX8_weigh 47 = .ok (.getfield 29, 3) := by decide +kernel
theorem zd_X8_weigh_50 : decode cX8_weigh 50 = .ok (.putfield 35, 3) := by decide +kernel
theorem zd_X8_weigh_53 : decode cX8_weigh 53 = .ok (.aload_n 0, 1) := by decide +kernel
theorem zd_X8_weigh_54 : decode cX8_weigh 54 = .ok (.iload_n 3, 1) := by decide +kernel
theorem zd_X8_weigh_55 : decode cX8_weigh 55 = .ok (.putfield 29, 3) := by decide +kernel
theorem zd_X8_weigh_58 : decode cX8_weigh 58 = .ok (.aload_n 0, 1) := by decide +kernel
theorem zd_X8_weigh_59 : decode cX8_weigh 59 = .ok (.iload_n 2, 1) := by decide +kernel
theorem zd_X8_weigh_60 : decode cX8_weigh 60 = .ok (.putfield 32, 3) := by decide +kernel
theorem zd_X8_weigh_63 : decode cX8_weigh 63 = .ok (.goto 15, 3) := by decide +kernel
theorem zd_X8_weigh_66 : decode cX8_weigh 66 = .ok (.aload_n 0, 1) := by decide +kernel
theorem zd_X8_weigh_67 : decode cX8_weigh 67 = .ok (.aload_n 0, 1) := by decide +kernel
theorem zd_X8_weigh_68 : decode cX8_weigh 68 = .ok (.getfield 35, 3) := by decide +kernel
theorem zd_X8_weigh_71 : decode cX8_weigh 71 = .ok (.iload_n 3, 1) := by decide +kernel
theorem zd_X8_weigh_72 : decode cX8_weigh 72 = .ok (.invokestatic 140, 3) := by decide +kernel
theorem zd_X8_weigh_75 : decode cX8_weigh 75 = .ok (.putfield 35, 3) := by decide +kernel
theorem zd_X8_weigh_78 : decode cX8_weigh 78 = .ok (.iinc 2 1, 3) := by decide +kernel
theorem zd_X8_weigh_81 : decode cX8_weigh 81 = .ok (.goto (-64), 3) := by decide +kernel
theorem zd_X8_weigh_84 : decode cX8_weigh 84 = .ok (.return_, 1) := by decide +kernel
theorem zd_X8_keepsMargin_0 : decode cX8_keepsMargin 0 = .ok (.aload_n 0, 1) := by decide +kernel
theorem zd_X8_keepsMargin_1 : decode cX8_keepsMargin 1 = .ok (.getfield 32, 3) := by decide +kernel
theorem zd_X8_keepsMargin_4 : decode cX8_keepsMargin 4 = .ok (.iconst (-1), 1) := by decide +kernel
theorem zd_X8_keepsMargin_5 : decode cX8_keepsMargin 5 = .ok (.if_icmp .eq 34, 3) := by decide +kernel
theorem zd_X8_keepsMargin_8 : decode cX8_keepsMargin 8 = .ok (.aload_n 0, 1) := by decide +kernel
theorem zd_X8_keepsMargin_9 : decode cX8_keepsMargin 9 = .ok (.getfield 35, 3) := by decide +kernel
theorem zd_X8_keepsMargin_12 : decode cX8_keepsMargin 12 = .ok (.iconst (-1), 1) := by decide +kernel
theorem zd_X8_keepsMargin_13 : decode cX8_keepsMargin 13 = .ok (.if_icmp .eq 22, 3) := by decide +kernel
theorem zd_X8_keepsMargin_16 : decode cX8_keepsMargin 16 = .ok (.aload_n 0, 1) := by decide +kernel
theorem zd_X8_keepsMargin_17 : decode cX8_keepsMargin 17 = .ok (.getfield 29, 3) := by decide +kernel
theorem zd_X8_keepsMargin_20 : decode cX8_keepsMargin 20 = .ok (.aload_n 0, 1) := by decide +kernel
theorem zd_X8_keepsMargin_21 : decode cX8_keepsMargin 21 = .ok (.getfield 35, 3) := by decide +kernel
theorem zd_X8_keepsMargin_24 : decode cX8_keepsMargin 24 = .ok (.isub, 1) := by decide +kernel
theorem zd_X8_keepsMargin_25 : decode cX8_keepsMargin 25 = .ok (.aload_n 0, 1) := by decide +kernel
theorem zd_X8_keepsMargin_26 : decode cX8_keepsMargin 26 = .ok (.getfield 38, 3) := by decide +kernel
theorem zd_X8_keepsMargin_29 : decode cX8_keepsMargin 29 = .ok (.getfield 145, 3) := by decide +kernel
theorem zd_X8_keepsMargin_32 : decode cX8_keepsMargin 32 = .ok (.if_icmp .lt 7, 3) := by decide +kernel
theorem zd_X8_keepsMargin_35 : decode cX8_keepsMargin 35 = .ok (.iconst 1, 1) := by decide +kernel
theorem zd_X8_keepsMargin_36 : decode cX8_keepsMargin 36 = .ok (.goto 4, 3) := by decide +kernel
theorem zd_X8_keepsMargin_39 : decode cX8_keepsMargin 39 = .ok (.iconst 0, 1) := by decide +kernel
theorem zd_X8_keepsMargin_40 : decode cX8_keepsMargin 40 = .ok (.ireturn, 1) := by decide +kernel
theorem zd_X8_keepContext_0 : decode cX8_keepContext 0 = .ok (.aload_n 0, 1) := by decide +kernel
theorem zd_X8_keepContext_1 : decode cX8_keepContext 1 = .ok (.aload_n 0, 1) := by decide +kernel
theorem zd_X8_keepContext_2 : decode cX8_keepContext 2 = .ok (.getfield 18, 3) := by decide +kernel
theorem zd_X8_keepContext_5 : decode cX8_keepContext 5 = .ok (.invokestatic 126, 3) := by decide +kernel
theorem zd_X8_keepContext_8 : decode cX8_keepContext 8 = .ok (.putfield 119, 3) := by decide +kernel
theorem zd_X8_keepContext_11 : decode cX8_keepContext 11 = .ok (.aload_n 0, 1) := by decide +kernel
theorem zd_X8_keepContext_12 : decode cX8_keepContext 12 = .ok (.getfield 18, 3) := by decide +kernel
theorem zd_X8_keepContext_15 : decode cX8_keepContext 15 = .ok (.invokestatic 92, 3) := by decide +kernel
theorem zd_X8_keepContext_18 : decode cX8_keepContext 18 = .ok (.iconst 1, 1) := by decide +kernel
theorem zd_X8_keepContext_19 : decode cX8_keepContext 19 = .ok (.isub, 1) := by decide +kernel
theorem zd_X8_keepContext_20 : decode cX8_keepContext 20 = .ok (.istore_n 2, 1) := by decide +kernel
theorem zd_X8_keepContext_21 : decode cX8_keepContext 21 = .ok (.iconst 0, 1) := by decide +kernel
theorem zd_X8_keepContext_22 : decode cX8_keepContext 22 = .ok (.istore_n 3, 1) := by decide +kernel
theorem zd_X8_keepContext_23 : decode cX8_keepContext 23 = .ok (.iload_n 3, 1) := by decide +kernel
theorem zd_X8_keepContext_24 : decode cX8_keepContext 24 = .ok (.aload_n 0, 1) := by decide +kernel
theorem zd_X8_keepContext_25 : decode cX8_keepContext 25 = .ok (.getfield 119, 3) := by decide +kernel
theorem zd_X8_keepContext_28 : decode cX8_keepContext 28 = .ok (.iconst 2, 1) := by decide +kernel
theorem zd_X8_keepContext_29 : decode cX8_keepContext 29 = .ok (.iadd, 1) := by decide +kernel
theorem zd_X8_keepContext_30 : decode cX8_keepContext 30 = .ok (.if_icmp .ge 31, 3) := by decide +kernel
theorem zd_X8_keepContext_33 : decode cX8_keepContext 33 = .ok (.iload_n 3, 1) := by decide +kernel
theorem zd_X8_keepContext_34 : decode cX8_keepContext 34 = .ok (.aload_n 0, 1) := by decide +kernel
theorem zd_X8_keepContext_35 : decode cX8_keepContext 35 = .ok (.getfield 25, 3) := by decide +kernel
theorem zd_X8_keepContext_38 : decode cX8_keepContext 38 = .ok (.arraylength, 1) := by decide +kernel
theorem zd_X8_keepContext_39 : decode cX8_keepContext 39 = .ok (.if_icmp .ge 22, 3) := by decide +kernel
theorem zd_X8_keepContext_42 : decode cX8_keepContext 42 = .ok (.aload_n 0, 1) := by decide +kernel
theorem zd_X8_keepContext_43 : decode cX8_keepContext 43 = .ok (.getfield 25, 3) := by decide +kernel
theorem zd_X8_keepContext_46 : decode cX8_keepContext 46 = .ok (.iload_n 3, 1) := by decide +kernel
theorem zd_X8_keepContext_47 : decode cX8_keepContext 47 = .ok (.aload_n 1, 1) := by decide +kernel
theorem zd_X8_keepContext_48 : decode cX8_keepContext 48 = .ok (.iload_n 2, 1) := by decide +kernel
theorem zd_X8_keepContext_49 : decode cX8_keepContext 49 = .ok (.iload_n 3, 1) := by decide +kernel
theorem zd_X8_keepContext_50 : decode cX8_keepContext 50 = .ok (.iadd, 1) := by decide +kernel
theorem zd_X8_keepContext_51 : decode cX8_keepContext 51 = .ok (.invokevirtual 129, 3) := by decide +kernel
theorem zd_X8_keepContext_54 : decode cX8_keepContext 54 = .ok (.lastore, 1) := by decide +kernel
theorem zd_X8_keepContext_55 : decode cX8_keepContext 55 = .ok (.iinc 3 1, 3) := by decide +kernel
theorem zd_X8_keepContext_58 : decode cX8_keepContext 58 = .ok (.goto (-35), 3) := by decide +kernel
theorem zd_X8_keepContext_61 : decode cX8_keepContext 61 = .ok (.return_, 1) := by decide +kernel
theorem zd_X8_step_0 : decode cX8_step 0 = .ok (.aload_n 0, 1) := by decide +kernel
theorem zd_X8_step_1 : decode cX8_step 1 = .ok (.getfield 18, 3) := by decide +kernel
theorem zd_X8_step_4 : decode cX8_step 4 = .ok (.iconst (-1), 1) := by decide +kernel
theorem zd_X8_step_5 : decode cX8_step 5 = .ok (.if_icmp .eq 33, 3) := by decide +kernel
theorem zd_X8_step_8 : decode cX8_step 8 = .ok (.aload_n 0, 1) := by decide +kernel
theorem zd_X8_step_9 : decode cX8_step 9 = .ok (.aload_n 3, 1) := by decide +kernel
theorem zd_X8_step_10 : decode cX8_step 10 = .ok (.invokevirtual 96, 3) := by decide +kernel
theorem zd_X8_step_13 : decode cX8_step 13 = .ok (.aload_n 0, 1) := by decide +kernel
theorem zd_X8_step_14 : decode cX8_step 14 = .ok (.aload_n 1, 1) := by decide +kernel
theorem zd_X8_step_15 : decode cX8_step 15 = .ok (.iload_n 2, 1) := by decide +kernel
theorem zd_X8_step_16 : decode cX8_step 16 = .ok (.aload_n 0, 1) := by decide +kernel
theorem zd_X8_step_17 : decode cX8_step 17 = .ok (.getfield 18, 3) := by decide +kernel
theorem zd_X8_step_20 : decode cX8_step 20 = .ok (.invokestatic 92, 3) := by decide +kernel
theorem zd_X8_step_23 : decode cX8_step 23 = .ok (.aload_n 0, 1) := by decide +kernel
theorem zd_X8_step_24 : decode cX8_step 24 = .ok (.getfield 18, 3) := by decide +kernel
theorem zd_X8_step_27 : decode cX8_step 27 = .ok (.invokestatic 100, 3) := by decide +kernel
theorem zd_X8_step_30 : decode cX8_step 30 = .ok (.aload 4, 2) := by decide +kernel
theorem zd_X8_step_32 : decode cX8_step 32 = .ok (.invokevirtual 103, 3) := by decide +kernel
theorem zd_X8_step_35 : decode cX8_step 35 = .ok (.putfield 18, 3) := by decide +kernel
theorem zd_X8_step_38 : decode cX8_step 38 = .ok (.aload_n 0, 1) := by decide +kernel
theorem zd_X8_step_39 : decode cX8_step 39 = .ok (.getfield 18, 3) := by decide +kernel
theorem zd_X8_step_42 : decode cX8_step 42 = .ok (.iconst (-1), 1) := by decide +kernel
theorem zd_X8_step_43 : decode cX8_step 43 = .ok (.if_icmp .eq 9, 3) := by decide +kernel
theorem zd_X8_step_46 : decode cX8_step 46 = .ok (.aload_n 0, 1) := by decide +kernel
theorem zd_X8_step_47 : decode cX8_step 47 = .ok (.iconst 1, 1) := by decide +kernel
theorem zd_X8_step_48 : decode cX8_step 48 = .ok (.putfield 22, 3) := by decide +kernel
theorem zd_X8_step_51 : decode cX8_step 51 = .ok (.return_, 1) := by decide +kernel
theorem zd_X8_step_52 : decode cX8_step 52 = .ok (.aload_n 0, 1) := by decide +kernel
theorem zd_X8_step_53 : decode cX8_step 53 = .ok (.aload 4, 2) := by decide +kernel
theorem zd_X8_step_55 : decode cX8_step 55 = .ok (.invokevirtual 107, 3) := by decide +kernel
theorem zd_X8_step_58 : decode cX8_step 58 = .ok (.aload_n 0, 1) := by decide +kernel
theorem zd_X8_step_59 : decode cX8_step 59 = .ok (.invokevirtual 110, 3) := by decide +kernel
theorem zd_X8_step_62 : decode cX8_step 62 = .ok (.ifCond .eq 47, 3) := by decide +kernel
theorem zd_X8_step_65 : decode cX8_step 65 = .ok (.aload_n 0, 1) := by decide +kernel
theorem zd_X8_step_66 : decode cX8_step 66 = .ok (.getfield 29, 3) := by decide +kernel
theorem zd_X8_step_69 : decode cX8_step 69 = .ok (.aload_n 0, 1) := by decide +kernel
theorem zd_X8_step_70 : decode cX8_step 70 = .ok (.getfield 38, 3) := by decide +kernel
theorem zd_X8_step_73 : decode cX8_step 73 = .ok (.getfield 114, 3) := by decide +kernel
theorem zd_X8_step_76 : decode cX8_step 76 = .ok (.if_icmp .lt 33, 3) := by decide +kernel
theorem zd_X8_step_79 : decode cX8_step 79 = .ok (.aload_n 0, 1) := by decide +kernel
theorem zd_X8_step_80 : decode cX8_step 80 = .ok (.aload_n 0, 1) := by decide +kernel
theorem zd_X8_step_81 : decode cX8_step 81 = .ok (.getfield 32, 3) := by decide +kernel
theorem zd_X8_step_84 : decode cX8_step 84 = .ok (.aload_n 0, 1) := by decide +kernel
theorem zd_X8_step_85 : decode cX8_step 85 = .ok (.getfield 32, 3) := by decide +kernel
theorem zd_X8_step_88 : decode cX8_step 88 = .ok (.aload_n 0, 1) := by decide +kernel
theorem zd_X8_step_89 : decode cX8_step 89 = .ok (.getfield 119, 3) := by decide +kernel
theorem zd_X8_step_92 : decode cX8_step 92 = .ok (.iadd, 1) := by decide +kernel
theorem zd_X8_step_93 : decode cX8_step 93 = .ok (.iconst 1, 1) := by decide +kernel
theorem zd_X8_step_94 : decode cX8_step 94 = .ok (.isub, 1) := by decide +kernel
theorem zd_X8_step_95 : decode cX8_step 95 = .ok (.invokestatic 122, 3) := by decide +kernel
theorem zd_X8_step_98 : decode cX8_step 98 = .ok (.putfield 18, 3) := by decide +kernel
theorem zd_X8_step_101 : decode cX8_step 101 = .ok (.aload_n 0, 1) := by decide +kernel
theorem zd_X8_step_102 : decode cX8_step 102 = .ok (.iconst 2, 1) := by decide +kernel
theorem zd_X8_step_103 : decode cX8_step 103 = .ok (.putfield 22, 3) := by decide +kernel
theorem zd_X8_step_106 : decode cX8_step 106 = .ok (.goto 8, 3) := by decide +kernel
theorem zd_X8_step_109 : decode cX8_step 109 = .ok (.aload_n 0, 1) := by decide +kernel
theorem zd_X8_step_110 : decode cX8_step 110 = .ok (.iconst 3, 1) := by decide +kernel
theorem zd_X8_step_111 : decode cX8_step 111 = .ok (.putfield 22, 3) := by decide +kernel
theorem zd_X8_step_114 : decode cX8_step 114 = .ok (.return_, 1) := by decide +kernel
theorem zd_X8_putOn_0 : decode cX8_putOn 0 = .ok (.aload_n 0, 1) := by decide +kernel
theorem zd_X8_putOn_1 : decode cX8_putOn 1 = .ok (.aload_n 1, 1) := by decide +kernel
theorem zd_X8_putOn_2 : decode cX8_putOn 2 = .ok (.getfield 67, 3) := by decide +kernel
theorem zd_X8_putOn_5 : decode cX8_putOn 5 = .ok (.aload_n 3, 1) := by decide +kernel
theorem zd_X8_putOn_6 : decode cX8_putOn 6 = .ok (.invokevirtual 72, 3) := by decide +kernel
theorem zd_X8_putOn_9 : decode cX8_putOn 9 = .ok (.ifCond .ne 5, 3) := by decide +kernel
theorem zd_X8_putOn_12 : decode cX8_putOn 12 = .ok (.iconst 0, 1) := by decide +kernel
theorem zd_X8_putOn_13 : decode cX8_putOn 13 = .ok (.ireturn, 1) := by decide +kernel
theorem zd_X8_putOn_14 : decode cX8_putOn 14 = .ok (.aload_n 0, 1) := by decide +kernel
theorem zd_X8_putOn_15 : decode cX8_putOn 15 = .ok (.aload_n 1, 1) := by decide +kernel
theorem zd_X8_putOn_16 : decode cX8_putOn 16 = .ok (.invokevirtual 76, 3) := by decide +kernel
theorem zd_X8_putOn_19 : decode cX8_putOn 19 = .ok (.aload_n 1, 1) := by decide +kernel
theorem zd_X8_putOn_20 : decode cX8_putOn 20 = .ok (.getfield 67, 3) := by decide +kernel
theorem zd_X8_putOn_23 : decode cX8_putOn 23 = .ok (.astore 4, 2) := by decide +kernel
theorem zd_X8_putOn_25 : decode cX8_putOn 25 = .ok (.aload_n 0, 1) := by decide +kernel
theorem zd_X8_putOn_26 : decode cX8_putOn 26 = .ok (.getfield 12, 3) := by decide +kernel
theorem zd_X8_putOn_29 : decode cX8_putOn 29 = .ok (.invokevirtual 55, 3) := by decide +kernel
theorem zd_X8_putOn_32 : decode cX8_putOn 32 = .ok (.iconst 2, 1) := by decide +kernel
theorem zd_X8_putOn_33 : decode cX8_putOn 33 = .ok (.isub, 1) := by decide +kernel
theorem zd_X8_putOn_34 : decode cX8_putOn 34 = .ok (.istore 5, 2) := by decide +kernel
theorem zd_X8_putOn_36 : decode cX8_putOn 36 = .ok (.iload 5, 2) := by decide +kernel
theorem zd_X8_putOn_38 : decode cX8_putOn 38 = .ok (.ifCond .lt 37, 3) := by decide +kernel
theorem zd_X8_putOn_41 : decode cX8_putOn 41 = .ok (.aload_n 0, 1) := by decide +kernel
theorem zd_X8_putOn_42 : decode cX8_putOn 42 = .ok (.getfield 12, 3) := by decide +kernel
theorem zd_X8_putOn_45 : decode cX8_putOn 45 = .ok (.iload 5, 2) := by decide +kernel
theorem zd_X8_putOn_47 : decode cX8_putOn 47 = .ok (.invokevirtual 59, 3) := by decide +kernel
theorem zd_X8_putOn_50 : decode cX8_putOn 50 = .ok (.checkcast 50, 3) := by decide +kernel
theorem zd_X8_putOn_53 : decode cX8_putOn 53 = .ok (.astore 6, 2) := by decide +kernel
theorem zd_X8_putOn_55 : decode cX8_putOn 55 = .ok (.aload_n 0, 1) := by decide +kernel
theorem zd_X8_putOn_56 : decode cX8_putOn 56 = .ok (.aload_n 1, 1) := by decide +kernel
theorem zd_X8_putOn_57 : decode cX8_putOn 57 = .ok (.iload_n 2, 1) := by decide +kernel
theorem zd_X8_putOn_58 : decode cX8_putOn 58 = .ok (.aload 4, 2) := by decide +kernel
theorem zd_X8_putOn_60 : decode cX8_putOn 60 = .ok (.aload 6, 2) := by decide +kernel
theorem zd_X8_putOn_62 : decode cX8_putOn 62 = .ok (.invokevirtual 80, 3) := by decide +kernel
theorem zd_X8_putOn_65 : decode cX8_putOn 65 = .ok (.aload 6, 2) := by decide +kernel
theorem zd_X8_putOn_67 : decode cX8_putOn 67 = .ok (.astore 4, 2) := by decide +kernel
theorem zd_X8_putOn_69 : decode cX8_putOn 69 = .ok (.iinc 5 (-1), 3) := by decide +kernel
theorem zd_X8_putOn_72 : decode cX8_putOn 72 = .ok (.goto (-36), 3) := by decide +kernel
theorem zd_X8_putOn_75 : decode cX8_putOn 75 = .ok (.iconst 1, 1) := by decide +kernel
theorem zd_X8_putOn_76 : decode cX8_putOn 76 = .ok (.ireturn, 1) := by decide +kernel
theorem zd_X7_take_0 : decode cX7_take 0 = .ok (.aload_n 0, 1) := by decide +kernel
theorem zd_X7_take_1 : decode cX7_take 1 = .ok (.getfield 9, 3) := by decide +kernel
theorem zd_X7_take_4 : decode cX7_take 4 = .ok (.iconst (-1), 1) := by decide +kernel
theorem zd_X7_take_5 : decode cX7_take 5 = .ok (.invokestatic 23, 3) := by decide +kernel
theorem zd_X7_take_8 : decode cX7_take 8 = .ok (.aload_n 0, 1) := by decide +kernel
theorem zd_X7_take_9 : decode cX7_take 9 = .ok (.iconst 0, 1) := by decide +kernel
theorem zd_X7_take_10 : decode cX7_take 10 = .ok (.putfield 29, 3) := by decide +kernel
theorem zd_X7_take_13 : decode cX7_take 13 = .ok (.aload_n 0, 1) := by decide +kernel
theorem zd_X7_take_14 : decode cX7_take 14 = .ok (.iconst 0, 1) := by decide +kernel
theorem zd_X7_take_15 : decode cX7_take 15 = .ok (.putfield 33, 3) := by decide +kernel
theorem zd_X7_take_18 : decode cX7_take 18 = .ok (.iconst 0, 1) := by decide +kernel
theorem zd_X7_take_19 : decode cX7_take 19 = .ok (.istore_n 2, 1) := by decide +kernel
theorem zd_X7_take_20 : decode cX7_take 20 = .ok (.iload_n 2, 1) := by decide +kernel
theorem zd_X7_take_21 : decode cX7_take 21 = .ok (.aload_n 0, 1) := by decide +kernel
theorem zd_X7_take_22 : decode cX7_take 22 = .ok (.getfield 15, 3) := by decide +kernel
theorem zd_X7_take_25 : decode cX7_take 25 = .ok (.getfield 36, 3) := by decide +kernel
theorem zd_X7_take_28 : decode cX7_take 28 = .ok (.invokevirtual 42, 3) := by decide +kernel
theorem zd_X7_take_31 : decode cX7_take 31 = .ok (.if_icmp .ge 103, 3) := by decide +kernel
theorem zd_X7_take_34 : decode cX7_take 34 = .ok (.iload_n 2, 1) := by decide +kernel
theorem zd_X7_take_35 : decode cX7_take 35 = .ok (.aload_n 0, 1) := by decide +kernel
theorem zd_X7_take_36 : decode cX7_take 36 = .ok (.getfield 9, 3) := by decide +kernel
theorem zd_X7_take_39 : decode cX7_take 39 = .ok (.arraylength, 1) := by decide +kernel
theorem zd_X7_take_40 : decode cX7_take 40 = .ok (.if_icmp .ge 94, 3) := by decide +kernel
theorem zd_X7_take_43 : decode cX7_take 43 = .ok (.aload_n 0, 1) := by decide +kernel
theorem zd_X7_take_44 : decode cX7_take 44 = .ok (.getfield 15, 3) := by decide +kernel
theorem zd_X7_take_47 : decode cX7_take 47 = .ok (.getfield 36, 3) := by decide +kernel
theorem zd_X7_take_50 : decode cX7_take 50 = .ok (.iload_n 2, 1) := by decide +kernel
theorem zd_X7_take_51 : decode cX7_take 51 = .ok (.invokevirtual 48, 3) := by decide +kernel
theorem zd_X7_take_54 : decode cX7_take 54 = .ok (.checkcast 52, 3) := by decide +kernel
theorem zd_X7_take_57 : decode cX7_take 57 = .ok (.astore_n 3, 1) := by decide +kernel
theorem zd_X7_take_58 : decode cX7_take 58 = .ok (.aload_n 0, 1) := by decide +kernel
theorem zd_X7_take_59 : decode cX7_take 59 = .ok (.getfield 19, 3) := by decide +kernel
theorem zd_X7_take_62 : decode cX7_take 62 = .ok (.aload_n 3, 1) := by decide +kernel
theorem zd_X7_take_63 : decode cX7_take 63 = .ok (.aload_n 3, 1) := by decide +kernel
theorem zd_X7_take_64 : decode cX7_take 64 = .ok (.getfield 54, 3) := by decide +kernel
theorem zd_X7_take_67 : decode cX7_take 67 = .ok (.aload_n 1, 1) := by decide +kernel
theorem zd_X7_take_68 : decode cX7_take 68 = .ok (.invokevirtual 57, 3) := by decide +kernel
theorem zd_X7_take_71 : decode cX7_take 71 = .ok (.ifCond .ne 6, 3) := by decide +kernel
theorem zd_X7_take_74 : decode cX7_take 74 = .ok (.goto 54, 3) := by decide +kernel
theorem zd_X7_take_77 : decode cX7_take 77 = .ok (.aload_n 0, 1) := by decide +kernel
theorem zd_X7_take_78 : decode cX7_take 78 = .ok (.getfield 9, 3) := by decide +kernel
theorem zd_X7_take_81 : decode cX7_take 81 = .ok (.iload_n 2, 1) := by decide +kernel
theorem zd_X7_take_82 : decode cX7_take 82 = .ok (.aload_n 0, 1) := by decide +kernel
