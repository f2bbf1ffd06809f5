theorem d_MM_init_0 : decode b_MM_init 0 = .ok (.aload_n 0, 1) := by decide +kernel
theorem d_MM_init_1 : decode b_MM_init 1 = .ok (.invokespecial 1, 3) := by decide +kernel
theorem d_MM_init_4 : decode b_MM_init 4 = .ok (.aload_n 0, 1) := by decide +kernel
theorem d_MM_init_5 : decode b_MM_init 5 = .ok (.iconst (-1), 1) := by decide +kernel
theorem d_MM_init_6 : decode b_MM_init 6 = .ok (.putfield 7, 3) := by decide +kernel
theorem d_MM_init_9 : decode b_MM_init 9 = .ok (.aload_n 0, 1) := by decide +kernel
theorem d_MM_init_10 : decode b_MM_init 10 = .ok (.bipush 12, 2) := by decide +kernel
theorem d_MM_init_12 : decode b_MM_init 12 = .ok (.newarray .int, 2) := by decide +kernel
theorem d_MM_init_14 : decode b_MM_init 14 = .ok (.putfield 13, 3) := by decide +kernel
theorem d_MM_init_17 : decode b_MM_init 17 = .ok (.aload_n 0, 1) := by decide +kernel
theorem d_MM_init_18 : decode b_MM_init 18 = .ok (.bipush 48, 2) := by decide +kernel
theorem d_MM_init_20 : decode b_MM_init 20 = .ok (.newarray .int, 2) := by decide +kernel
theorem d_MM_init_22 : decode b_MM_init 22 = .ok (.putfield 17, 3) := by decide +kernel
theorem d_MM_init_25 : decode b_MM_init 25 = .ok (.aload_n 0, 1) := by decide +kernel
theorem d_MM_init_26 : decode b_MM_init 26 = .ok (.bipush 12, 2) := by decide +kernel
theorem d_MM_init_28 : decode b_MM_init 28 = .ok (.newarray .int, 2) := by decide +kernel
theorem d_MM_init_30 : decode b_MM_init 30 = .ok (.putfield 20, 3) := by decide +kernel
theorem d_MM_init_33 : decode b_MM_init 33 = .ok (.aload_n 0, 1) := by decide +kernel
theorem d_MM_init_34 : decode b_MM_init 34 = .ok (.bipush 48, 2) := by decide +kernel
theorem d_MM_init_36 : decode b_MM_init 36 = .ok (.newarray .int, 2) := by decide +kernel
theorem d_MM_init_38 : decode b_MM_init 38 = .ok (.putfield 23, 3) := by decide +kernel
theorem d_MM_init_41 : decode b_MM_init 41 = .ok (.aload_n 0, 1) := by decide +kernel
theorem d_MM_init_42 : decode b_MM_init 42 = .ok (.bipush 12, 2) := by decide +kernel
theorem d_MM_init_44 : decode b_MM_init 44 = .ok (.newarray .int, 2) := by decide +kernel
theorem d_MM_init_46 : decode b_MM_init 46 = .ok (.putfield 26, 3) := by decide +kernel
theorem d_MM_init_49 : decode b_MM_init 49 = .ok (.aload_n 0, 1) := by decide +kernel
theorem d_MM_init_50 : decode b_MM_init 50 = .ok (.bipush 48, 2) := by decide +kernel
theorem d_MM_init_52 : decode b_MM_init 52 = .ok (.newarray .int, 2) := by decide +kernel
theorem d_MM_init_54 : decode b_MM_init 54 = .ok (.putfield 29, 3) := by decide +kernel
theorem d_MM_init_57 : decode b_MM_init 57 = .ok (.aload_n 0, 1) := by decide +kernel
theorem d_MM_init_58 : decode b_MM_init 58 = .ok (.bipush 48, 2) := by decide +kernel
theorem d_MM_init_60 : decode b_MM_init 60 = .ok (.newarray .int, 2) := by decide +kernel
theorem d_MM_init_62 : decode b_MM_init 62 = .ok (.putfield 32, 3) := by decide +kernel
theorem d_MM_init_65 : decode b_MM_init 65 = .ok (.aload_n 0, 1) := by decide +kernel
theorem d_MM_init_66 : decode b_MM_init 66 = .ok (.bipush 48, 2) := by decide +kernel
theorem d_MM_init_68 : decode b_MM_init 68 = .ok (.newarray .int, 2) := by decide +kernel
theorem d_MM_init_70 : decode b_MM_init 70 = .ok (.putfield 35, 3) := by decide +kernel
theorem d_MM_init_73 : decode b_MM_init 73 = .ok (.aload_n 0, 1) := by decide +kernel
theorem d_MM_init_74 : decode b_MM_init 74 = .ok (.bipush 12, 2) := by decide +kernel
theorem d_MM_init_76 : decode b_MM_init 76 = .ok (.newarray .int, 2) := by decide +kernel
theorem d_MM_init_78 : decode b_MM_init 78 = .ok (.putfield 38, 3) := by decide +kernel
theorem d_MM_init_81 : decode b_MM_init 81 = .ok (.aload_n 0, 1) := by decide +kernel
theorem d_MM_init_82 : decode b_MM_init 82 = .ok (.bipush 48, 2) := by decide +kernel
theorem d_MM_init_84 : decode b_MM_init 84 = .ok (.newarray .int, 2) := by decide +kernel
theorem d_MM_init_86 : decode b_MM_init 86 = .ok (.putfield 41, 3) := by decide +kernel
theorem d_MM_init_89 : decode b_MM_init 89 = .ok (.aload_n 0, 1) := by decide +kernel
theorem d_MM_init_90 : decode b_MM_init 90 = .ok (.bipush 40, 2) := by decide +kernel
theorem d_MM_init_92 : decode b_MM_init 92 = .ok (.newarray .int, 2) := by decide +kernel
theorem d_MM_init_94 : decode b_MM_init 94 = .ok (.putfield 44, 3) := by decide +kernel
theorem d_MM_init_97 : decode b_MM_init 97 = .ok (.aload_n 0, 1) := by decide +kernel
theorem d_MM_init_98 : decode b_MM_init 98 = .ok (.sipush 384, 3) := by decide +kernel
theorem d_MM_init_101 : decode b_MM_init 101 = .ok (.newarray .int, 2) := by decide +kernel
theorem d_MM_init_103 : decode b_MM_init 103 = .ok (.putfield 47, 3) := by decide +kernel
theorem d_MM_init_106 : decode b_MM_init 106 = .ok (.aload_n 0, 1) := by decide +kernel
theorem d_MM_init_107 : decode b_MM_init 107 = .ok (.sipush 384, 3) := by decide +kernel
theorem d_MM_init_110 : decode b_MM_init 110 = .ok (.newarray .int, 2) := by decide +kernel
theorem d_MM_init_112 : decode b_MM_init 112 = .ok (.putfield 50, 3) := by decide +kernel
theorem d_MM_init_115 : decode b_MM_init 115 = .ok (.aload_n 0, 1) := by decide +kernel
theorem d_MM_init_116 : decode b_MM_init 116 = .ok (.ldc 53, 2) := by decide +kernel
theorem d_MM_init_118 : decode b_MM_init 118 = .ok (.newarray .long, 2) := by decide +kernel
theorem d_MM_init_120 : decode b_MM_init 120 = .ok (.putfield 54, 3) := by decide +kernel
theorem d_MM_init_123 : decode b_MM_init 123 = .ok (.aload_n 0, 1) := by decide +kernel
theorem d_MM_init_124 : decode b_MM_init 124 = .ok (.sipush 2100, 3) := by decide +kernel
theorem d_MM_init_127 : decode b_MM_init 127 = .ok (.newarray .long, 2) := by decide +kernel
theorem d_MM_init_129 : decode b_MM_init 129 = .ok (.putfield 58, 3) := by decide +kernel
theorem d_MM_init_132 : decode b_MM_init 132 = .ok (.aload_n 0, 1) := by decide +kernel
theorem d_MM_init_133 : decode b_MM_init 133 = .ok (.bipush 14, 2) := by decide +kernel
theorem d_MM_init_135 : decode b_MM_init 135 = .ok (.newarray .long, 2) := by decide +kernel
theorem d_MM_init_137 : decode b_MM_init 137 = .ok (.putfield 61, 3) := by decide +kernel
theorem d_MM_init_140 : decode b_MM_init 140 = .ok (.aload_n 0, 1) := by decide +kernel
theorem d_MM_init_141 : decode b_MM_init 141 = .ok (.bipush 28, 2) := by decide +kernel
theorem d_MM_init_143 : decode b_MM_init 143 = .ok (.newarray .long, 2) := by decide +kernel
theorem d_MM_init_145 : decode b_MM_init 145 = .ok (.putfield 64, 3) := by decide +kernel
theorem d_MM_init_148 : decode b_MM_init 148 = .ok (.aload_n 0, 1) := by decide +kernel
theorem d_MM_init_149 : decode b_MM_init 149 = .ok (.sipush 384, 3) := by decide +kernel
theorem d_MM_init_152 : decode b_MM_init 152 = .ok (.newarray .int, 2) := by decide +kernel
theorem d_MM_init_154 : decode b_MM_init 154 = .ok (.putfield 67, 3) := by decide +kernel
theorem d_MM_init_157 : decode b_MM_init 157 = .ok (.return_, 1) := by decide +kernel
theorem d_MM_isOut_0 : decode b_MM_isOut 0 = .ok (.iload_n 1, 1) := by decide +kernel
theorem d_MM_isOut_1 : decode b_MM_isOut 1 = .ok (.iconst 4, 1) := by decide +kernel
theorem d_MM_isOut_2 : decode b_MM_isOut 2 = .ok (.irem, 1) := by decide +kernel
theorem d_MM_isOut_3 : decode b_MM_isOut 3 = .ok (.istore_n 2, 1) := by decide +kernel
theorem d_MM_isOut_4 : decode b_MM_isOut 4 = .ok (.iload_n 2, 1) := by decide +kernel
theorem d_MM_isOut_5 : decode b_MM_isOut 5 = .ok (.iconst 2, 1) := by decide +kernel
theorem d_MM_isOut_6 : decode b_MM_isOut 6 = .ok (.if_icmp .eq 23, 3) := by decide +kernel
theorem d_MM_isOut_9 : decode b_MM_isOut 9 = .ok (.iload_n 2, 1) := by decide +kernel
theorem d_MM_isOut_10 : decode b_MM_isOut 10 = .ok (.aload_n 0, 1) := by decide +kernel
theorem d_MM_isOut_11 : decode b_MM_isOut 11 = .ok (.getfield 20, 3) := by decide +kernel
theorem d_MM_isOut_14 : decode b_MM_isOut 14 = .ok (.iload_n 1, 1) := by decide +kernel
theorem d_MM_isOut_15 : decode b_MM_isOut 15 = .ok (.iconst 4, 1) := by decide +kernel
theorem d_MM_isOut_16 : decode b_MM_isOut 16 = .ok (.idiv, 1) := by decide +kernel
theorem d_MM_isOut_17 : decode b_MM_isOut 17 = .ok (.iaload, 1) := by decide +kernel
theorem d_MM_isOut_18 : decode b_MM_isOut 18 = .ok (.ifCond .le 7, 3) := by decide +kernel
theorem d_MM_isOut_21 : decode b_MM_isOut 21 = .ok (.iconst 1, 1) := by decide +kernel
theorem d_MM_isOut_22 : decode b_MM_isOut 22 = .ok (.goto 4, 3) := by decide +kernel
theorem d_MM_isOut_25 : decode b_MM_isOut 25 = .ok (.iconst 3, 1) := by decide +kernel
theorem d_MM_isOut_26 : decode b_MM_isOut 26 = .ok (.if_icmp .ne 7, 3) := by decide +kernel
theorem d_MM_isOut_29 : decode b_MM_isOut 29 = .ok (.iconst 1, 1) := by decide +kernel
theorem d_MM_isOut_30 : decode b_MM_isOut 30 = .ok (.goto 4, 3) := by decide +kernel
theorem d_MM_isOut_33 : decode b_MM_isOut 33 = .ok (.iconst 0, 1) := by decide +kernel
theorem d_MM_isOut_34 : decode b_MM_isOut 34 = .ok (.ireturn, 1) := by decide +kernel
theorem d_MM_isUpper_0 : decode b_MM_isUpper 0 = .ok (.iload_n 0, 1) := by decide +kernel
theorem d_MM_isUpper_1 : decode b_MM_isUpper 1 = .ok (.iconst 2, 1) := by decide +kernel
theorem d_MM_isUpper_2 : decode b_MM_isUpper 2 = .ok (.irem, 1) := by decide +kernel
theorem d_MM_isUpper_3 : decode b_MM_isUpper 3 = .ok (.iconst 1, 1) := by decide +kernel
theorem d_MM_isUpper_4 : decode b_MM_isUpper 4 = .ok (.if_icmp .ne 7, 3) := by decide +kernel
theorem d_MM_isUpper_7 : decode b_MM_isUpper 7 = .ok (.iconst 1, 1) := by decide +kernel
theorem d_MM_isUpper_8 : decode b_MM_isUpper 8 = .ok (.goto 4, 3) := by decide +kernel
theorem d_MM_isUpper_11 : decode b_MM_isUpper 11 = .ok (.iconst 0, 1) := by decide +kernel
theorem d_MM_isUpper_12 : decode b_MM_isUpper 12 = .ok (.ireturn, 1) := by decide +kernel
theorem d_MM_placeOf_0 : decode b_MM_placeOf 0 = .ok (.iconst (-1), 1) := by decide +kernel
theorem d_MM_placeOf_1 : decode b_MM_placeOf 1 = .ok (.istore_n 3, 1) := by decide +kernel
theorem d_MM_placeOf_2 : decode b_MM_placeOf 2 = .ok (.iconst 0, 1) := by decide +kernel
theorem d_MM_placeOf_3 : decode b_MM_placeOf 3 = .ok (.istore 4, 2) := by decide +kernel
theorem d_MM_placeOf_5 : decode b_MM_placeOf 5 = .ok (.iload 4, 2) := by decide +kernel
theorem d_MM_placeOf_7 : decode b_MM_placeOf 7 = .ok (.iconst 4, 1) := by decide +kernel
theorem d_MM_placeOf_8 : decode b_MM_placeOf 8 = .ok (.aload_n 0, 1) := by decide +kernel
theorem d_MM_placeOf_9 : decode b_MM_placeOf 9 = .ok (.getfield 73, 3) := by decide +kernel
theorem d_MM_placeOf_12 : decode b_MM_placeOf 12 = .ok (.imul, 1) := by decide +kernel
theorem d_MM_placeOf_13 : decode b_MM_placeOf 13 = .ok (.if_icmp .ge 37, 3) := by decide +kernel
theorem d_MM_placeOf_16 : decode b_MM_placeOf 16 = .ok (.aload_n 0, 1) := by decide +kernel
theorem d_MM_placeOf_17 : decode b_MM_placeOf 17 = .ok (.getfield 23, 3) := by decide +kernel
theorem d_MM_placeOf_20 : decode b_MM_placeOf 20 = .ok (.iload 4, 2) := by decide +kernel
theorem d_MM_placeOf_22 : decode b_MM_placeOf 22 = .ok (.iaload, 1) := by decide +kernel
theorem d_MM_placeOf_23 : decode b_MM_placeOf 23 = .ok (.iload_n 1, 1) := by decide +kernel
theorem d_MM_placeOf_24 : decode b_MM_placeOf 24 = .ok (.if_icmp .ne 18, 3) := by decide +kernel
theorem d_MM_placeOf_27 : decode b_MM_placeOf 27 = .ok (.aload_n 0, 1) := by decide +kernel
theorem d_MM_placeOf_28 : decode b_MM_placeOf 28 = .ok (.iload 4, 2) := by decide +kernel
theorem d_MM_placeOf_30 : decode b_MM_placeOf 30 = .ok (.invokevirtual 76, 3) := by decide +kernel
theorem d_MM_placeOf_33 : decode b_MM_placeOf 33 = .ok (.iload_n 2, 1) := by decide +kernel
theorem d_MM_placeOf_34 : decode b_MM_placeOf 34 = .ok (.if_icmp .ne 8, 3) := by decide +kernel
theorem d_MM_placeOf_37 : decode b_MM_placeOf 37 = .ok (.iload 4, 2) := by decide +kernel
theorem d_MM_placeOf_39 : decode b_MM_placeOf 39 = .ok (.goto 4, 3) := by decide +kernel
theorem d_MM_placeOf_42 : decode b_MM_placeOf 42 = .ok (.iload_n 3, 1) := by decide +kernel
theorem d_MM_placeOf_43 : decode b_MM_placeOf 43 = .ok (.istore_n 3, 1) := by decide +kernel
theorem d_MM_placeOf_44 : decode b_MM_placeOf 44 = .ok (.iinc 4 1, 3) := by decide +kernel
theorem d_MM_placeOf_47 : decode b_MM_placeOf 47 = .ok (.goto (-42), 3) := by decide +kernel
theorem d_MM_placeOf_50 : decode b_MM_placeOf 50 = .ok (.iload_n 3, 1) := by decide +kernel
theorem d_MM_placeOf_51 : decode b_MM_placeOf 51 = .ok (.ireturn, 1) := by decide +kernel
theorem d_MM_across_0 : decode b_MM_across 0 = .ok (.iload_n 0, 1) := by decide +kernel
theorem d_MM_across_1 : decode b_MM_across 1 = .ok (.iconst 4, 1) := by decide +kernel
theorem d_MM_across_2 : decode b_MM_across 2 = .ok (.idiv, 1) := by decide +kernel
theorem d_MM_across_3 : decode b_MM_across 3 = .ok (.iconst 4, 1) := by decide +kernel
theorem d_MM_across_4 : decode b_MM_across 4 = .ok (.imul, 1) := by decide +kernel
theorem d_MM_across_5 : decode b_MM_across 5 = .ok (.iload_n 0, 1) := by decide +kernel
theorem d_MM_across_6 : decode b_MM_across 6 = .ok (.iconst 2, 1) := by decide +kernel
theorem d_MM_across_7 : decode b_MM_across 7 = .ok (.iadd, 1) := by decide +kernel
theorem d_MM_across_8 : decode b_MM_across 8 = .ok (.iconst 4, 1) := by decide +kernel
theorem d_MM_across_9 : decode b_MM_across 9 = .ok (.irem, 1) := by decide +kernel
theorem d_MM_across_10 : decode b_MM_across 10 = .ok (.iadd, 1) := by decide +kernel
theorem d_MM_across_11 : decode b_MM_across 11 = .ok (.ireturn, 1) := by decide +kernel
theorem d_MM_next_0 : decode b_MM_next 0 = .ok (.aload_n 0, 1) := by decide +kernel
theorem d_MM_next_1 : decode b_MM_next 1 = .ok (.getfield 23, 3) := by decide +kernel
theorem d_MM_next_4 : decode b_MM_next 4 = .ok (.aload_n 0, 1) := by decide +kernel
theorem d_MM_next_5 : decode b_MM_next 5 = .ok (.iload_n 1, 1) := by decide +kernel
theorem d_MM_next_6 : decode b_MM_next 6 = .ok (.iconst 0, 1) := by decide +kernel
theorem d_MM_next_7 : decode b_MM_next 7 = .ok (.invokevirtual 80, 3) := by decide +kernel
theorem d_MM_next_10 : decode b_MM_next 10 = .ok (.invokestatic 84, 3) := by decide +kernel
theorem d_MM_next_13 : decode b_MM_next 13 = .ok (.iaload, 1) := by decide +kernel
theorem d_MM_next_14 : decode b_MM_next 14 = .ok (.ireturn, 1) := by decide +kernel
theorem d_MM_upperIn_0 : decode b_MM_upperIn 0 = .ok (.aload_n 0, 1) := by decide +kernel
theorem d_MM_upperIn_1 : decode b_MM_upperIn 1 = .ok (.getfield 20, 3) := by decide +kernel
theorem d_MM_upperIn_4 : decode b_MM_upperIn 4 = .ok (.iload_n 1, 1) := by decide +kernel
theorem d_MM_upperIn_5 : decode b_MM_upperIn 5 = .ok (.iaload, 1) := by decide +kernel
theorem d_MM_upperIn_6 : decode b_MM_upperIn 6 = .ok (.ifCond .le 7, 3) := by decide +kernel
theorem d_MM_upperIn_9 : decode b_MM_upperIn 9 = .ok (.iconst 3, 1) := by decide +kernel
theorem d_MM_upperIn_10 : decode b_MM_upperIn 10 = .ok (.goto 4, 3) := by decide +kernel
theorem d_MM_upperIn_13 : decode b_MM_upperIn 13 = .ok (.iconst 1, 1) := by decide +kernel
theorem d_MM_upperIn_14 : decode b_MM_upperIn 14 = .ok (.ireturn, 1) := by decide +kernel
theorem d_MM_sort_0 : decode b_MM_sort 0 = .ok (.aload_n 0, 1) := by decide +kernel
theorem d_MM_sort_1 : decode b_MM_sort 1 = .ok (.iconst 0, 1) := by decide +kernel
theorem d_MM_sort_2 : decode b_MM_sort 2 = .ok (.putfield 88, 3) := by decide +kernel
theorem d_MM_sort_5 : decode b_MM_sort 5 = .ok (.iconst 0, 1) := by decide +kernel
theorem d_MM_sort_6 : decode b_MM_sort 6 = .ok (.istore_n 1, 1) := by decide +kernel
theorem d_MM_sort_7 : decode b_MM_sort 7 = .ok (.iload_n 1, 1) := by decide +kernel
theorem d_MM_sort_8 : decode b_MM_sort 8 = .ok (.iconst 4, 1) := by decide +kernel
theorem d_MM_sort_9 : decode b_MM_sort 9 = .ok (.aload_n 0, 1) := by decide +kernel
theorem d_MM_sort_10 : decode b_MM_sort 10 = .ok (.getfield 73, 3) := by decide +kernel
theorem d_MM_sort_13 : decode b_MM_sort 13 = .ok (.imul, 1) := by decide +kernel
theorem d_MM_sort_14 : decode b_MM_sort 14 = .ok (.if_icmp .ge 124, 3) := by decide +kernel
theorem d_MM_sort_17 : decode b_MM_sort 17 = .ok (.iconst 0, 1) := by decide +kernel
theorem d_MM_sort_18 : decode b_MM_sort 18 = .ok (.istore_n 2, 1) := by decide +kernel
theorem d_MM_sort_19 : decode b_MM_sort 19 = .ok (.iconst 0, 1) := by decide +kernel
theorem d_MM_sort_20 : decode b_MM_sort 20 = .ok (.istore_n 3, 1) := by decide +kernel
theorem d_MM_sort_21 : decode b_MM_sort 21 = .ok (.iload_n 3, 1) := by decide +kernel
theorem d_MM_sort_22 : decode b_MM_sort 22 = .ok (.aload_n 0, 1) := by decide +kernel
theorem d_MM_sort_23 : decode b_MM_sort 23 = .ok (.getfield 88, 3) := by decide +kernel
theorem d_MM_sort_26 : decode b_MM_sort 26 = .ok (.if_icmp .ge 34, 3) := by decide +kernel
theorem d_MM_sort_29 : decode b_MM_sort 29 = .ok (.iload_n 2, 1) := by decide +kernel
theorem d_MM_sort_30 : decode b_MM_sort 30 = .ok (.ifCond .ne 18, 3) := by decide +kernel
theorem d_MM_sort_33 : decode b_MM_sort 33 = .ok (.aload_n 0, 1) := by decide +kernel
theorem d_MM_sort_34 : decode b_MM_sort 34 = .ok (.getfield 32, 3) := by decide +kernel
theorem d_MM_sort_37 : decode b_MM_sort 37 = .ok (.iload_n 3, 1) := by decide +kernel
theorem d_MM_sort_38 : decode b_MM_sort 38 = .ok (.iaload, 1) := by decide +kernel
theorem d_MM_sort_39 : decode b_MM_sort 39 = .ok (.aload_n 0, 1) := by decide +kernel
theorem d_MM_sort_40 : decode b_MM_sort 40 = .ok (.getfield 23, 3) := by decide +kernel
theorem d_MM_sort_43 : decode b_MM_sort 43 = .ok (.iload_n 1, 1) := by decide +kernel
theorem d_MM_sort_44 : decode b_MM_sort 44 = .ok (.iaload, 1) := by decide +kernel
theorem d_MM_sort_45 : decode b_MM_sort 45 = .ok (.if_icmp .ne 7, 3) := by decide +kernel
theorem d_MM_sort_48 : decode b_MM_sort 48 = .ok (.iconst 1, 1) := by decide +kernel
theorem d_MM_sort_49 : decode b_MM_sort 49 = .ok (.goto 4, 3) := by decide +kernel
theorem d_MM_sort_52 : decode b_MM_sort 52 = .ok (.iconst 0, 1) := by decide +kernel
theorem d_MM_sort_53 : decode b_MM_sort 53 = .ok (.istore_n 2, 1) := by decide +kernel
theorem d_MM_sort_54 : decode b_MM_sort 54 = .ok (.iinc 3 1, 3) := by decide +kernel
theorem d_MM_sort_57 : decode b_MM_sort 57 = .ok (.goto (-36), 3) := by decide +kernel
theorem d_MM_sort_60 : decode b_MM_sort 60 = .ok (.iload_n 2, 1) := by decide +kernel
theorem d_MM_sort_61 : decode b_MM_sort 61 = .ok (.ifCond .ne 71, 3) := by decide +kernel
theorem d_MM_sort_64 : decode b_MM_sort 64 = .ok (.aload_n 0, 1) := by decide +kernel
theorem d_MM_sort_65 : decode b_MM_sort 65 = .ok (.getfield 88, 3) := by decide +kernel
theorem d_MM_sort_68 : decode b_MM_sort 68 = .ok (.istore_n 3, 1) := by decide +kernel
theorem d_MM_sort_69 : decode b_MM_sort 69 = .ok (.iload_n 3, 1) := by decide +kernel
theorem d_MM_sort_70 : decode b_MM_sort 70 = .ok (.ifCond .le 40, 3) := by decide +kernel
theorem d_MM_sort_73 : decode b_MM_sort 73 = .ok (.aload_n 0, 1) := by decide +kernel
theorem d_MM_sort_74 : decode b_MM_sort 74 = .ok (.getfield 32, 3) := by decide +kernel
theorem d_MM_sort_77 : decode b_MM_sort 77 = .ok (.iload_n 3, 1) := by decide +kernel
theorem d_MM_sort_78 : decode b_MM_sort 78 = .ok (.iconst 1, 1) := by decide +kernel
theorem d_MM_sort_79 : decode b_MM_sort 79 = .ok (.isub, 1) := by decide +kernel
theorem d_MM_sort_80 : decode b_MM_sort 80 = .ok (.iaload, 1) := by decide +kernel
theorem d_MM_sort_81 : decode b_MM_sort 81 = .ok (.aload_n 0, 1) := by decide +kernel
theorem d_MM_sort_82 : decode b_MM_sort 82 = .ok (.getfield 23, 3) := by decide +kernel
theorem d_MM_sort_85 : decode b_MM_sort 85 = .ok (.iload_n 1, 1) := by decide +kernel
theorem d_MM_sort_86 : decode b_MM_sort 86 = .ok (.iaload, 1) := by decide +kernel
theorem d_MM_sort_87 : decode b_MM_sort 87 = .ok (.if_icmp .le 23, 3) := by decide +kernel
theorem d_MM_sort_90 : decode b_MM_sort 90 = .ok (.aload_n 0, 1) := by decide +kernel
theorem d_MM_sort_91 : decode b_MM_sort 91 = .ok (.getfield 32, 3) := by decide +kernel
theorem d_MM_sort_94 : decode b_MM_sort 94 = .ok (.iload_n 3, 1) := by decide +kernel
theorem d_MM_sort_95 : decode b_MM_sort 95 = .ok (.aload_n 0, 1) := by decide +kernel
theorem d_MM_sort_96 : decode b_MM_sort 96 = .ok (.getfield 32, 3) := by decide +kernel
theorem d_MM_sort_99 : decode b_MM_sort 99 = .ok (.iload_n 3, 1) := by decide +kernel
theorem d_MM_sort_100 : decode b_MM_sort 100 = .ok (.iconst 1, 1) := by decide +kernel
theorem d_MM_sort_101 : decode b_MM_sort 101 = .ok (.isub, 1) := by decide +kernel
theorem d_MM_sort_102 : decode b_MM_sort 102 = .ok (.iaload, 1) := by decide +kernel
theorem d_MM_sort_103 : decode b_MM_sort 103 = .ok (.iastore, 1) := by decide +kernel
theorem d_MM_sort_104 : decode b_MM_sort 104 = .ok (.iinc 3 (-1), 3) := by decide +kernel
theorem d_MM_sort_107 : decode b_MM_sort 107 = .ok (.goto (-38), 3) := by decide +kernel
theorem d_MM_sort_110 : decode b_MM_sort 110 = .ok (.aload_n 0, 1) := by decide +kernel
theorem d_MM_sort_111 : decode b_MM_sort 111 = .ok (.getfield 32, 3) := by decide +kernel
theorem d_MM_sort_114 : decode b_MM_sort 114 = .ok (.iload_n 3, 1) := by decide +kernel
theorem d_MM_sort_115 : decode b_MM_sort 115 = .ok (.aload_n 0, 1) := by decide +kernel
theorem d_MM_sort_116 : decode b_MM_sort 116 = .ok (.getfield 23, 3) := by decide +kernel
theorem d_MM_sort_119 : decode b_MM_sort 119 = .ok (.iload_n 1, 1) := by decide +kernel
theorem d_MM_sort_120 : decode b_MM_sort 120 = .ok (.iaload, 1) := by decide +kernel
theorem d_MM_sort_121 : decode b_MM_sort 121 = .ok (.iastore, 1) := by decide +kernel
theorem d_MM_sort_122 : decode b_MM_sort 122 = .ok (.aload_n 0, 1) := by decide +kernel
theorem d_MM_sort_123 : decode b_MM_sort 123 = .ok (.dup, 1) := by decide +kernel
theorem d_MM_sort_124 : decode b_MM_sort 124 = .ok (.getfield 88, 3) := by decide +kernel
theorem d_MM_sort_127 : decode b_MM_sort 127 = .ok (.iconst 1, 1) := by decide +kernel
theorem d_MM_sort_128 : decode b_MM_sort 128 = .ok (.iadd, 1) := by decide +kernel
theorem d_MM_sort_129 : decode b_MM_sort 129 = .ok (.putfield 88, 3) := by decide +kernel
theorem d_MM_sort_132 : decode b_MM_sort 132 = .ok (.iinc 1 1, 3) := by decide +kernel
theorem d_MM_sort_135 : decode b_MM_sort 135 = .ok (.goto (-128), 3) := by decide +kernel
theorem d_MM_sort_138 : decode b_MM_sort 138 = .ok (.return_, 1) := by decide +kernel
theorem d_MM_hang_0 : decode b_MM_hang 0 = .ok (.iconst 0, 1) := by decide +kernel
theorem d_MM_hang_1 : decode b_MM_hang 1 = .ok (.istore_n 1, 1) := by decide +kernel
theorem d_MM_hang_2 : decode b_MM_hang 2 = .ok (.iload_n 1, 1) := by decide +kernel
theorem d_MM_hang_3 : decode b_MM_hang 3 = .ok (.aload_n 0, 1) := by decide +kernel
theorem d_MM_hang_4 : decode b_MM_hang 4 = .ok (.getfield 73, 3) := by decide +kernel
theorem d_MM_hang_7 : decode b_MM_hang 7 = .ok (.if_icmp .ge 16, 3) := by decide +kernel
theorem d_MM_hang_10 : decode b_MM_hang 10 = .ok (.aload_n 0, 1) := by decide +kernel
theorem d_MM_hang_11 : decode b_MM_hang 11 = .ok (.getfield 38, 3) := by decide +kernel
theorem d_MM_hang_14 : decode b_MM_hang 14 = .ok (.iload_n 1, 1) := by decide +kernel
theorem d_MM_hang_15 : decode b_MM_hang 15 = .ok (.iload_n 1, 1) := by decide +kernel
theorem d_MM_hang_16 : decode b_MM_hang 16 = .ok (.iastore, 1) := by decide +kernel
theorem d_MM_hang_17 : decode b_MM_hang 17 = .ok (.iinc 1 1, 3) := by decide +kernel
theorem d_MM_hang_20 : decode b_MM_hang 20 = .ok (.goto (-18), 3) := by decide +kernel
theorem d_MM_hang_23 : decode b_MM_hang 23 = .ok (.iconst 1, 1) := by decide +kernel
theorem d_MM_hang_24 : decode b_MM_hang 24 = .ok (.istore_n 1, 1) := by decide +kernel
theorem d_MM_hang_25 : decode b_MM_hang 25 = .ok (.iload_n 1, 1) := by decide +kernel
theorem d_MM_hang_26 : decode b_MM_hang 26 = .ok (.ifCond .eq 96, 3) := by decide +kernel
theorem d_MM_hang_29 : decode b_MM_hang 29 = .ok (.iconst 0, 1) := by decide +kernel
theorem d_MM_hang_30 : decode b_MM_hang 30 = .ok (.istore_n 1, 1) := by decide +kernel
theorem d_MM_hang_31 : decode b_MM_hang 31 = .ok (.iconst 0, 1) := by decide +kernel
theorem d_MM_hang_32 : decode b_MM_hang 32 = .ok (.istore_n 2, 1) := by decide +kernel
theorem d_MM_hang_33 : decode b_MM_hang 33 = .ok (.iload_n 2, 1) := by decide +kernel
theorem d_MM_hang_34 : decode b_MM_hang 34 = .ok (.iconst 4, 1) := by decide +kernel
theorem d_MM_hang_35 : decode b_MM_hang 35 = .ok (.aload_n 0, 1) := by decide +kernel
theorem d_MM_hang_36 : decode b_MM_hang 36 = .ok (.getfield 73, 3) := by decide +kernel
theorem d_MM_hang_39 : decode b_MM_hang 39 = .ok (.imul, 1) := by decide +kernel
theorem d_MM_hang_40 : decode b_MM_hang 40 = .ok (.if_icmp .ge 79, 3) := by decide +kernel
theorem d_MM_hang_43 : decode b_MM_hang 43 = .ok (.iconst 0, 1) := by decide +kernel
theorem d_MM_hang_44 : decode b_MM_hang 44 = .ok (.istore_n 3, 1) := by decide +kernel
theorem d_MM_hang_45 : decode b_MM_hang 45 = .ok (.iload_n 3, 1) := by decide +kernel
theorem d_MM_hang_46 : decode b_MM_hang 46 = .ok (.iconst 4, 1) := by decide +kernel
theorem d_MM_hang_47 : decode b_MM_hang 47 = .ok (.aload_n 0, 1) := by decide +kernel
theorem d_MM_hang_48 : decode b_MM_hang 48 = .ok (.getfield 73, 3) := by decide +kernel
theorem d_MM_hang_51 : decode b_MM_hang 51 = .ok (.imul, 1) := by decide +kernel
theorem d_MM_hang_52 : decode b_MM_hang 52 = .ok (.if_icmp .ge 61, 3) := by decide +kernel
theorem d_MM_hang_55 : decode b_MM_hang 55 = .ok (.aload_n 0, 1) := by decide +kernel
theorem d_MM_hang_56 : decode b_MM_hang 56 = .ok (.getfield 23, 3) := by decide +kernel
theorem d_MM_hang_59 : decode b_MM_hang 59 = .ok (.iload_n 2, 1) := by decide +kernel
theorem d_MM_hang_60 : decode b_MM_hang 60 = .ok (.iaload, 1) := by decide +kernel
theorem d_MM_hang_61 : decode b_MM_hang 61 = .ok (.aload_n 0, 1) := by decide +kernel
theorem d_MM_hang_62 : decode b_MM_hang 62 = .ok (.getfield 23, 3) := by decide +kernel
theorem d_MM_hang_65 : decode b_MM_hang 65 = .ok (.iload_n 3, 1) := by decide +kernel
theorem d_MM_hang_66 : decode b_MM_hang 66 = .ok (.iaload, 1) := by decide +kernel
theorem d_MM_hang_67 : decode b_MM_hang 67 = .ok (.if_icmp .ne 40, 3) := by decide +kernel
theorem d_MM_hang_70 : decode b_MM_hang 70 = .ok (.aload_n 0, 1) := by decide +kernel
theorem d_MM_hang_71 : decode b_MM_hang 71 = .ok (.getfield 38, 3) := by decide +kernel
theorem d_MM_hang_74 : decode b_MM_hang 74 = .ok (.iload_n 2, 1) := by decide +kernel
theorem d_MM_hang_75 : decode b_MM_hang 75 = .ok (.iconst 4, 1) := by decide +kernel
theorem d_MM_hang_76 : decode b_MM_hang 76 = .ok (.idiv, 1) := by decide +kernel
theorem d_MM_hang_77 : decode b_MM_hang 77 = .ok (.iaload, 1) := by decide +kernel
theorem d_MM_hang_78 : decode b_MM_hang 78 = .ok (.aload_n 0, 1) := by decide +kernel
theorem d_MM_hang_79 : decode b_MM_hang 79 = .ok (.getfield 38, 3) := by decide +kernel
theorem d_MM_hang_82 : decode b_MM_hang 82 = .ok (.iload_n 3, 1) := by decide +kernel
theorem d_MM_hang_83 : decode b_MM_hang 83 = .ok (.iconst 4, 1) := by decide +kernel
theorem d_MM_hang_84 : decode b_MM_hang 84 = .ok (.idiv, 1) := by decide +kernel
theorem d_MM_hang_85 : decode b_MM_hang 85 = .ok (.iaload, 1) := by decide +kernel
theorem d_MM_hang_86 : decode b_MM_hang 86 = .ok (.if_icmp .ge 21, 3) := by decide +kernel
theorem d_MM_hang_89 : decode b_MM_hang 89 = .ok (.aload_n 0, 1) := by decide +kernel
theorem d_MM_hang_90 : decode b_MM_hang 90 = .ok (.getfield 38, 3) := by decide +kernel
theorem d_MM_hang_93 : decode b_MM_hang 93 = .ok (.iload_n 3, 1) := by decide +kernel
theorem d_MM_hang_94 : decode b_MM_hang 94 = .ok (.iconst 4, 1) := by decide +kernel
theorem d_MM_hang_95 : decode b_MM_hang 95 = .ok (.idiv, 1) := by decide +kernel
theorem d_MM_hang_96 : decode b_MM_hang 96 = .ok (.aload_n 0, 1) := by decide +kernel
theorem d_MM_hang_97 : decode b_MM_hang 97 = .ok (.getfield 38, 3) := by decide +kernel
theorem d_MM_hang_100 : decode b_MM_hang 100 = .ok (.iload_n 2, 1) := by decide +kernel
theorem d_MM_hang_101 : decode b_MM_hang 101 = .ok (.iconst 4, 1) := by decide +kernel
theorem d_MM_hang_102 : decode b_MM_hang 102 = .ok (.idiv, 1) := by decide +kernel
theorem d_MM_hang_103 : decode b_MM_hang 103 = .ok (.iaload, 1) := by decide +kernel
theorem d_MM_hang_104 : decode b_MM_hang 104 = .ok (.iastore, 1) := by decide +kernel
theorem d_MM_hang_105 : decode b_MM_hang 105 = .ok (.iconst 1, 1) := by decide +kernel
theorem d_MM_hang_106 : decode b_MM_hang 106 = .ok (.istore_n 1, 1) := by decide +kernel
theorem d_MM_hang_107 : decode b_MM_hang 107 = .ok (.iinc 3 1, 3) := by decide +kernel
theorem d_MM_hang_110 : decode b_MM_hang 110 = .ok (.goto (-65), 3) := by decide +kernel
theorem d_MM_hang_113 : decode b_MM_hang 113 = .ok (.iinc 2 1, 3) := by decide +kernel
theorem d_MM_hang_116 : decode b_MM_hang 116 = .ok (.goto (-83), 3) := by decide +kernel
theorem d_MM_hang_119 : decode b_MM_hang 119 = .ok (.goto (-94), 3) := by decide +kernel
theorem d_MM_hang_122 : decode b_MM_hang 122 = .ok (.return_, 1) := by decide +kernel
theorem d_MM_turn_0 : decode b_MM_turn 0 = .ok (.aload_n 0, 1) := by decide +kernel
theorem d_MM_turn_1 : decode b_MM_turn 1 = .ok (.iload_n 1, 1) := by decide +kernel
theorem d_MM_turn_2 : decode b_MM_turn 2 = .ok (.iconst 2, 1) := by decide +kernel
theorem d_MM_turn_3 : decode b_MM_turn 3 = .ok (.idiv, 1) := by decide +kernel
theorem d_MM_turn_4 : decode b_MM_turn 4 = .ok (.iload_n 1, 1) := by decide +kernel
theorem d_MM_turn_5 : decode b_MM_turn 5 = .ok (.iconst 2, 1) := by decide +kernel
theorem d_MM_turn_6 : decode b_MM_turn 6 = .ok (.irem, 1) := by decide +kernel
theorem d_MM_turn_7 : decode b_MM_turn 7 = .ok (.iconst 1, 1) := by decide +kernel
theorem d_MM_turn_8 : decode b_MM_turn 8 = .ok (.if_icmp .ne 7, 3) := by decide +kernel
theorem d_MM_turn_11 : decode b_MM_turn 11 = .ok (.iconst 1, 1) := by decide +kernel
theorem d_MM_turn_12 : decode b_MM_turn 12 = .ok (.goto 4, 3) := by decide +kernel
theorem d_MM_turn_15 : decode b_MM_turn 15 = .ok (.iconst 0, 1) := by decide +kernel
theorem d_MM_turn_16 : decode b_MM_turn 16 = .ok (.invokevirtual 80, 3) := by decide +kernel
theorem d_MM_turn_19 : decode b_MM_turn 19 = .ok (.istore_n 2, 1) := by decide +kernel
theorem d_MM_turn_20 : decode b_MM_turn 20 = .ok (.iload_n 2, 1) := by decide +kernel
theorem d_MM_turn_21 : decode b_MM_turn 21 = .ok (.iconst 4, 1) := by decide +kernel
theorem d_MM_turn_22 : decode b_MM_turn 22 = .ok (.idiv, 1) := by decide +kernel
theorem d_MM_turn_23 : decode b_MM_turn 23 = .ok (.iconst 4, 1) := by decide +kernel
theorem d_MM_turn_24 : decode b_MM_turn 24 = .ok (.imul, 1) := by decide +kernel
theorem d_MM_turn_25 : decode b_MM_turn 25 = .ok (.iload_n 2, 1) := by decide +kernel
theorem d_MM_turn_26 : decode b_MM_turn 26 = .ok (.iconst 3, 1) := by decide +kernel
theorem d_MM_turn_27 : decode b_MM_turn 27 = .ok (.iadd, 1) := by decide +kernel
theorem d_MM_turn_28 : decode b_MM_turn 28 = .ok (.iconst 4, 1) := by decide +kernel
theorem d_MM_turn_29 : decode b_MM_turn 29 = .ok (.irem, 1) := by decide +kernel
theorem d_MM_turn_30 : decode b_MM_turn 30 = .ok (.iadd, 1) := by decide +kernel
theorem d_MM_turn_31 : decode b_MM_turn 31 = .ok (.istore_n 3, 1) := by decide +kernel
theorem d_MM_turn_32 : decode b_MM_turn 32 = .ok (.iconst 2, 1) := by decide +kernel
theorem d_MM_turn_33 : decode b_MM_turn 33 = .ok (.aload_n 0, 1) := by decide +kernel
theorem d_MM_turn_34 : decode b_MM_turn 34 = .ok (.getfield 23, 3) := by decide +kernel
theorem d_MM_turn_37 : decode b_MM_turn 37 = .ok (.iload_n 3, 1) := by decide +kernel
theorem d_MM_turn_38 : decode b_MM_turn 38 = .ok (.iaload, 1) := by decide +kernel
theorem d_MM_turn_39 : decode b_MM_turn 39 = .ok (.imul, 1) := by decide +kernel
theorem d_MM_turn_40 : decode b_MM_turn 40 = .ok (.aload_n 0, 1) := by decide +kernel
theorem d_MM_turn_41 : decode b_MM_turn 41 = .ok (.iload_n 3, 1) := by decide +kernel
theorem d_MM_turn_42 : decode b_MM_turn 42 = .ok (.invokevirtual 76, 3) := by decide +kernel
theorem d_MM_turn_45 : decode b_MM_turn 45 = .ok (.ifCond .eq 7, 3) := by decide +kernel
theorem d_MM_turn_48 : decode b_MM_turn 48 = .ok (.iconst 0, 1) := by decide +kernel
theorem d_MM_turn_49 : decode b_MM_turn 49 = .ok (.goto 4, 3) := by decide +kernel
theorem d_MM_turn_52 : decode b_MM_turn 52 = .ok (.iconst 1, 1) := by decide +kernel
theorem d_MM_turn_53 : decode b_MM_turn 53 = .ok (.iadd, 1) := by decide +kernel
theorem d_MM_turn_54 : decode b_MM_turn 54 = .ok (.ireturn, 1) := by decide +kernel
theorem d_MM_rowOf_0 : decode b_MM_rowOf 0 = .ok (.iconst 0, 1) := by decide +kernel
theorem d_MM_rowOf_1 : decode b_MM_rowOf 1 = .ok (.istore_n 2, 1) := by decide +kernel
theorem d_MM_rowOf_2 : decode b_MM_rowOf 2 = .ok (.aload_n 0, 1) := by decide +kernel
theorem d_MM_rowOf_3 : decode b_MM_rowOf 3 = .ok (.getfield 32, 3) := by decide +kernel
theorem d_MM_rowOf_6 : decode b_MM_rowOf 6 = .ok (.iload_n 2, 1) := by decide +kernel
theorem d_MM_rowOf_7 : decode b_MM_rowOf 7 = .ok (.iaload, 1) := by decide +kernel
theorem d_MM_rowOf_8 : decode b_MM_rowOf 8 = .ok (.iload_n 1, 1) := by decide +kernel
theorem d_MM_rowOf_9 : decode b_MM_rowOf 9 = .ok (.if_icmp .eq 9, 3) := by decide +kernel
theorem d_MM_rowOf_12 : decode b_MM_rowOf 12 = .ok (.iinc 2 1, 3) := by decide +kernel
theorem d_MM_rowOf_15 : decode b_MM_rowOf 15 = .ok (.goto (-13), 3) := by decide +kernel
theorem d_MM_rowOf_18 : decode b_MM_rowOf 18 = .ok (.iload_n 2, 1) := by decide +kernel
theorem d_MM_rowOf_19 : decode b_MM_rowOf 19 = .ok (.ireturn, 1) := by decide +kernel
theorem d_MM_findFaces_0 : decode b_MM_findFaces 0 = .ok (.aload_n 0, 1) := by decide +kernel
theorem d_MM_findFaces_1 : decode b_MM_findFaces 1 = .ok (.invokevirtual 91, 3) := by decide +kernel
theorem d_MM_findFaces_4 : decode b_MM_findFaces 4 = .ok (.iconst 0, 1) := by decide +kernel
theorem d_MM_findFaces_5 : decode b_MM_findFaces 5 = .ok (.istore_n 1, 1) := by decide +kernel
theorem d_MM_findFaces_6 : decode b_MM_findFaces 6 = .ok (.iload_n 1, 1) := by decide +kernel
theorem d_MM_findFaces_7 : decode b_MM_findFaces 7 = .ok (.bipush 48, 2) := by decide +kernel
theorem d_MM_findFaces_9 : decode b_MM_findFaces 9 = .ok (.if_icmp .ge 16, 3) := by decide +kernel
theorem d_MM_findFaces_12 : decode b_MM_findFaces 12 = .ok (.aload_n 0, 1) := by decide +kernel
theorem d_MM_findFaces_13 : decode b_MM_findFaces 13 = .ok (.getfield 41, 3) := by decide +kernel
theorem d_MM_findFaces_16 : decode b_MM_findFaces 16 = .ok (.iload_n 1, 1) := by decide +kernel
theorem d_MM_findFaces_17 : decode b_MM_findFaces 17 = .ok (.iconst (-1), 1) := by decide +kernel
theorem d_MM_findFaces_18 : decode b_MM_findFaces 18 = .ok (.iastore, 1) := by decide +kernel
theorem d_MM_findFaces_19 : decode b_MM_findFaces 19 = .ok (.iinc 1 1, 3) := by decide +kernel
theorem d_MM_findFaces_22 : decode b_MM_findFaces 22 = .ok (.goto (-16), 3) := by decide +kernel
theorem d_MM_findFaces_25 : decode b_MM_findFaces 25 = .ok (.aload_n 0, 1) := by decide +kernel
theorem d_MM_findFaces_26 : decode b_MM_findFaces 26 = .ok (.iconst 0, 1) := by decide +kernel
theorem d_MM_findFaces_27 : decode b_MM_findFaces 27 = .ok (.putfield 94, 3) := by decide +kernel
theorem d_MM_findFaces_30 : decode b_MM_findFaces 30 = .ok (.iconst 0, 1) := by decide +kernel
theorem d_MM_findFaces_31 : decode b_MM_findFaces 31 = .ok (.istore_n 1, 1) := by decide +kernel
theorem d_MM_findFaces_32 : decode b_MM_findFaces 32 = .ok (.iload_n 1, 1) := by decide +kernel
theorem d_MM_findFaces_33 : decode b_MM_findFaces 33 = .ok (.iconst 2, 1) := by decide +kernel
theorem d_MM_findFaces_34 : decode b_MM_findFaces 34 = .ok (.aload_n 0, 1) := by decide +kernel
theorem d_MM_findFaces_35 : decode b_MM_findFaces 35 = .ok (.getfield 88, 3) := by decide +kernel
theorem d_MM_findFaces_38 : decode b_MM_findFaces 38 = .ok (.imul, 1) := by decide +kernel
theorem d_MM_findFaces_39 : decode b_MM_findFaces 39 = .ok (.if_icmp .ge 113, 3) := by decide +kernel
theorem d_MM_findFaces_42 : decode b_MM_findFaces 42 = .ok (.iconst 2, 1) := by decide +kernel
theorem d_MM_findFaces_43 : decode b_MM_findFaces 43 = .ok (.aload_n 0, 1) := by decide +kernel
theorem d_MM_findFaces_44 : decode b_MM_findFaces 44 = .ok (.getfield 32, 3) := by decide +kernel
theorem d_MM_findFaces_47 : decode b_MM_findFaces 47 = .ok (.iload_n 1, 1) := by decide +kernel
theorem d_MM_findFaces_48 : decode b_MM_findFaces 48 = .ok (.iconst 2, 1) := by decide +kernel
theorem d_MM_findFaces_49 : decode b_MM_findFaces 49 = .ok (.idiv, 1) := by decide +kernel
theorem d_MM_findFaces_50 : decode b_MM_findFaces 50 = .ok (.iaload, 1) := by decide +kernel
theorem d_MM_findFaces_51 : decode b_MM_findFaces 51 = .ok (.imul, 1) := by decide +kernel
theorem d_MM_findFaces_52 : decode b_MM_findFaces 52 = .ok (.iload_n 1, 1) := by decide +kernel
theorem d_MM_findFaces_53 : decode b_MM_findFaces 53 = .ok (.iconst 2, 1) := by decide +kernel
theorem d_MM_findFaces_54 : decode b_MM_findFaces 54 = .ok (.irem, 1) := by decide +kernel
theorem d_MM_findFaces_55 : decode b_MM_findFaces 55 = .ok (.iadd, 1) := by decide +kernel
theorem d_MM_findFaces_56 : decode b_MM_findFaces 56 = .ok (.istore_n 2, 1) := by decide +kernel
theorem d_MM_findFaces_57 : decode b_MM_findFaces 57 = .ok (.aload_n 0, 1) := by decide +kernel
theorem d_MM_findFaces_58 : decode b_MM_findFaces 58 = .ok (.getfield 41, 3) := by decide +kernel
theorem d_MM_findFaces_61 : decode b_MM_findFaces 61 = .ok (.iload_n 1, 1) := by decide +kernel
theorem d_MM_findFaces_62 : decode b_MM_findFaces 62 = .ok (.iaload, 1) := by decide +kernel
theorem d_MM_findFaces_63 : decode b_MM_findFaces 63 = .ok (.ifCond .ge 7, 3) := by decide +kernel
theorem d_MM_findFaces_66 : decode b_MM_findFaces 66 = .ok (.iconst 1, 1) := by decide +kernel
theorem d_MM_findFaces_67 : decode b_MM_findFaces 67 = .ok (.goto 4, 3) := by decide +kernel
theorem d_MM_findFaces_70 : decode b_MM_findFaces 70 = .ok (.iconst 0, 1) := by decide +kernel
theorem d_MM_findFaces_71 : decode b_MM_findFaces 71 = .ok (.istore_n 3, 1) := by decide +kernel
theorem d_MM_findFaces_72 : decode b_MM_findFaces 72 = .ok (.iload_n 3, 1) := by decide +kernel
theorem d_MM_findFaces_73 : decode b_MM_findFaces 73 = .ok (.ifCond .eq 55, 3) := by decide +kernel
theorem d_MM_findFaces_76 : decode b_MM_findFaces 76 = .ok (.aload_n 0, 1) := by decide +kernel
theorem d_MM_findFaces_77 : decode b_MM_findFaces 77 = .ok (.getfield 41, 3) := by decide +kernel
theorem d_MM_findFaces_80 : decode b_MM_findFaces 80 = .ok (.iconst 2, 1) := by decide +kernel
theorem d_MM_findFaces_81 : decode b_MM_findFaces 81 = .ok (.aload_n 0, 1) := by decide +kernel
theorem d_MM_findFaces_82 : decode b_MM_findFaces 82 = .ok (.iload_n 2, 1) := by decide +kernel
theorem d_MM_findFaces_83 : decode b_MM_findFaces 83 = .ok (.iconst 2, 1) := by decide +kernel
theorem d_MM_findFaces_84 : decode b_MM_findFaces 84 = .ok (.idiv, 1) := by decide +kernel
theorem d_MM_findFaces_85 : decode b_MM_findFaces 85 = .ok (.invokevirtual 97, 3) := by decide +kernel
theorem d_MM_findFaces_88 : decode b_MM_findFaces 88 = .ok (.imul, 1) := by decide +kernel
theorem d_MM_findFaces_89 : decode b_MM_findFaces 89 = .ok (.iload_n 2, 1) := by decide +kernel
theorem d_MM_findFaces_90 : decode b_MM_findFaces 90 = .ok (.iconst 2, 1) := by decide +kernel
theorem d_MM_findFaces_91 : decode b_MM_findFaces 91 = .ok (.irem, 1) := by decide +kernel
theorem d_MM_findFaces_92 : decode b_MM_findFaces 92 = .ok (.iadd, 1) := by decide +kernel
theorem d_MM_findFaces_93 : decode b_MM_findFaces 93 = .ok (.iaload, 1) := by decide +kernel
theorem d_MM_findFaces_94 : decode b_MM_findFaces 94 = .ok (.ifCond .ge 34, 3) := by decide +kernel
theorem d_MM_findFaces_97 : decode b_MM_findFaces 97 = .ok (.aload_n 0, 1) := by decide +kernel
theorem d_MM_findFaces_98 : decode b_MM_findFaces 98 = .ok (.getfield 41, 3) := by decide +kernel
theorem d_MM_findFaces_101 : decode b_MM_findFaces 101 = .ok (.iconst 2, 1) := by decide +kernel
theorem d_MM_findFaces_102 : decode b_MM_findFaces 102 = .ok (.aload_n 0, 1) := by decide +kernel
theorem d_MM_findFaces_103 : decode b_MM_findFaces 103 = .ok (.iload_n 2, 1) := by decide +kernel
theorem d_MM_findFaces_104 : decode b_MM_findFaces 104 = .ok (.iconst 2, 1) := by decide +kernel
theorem d_MM_findFaces_105 : decode b_MM_findFaces 105 = .ok (.idiv, 1) := by decide +kernel
theorem d_MM_findFaces_106 : decode b_MM_findFaces 106 = .ok (.invokevirtual 97, 3) := by decide +kernel
theorem d_MM_findFaces_109 : decode b_MM_findFaces 109 = .ok (.imul, 1) := by decide +kernel
theorem d_MM_findFaces_110 : decode b_MM_findFaces 110 = .ok (.iload_n 2, 1) := by decide +kernel
theorem d_MM_findFaces_111 : decode b_MM_findFaces 111 = .ok (.iconst 2, 1) := by decide +kernel
theorem d_MM_findFaces_112 : decode b_MM_findFaces 112 = .ok (.irem, 1) := by decide +kernel
theorem d_MM_findFaces_113 : decode b_MM_findFaces 113 = .ok (.iadd, 1) := by decide +kernel
theorem d_MM_findFaces_114 : decode b_MM_findFaces 114 = .ok (.aload_n 0, 1) := by decide +kernel
theorem d_MM_findFaces_115 : decode b_MM_findFaces 115 = .ok (.getfield 94, 3) := by decide +kernel
theorem d_MM_findFaces_118 : decode b_MM_findFaces 118 = .ok (.iastore, 1) := by decide +kernel
theorem d_MM_findFaces_119 : decode b_MM_findFaces 119 = .ok (.aload_n 0, 1) := by decide +kernel
theorem d_MM_findFaces_120 : decode b_MM_findFaces 120 = .ok (.iload_n 2, 1) := by decide +kernel
theorem d_MM_findFaces_121 : decode b_MM_findFaces 121 = .ok (.invokevirtual 100, 3) := by decide +kernel
theorem d_MM_findFaces_124 : decode b_MM_findFaces 124 = .ok (.istore_n 2, 1) := by decide +kernel
theorem d_MM_findFaces_125 : decode b_MM_findFaces 125 = .ok (.goto (-53), 3) := by decide +kernel
theorem d_MM_findFaces_128 : decode b_MM_findFaces 128 = .ok (.aload_n 0, 1) := by decide +kernel
theorem d_MM_findFaces_129 : decode b_MM_findFaces 129 = .ok (.dup, 1) := by decide +kernel
theorem d_MM_findFaces_130 : decode b_MM_findFaces 130 = .ok (.getfield 94, 3) := by decide +kernel
theorem d_MM_findFaces_133 : decode b_MM_findFaces 133 = .ok (.iload_n 3, 1) := by decide +kernel
theorem d_MM_findFaces_134 : decode b_MM_findFaces 134 = .ok (.ifCond .eq 7, 3) := by decide +kernel
theorem d_MM_findFaces_137 : decode b_MM_findFaces 137 = .ok (.iconst 1, 1) := by decide +kernel
theorem d_MM_findFaces_138 : decode b_MM_findFaces 138 = .ok (.goto 4, 3) := by decide +kernel
theorem d_MM_findFaces_141 : decode b_MM_findFaces 141 = .ok (.iconst 0, 1) := by decide +kernel
theorem d_MM_findFaces_142 : decode b_MM_findFaces 142 = .ok (.iadd, 1) := by decide +kernel
theorem d_MM_findFaces_143 : decode b_MM_findFaces 143 = .ok (.putfield 94, 3) := by decide +kernel
theorem d_MM_findFaces_146 : decode b_MM_findFaces 146 = .ok (.iinc 1 1, 3) := by decide +kernel
theorem d_MM_findFaces_149 : decode b_MM_findFaces 149 = .ok (.goto (-117), 3) := by decide +kernel
theorem d_MM_findFaces_152 : decode b_MM_findFaces 152 = .ok (.return_, 1) := by decide +kernel
theorem d_MM_facesAt_0 : decode b_MM_facesAt 0 = .ok (.iconst 0, 1) := by decide +kernel
theorem d_MM_facesAt_1 : decode b_MM_facesAt 1 = .ok (.istore_n 2, 1) := by decide +kernel
theorem d_MM_facesAt_2 : decode b_MM_facesAt 2 = .ok (.iconst (-1), 1) := by decide +kernel
theorem d_MM_facesAt_3 : decode b_MM_facesAt 3 = .ok (.istore_n 3, 1) := by decide +kernel
theorem d_MM_facesAt_4 : decode b_MM_facesAt 4 = .ok (.iconst 0, 1) := by decide +kernel
theorem d_MM_facesAt_5 : decode b_MM_facesAt 5 = .ok (.istore 4, 2) := by decide +kernel
theorem d_MM_facesAt_7 : decode b_MM_facesAt 7 = .ok (.iload 4, 2) := by decide +kernel
theorem d_MM_facesAt_9 : decode b_MM_facesAt 9 = .ok (.iconst 2, 1) := by decide +kernel
theorem d_MM_facesAt_10 : decode b_MM_facesAt 10 = .ok (.aload_n 0, 1) := by decide +kernel
theorem d_MM_facesAt_11 : decode b_MM_facesAt 11 = .ok (.getfield 88, 3) := by decide +kernel
theorem d_MM_facesAt_14 : decode b_MM_facesAt 14 = .ok (.imul, 1) := by decide +kernel
theorem d_MM_facesAt_15 : decode b_MM_facesAt 15 = .ok (.if_icmp .ge 82, 3) := by decide +kernel
theorem d_MM_facesAt_18 : decode b_MM_facesAt 18 = .ok (.aload_n 0, 1) := by decide +kernel
theorem d_MM_facesAt_19 : decode b_MM_facesAt 19 = .ok (.getfield 41, 3) := by decide +kernel
theorem d_MM_facesAt_22 : decode b_MM_facesAt 22 = .ok (.iload 4, 2) := by decide +kernel
theorem d_MM_facesAt_24 : decode b_MM_facesAt 24 = .ok (.iaload, 1) := by decide +kernel
theorem d_MM_facesAt_25 : decode b_MM_facesAt 25 = .ok (.iload_n 3, 1) := by decide +kernel
theorem d_MM_facesAt_26 : decode b_MM_facesAt 26 = .ok (.if_icmp .le 7, 3) := by decide +kernel
theorem d_MM_facesAt_29 : decode b_MM_facesAt 29 = .ok (.iconst 1, 1) := by decide +kernel
theorem d_MM_facesAt_30 : decode b_MM_facesAt 30 = .ok (.goto 4, 3) := by decide +kernel
theorem d_MM_facesAt_33 : decode b_MM_facesAt 33 = .ok (.iconst 0, 1) := by decide +kernel
theorem d_MM_facesAt_34 : decode b_MM_facesAt 34 = .ok (.istore 5, 2) := by decide +kernel
theorem d_MM_facesAt_36 : decode b_MM_facesAt 36 = .ok (.iload_n 2, 1) := by decide +kernel
theorem d_MM_facesAt_37 : decode b_MM_facesAt 37 = .ok (.iload 5, 2) := by decide +kernel
theorem d_MM_facesAt_39 : decode b_MM_facesAt 39 = .ok (.ifCond .eq 32, 3) := by decide +kernel
theorem d_MM_facesAt_42 : decode b_MM_facesAt 42 = .ok (.aload_n 0, 1) := by decide +kernel
theorem d_MM_facesAt_43 : decode b_MM_facesAt 43 = .ok (.getfield 38, 3) := by decide +kernel
theorem d_MM_facesAt_46 : decode b_MM_facesAt 46 = .ok (.aload_n 0, 1) := by decide +kernel
theorem d_MM_facesAt_47 : decode b_MM_facesAt 47 = .ok (.aload_n 0, 1) := by decide +kernel
theorem d_MM_facesAt_48 : decode b_MM_facesAt 48 = .ok (.getfield 32, 3) := by decide +kernel
theorem d_MM_facesAt_51 : decode b_MM_facesAt 51 = .ok (.iload 4, 2) := by decide +kernel
theorem d_MM_facesAt_53 : decode b_MM_facesAt 53 = .ok (.iconst 2, 1) := by decide +kernel
theorem d_MM_facesAt_54 : decode b_MM_facesAt 54 = .ok (.idiv, 1) := by decide +kernel
theorem d_MM_facesAt_55 : decode b_MM_facesAt 55 = .ok (.iaload, 1) := by decide +kernel
theorem d_MM_facesAt_56 : decode b_MM_facesAt 56 = .ok (.iconst 1, 1) := by decide +kernel
theorem d_MM_facesAt_57 : decode b_MM_facesAt 57 = .ok (.invokevirtual 80, 3) := by decide +kernel
theorem d_MM_facesAt_60 : decode b_MM_facesAt 60 = .ok (.iconst 4, 1) := by decide +kernel
theorem d_MM_facesAt_61 : decode b_MM_facesAt 61 = .ok (.idiv, 1) := by decide +kernel
theorem d_MM_facesAt_62 : decode b_MM_facesAt 62 = .ok (.iaload, 1) := by decide +kernel
theorem d_MM_facesAt_63 : decode b_MM_facesAt 63 = .ok (.iload_n 1, 1) := by decide +kernel
theorem d_MM_facesAt_64 : decode b_MM_facesAt 64 = .ok (.if_icmp .ne 7, 3) := by decide +kernel
theorem d_MM_facesAt_67 : decode b_MM_facesAt 67 = .ok (.iconst 1, 1) := by decide +kernel
theorem d_MM_facesAt_68 : decode b_MM_facesAt 68 = .ok (.goto 4, 3) := by decide +kernel
theorem d_MM_facesAt_71 : decode b_MM_facesAt 71 = .ok (.iconst 0, 1) := by decide +kernel
theorem d_MM_facesAt_72 : decode b_MM_facesAt 72 = .ok (.iadd, 1) := by decide +kernel
theorem d_MM_facesAt_73 : decode b_MM_facesAt 73 = .ok (.istore_n 2, 1) := by decide +kernel
theorem d_MM_facesAt_74 : decode b_MM_facesAt 74 = .ok (.iload 5, 2) := by decide +kernel
theorem d_MM_facesAt_76 : decode b_MM_facesAt 76 = .ok (.ifCond .eq 13, 3) := by decide +kernel
theorem d_MM_facesAt_79 : decode b_MM_facesAt 79 = .ok (.aload_n 0, 1) := by decide +kernel
theorem d_MM_facesAt_80 : decode b_MM_facesAt 80 = .ok (.getfield 41, 3) := by decide +kernel
theorem d_MM_facesAt_83 : decode b_MM_facesAt 83 = .ok (.iload 4, 2) := by decide +kernel
theorem d_MM_facesAt_85 : decode b_MM_facesAt 85 = .ok (.iaload, 1) := by decide +kernel
theorem d_MM_facesAt_86 : decode b_MM_facesAt 86 = .ok (.goto 4, 3) := by decide +kernel
theorem d_MM_facesAt_89 : decode b_MM_facesAt 89 = .ok (.iload_n 3, 1) := by decide +kernel
theorem d_MM_facesAt_90 : decode b_MM_facesAt 90 = .ok (.istore_n 3, 1) := by decide +kernel
theorem d_MM_facesAt_91 : decode b_MM_facesAt 91 = .ok (.iinc 4 1, 3) := by decide +kernel
theorem d_MM_facesAt_94 : decode b_MM_facesAt 94 = .ok (.goto (-87), 3) := by decide +kernel
theorem d_MM_facesAt_97 : decode b_MM_facesAt 97 = .ok (.iload_n 2, 1) := by decide +kernel
theorem d_MM_facesAt_98 : decode b_MM_facesAt 98 = .ok (.ireturn, 1) := by decide +kernel
theorem d_MM_crossing_0 : decode b_MM_crossing 0 = .ok (.iload_n 2, 1) := by decide +kernel
theorem d_MM_crossing_1 : decode b_MM_crossing 1 = .ok (.ifCond .le 51, 3) := by decide +kernel
theorem d_MM_crossing_4 : decode b_MM_crossing 4 = .ok (.iload_n 3, 1) := by decide +kernel
theorem d_MM_crossing_5 : decode b_MM_crossing 5 = .ok (.ifCond .le 47, 3) := by decide +kernel
theorem d_MM_crossing_8 : decode b_MM_crossing 8 = .ok (.iload 4, 2) := by decide +kernel
theorem d_MM_crossing_10 : decode b_MM_crossing 10 = .ok (.ifCond .le 42, 3) := by decide +kernel
theorem d_MM_crossing_13 : decode b_MM_crossing 13 = .ok (.iload 5, 2) := by decide +kernel
theorem d_MM_crossing_15 : decode b_MM_crossing 15 = .ok (.ifCond .le 37, 3) := by decide +kernel
theorem d_MM_crossing_18 : decode b_MM_crossing 18 = .ok (.iload_n 2, 1) := by decide +kernel
theorem d_MM_crossing_19 : decode b_MM_crossing 19 = .ok (.sipush 10000, 3) := by decide +kernel
theorem d_MM_crossing_22 : decode b_MM_crossing 22 = .ok (.if_icmp .ge 30, 3) := by decide +kernel
theorem d_MM_crossing_25 : decode b_MM_crossing 25 = .ok (.iload_n 3, 1) := by decide +kernel
theorem d_MM_crossing_26 : decode b_MM_crossing 26 = .ok (.sipush 10000, 3) := by decide +kernel
theorem d_MM_crossing_29 : decode b_MM_crossing 29 = .ok (.if_icmp .ge 23, 3) := by decide +kernel
theorem d_MM_crossing_32 : decode b_MM_crossing 32 = .ok (.iload 4, 2) := by decide +kernel
theorem d_MM_crossing_34 : decode b_MM_crossing 34 = .ok (.sipush 10000, 3) := by decide +kernel
theorem d_MM_crossing_37 : decode b_MM_crossing 37 = .ok (.if_icmp .ge 15, 3) := by decide +kernel
theorem d_MM_crossing_40 : decode b_MM_crossing 40 = .ok (.iload 5, 2) := by decide +kernel
theorem d_MM_crossing_42 : decode b_MM_crossing 42 = .ok (.sipush 10000, 3) := by decide +kernel
theorem d_MM_crossing_45 : decode b_MM_crossing 45 = .ok (.if_icmp .ge 7, 3) := by decide +kernel
theorem d_MM_crossing_48 : decode b_MM_crossing 48 = .ok (.iconst 1, 1) := by decide +kernel
theorem d_MM_crossing_49 : decode b_MM_crossing 49 = .ok (.goto 4, 3) := by decide +kernel
theorem d_MM_crossing_52 : decode b_MM_crossing 52 = .ok (.iconst 0, 1) := by decide +kernel
theorem d_MM_crossing_53 : decode b_MM_crossing 53 = .ok (.istore 6, 2) := by decide +kernel
theorem d_MM_crossing_55 : decode b_MM_crossing 55 = .ok (.iload_n 1, 1) := by decide +kernel
theorem d_MM_crossing_56 : decode b_MM_crossing 56 = .ok (.iconst 1, 1) := by decide +kernel
theorem d_MM_crossing_57 : decode b_MM_crossing 57 = .ok (.if_icmp .eq 8, 3) := by decide +kernel
theorem d_MM_crossing_60 : decode b_MM_crossing 60 = .ok (.iload_n 1, 1) := by decide +kernel
theorem d_MM_crossing_61 : decode b_MM_crossing 61 = .ok (.iconst (-1), 1) := by decide +kernel
theorem d_MM_crossing_62 : decode b_MM_crossing 62 = .ok (.if_icmp .ne 17, 3) := by decide +kernel
theorem d_MM_crossing_65 : decode b_MM_crossing 65 = .ok (.iload 6, 2) := by decide +kernel
theorem d_MM_crossing_67 : decode b_MM_crossing 67 = .ok (.ifCond .eq 12, 3) := by decide +kernel
theorem d_MM_crossing_70 : decode b_MM_crossing 70 = .ok (.aload_n 0, 1) := by decide +kernel
theorem d_MM_crossing_71 : decode b_MM_crossing 71 = .ok (.getfield 103, 3) := by decide +kernel
theorem d_MM_crossing_74 : decode b_MM_crossing 74 = .ok (.bipush 12, 2) := by decide +kernel
theorem d_MM_crossing_76 : decode b_MM_crossing 76 = .ok (.if_icmp .ne 5, 3) := by decide +kernel
theorem d_MM_crossing_79 : decode b_MM_crossing 79 = .ok (.iconst (-1), 1) := by decide +kernel
theorem d_MM_crossing_80 : decode b_MM_crossing 80 = .ok (.ireturn, 1) := by decide +kernel
theorem d_MM_crossing_81 : decode b_MM_crossing 81 = .ok (.aload_n 0, 1) := by decide +kernel
theorem d_MM_crossing_82 : decode b_MM_crossing 82 = .ok (.getfield 13, 3) := by decide +kernel
theorem d_MM_crossing_85 : decode b_MM_crossing 85 = .ok (.aload_n 0, 1) := by decide +kernel
theorem d_MM_crossing_86 : decode b_MM_crossing 86 = .ok (.getfield 103, 3) := by decide +kernel
theorem d_MM_crossing_89 : decode b_MM_crossing 89 = .ok (.iload_n 1, 1) := by decide +kernel
theorem d_MM_crossing_90 : decode b_MM_crossing 90 = .ok (.iastore, 1) := by decide +kernel
theorem d_MM_crossing_91 : decode b_MM_crossing 91 = .ok (.aload_n 0, 1) := by decide +kernel
theorem d_MM_crossing_92 : decode b_MM_crossing 92 = .ok (.getfield 17, 3) := by decide +kernel
theorem d_MM_crossing_95 : decode b_MM_crossing 95 = .ok (.iconst 4, 1) := by decide +kernel
theorem d_MM_crossing_96 : decode b_MM_crossing 96 = .ok (.aload_n 0, 1) := by decide +kernel
theorem d_MM_crossing_97 : decode b_MM_crossing 97 = .ok (.getfield 103, 3) := by decide +kernel
theorem d_MM_crossing_100 : decode b_MM_crossing 100 = .ok (.imul, 1) := by decide +kernel
theorem d_MM_crossing_101 : decode b_MM_crossing 101 = .ok (.iload_n 2, 1) := by decide +kernel
theorem d_MM_crossing_102 : decode b_MM_crossing 102 = .ok (.iastore, 1) := by decide +kernel
theorem d_MM_crossing_103 : decode b_MM_crossing 103 = .ok (.aload_n 0, 1) := by decide +kernel
theorem d_MM_crossing_104 : decode b_MM_crossing 104 = .ok (.getfield 17, 3) := by decide +kernel
theorem d_MM_crossing_107 : decode b_MM_crossing 107 = .ok (.iconst 4, 1) := by decide +kernel
theorem d_MM_crossing_108 : decode b_MM_crossing 108 = .ok (.aload_n 0, 1) := by decide +kernel
theorem d_MM_crossing_109 : decode b_MM_crossing 109 = .ok (.getfield 103, 3) := by decide +kernel
theorem d_MM_crossing_112 : decode b_MM_crossing 112 = .ok (.imul, 1) := by decide +kernel
theorem d_MM_crossing_113 : decode b_MM_crossing 113 = .ok (.iconst 1, 1) := by decide +kernel
theorem d_MM_crossing_114 : decode b_MM_crossing 114 = .ok (.iadd, 1) := by decide +kernel
theorem d_MM_crossing_115 : decode b_MM_crossing 115 = .ok (.iload_n 3, 1) := by decide +kernel
theorem d_MM_crossing_116 : decode b_MM_crossing 116 = .ok (.iastore, 1) := by decide +kernel
theorem d_MM_crossing_117 : decode b_MM_crossing 117 = .ok (.aload_n 0, 1) := by decide +kernel
theorem d_MM_crossing_118 : decode b_MM_crossing 118 = .ok (.getfield 17, 3) := by decide +kernel
theorem d_MM_crossing_121 : decode b_MM_crossing 121 = .ok (.iconst 4, 1) := by decide +kernel
theorem d_MM_crossing_122 : decode b_MM_crossing 122 = .ok (.aload_n 0, 1) := by decide +kernel
theorem d_MM_crossing_123 : decode b_MM_crossing 123 = .ok (.getfield 103, 3) := by decide +kernel
theorem d_MM_crossing_126 : decode b_MM_crossing 126 = .ok (.imul, 1) := by decide +kernel
theorem d_MM_crossing_127 : decode b_MM_crossing 127 = .ok (.iconst 2, 1) := by decide +kernel
theorem d_MM_crossing_128 : decode b_MM_crossing 128 = .ok (.iadd, 1) := by decide +kernel
theorem d_MM_crossing_129 : decode b_MM_crossing 129 = .ok (.iload 4, 2) := by decide +kernel
theorem d_MM_crossing_131 : decode b_MM_crossing 131 = .ok (.iastore, 1) := by decide +kernel
theorem d_MM_crossing_132 : decode b_MM_crossing 132 = .ok (.aload_n 0, 1) := by decide +kernel
theorem d_MM_crossing_133 : decode b_MM_crossing 133 = .ok (.getfield 17, 3) := by decide +kernel
theorem d_MM_crossing_136 : decode b_MM_crossing 136 = .ok (.iconst 4, 1) := by decide +kernel
theorem d_MM_crossing_137 : decode b_MM_crossing 137 = .ok (.aload_n 0, 1) := by decide +kernel
theorem d_MM_crossing_138 : decode b_MM_crossing 138 = .ok (.getfield 103, 3) := by decide +kernel
theorem d_MM_crossing_141 : decode b_MM_crossing 141 = .ok (.imul, 1) := by decide +kernel
theorem d_MM_crossing_142 : decode b_MM_crossing 142 = .ok (.iconst 3, 1) := by decide +kernel
theorem d_MM_crossing_143 : decode b_MM_crossing 143 = .ok (.iadd, 1) := by decide +kernel
theorem d_MM_crossing_144 : decode b_MM_crossing 144 = .ok (.iload 5, 2) := by decide +kernel
theorem d_MM_crossing_146 : decode b_MM_crossing 146 = .ok (.iastore, 1) := by decide +kernel
theorem d_MM_crossing_147 : decode b_MM_crossing 147 = .ok (.aload_n 0, 1) := by decide +kernel
theorem d_MM_crossing_148 : decode b_MM_crossing 148 = .ok (.dup, 1) := by decide +kernel
theorem d_MM_crossing_149 : decode b_MM_crossing 149 = .ok (.getfield 103, 3) := by decide +kernel
theorem d_MM_crossing_152 : decode b_MM_crossing 152 = .ok (.iconst 1, 1) := by decide +kernel
theorem d_MM_crossing_153 : decode b_MM_crossing 153 = .ok (.iadd, 1) := by decide +kernel
theorem d_MM_crossing_154 : decode b_MM_crossing 154 = .ok (.putfield 103, 3) := by decide +kernel
theorem d_MM_crossing_157 : decode b_MM_crossing 157 = .ok (.aload_n 0, 1) := by decide +kernel
theorem d_MM_crossing_158 : decode b_MM_crossing 158 = .ok (.getfield 103, 3) := by decide +kernel
theorem d_MM_crossing_161 : decode b_MM_crossing 161 = .ok (.ireturn, 1) := by decide +kernel
theorem d_MM_take_0 : decode b_MM_take 0 = .ok (.aload_n 0, 1) := by decide +kernel
theorem d_MM_take_1 : decode b_MM_take 1 = .ok (.aload_n 0, 1) := by decide +kernel
theorem d_MM_take_2 : decode b_MM_take 2 = .ok (.getfield 73, 3) := by decide +kernel
theorem d_MM_take_5 : decode b_MM_take 5 = .ok (.putfield 106, 3) := by decide +kernel
theorem d_MM_take_8 : decode b_MM_take 8 = .ok (.aload_n 0, 1) := by decide +kernel
theorem d_MM_take_9 : decode b_MM_take 9 = .ok (.aload_n 0, 1) := by decide +kernel
theorem d_MM_take_10 : decode b_MM_take 10 = .ok (.getfield 109, 3) := by decide +kernel
theorem d_MM_take_13 : decode b_MM_take 13 = .ok (.putfield 112, 3) := by decide +kernel
theorem d_MM_take_16 : decode b_MM_take 16 = .ok (.iconst 0, 1) := by decide +kernel
theorem d_MM_take_17 : decode b_MM_take 17 = .ok (.istore_n 1, 1) := by decide +kernel
theorem d_MM_take_18 : decode b_MM_take 18 = .ok (.iload_n 1, 1) := by decide +kernel
theorem d_MM_take_19 : decode b_MM_take 19 = .ok (.bipush 12, 2) := by decide +kernel
theorem d_MM_take_21 : decode b_MM_take 21 = .ok (.if_icmp .ge 21, 3) := by decide +kernel
theorem d_MM_take_24 : decode b_MM_take 24 = .ok (.aload_n 0, 1) := by decide +kernel
theorem d_MM_take_25 : decode b_MM_take 25 = .ok (.getfield 26, 3) := by decide +kernel
theorem d_MM_take_28 : decode b_MM_take 28 = .ok (.iload_n 1, 1) := by decide +kernel
theorem d_MM_take_29 : decode b_MM_take 29 = .ok (.aload_n 0, 1) := by decide +kernel
theorem d_MM_take_30 : decode b_MM_take 30 = .ok (.getfield 20, 3) := by decide +kernel
theorem d_MM_take_33 : decode b_MM_take 33 = .ok (.iload_n 1, 1) := by decide +kernel
theorem d_MM_take_34 : decode b_MM_take 34 = .ok (.iaload, 1) := by decide +kernel
theorem d_MM_take_35 : decode b_MM_take 35 = .ok (.iastore, 1) := by decide +kernel
theorem d_MM_take_36 : decode b_MM_take 36 = .ok (.iinc 1 1, 3) := by decide +kernel
theorem d_MM_take_39 : decode b_MM_take 39 = .ok (.goto (-21), 3) := by decide +kernel
theorem d_MM_take_42 : decode b_MM_take 42 = .ok (.iconst 0, 1) := by decide +kernel
theorem d_MM_take_43 : decode b_MM_take 43 = .ok (.istore_n 1, 1) := by decide +kernel
theorem d_MM_take_44 : decode b_MM_take 44 = .ok (.iload_n 1, 1) := by decide +kernel
theorem d_MM_take_45 : decode b_MM_take 45 = .ok (.bipush 48, 2) := by decide +kernel
theorem d_MM_take_47 : decode b_MM_take 47 = .ok (.if_icmp .ge 21, 3) := by decide +kernel
theorem d_MM_take_50 : decode b_MM_take 50 = .ok (.aload_n 0, 1) := by decide +kernel
theorem d_MM_take_51 : decode b_MM_take 51 = .ok (.getfield 29, 3) := by decide +kernel
theorem d_MM_take_54 : decode b_MM_take 54 = .ok (.iload_n 1, 1) := by decide +kernel
theorem d_MM_take_55 : decode b_MM_take 55 = .ok (.aload_n 0, 1) := by decide +kernel
theorem d_MM_take_56 : decode b_MM_take 56 = .ok (.getfield 23, 3) := by decide +kernel
theorem d_MM_take_59 : decode b_MM_take 59 = .ok (.iload_n 1, 1) := by decide +kernel
theorem d_MM_take_60 : decode b_MM_take 60 = .ok (.iaload, 1) := by decide +kernel
theorem d_MM_take_61 : decode b_MM_take 61 = .ok (.iastore, 1) := by decide +kernel
theorem d_MM_take_62 : decode b_MM_take 62 = .ok (.iinc 1 1, 3) := by decide +kernel
theorem d_MM_take_65 : decode b_MM_take 65 = .ok (.goto (-21), 3) := by decide +kernel
theorem d_MM_take_68 : decode b_MM_take 68 = .ok (.aload_n 0, 1) := by decide +kernel
theorem d_MM_take_69 : decode b_MM_take 69 = .ok (.aload_n 0, 1) := by decide +kernel
theorem d_MM_take_70 : decode b_MM_take 70 = .ok (.getfield 103, 3) := by decide +kernel
theorem d_MM_take_73 : decode b_MM_take 73 = .ok (.putfield 73, 3) := by decide +kernel
theorem d_MM_take_76 : decode b_MM_take 76 = .ok (.iconst 0, 1) := by decide +kernel
theorem d_MM_take_77 : decode b_MM_take 77 = .ok (.istore_n 1, 1) := by decide +kernel
theorem d_MM_take_78 : decode b_MM_take 78 = .ok (.iload_n 1, 1) := by decide +kernel
theorem d_MM_take_79 : decode b_MM_take 79 = .ok (.aload_n 0, 1) := by decide +kernel
theorem d_MM_take_80 : decode b_MM_take 80 = .ok (.getfield 73, 3) := by decide +kernel
theorem d_MM_take_83 : decode b_MM_take 83 = .ok (.if_icmp .ge 21, 3) := by decide +kernel
theorem d_MM_take_86 : decode b_MM_take 86 = .ok (.aload_n 0, 1) := by decide +kernel
theorem d_MM_take_87 : decode b_MM_take 87 = .ok (.getfield 20, 3) := by decide +kernel
theorem d_MM_take_90 : decode b_MM_take 90 = .ok (.iload_n 1, 1) := by decide +kernel
theorem d_MM_take_91 : decode b_MM_take 91 = .ok (.aload_n 0, 1) := by decide +kernel
theorem d_MM_take_92 : decode b_MM_take 92 = .ok (.getfield 13, 3) := by decide +kernel
theorem d_MM_take_95 : decode b_MM_take 95 = .ok (.iload_n 1, 1) := by decide +kernel
theorem d_MM_take_96 : decode b_MM_take 96 = .ok (.iaload, 1) := by decide +kernel
theorem d_MM_take_97 : decode b_MM_take 97 = .ok (.iastore, 1) := by decide +kernel
theorem d_MM_take_98 : decode b_MM_take 98 = .ok (.iinc 1 1, 3) := by decide +kernel
theorem d_MM_take_101 : decode b_MM_take 101 = .ok (.goto (-23), 3) := by decide +kernel
theorem d_MM_take_104 : decode b_MM_take 104 = .ok (.iconst 0, 1) := by decide +kernel
theorem d_MM_take_105 : decode b_MM_take 105 = .ok (.istore_n 1, 1) := by decide +kernel
theorem d_MM_take_106 : decode b_MM_take 106 = .ok (.iload_n 1, 1) := by decide +kernel
theorem d_MM_take_107 : decode b_MM_take 107 = .ok (.iconst 4, 1) := by decide +kernel
theorem d_MM_take_108 : decode b_MM_take 108 = .ok (.aload_n 0, 1) := by decide +kernel
theorem d_MM_take_109 : decode b_MM_take 109 = .ok (.getfield 73, 3) := by decide +kernel
theorem d_MM_take_112 : decode b_MM_take 112 = .ok (.imul, 1) := by decide +kernel
theorem d_MM_take_113 : decode b_MM_take 113 = .ok (.if_icmp .ge 21, 3) := by decide +kernel
theorem d_MM_take_116 : decode b_MM_take 116 = .ok (.aload_n 0, 1) := by decide +kernel
theorem d_MM_take_117 : decode b_MM_take 117 = .ok (.getfield 23, 3) := by decide +kernel
theorem d_MM_take_120 : decode b_MM_take 120 = .ok (.iload_n 1, 1) := by decide +kernel
theorem d_MM_take_121 : decode b_MM_take 121 = .ok (.aload_n 0, 1) := by decide +kernel
theorem d_MM_take_122 : decode b_MM_take 122 = .ok (.getfield 17, 3) := by decide +kernel
theorem d_MM_take_125 : decode b_MM_take 125 = .ok (.iload_n 1, 1) := by decide +kernel
theorem d_MM_take_126 : decode b_MM_take 126 = .ok (.iaload, 1) := by decide +kernel
theorem d_MM_take_127 : decode b_MM_take 127 = .ok (.iastore, 1) := by decide +kernel
theorem d_MM_take_128 : decode b_MM_take 128 = .ok (.iinc 1 1, 3) := by decide +kernel
theorem d_MM_take_131 : decode b_MM_take 131 = .ok (.goto (-25), 3) := by decide +kernel
theorem d_MM_take_134 : decode b_MM_take 134 = .ok (.aload_n 0, 1) := by decide +kernel
theorem d_MM_take_135 : decode b_MM_take 135 = .ok (.iconst 0, 1) := by decide +kernel
theorem d_MM_take_136 : decode b_MM_take 136 = .ok (.putfield 103, 3) := by decide +kernel
theorem d_MM_take_139 : decode b_MM_take 139 = .ok (.return_, 1) := by decide +kernel
theorem d_MM_back_0 : decode b_MM_back 0 = .ok (.aload_n 0, 1) := by decide +kernel
theorem d_MM_back_1 : decode b_MM_back 1 = .ok (.aload_n 0, 1) := by decide +kernel
theorem d_MM_back_2 : decode b_MM_back 2 = .ok (.getfield 106, 3) := by decide +kernel
theorem d_MM_back_5 : decode b_MM_back 5 = .ok (.putfield 73, 3) := by decide +kernel
theorem d_MM_back_8 : decode b_MM_back 8 = .ok (.aload_n 0, 1) := by decide +kernel
theorem d_MM_back_9 : decode b_MM_back 9 = .ok (.aload_n 0, 1) := by decide +kernel
theorem d_MM_back_10 : decode b_MM_back 10 = .ok (.getfield 112, 3) := by decide +kernel
theorem d_MM_back_13 : decode b_MM_back 13 = .ok (.putfield 109, 3) := by decide +kernel
theorem d_MM_back_16 : decode b_MM_back 16 = .ok (.iconst 0, 1) := by decide +kernel
theorem d_MM_back_17 : decode b_MM_back 17 = .ok (.istore_n 1, 1) := by decide +kernel
theorem d_MM_back_18 : decode b_MM_back 18 = .ok (.iload_n 1, 1) := by decide +kernel
theorem d_MM_back_19 : decode b_MM_back 19 = .ok (.bipush 12, 2) := by decide +kernel
theorem d_MM_back_21 : decode b_MM_back 21 = .ok (.if_icmp .ge 21, 3) := by decide +kernel
theorem d_MM_back_24 : decode b_MM_back 24 = .ok (.aload_n 0, 1) := by decide +kernel
theorem d_MM_back_25 : decode b_MM_back 25 = .ok (.getfield 20, 3) := by decide +kernel
theorem d_MM_back_28 : decode b_MM_back 28 = .ok (.iload_n 1, 1) := by decide +kernel
theorem d_MM_back_29 : decode b_MM_back 29 = .ok (.aload_n 0, 1) := by decide +kernel
theorem d_MM_back_30 : decode b_MM_back 30 = .ok (.getfield 26, 3) := by decide +kernel
theorem d_MM_back_33 : decode b_MM_back 33 = .ok (.iload_n 1, 1) := by decide +kernel
theorem d_MM_back_34 : decode b_MM_back 34 = .ok (.iaload, 1) := by decide +kernel
theorem d_MM_back_35 : decode b_MM_back 35 = .ok (.iastore, 1) := by decide +kernel
theorem d_MM_back_36 : decode b_MM_back 36 = .ok (.iinc 1 1, 3) := by decide +kernel
theorem d_MM_back_39 : decode b_MM_back 39 = .ok (.goto (-21), 3) := by decide +kernel
theorem d_MM_back_42 : decode b_MM_back 42 = .ok (.iconst 0, 1) := by decide +kernel
theorem d_MM_back_43 : decode b_MM_back 43 = .ok (.istore_n 1, 1) := by decide +kernel
theorem d_MM_back_44 : decode b_MM_back 44 = .ok (.iload_n 1, 1) := by decide +kernel
theorem d_MM_back_45 : decode b_MM_back 45 = .ok (.bipush 48, 2) := by decide +kernel
theorem d_MM_back_47 : decode b_MM_back 47 = .ok (.if_icmp .ge 21, 3) := by decide +kernel
theorem d_MM_back_50 : decode b_MM_back 50 = .ok (.aload_n 0, 1) := by decide +kernel
theorem d_MM_back_51 : decode b_MM_back 51 = .ok (.getfield 23, 3) := by decide +kernel
theorem d_MM_back_54 : decode b_MM_back 54 = .ok (.iload_n 1, 1) := by decide +kernel
theorem d_MM_back_55 : decode b_MM_back 55 = .ok (.aload_n 0, 1) := by decide +kernel
theorem d_MM_back_56 : decode b_MM_back 56 = .ok (.getfield 29, 3) := by decide +kernel
theorem d_MM_back_59 : decode b_MM_back 59 = .ok (.iload_n 1, 1) := by decide +kernel
theorem d_MM_back_60 : decode b_MM_back 60 = .ok (.iaload, 1) := by decide +kernel
theorem d_MM_back_61 : decode b_MM_back 61 = .ok (.iastore, 1) := by decide +kernel
theorem d_MM_back_62 : decode b_MM_back 62 = .ok (.iinc 1 1, 3) := by decide +kernel
theorem d_MM_back_65 : decode b_MM_back 65 = .ok (.goto (-21), 3) := by decide +kernel
theorem d_MM_back_68 : decode b_MM_back 68 = .ok (.return_, 1) := by decide +kernel
theorem d_MM_badLabel_0 : decode b_MM_badLabel 0 = .ok (.aload_n 0, 1) := by decide +kernel
theorem d_MM_badLabel_1 : decode b_MM_badLabel 1 = .ok (.invokevirtual 91, 3) := by decide +kernel
theorem d_MM_badLabel_4 : decode b_MM_badLabel 4 = .ok (.iconst 0, 1) := by decide +kernel
theorem d_MM_badLabel_5 : decode b_MM_badLabel 5 = .ok (.istore_n 2, 1) := by decide +kernel
theorem d_MM_badLabel_6 : decode b_MM_badLabel 6 = .ok (.iload_n 2, 1) := by decide +kernel
theorem d_MM_badLabel_7 : decode b_MM_badLabel 7 = .ok (.aload_n 0, 1) := by decide +kernel
theorem d_MM_badLabel_8 : decode b_MM_badLabel 8 = .ok (.getfield 88, 3) := by decide +kernel
theorem d_MM_badLabel_11 : decode b_MM_badLabel 11 = .ok (.if_icmp .ge 119, 3) := by decide +kernel
theorem d_MM_badLabel_14 : decode b_MM_badLabel 14 = .ok (.iconst 0, 1) := by decide +kernel
theorem d_MM_badLabel_15 : decode b_MM_badLabel 15 = .ok (.istore_n 3, 1) := by decide +kernel
theorem d_MM_badLabel_16 : decode b_MM_badLabel 16 = .ok (.iconst 0, 1) := by decide +kernel
theorem d_MM_badLabel_17 : decode b_MM_badLabel 17 = .ok (.istore 4, 2) := by decide +kernel
theorem d_MM_badLabel_19 : decode b_MM_badLabel 19 = .ok (.iload 4, 2) := by decide +kernel
theorem d_MM_badLabel_21 : decode b_MM_badLabel 21 = .ok (.iconst 4, 1) := by decide +kernel
theorem d_MM_badLabel_22 : decode b_MM_badLabel 22 = .ok (.aload_n 0, 1) := by decide +kernel
theorem d_MM_badLabel_23 : decode b_MM_badLabel 23 = .ok (.getfield 73, 3) := by decide +kernel
theorem d_MM_badLabel_26 : decode b_MM_badLabel 26 = .ok (.imul, 1) := by decide +kernel
theorem d_MM_badLabel_27 : decode b_MM_badLabel 27 = .ok (.if_icmp .ge 33, 3) := by decide +kernel
theorem d_MM_badLabel_30 : decode b_MM_badLabel 30 = .ok (.iload_n 3, 1) := by decide +kernel
theorem d_MM_badLabel_31 : decode b_MM_badLabel 31 = .ok (.aload_n 0, 1) := by decide +kernel
theorem d_MM_badLabel_32 : decode b_MM_badLabel 32 = .ok (.getfield 23, 3) := by decide +kernel
theorem d_MM_badLabel_35 : decode b_MM_badLabel 35 = .ok (.iload 4, 2) := by decide +kernel
theorem d_MM_badLabel_37 : decode b_MM_badLabel 37 = .ok (.iaload, 1) := by decide +kernel
theorem d_MM_badLabel_38 : decode b_MM_badLabel 38 = .ok (.aload_n 0, 1) := by decide +kernel
theorem d_MM_badLabel_39 : decode b_MM_badLabel 39 = .ok (.getfield 32, 3) := by decide +kernel
theorem d_MM_badLabel_42 : decode b_MM_badLabel 42 = .ok (.iload_n 2, 1) := by decide +kernel
theorem d_MM_badLabel_43 : decode b_MM_badLabel 43 = .ok (.iaload, 1) := by decide +kernel
theorem d_MM_badLabel_44 : decode b_MM_badLabel 44 = .ok (.if_icmp .ne 7, 3) := by decide +kernel
theorem d_MM_badLabel_47 : decode b_MM_badLabel 47 = .ok (.iconst 1, 1) := by decide +kernel
theorem d_MM_badLabel_48 : decode b_MM_badLabel 48 = .ok (.goto 4, 3) := by decide +kernel
theorem d_MM_badLabel_51 : decode b_MM_badLabel 51 = .ok (.iconst 0, 1) := by decide +kernel
theorem d_MM_badLabel_52 : decode b_MM_badLabel 52 = .ok (.iadd, 1) := by decide +kernel
theorem d_MM_badLabel_53 : decode b_MM_badLabel 53 = .ok (.istore_n 3, 1) := by decide +kernel
theorem d_MM_badLabel_54 : decode b_MM_badLabel 54 = .ok (.iinc 4 1, 3) := by decide +kernel
theorem d_MM_badLabel_57 : decode b_MM_badLabel 57 = .ok (.goto (-38), 3) := by decide +kernel
theorem d_MM_badLabel_60 : decode b_MM_badLabel 60 = .ok (.iload_n 1, 1) := by decide +kernel
theorem d_MM_badLabel_61 : decode b_MM_badLabel 61 = .ok (.ifCond .eq 39, 3) := by decide +kernel
theorem d_MM_badLabel_64 : decode b_MM_badLabel 64 = .ok (.aload_n 0, 1) := by decide +kernel
theorem d_MM_badLabel_65 : decode b_MM_badLabel 65 = .ok (.aload_n 0, 1) := by decide +kernel
theorem d_MM_badLabel_66 : decode b_MM_badLabel 66 = .ok (.getfield 32, 3) := by decide +kernel
theorem d_MM_badLabel_69 : decode b_MM_badLabel 69 = .ok (.iload_n 2, 1) := by decide +kernel
theorem d_MM_badLabel_70 : decode b_MM_badLabel 70 = .ok (.iaload, 1) := by decide +kernel
theorem d_MM_badLabel_71 : decode b_MM_badLabel 71 = .ok (.iconst 1, 1) := by decide +kernel
theorem d_MM_badLabel_72 : decode b_MM_badLabel 72 = .ok (.invokevirtual 80, 3) := by decide +kernel
theorem d_MM_badLabel_75 : decode b_MM_badLabel 75 = .ok (.ifCond .lt 21, 3) := by decide +kernel
theorem d_MM_badLabel_78 : decode b_MM_badLabel 78 = .ok (.aload_n 0, 1) := by decide +kernel
theorem d_MM_badLabel_79 : decode b_MM_badLabel 79 = .ok (.aload_n 0, 1) := by decide +kernel
theorem d_MM_badLabel_80 : decode b_MM_badLabel 80 = .ok (.getfield 32, 3) := by decide +kernel
theorem d_MM_badLabel_83 : decode b_MM_badLabel 83 = .ok (.iload_n 2, 1) := by decide +kernel
theorem d_MM_badLabel_84 : decode b_MM_badLabel 84 = .ok (.iaload, 1) := by decide +kernel
theorem d_MM_badLabel_85 : decode b_MM_badLabel 85 = .ok (.iconst 0, 1) := by decide +kernel
theorem d_MM_badLabel_86 : decode b_MM_badLabel 86 = .ok (.invokevirtual 80, 3) := by decide +kernel
theorem d_MM_badLabel_89 : decode b_MM_badLabel 89 = .ok (.ifCond .lt 7, 3) := by decide +kernel
theorem d_MM_badLabel_92 : decode b_MM_badLabel 92 = .ok (.iconst 1, 1) := by decide +kernel
theorem d_MM_badLabel_93 : decode b_MM_badLabel 93 = .ok (.goto 17, 3) := by decide +kernel
theorem d_MM_badLabel_96 : decode b_MM_badLabel 96 = .ok (.iconst 0, 1) := by decide +kernel
theorem d_MM_badLabel_97 : decode b_MM_badLabel 97 = .ok (.goto 13, 3) := by decide +kernel
theorem d_MM_badLabel_100 : decode b_MM_badLabel 100 = .ok (.iload_n 3, 1) := by decide +kernel
theorem d_MM_badLabel_101 : decode b_MM_badLabel 101 = .ok (.iconst 2, 1) := by decide +kernel
theorem d_MM_badLabel_102 : decode b_MM_badLabel 102 = .ok (.if_icmp .ne 7, 3) := by decide +kernel
theorem d_MM_badLabel_105 : decode b_MM_badLabel 105 = .ok (.iconst 1, 1) := by decide +kernel
theorem d_MM_badLabel_106 : decode b_MM_badLabel 106 = .ok (.goto 4, 3) := by decide +kernel
theorem d_MM_badLabel_109 : decode b_MM_badLabel 109 = .ok (.iconst 0, 1) := by decide +kernel
theorem d_MM_badLabel_110 : decode b_MM_badLabel 110 = .ok (.istore 4, 2) := by decide +kernel
theorem d_MM_badLabel_112 : decode b_MM_badLabel 112 = .ok (.iload 4, 2) := by decide +kernel
theorem d_MM_badLabel_114 : decode b_MM_badLabel 114 = .ok (.ifCond .ne 10, 3) := by decide +kernel
theorem d_MM_badLabel_117 : decode b_MM_badLabel 117 = .ok (.aload_n 0, 1) := by decide +kernel
theorem d_MM_badLabel_118 : decode b_MM_badLabel 118 = .ok (.getfield 32, 3) := by decide +kernel
theorem d_MM_badLabel_121 : decode b_MM_badLabel 121 = .ok (.iload_n 2, 1) := by decide +kernel
theorem d_MM_badLabel_122 : decode b_MM_badLabel 122 = .ok (.iaload, 1) := by decide +kernel
theorem d_MM_badLabel_123 : decode b_MM_badLabel 123 = .ok (.ireturn, 1) := by decide +kernel
theorem d_MM_badLabel_124 : decode b_MM_badLabel 124 = .ok (.iinc 2 1, 3) := by decide +kernel
theorem d_MM_badLabel_127 : decode b_MM_badLabel 127 = .ok (.goto (-121), 3) := by decide +kernel
theorem d_MM_badLabel_130 : decode b_MM_badLabel 130 = .ok (.iconst (-1), 1) := by decide +kernel
theorem d_MM_badLabel_131 : decode b_MM_badLabel 131 = .ok (.ireturn, 1) := by decide +kernel
theorem d_MM_badPiece_0 : decode b_MM_badPiece 0 = .ok (.aload_n 0, 1) := by decide +kernel
theorem d_MM_badPiece_1 : decode b_MM_badPiece 1 = .ok (.invokevirtual 115, 3) := by decide +kernel
theorem d_MM_badPiece_4 : decode b_MM_badPiece 4 = .ok (.aload_n 0, 1) := by decide +kernel
theorem d_MM_badPiece_5 : decode b_MM_badPiece 5 = .ok (.invokevirtual 118, 3) := by decide +kernel
theorem d_MM_badPiece_8 : decode b_MM_badPiece 8 = .ok (.iconst (-1), 1) := by decide +kernel
theorem d_MM_badPiece_9 : decode b_MM_badPiece 9 = .ok (.istore_n 1, 1) := by decide +kernel
theorem d_MM_badPiece_10 : decode b_MM_badPiece 10 = .ok (.aload_n 0, 1) := by decide +kernel
theorem d_MM_badPiece_11 : decode b_MM_badPiece 11 = .ok (.getfield 73, 3) := by decide +kernel
theorem d_MM_badPiece_14 : decode b_MM_badPiece 14 = .ok (.iconst 1, 1) := by decide +kernel
theorem d_MM_badPiece_15 : decode b_MM_badPiece 15 = .ok (.isub, 1) := by decide +kernel
theorem d_MM_badPiece_16 : decode b_MM_badPiece 16 = .ok (.istore_n 2, 1) := by decide +kernel
theorem d_MM_badPiece_17 : decode b_MM_badPiece 17 = .ok (.iload_n 2, 1) := by decide +kernel
theorem d_MM_badPiece_18 : decode b_MM_badPiece 18 = .ok (.ifCond .lt 75, 3) := by decide +kernel
theorem d_MM_badPiece_21 : decode b_MM_badPiece 21 = .ok (.iconst 0, 1) := by decide +kernel
theorem d_MM_badPiece_22 : decode b_MM_badPiece 22 = .ok (.istore_n 3, 1) := by decide +kernel
theorem d_MM_badPiece_23 : decode b_MM_badPiece 23 = .ok (.iconst 0, 1) := by decide +kernel
theorem d_MM_badPiece_24 : decode b_MM_badPiece 24 = .ok (.istore 4, 2) := by decide +kernel
theorem d_MM_badPiece_26 : decode b_MM_badPiece 26 = .ok (.iload 4, 2) := by decide +kernel
theorem d_MM_badPiece_28 : decode b_MM_badPiece 28 = .ok (.aload_n 0, 1) := by decide +kernel
theorem d_MM_badPiece_29 : decode b_MM_badPiece 29 = .ok (.getfield 73, 3) := by decide +kernel
theorem d_MM_badPiece_32 : decode b_MM_badPiece 32 = .ok (.if_icmp .ge 28, 3) := by decide +kernel
theorem d_MM_badPiece_35 : decode b_MM_badPiece 35 = .ok (.iload_n 3, 1) := by decide +kernel
theorem d_MM_badPiece_36 : decode b_MM_badPiece 36 = .ok (.aload_n 0, 1) := by decide +kernel
theorem d_MM_badPiece_37 : decode b_MM_badPiece 37 = .ok (.getfield 38, 3) := by decide +kernel
theorem d_MM_badPiece_40 : decode b_MM_badPiece 40 = .ok (.iload 4, 2) := by decide +kernel
theorem d_MM_badPiece_42 : decode b_MM_badPiece 42 = .ok (.iaload, 1) := by decide +kernel
theorem d_MM_badPiece_43 : decode b_MM_badPiece 43 = .ok (.iload_n 2, 1) := by decide +kernel
theorem d_MM_badPiece_44 : decode b_MM_badPiece 44 = .ok (.if_icmp .ne 7, 3) := by decide +kernel
theorem d_MM_badPiece_47 : decode b_MM_badPiece 47 = .ok (.iconst 1, 1) := by decide +kernel
theorem d_MM_badPiece_48 : decode b_MM_badPiece 48 = .ok (.goto 4, 3) := by decide +kernel
theorem d_MM_badPiece_51 : decode b_MM_badPiece 51 = .ok (.iconst 0, 1) := by decide +kernel
theorem d_MM_badPiece_52 : decode b_MM_badPiece 52 = .ok (.iadd, 1) := by decide +kernel
theorem d_MM_badPiece_53 : decode b_MM_badPiece 53 = .ok (.istore_n 3, 1) := by decide +kernel
theorem d_MM_badPiece_54 : decode b_MM_badPiece 54 = .ok (.iinc 4 1, 3) := by decide +kernel
theorem d_MM_badPiece_57 : decode b_MM_badPiece 57 = .ok (.goto (-31), 3) := by decide +kernel
theorem d_MM_badPiece_60 : decode b_MM_badPiece 60 = .ok (.aload_n 0, 1) := by decide +kernel
theorem d_MM_badPiece_61 : decode b_MM_badPiece 61 = .ok (.getfield 38, 3) := by decide +kernel
theorem d_MM_badPiece_64 : decode b_MM_badPiece 64 = .ok (.iload_n 2, 1) := by decide +kernel
theorem d_MM_badPiece_65 : decode b_MM_badPiece 65 = .ok (.iaload, 1) := by decide +kernel
theorem d_MM_badPiece_66 : decode b_MM_badPiece 66 = .ok (.iload_n 2, 1) := by decide +kernel
theorem d_MM_badPiece_67 : decode b_MM_badPiece 67 = .ok (.if_icmp .ne 18, 3) := by decide +kernel
theorem d_MM_badPiece_70 : decode b_MM_badPiece 70 = .ok (.aload_n 0, 1) := by decide +kernel
theorem d_MM_badPiece_71 : decode b_MM_badPiece 71 = .ok (.iload_n 2, 1) := by decide +kernel
theorem d_MM_badPiece_72 : decode b_MM_badPiece 72 = .ok (.invokevirtual 121, 3) := by decide +kernel
theorem d_MM_badPiece_75 : decode b_MM_badPiece 75 = .ok (.iload_n 3, 1) := by decide +kernel
theorem d_MM_badPiece_76 : decode b_MM_badPiece 76 = .ok (.iconst 2, 1) := by decide +kernel
theorem d_MM_badPiece_77 : decode b_MM_badPiece 77 = .ok (.iadd, 1) := by decide +kernel
theorem d_MM_badPiece_78 : decode b_MM_badPiece 78 = .ok (.if_icmp .eq 7, 3) := by decide +kernel
theorem d_MM_badPiece_81 : decode b_MM_badPiece 81 = .ok (.iload_n 2, 1) := by decide +kernel
theorem d_MM_badPiece_82 : decode b_MM_badPiece 82 = .ok (.goto 4, 3) := by decide +kernel
theorem d_MM_badPiece_85 : decode b_MM_badPiece 85 = .ok (.iload_n 1, 1) := by decide +kernel
theorem d_MM_badPiece_86 : decode b_MM_badPiece 86 = .ok (.istore_n 1, 1) := by decide +kernel
theorem d_MM_badPiece_87 : decode b_MM_badPiece 87 = .ok (.iinc 2 (-1), 3) := by decide +kernel
theorem d_MM_badPiece_90 : decode b_MM_badPiece 90 = .ok (.goto (-73), 3) := by decide +kernel
theorem d_MM_badPiece_93 : decode b_MM_badPiece 93 = .ok (.iload_n 1, 1) := by decide +kernel
theorem d_MM_badPiece_94 : decode b_MM_badPiece 94 = .ok (.ireturn, 1) := by decide +kernel
theorem d_MM_fault_0 : decode b_MM_fault 0 = .ok (.aload_n 0, 1) := by decide +kernel
theorem d_MM_fault_1 : decode b_MM_fault 1 = .ok (.aload_n 0, 1) := by decide +kernel
theorem d_MM_fault_2 : decode b_MM_fault 2 = .ok (.iconst 0, 1) := by decide +kernel
theorem d_MM_fault_3 : decode b_MM_fault 3 = .ok (.invokevirtual 124, 3) := by decide +kernel
theorem d_MM_fault_6 : decode b_MM_fault 6 = .ok (.putfield 7, 3) := by decide +kernel
theorem d_MM_fault_9 : decode b_MM_fault 9 = .ok (.aload_n 0, 1) := by decide +kernel
theorem d_MM_fault_10 : decode b_MM_fault 10 = .ok (.getfield 7, 3) := by decide +kernel
theorem d_MM_fault_13 : decode b_MM_fault 13 = .ok (.ifCond .lt 5, 3) := by decide +kernel
theorem d_MM_fault_16 : decode b_MM_fault 16 = .ok (.iconst 1, 1) := by decide +kernel
theorem d_MM_fault_17 : decode b_MM_fault 17 = .ok (.ireturn, 1) := by decide +kernel
theorem d_MM_fault_18 : decode b_MM_fault 18 = .ok (.aload_n 0, 1) := by decide +kernel
theorem d_MM_fault_19 : decode b_MM_fault 19 = .ok (.aload_n 0, 1) := by decide +kernel
theorem d_MM_fault_20 : decode b_MM_fault 20 = .ok (.iconst 1, 1) := by decide +kernel
theorem d_MM_fault_21 : decode b_MM_fault 21 = .ok (.invokevirtual 124, 3) := by decide +kernel
theorem d_MM_fault_24 : decode b_MM_fault 24 = .ok (.putfield 7, 3) := by decide +kernel
theorem d_MM_fault_27 : decode b_MM_fault 27 = .ok (.aload_n 0, 1) := by decide +kernel
theorem d_MM_fault_28 : decode b_MM_fault 28 = .ok (.getfield 7, 3) := by decide +kernel
theorem d_MM_fault_31 : decode b_MM_fault 31 = .ok (.ifCond .lt 5, 3) := by decide +kernel
theorem d_MM_fault_34 : decode b_MM_fault 34 = .ok (.iconst 2, 1) := by decide +kernel
theorem d_MM_fault_35 : decode b_MM_fault 35 = .ok (.ireturn, 1) := by decide +kernel
theorem d_MM_fault_36 : decode b_MM_fault 36 = .ok (.aload_n 0, 1) := by decide +kernel
theorem d_MM_fault_37 : decode b_MM_fault 37 = .ok (.aload_n 0, 1) := by decide +kernel
theorem d_MM_fault_38 : decode b_MM_fault 38 = .ok (.invokevirtual 128, 3) := by decide +kernel
theorem d_MM_fault_41 : decode b_MM_fault 41 = .ok (.putfield 7, 3) := by decide +kernel
theorem d_MM_fault_44 : decode b_MM_fault 44 = .ok (.aload_n 0, 1) := by decide +kernel
theorem d_MM_fault_45 : decode b_MM_fault 45 = .ok (.getfield 7, 3) := by decide +kernel
theorem d_MM_fault_48 : decode b_MM_fault 48 = .ok (.ifCond .lt 7, 3) := by decide +kernel
theorem d_MM_fault_51 : decode b_MM_fault 51 = .ok (.iconst 3, 1) := by decide +kernel
theorem d_MM_fault_52 : decode b_MM_fault 52 = .ok (.goto 4, 3) := by decide +kernel
theorem d_MM_fault_55 : decode b_MM_fault 55 = .ok (.iconst 0, 1) := by decide +kernel
theorem d_MM_fault_56 : decode b_MM_fault 56 = .ok (.ireturn, 1) := by decide +kernel
theorem d_MM_check_0 : decode b_MM_check 0 = .ok (.iload_n 1, 1) := by decide +kernel
theorem d_MM_check_1 : decode b_MM_check 1 = .ok (.ifCond .lt 9, 3) := by decide +kernel
theorem d_MM_check_4 : decode b_MM_check 4 = .ok (.iload_n 1, 1) := by decide +kernel
theorem d_MM_check_5 : decode b_MM_check 5 = .ok (.bipush 9, 2) := by decide +kernel
theorem d_MM_check_7 : decode b_MM_check 7 = .ok (.if_icmp .le 5, 3) := by decide +kernel
theorem d_MM_check_10 : decode b_MM_check 10 = .ok (.iconst (-1), 1) := by decide +kernel
theorem d_MM_check_11 : decode b_MM_check 11 = .ok (.ireturn, 1) := by decide +kernel
theorem d_MM_check_12 : decode b_MM_check 12 = .ok (.aload_n 0, 1) := by decide +kernel
theorem d_MM_check_13 : decode b_MM_check 13 = .ok (.invokevirtual 132, 3) := by decide +kernel
theorem d_MM_check_16 : decode b_MM_check 16 = .ok (.aload_n 0, 1) := by decide +kernel
theorem d_MM_check_17 : decode b_MM_check 17 = .ok (.iload_n 1, 1) := by decide +kernel
theorem d_MM_check_18 : decode b_MM_check 18 = .ok (.putfield 109, 3) := by decide +kernel
theorem d_MM_check_21 : decode b_MM_check 21 = .ok (.aload_n 0, 1) := by decide +kernel
theorem d_MM_check_22 : decode b_MM_check 22 = .ok (.invokevirtual 135, 3) := by decide +kernel
theorem d_MM_check_25 : decode b_MM_check 25 = .ok (.istore_n 2, 1) := by decide +kernel
theorem d_MM_check_26 : decode b_MM_check 26 = .ok (.iload_n 2, 1) := by decide +kernel
theorem d_MM_check_27 : decode b_MM_check 27 = .ok (.ifCond .le 7, 3) := by decide +kernel
theorem d_MM_check_30 : decode b_MM_check 30 = .ok (.aload_n 0, 1) := by decide +kernel
theorem d_MM_check_31 : decode b_MM_check 31 = .ok (.invokevirtual 138, 3) := by decide +kernel
theorem d_MM_check_34 : decode b_MM_check 34 = .ok (.aload_n 0, 1) := by decide +kernel
theorem d_MM_check_35 : decode b_MM_check 35 = .ok (.iconst 0, 1) := by decide +kernel
theorem d_MM_check_36 : decode b_MM_check 36 = .ok (.putfield 141, 3) := by decide +kernel
theorem d_MM_check_39 : decode b_MM_check 39 = .ok (.iload_n 2, 1) := by decide +kernel
theorem d_MM_check_40 : decode b_MM_check 40 = .ok (.ireturn, 1) := by decide +kernel
theorem d_MM_arcOf_0 : decode b_MM_arcOf 0 = .ok (.iload_n 1, 1) := by decide +kernel
theorem d_MM_arcOf_1 : decode b_MM_arcOf 1 = .ok (.istore_n 2, 1) := by decide +kernel
theorem d_MM_arcOf_2 : decode b_MM_arcOf 2 = .ok (.aload_n 0, 1) := by decide +kernel
theorem d_MM_arcOf_3 : decode b_MM_arcOf 3 = .ok (.iload_n 2, 1) := by decide +kernel
theorem d_MM_arcOf_4 : decode b_MM_arcOf 4 = .ok (.iconst 1, 1) := by decide +kernel
theorem d_MM_arcOf_5 : decode b_MM_arcOf 5 = .ok (.invokevirtual 80, 3) := by decide +kernel
theorem d_MM_arcOf_8 : decode b_MM_arcOf 8 = .ok (.invokestatic 145, 3) := by decide +kernel
theorem d_MM_arcOf_11 : decode b_MM_arcOf 11 = .ok (.istore_n 3, 1) := by decide +kernel
theorem d_MM_arcOf_12 : decode b_MM_arcOf 12 = .ok (.iload_n 3, 1) := by decide +kernel
theorem d_MM_arcOf_13 : decode b_MM_arcOf 13 = .ok (.ifCond .eq 44, 3) := by decide +kernel
theorem d_MM_arcOf_16 : decode b_MM_arcOf 16 = .ok (.aload_n 0, 1) := by decide +kernel
theorem d_MM_arcOf_17 : decode b_MM_arcOf 17 = .ok (.getfield 23, 3) := by decide +kernel
theorem d_MM_arcOf_20 : decode b_MM_arcOf 20 = .ok (.aload_n 0, 1) := by decide +kernel
theorem d_MM_arcOf_21 : decode b_MM_arcOf 21 = .ok (.iload_n 2, 1) := by decide +kernel
theorem d_MM_arcOf_22 : decode b_MM_arcOf 22 = .ok (.iconst 1, 1) := by decide +kernel
theorem d_MM_arcOf_23 : decode b_MM_arcOf 23 = .ok (.invokevirtual 80, 3) := by decide +kernel
theorem d_MM_arcOf_26 : decode b_MM_arcOf 26 = .ok (.invokestatic 84, 3) := by decide +kernel
theorem d_MM_arcOf_29 : decode b_MM_arcOf 29 = .ok (.iaload, 1) := by decide +kernel
theorem d_MM_arcOf_30 : decode b_MM_arcOf 30 = .ok (.istore_n 2, 1) := by decide +kernel
theorem d_MM_arcOf_31 : decode b_MM_arcOf 31 = .ok (.iload_n 2, 1) := by decide +kernel
theorem d_MM_arcOf_32 : decode b_MM_arcOf 32 = .ok (.iload_n 1, 1) := by decide +kernel
theorem d_MM_arcOf_33 : decode b_MM_arcOf 33 = .ok (.if_icmp .eq 19, 3) := by decide +kernel
theorem d_MM_arcOf_36 : decode b_MM_arcOf 36 = .ok (.aload_n 0, 1) := by decide +kernel
theorem d_MM_arcOf_37 : decode b_MM_arcOf 37 = .ok (.iload_n 2, 1) := by decide +kernel
theorem d_MM_arcOf_38 : decode b_MM_arcOf 38 = .ok (.iconst 1, 1) := by decide +kernel
theorem d_MM_arcOf_39 : decode b_MM_arcOf 39 = .ok (.invokevirtual 80, 3) := by decide +kernel
theorem d_MM_arcOf_42 : decode b_MM_arcOf 42 = .ok (.invokestatic 145, 3) := by decide +kernel
theorem d_MM_arcOf_45 : decode b_MM_arcOf 45 = .ok (.ifCond .eq 7, 3) := by decide +kernel
theorem d_MM_arcOf_48 : decode b_MM_arcOf 48 = .ok (.iconst 1, 1) := by decide +kernel
theorem d_MM_arcOf_49 : decode b_MM_arcOf 49 = .ok (.goto 4, 3) := by decide +kernel
theorem d_MM_arcOf_52 : decode b_MM_arcOf 52 = .ok (.iconst 0, 1) := by decide +kernel
theorem d_MM_arcOf_53 : decode b_MM_arcOf 53 = .ok (.istore_n 3, 1) := by decide +kernel
theorem d_MM_arcOf_54 : decode b_MM_arcOf 54 = .ok (.goto (-42), 3) := by decide +kernel
theorem d_MM_arcOf_57 : decode b_MM_arcOf 57 = .ok (.iload_n 2, 1) := by decide +kernel
theorem d_MM_arcOf_58 : decode b_MM_arcOf 58 = .ok (.istore 4, 2) := by decide +kernel
theorem d_MM_arcOf_60 : decode b_MM_arcOf 60 = .ok (.iload_n 2, 1) := by decide +kernel
theorem d_MM_arcOf_61 : decode b_MM_arcOf 61 = .ok (.istore 5, 2) := by decide +kernel
theorem d_MM_arcOf_63 : decode b_MM_arcOf 63 = .ok (.aload_n 0, 1) := by decide +kernel
theorem d_MM_arcOf_64 : decode b_MM_arcOf 64 = .ok (.iload 5, 2) := by decide +kernel
theorem d_MM_arcOf_66 : decode b_MM_arcOf 66 = .ok (.iconst 0, 1) := by decide +kernel
theorem d_MM_arcOf_67 : decode b_MM_arcOf 67 = .ok (.invokevirtual 80, 3) := by decide +kernel
theorem d_MM_arcOf_70 : decode b_MM_arcOf 70 = .ok (.invokestatic 145, 3) := by decide +kernel
theorem d_MM_arcOf_73 : decode b_MM_arcOf 73 = .ok (.ifCond .eq 40, 3) := by decide +kernel
theorem d_MM_arcOf_76 : decode b_MM_arcOf 76 = .ok (.aload_n 0, 1) := by decide +kernel
theorem d_MM_arcOf_77 : decode b_MM_arcOf 77 = .ok (.iload 5, 2) := by decide +kernel
theorem d_MM_arcOf_79 : decode b_MM_arcOf 79 = .ok (.invokevirtual 148, 3) := by decide +kernel
theorem d_MM_arcOf_82 : decode b_MM_arcOf 82 = .ok (.iload_n 2, 1) := by decide +kernel
theorem d_MM_arcOf_83 : decode b_MM_arcOf 83 = .ok (.if_icmp .eq 30, 3) := by decide +kernel
theorem d_MM_arcOf_86 : decode b_MM_arcOf 86 = .ok (.aload_n 0, 1) := by decide +kernel
theorem d_MM_arcOf_87 : decode b_MM_arcOf 87 = .ok (.iload 5, 2) := by decide +kernel
theorem d_MM_arcOf_89 : decode b_MM_arcOf 89 = .ok (.invokevirtual 148, 3) := by decide +kernel
theorem d_MM_arcOf_92 : decode b_MM_arcOf 92 = .ok (.istore 5, 2) := by decide +kernel
theorem d_MM_arcOf_94 : decode b_MM_arcOf 94 = .ok (.iload 5, 2) := by decide +kernel
theorem d_MM_arcOf_96 : decode b_MM_arcOf 96 = .ok (.iload 4, 2) := by decide +kernel
theorem d_MM_arcOf_98 : decode b_MM_arcOf 98 = .ok (.if_icmp .ge 8, 3) := by decide +kernel
theorem d_MM_arcOf_101 : decode b_MM_arcOf 101 = .ok (.iload 5, 2) := by decide +kernel
theorem d_MM_arcOf_103 : decode b_MM_arcOf 103 = .ok (.goto 5, 3) := by decide +kernel
theorem d_MM_arcOf_106 : decode b_MM_arcOf 106 = .ok (.iload 4, 2) := by decide +kernel
theorem d_MM_arcOf_108 : decode b_MM_arcOf 108 = .ok (.istore 4, 2) := by decide +kernel
theorem d_MM_arcOf_110 : decode b_MM_arcOf 110 = .ok (.goto (-47), 3) := by decide +kernel
theorem d_MM_arcOf_113 : decode b_MM_arcOf 113 = .ok (.iload 4, 2) := by decide +kernel
theorem d_MM_arcOf_115 : decode b_MM_arcOf 115 = .ok (.ireturn, 1) := by decide +kernel
theorem d_MM_findArcs_0 : decode b_MM_findArcs 0 = .ok (.aload_n 0, 1) := by decide +kernel
theorem d_MM_findArcs_1 : decode b_MM_findArcs 1 = .ok (.iconst 0, 1) := by decide +kernel
theorem d_MM_findArcs_2 : decode b_MM_findArcs 2 = .ok (.putfield 151, 3) := by decide +kernel
theorem d_MM_findArcs_5 : decode b_MM_findArcs 5 = .ok (.aload_n 0, 1) := by decide +kernel
theorem d_MM_findArcs_6 : decode b_MM_findArcs 6 = .ok (.invokevirtual 91, 3) := by decide +kernel
theorem d_MM_findArcs_9 : decode b_MM_findArcs 9 = .ok (.iconst 0, 1) := by decide +kernel
theorem d_MM_findArcs_10 : decode b_MM_findArcs 10 = .ok (.istore_n 1, 1) := by decide +kernel
theorem d_MM_findArcs_11 : decode b_MM_findArcs 11 = .ok (.iload_n 1, 1) := by decide +kernel
theorem d_MM_findArcs_12 : decode b_MM_findArcs 12 = .ok (.aload_n 0, 1) := by decide +kernel
theorem d_MM_findArcs_13 : decode b_MM_findArcs 13 = .ok (.getfield 88, 3) := by decide +kernel
theorem d_MM_findArcs_16 : decode b_MM_findArcs 16 = .ok (.if_icmp .ge 53, 3) := by decide +kernel
theorem d_MM_findArcs_19 : decode b_MM_findArcs 19 = .ok (.aload_n 0, 1) := by decide +kernel
theorem d_MM_findArcs_20 : decode b_MM_findArcs 20 = .ok (.aload_n 0, 1) := by decide +kernel
theorem d_MM_findArcs_21 : decode b_MM_findArcs 21 = .ok (.getfield 32, 3) := by decide +kernel
theorem d_MM_findArcs_24 : decode b_MM_findArcs 24 = .ok (.iload_n 1, 1) := by decide +kernel
theorem d_MM_findArcs_25 : decode b_MM_findArcs 25 = .ok (.iaload, 1) := by decide +kernel
theorem d_MM_findArcs_26 : decode b_MM_findArcs 26 = .ok (.invokevirtual 154, 3) := by decide +kernel
theorem d_MM_findArcs_29 : decode b_MM_findArcs 29 = .ok (.aload_n 0, 1) := by decide +kernel
theorem d_MM_findArcs_30 : decode b_MM_findArcs 30 = .ok (.getfield 32, 3) := by decide +kernel
theorem d_MM_findArcs_33 : decode b_MM_findArcs 33 = .ok (.iload_n 1, 1) := by decide +kernel
theorem d_MM_findArcs_34 : decode b_MM_findArcs 34 = .ok (.iaload, 1) := by decide +kernel
theorem d_MM_findArcs_35 : decode b_MM_findArcs 35 = .ok (.if_icmp .ne 28, 3) := by decide +kernel
theorem d_MM_findArcs_38 : decode b_MM_findArcs 38 = .ok (.aload_n 0, 1) := by decide +kernel
theorem d_MM_findArcs_39 : decode b_MM_findArcs 39 = .ok (.getfield 44, 3) := by decide +kernel
theorem d_MM_findArcs_42 : decode b_MM_findArcs 42 = .ok (.aload_n 0, 1) := by decide +kernel
theorem d_MM_findArcs_43 : decode b_MM_findArcs 43 = .ok (.getfield 151, 3) := by decide +kernel
theorem d_MM_findArcs_46 : decode b_MM_findArcs 46 = .ok (.aload_n 0, 1) := by decide +kernel
theorem d_MM_findArcs_47 : decode b_MM_findArcs 47 = .ok (.getfield 32, 3) := by decide +kernel
theorem d_MM_findArcs_50 : decode b_MM_findArcs 50 = .ok (.iload_n 1, 1) := by decide +kernel
theorem d_MM_findArcs_51 : decode b_MM_findArcs 51 = .ok (.iaload, 1) := by decide +kernel
theorem d_MM_findArcs_52 : decode b_MM_findArcs 52 = .ok (.iastore, 1) := by decide +kernel
theorem d_MM_findArcs_53 : decode b_MM_findArcs 53 = .ok (.aload_n 0, 1) := by decide +kernel
theorem d_MM_findArcs_54 : decode b_MM_findArcs 54 = .ok (.dup, 1) := by decide +kernel
theorem d_MM_findArcs_55 : decode b_MM_findArcs 55 = .ok (.getfield 151, 3) := by decide +kernel
theorem d_MM_findArcs_58 : decode b_MM_findArcs 58 = .ok (.iconst 1, 1) := by decide +kernel
theorem d_MM_findArcs_59 : decode b_MM_findArcs 59 = .ok (.iadd, 1) := by decide +kernel
theorem d_MM_findArcs_60 : decode b_MM_findArcs 60 = .ok (.putfield 151, 3) := by decide +kernel
theorem d_MM_findArcs_63 : decode b_MM_findArcs 63 = .ok (.iinc 1 1, 3) := by decide +kernel
theorem d_MM_findArcs_66 : decode b_MM_findArcs 66 = .ok (.goto (-55), 3) := by decide +kernel
theorem d_MM_findArcs_69 : decode b_MM_findArcs 69 = .ok (.iconst 0, 1) := by decide +kernel
theorem d_MM_findArcs_70 : decode b_MM_findArcs 70 = .ok (.istore_n 1, 1) := by decide +kernel
theorem d_MM_findArcs_71 : decode b_MM_findArcs 71 = .ok (.iload_n 1, 1) := by decide +kernel
theorem d_MM_findArcs_72 : decode b_MM_findArcs 72 = .ok (.aload_n 0, 1) := by decide +kernel
theorem d_MM_findArcs_73 : decode b_MM_findArcs 73 = .ok (.getfield 109, 3) := by decide +kernel
theorem d_MM_findArcs_76 : decode b_MM_findArcs 76 = .ok (.if_icmp .ge 29, 3) := by decide +kernel
theorem d_MM_findArcs_79 : decode b_MM_findArcs 79 = .ok (.aload_n 0, 1) := by decide +kernel
theorem d_MM_findArcs_80 : decode b_MM_findArcs 80 = .ok (.getfield 44, 3) := by decide +kernel
theorem d_MM_findArcs_83 : decode b_MM_findArcs 83 = .ok (.aload_n 0, 1) := by decide +kernel
theorem d_MM_findArcs_84 : decode b_MM_findArcs 84 = .ok (.getfield 151, 3) := by decide +kernel
theorem d_MM_findArcs_87 : decode b_MM_findArcs 87 = .ok (.iconst 0, 1) := by decide +kernel
theorem d_MM_findArcs_88 : decode b_MM_findArcs 88 = .ok (.iastore, 1) := by decide +kernel
theorem d_MM_findArcs_89 : decode b_MM_findArcs 89 = .ok (.aload_n 0, 1) := by decide +kernel
theorem d_MM_findArcs_90 : decode b_MM_findArcs 90 = .ok (.dup, 1) := by decide +kernel
theorem d_MM_findArcs_91 : decode b_MM_findArcs 91 = .ok (.getfield 151, 3) := by decide +kernel
theorem d_MM_findArcs_94 : decode b_MM_findArcs 94 = .ok (.iconst 1, 1) := by decide +kernel
theorem d_MM_findArcs_95 : decode b_MM_findArcs 95 = .ok (.iadd, 1) := by decide +kernel
theorem d_MM_findArcs_96 : decode b_MM_findArcs 96 = .ok (.putfield 151, 3) := by decide +kernel
theorem d_MM_findArcs_99 : decode b_MM_findArcs 99 = .ok (.iinc 1 1, 3) := by decide +kernel
theorem d_MM_findArcs_102 : decode b_MM_findArcs 102 = .ok (.goto (-31), 3) := by decide +kernel
theorem d_MM_findArcs_105 : decode b_MM_findArcs 105 = .ok (.return_, 1) := by decide +kernel
theorem d_MM_arcNumber_0 : decode b_MM_arcNumber 0 = .ok (.aload_n 0, 1) := by decide +kernel
theorem d_MM_arcNumber_1 : decode b_MM_arcNumber 1 = .ok (.iload_n 1, 1) := by decide +kernel
theorem d_MM_arcNumber_2 : decode b_MM_arcNumber 2 = .ok (.invokevirtual 154, 3) := by decide +kernel
theorem d_MM_arcNumber_5 : decode b_MM_arcNumber 5 = .ok (.istore_n 2, 1) := by decide +kernel
theorem d_MM_arcNumber_6 : decode b_MM_arcNumber 6 = .ok (.iconst 0, 1) := by decide +kernel
theorem d_MM_arcNumber_7 : decode b_MM_arcNumber 7 = .ok (.istore_n 3, 1) := by decide +kernel
theorem d_MM_arcNumber_8 : decode b_MM_arcNumber 8 = .ok (.aload_n 0, 1) := by decide +kernel
theorem d_MM_arcNumber_9 : decode b_MM_arcNumber 9 = .ok (.getfield 44, 3) := by decide +kernel
theorem d_MM_arcNumber_12 : decode b_MM_arcNumber 12 = .ok (.iload_n 3, 1) := by decide +kernel
theorem d_MM_arcNumber_13 : decode b_MM_arcNumber 13 = .ok (.iaload, 1) := by decide +kernel
theorem d_MM_arcNumber_14 : decode b_MM_arcNumber 14 = .ok (.iload_n 2, 1) := by decide +kernel
theorem d_MM_arcNumber_15 : decode b_MM_arcNumber 15 = .ok (.if_icmp .eq 9, 3) := by decide +kernel
theorem d_MM_arcNumber_18 : decode b_MM_arcNumber 18 = .ok (.iinc 3 1, 3) := by decide +kernel
theorem d_MM_arcNumber_21 : decode b_MM_arcNumber 21 = .ok (.goto (-13), 3) := by decide +kernel
theorem d_MM_arcNumber_24 : decode b_MM_arcNumber 24 = .ok (.iload_n 3, 1) := by decide +kernel
theorem d_MM_arcNumber_25 : decode b_MM_arcNumber 25 = .ok (.ireturn, 1) := by decide +kernel
theorem d_MM_addEntry_0 : decode b_MM_addEntry 0 = .ok (.aload_n 0, 1) := by decide +kernel
theorem d_MM_addEntry_1 : decode b_MM_addEntry 1 = .ok (.getfield 47, 3) := by decide +kernel
theorem d_MM_addEntry_4 : decode b_MM_addEntry 4 = .ok (.bipush 32, 2) := by decide +kernel
theorem d_MM_addEntry_6 : decode b_MM_addEntry 6 = .ok (.iload_n 1, 1) := by decide +kernel
theorem d_MM_addEntry_7 : decode b_MM_addEntry 7 = .ok (.imul, 1) := by decide +kernel
theorem d_MM_addEntry_8 : decode b_MM_addEntry 8 = .ok (.iload_n 2, 1) := by decide +kernel
theorem d_MM_addEntry_9 : decode b_MM_addEntry 9 = .ok (.iadd, 1) := by decide +kernel
theorem d_MM_addEntry_10 : decode b_MM_addEntry 10 = .ok (.dup2, 1) := by decide +kernel
theorem d_MM_addEntry_11 : decode b_MM_addEntry 11 = .ok (.iaload, 1) := by decide +kernel
theorem d_MM_addEntry_12 : decode b_MM_addEntry 12 = .ok (.iload_n 3, 1) := by decide +kernel
theorem d_MM_addEntry_13 : decode b_MM_addEntry 13 = .ok (.iadd, 1) := by decide +kernel
theorem d_MM_addEntry_14 : decode b_MM_addEntry 14 = .ok (.iastore, 1) := by decide +kernel
theorem d_MM_addEntry_15 : decode b_MM_addEntry 15 = .ok (.aload_n 0, 1) := by decide +kernel
theorem d_MM_addEntry_16 : decode b_MM_addEntry 16 = .ok (.getfield 50, 3) := by decide +kernel
theorem d_MM_addEntry_19 : decode b_MM_addEntry 19 = .ok (.bipush 32, 2) := by decide +kernel
theorem d_MM_addEntry_21 : decode b_MM_addEntry 21 = .ok (.iload_n 1, 1) := by decide +kernel
theorem d_MM_addEntry_22 : decode b_MM_addEntry 22 = .ok (.imul, 1) := by decide +kernel
theorem d_MM_addEntry_23 : decode b_MM_addEntry 23 = .ok (.iload_n 2, 1) := by decide +kernel
theorem d_MM_addEntry_24 : decode b_MM_addEntry 24 = .ok (.iadd, 1) := by decide +kernel
theorem d_MM_addEntry_25 : decode b_MM_addEntry 25 = .ok (.dup2, 1) := by decide +kernel
theorem d_MM_addEntry_26 : decode b_MM_addEntry 26 = .ok (.iaload, 1) := by decide +kernel
theorem d_MM_addEntry_27 : decode b_MM_addEntry 27 = .ok (.iload 4, 2) := by decide +kernel
theorem d_MM_addEntry_29 : decode b_MM_addEntry 29 = .ok (.iadd, 1) := by decide +kernel
theorem d_MM_addEntry_30 : decode b_MM_addEntry 30 = .ok (.iastore, 1) := by decide +kernel
theorem d_MM_addEntry_31 : decode b_MM_addEntry 31 = .ok (.return_, 1) := by decide +kernel
theorem d_MM_fill_0 : decode b_MM_fill 0 = .ok (.aload_n 0, 1) := by decide +kernel
theorem d_MM_fill_1 : decode b_MM_fill 1 = .ok (.invokevirtual 157, 3) := by decide +kernel
theorem d_MM_fill_4 : decode b_MM_fill 4 = .ok (.iconst 0, 1) := by decide +kernel
theorem d_MM_fill_5 : decode b_MM_fill 5 = .ok (.istore_n 1, 1) := by decide +kernel
theorem d_MM_fill_6 : decode b_MM_fill 6 = .ok (.iload_n 1, 1) := by decide +kernel
theorem d_MM_fill_7 : decode b_MM_fill 7 = .ok (.sipush 384, 3) := by decide +kernel
theorem d_MM_fill_10 : decode b_MM_fill 10 = .ok (.if_icmp .ge 23, 3) := by decide +kernel
theorem d_MM_fill_13 : decode b_MM_fill 13 = .ok (.aload_n 0, 1) := by decide +kernel
theorem d_MM_fill_14 : decode b_MM_fill 14 = .ok (.getfield 47, 3) := by decide +kernel
theorem d_MM_fill_17 : decode b_MM_fill 17 = .ok (.iload_n 1, 1) := by decide +kernel
theorem d_MM_fill_18 : decode b_MM_fill 18 = .ok (.iconst 0, 1) := by decide +kernel
theorem d_MM_fill_19 : decode b_MM_fill 19 = .ok (.iastore, 1) := by decide +kernel
theorem d_MM_fill_20 : decode b_MM_fill 20 = .ok (.aload_n 0, 1) := by decide +kernel
theorem d_MM_fill_21 : decode b_MM_fill 21 = .ok (.getfield 50, 3) := by decide +kernel
theorem d_MM_fill_24 : decode b_MM_fill 24 = .ok (.iload_n 1, 1) := by decide +kernel
theorem d_MM_fill_25 : decode b_MM_fill 25 = .ok (.iconst 0, 1) := by decide +kernel
theorem d_MM_fill_26 : decode b_MM_fill 26 = .ok (.iastore, 1) := by decide +kernel
theorem d_MM_fill_27 : decode b_MM_fill 27 = .ok (.iinc 1 1, 3) := by decide +kernel
theorem d_MM_fill_30 : decode b_MM_fill 30 = .ok (.goto (-24), 3) := by decide +kernel
theorem d_MM_fill_33 : decode b_MM_fill 33 = .ok (.iconst 0, 1) := by decide +kernel
theorem d_MM_fill_34 : decode b_MM_fill 34 = .ok (.istore_n 1, 1) := by decide +kernel
theorem d_MM_fill_35 : decode b_MM_fill 35 = .ok (.iload_n 1, 1) := by decide +kernel
theorem d_MM_fill_36 : decode b_MM_fill 36 = .ok (.aload_n 0, 1) := by decide +kernel
theorem d_MM_fill_37 : decode b_MM_fill 37 = .ok (.getfield 73, 3) := by decide +kernel
theorem d_MM_fill_40 : decode b_MM_fill 40 = .ok (.if_icmp .ge 104, 3) := by decide +kernel
theorem d_MM_fill_43 : decode b_MM_fill 43 = .ok (.aload_n 0, 1) := by decide +kernel
theorem d_MM_fill_44 : decode b_MM_fill 44 = .ok (.aload_n 0, 1) := by decide +kernel
theorem d_MM_fill_45 : decode b_MM_fill 45 = .ok (.getfield 23, 3) := by decide +kernel
theorem d_MM_fill_48 : decode b_MM_fill 48 = .ok (.iconst 4, 1) := by decide +kernel
theorem d_MM_fill_49 : decode b_MM_fill 49 = .ok (.iload_n 1, 1) := by decide +kernel
theorem d_MM_fill_50 : decode b_MM_fill 50 = .ok (.imul, 1) := by decide +kernel
theorem d_MM_fill_51 : decode b_MM_fill 51 = .ok (.iaload, 1) := by decide +kernel
theorem d_MM_fill_52 : decode b_MM_fill 52 = .ok (.invokevirtual 160, 3) := by decide +kernel
theorem d_MM_fill_55 : decode b_MM_fill 55 = .ok (.istore_n 2, 1) := by decide +kernel
theorem d_MM_fill_56 : decode b_MM_fill 56 = .ok (.aload_n 0, 1) := by decide +kernel
theorem d_MM_fill_57 : decode b_MM_fill 57 = .ok (.aload_n 0, 1) := by decide +kernel
theorem d_MM_fill_58 : decode b_MM_fill 58 = .ok (.getfield 23, 3) := by decide +kernel
theorem d_MM_fill_61 : decode b_MM_fill 61 = .ok (.iconst 4, 1) := by decide +kernel
theorem d_MM_fill_62 : decode b_MM_fill 62 = .ok (.iload_n 1, 1) := by decide +kernel
theorem d_MM_fill_63 : decode b_MM_fill 63 = .ok (.imul, 1) := by decide +kernel
theorem d_MM_fill_64 : decode b_MM_fill 64 = .ok (.iconst 2, 1) := by decide +kernel
theorem d_MM_fill_65 : decode b_MM_fill 65 = .ok (.iadd, 1) := by decide +kernel
theorem d_MM_fill_66 : decode b_MM_fill 66 = .ok (.iaload, 1) := by decide +kernel
theorem d_MM_fill_67 : decode b_MM_fill 67 = .ok (.invokevirtual 160, 3) := by decide +kernel
theorem d_MM_fill_70 : decode b_MM_fill 70 = .ok (.istore_n 3, 1) := by decide +kernel
theorem d_MM_fill_71 : decode b_MM_fill 71 = .ok (.aload_n 0, 1) := by decide +kernel
theorem d_MM_fill_72 : decode b_MM_fill 72 = .ok (.aload_n 0, 1) := by decide +kernel
theorem d_MM_fill_73 : decode b_MM_fill 73 = .ok (.getfield 23, 3) := by decide +kernel
theorem d_MM_fill_76 : decode b_MM_fill 76 = .ok (.iconst 4, 1) := by decide +kernel
theorem d_MM_fill_77 : decode b_MM_fill 77 = .ok (.iload_n 1, 1) := by decide +kernel
theorem d_MM_fill_78 : decode b_MM_fill 78 = .ok (.imul, 1) := by decide +kernel
theorem d_MM_fill_79 : decode b_MM_fill 79 = .ok (.iconst 1, 1) := by decide +kernel
theorem d_MM_fill_80 : decode b_MM_fill 80 = .ok (.iadd, 1) := by decide +kernel
theorem d_MM_fill_81 : decode b_MM_fill 81 = .ok (.iaload, 1) := by decide +kernel
theorem d_MM_fill_82 : decode b_MM_fill 82 = .ok (.invokevirtual 160, 3) := by decide +kernel
theorem d_MM_fill_85 : decode b_MM_fill 85 = .ok (.istore 4, 2) := by decide +kernel
theorem d_MM_fill_87 : decode b_MM_fill 87 = .ok (.aload_n 0, 1) := by decide +kernel
theorem d_MM_fill_88 : decode b_MM_fill 88 = .ok (.iload_n 1, 1) := by decide +kernel
theorem d_MM_fill_89 : decode b_MM_fill 89 = .ok (.aload_n 0, 1) := by decide +kernel
theorem d_MM_fill_90 : decode b_MM_fill 90 = .ok (.getfield 20, 3) := by decide +kernel
theorem d_MM_fill_93 : decode b_MM_fill 93 = .ok (.iload_n 1, 1) := by decide +kernel
theorem d_MM_fill_94 : decode b_MM_fill 94 = .ok (.iaload, 1) := by decide +kernel
theorem d_MM_fill_95 : decode b_MM_fill 95 = .ok (.ifCond .le 7, 3) := by decide +kernel
theorem d_MM_fill_98 : decode b_MM_fill 98 = .ok (.iload_n 2, 1) := by decide +kernel
theorem d_MM_fill_99 : decode b_MM_fill 99 = .ok (.goto 4, 3) := by decide +kernel
theorem d_MM_fill_102 : decode b_MM_fill 102 = .ok (.iload_n 3, 1) := by decide +kernel
theorem d_MM_fill_103 : decode b_MM_fill 103 = .ok (.iconst 0, 1) := by decide +kernel
theorem d_MM_fill_104 : decode b_MM_fill 104 = .ok (.iconst 1, 1) := by decide +kernel
theorem d_MM_fill_105 : decode b_MM_fill 105 = .ok (.invokevirtual 163, 3) := by decide +kernel
theorem d_MM_fill_108 : decode b_MM_fill 108 = .ok (.aload_n 0, 1) := by decide +kernel
theorem d_MM_fill_109 : decode b_MM_fill 109 = .ok (.iload_n 1, 1) := by decide +kernel
theorem d_MM_fill_110 : decode b_MM_fill 110 = .ok (.aload_n 0, 1) := by decide +kernel
theorem d_MM_fill_111 : decode b_MM_fill 111 = .ok (.getfield 20, 3) := by decide +kernel
theorem d_MM_fill_114 : decode b_MM_fill 114 = .ok (.iload_n 1, 1) := by decide +kernel
theorem d_MM_fill_115 : decode b_MM_fill 115 = .ok (.iaload, 1) := by decide +kernel
theorem d_MM_fill_116 : decode b_MM_fill 116 = .ok (.ifCond .le 7, 3) := by decide +kernel
theorem d_MM_fill_119 : decode b_MM_fill 119 = .ok (.iload_n 3, 1) := by decide +kernel
theorem d_MM_fill_120 : decode b_MM_fill 120 = .ok (.goto 4, 3) := by decide +kernel
theorem d_MM_fill_123 : decode b_MM_fill 123 = .ok (.iload_n 2, 1) := by decide +kernel
theorem d_MM_fill_124 : decode b_MM_fill 124 = .ok (.iconst (-1), 1) := by decide +kernel
theorem d_MM_fill_125 : decode b_MM_fill 125 = .ok (.iconst 0, 1) := by decide +kernel
theorem d_MM_fill_126 : decode b_MM_fill 126 = .ok (.invokevirtual 163, 3) := by decide +kernel
theorem d_MM_fill_129 : decode b_MM_fill 129 = .ok (.aload_n 0, 1) := by decide +kernel
theorem d_MM_fill_130 : decode b_MM_fill 130 = .ok (.iload_n 1, 1) := by decide +kernel
theorem d_MM_fill_131 : decode b_MM_fill 131 = .ok (.iload 4, 2) := by decide +kernel
theorem d_MM_fill_133 : decode b_MM_fill 133 = .ok (.iconst 1, 1) := by decide +kernel
theorem d_MM_fill_134 : decode b_MM_fill 134 = .ok (.iconst (-1), 1) := by decide +kernel
theorem d_MM_fill_135 : decode b_MM_fill 135 = .ok (.invokevirtual 163, 3) := by decide +kernel
theorem d_MM_fill_138 : decode b_MM_fill 138 = .ok (.iinc 1 1, 3) := by decide +kernel
theorem d_MM_fill_141 : decode b_MM_fill 141 = .ok (.goto (-106), 3) := by decide +kernel
theorem d_MM_fill_144 : decode b_MM_fill 144 = .ok (.return_, 1) := by decide +kernel
theorem d_MM_bits_0 : decode b_MM_bits 0 = .ok (.iconst 0, 1) := by decide +kernel
theorem d_MM_bits_1 : decode b_MM_bits 1 = .ok (.istore_n 1, 1) := by decide +kernel
theorem d_MM_bits_2 : decode b_MM_bits 2 = .ok (.iconst 0, 1) := by decide +kernel
theorem d_MM_bits_3 : decode b_MM_bits 3 = .ok (.istore_n 2, 1) := by decide +kernel
theorem d_MM_bits_4 : decode b_MM_bits 4 = .ok (.iload_n 2, 1) := by decide +kernel
theorem d_MM_bits_5 : decode b_MM_bits 5 = .ok (.bipush 13, 2) := by decide +kernel
theorem d_MM_bits_7 : decode b_MM_bits 7 = .ok (.if_icmp .ge 17, 3) := by decide +kernel
theorem d_MM_bits_10 : decode b_MM_bits 10 = .ok (.iload_n 1, 1) := by decide +kernel
theorem d_MM_bits_11 : decode b_MM_bits 11 = .ok (.iload_n 0, 1) := by decide +kernel
theorem d_MM_bits_12 : decode b_MM_bits 12 = .ok (.iload_n 2, 1) := by decide +kernel
theorem d_MM_bits_13 : decode b_MM_bits 13 = .ok (.ishr, 1) := by decide +kernel
theorem d_MM_bits_14 : decode b_MM_bits 14 = .ok (.iconst 1, 1) := by decide +kernel
theorem d_MM_bits_15 : decode b_MM_bits 15 = .ok (.iand, 1) := by decide +kernel
theorem d_MM_bits_16 : decode b_MM_bits 16 = .ok (.iadd, 1) := by decide +kernel
theorem d_MM_bits_17 : decode b_MM_bits 17 = .ok (.istore_n 1, 1) := by decide +kernel
theorem d_MM_bits_18 : decode b_MM_bits 18 = .ok (.iinc 2 1, 3) := by decide +kernel
theorem d_MM_bits_21 : decode b_MM_bits 21 = .ok (.goto (-17), 3) := by decide +kernel
theorem d_MM_bits_24 : decode b_MM_bits 24 = .ok (.iload_n 1, 1) := by decide +kernel
theorem d_MM_bits_25 : decode b_MM_bits 25 = .ok (.ireturn, 1) := by decide +kernel
theorem d_MM_behind_0 : decode b_MM_behind 0 = .ok (.iload_n 0, 1) := by decide +kernel
theorem d_MM_behind_1 : decode b_MM_behind 1 = .ok (.iload_n 1, 1) := by decide +kernel
theorem d_MM_behind_2 : decode b_MM_behind 2 = .ok (.iconst 1, 1) := by decide +kernel
theorem d_MM_behind_3 : decode b_MM_behind 3 = .ok (.iadd, 1) := by decide +kernel
theorem d_MM_behind_4 : decode b_MM_behind 4 = .ok (.ishr, 1) := by decide +kernel
theorem d_MM_behind_5 : decode b_MM_behind 5 = .ok (.invokestatic 167, 3) := by decide +kernel
theorem d_MM_behind_8 : decode b_MM_behind 8 = .ok (.ireturn, 1) := by decide +kernel
theorem d_MM_carry_0 : decode b_MM_carry 0 = .ok (.bipush 14, 2) := by decide +kernel
theorem d_MM_carry_2 : decode b_MM_carry 2 = .ok (.iload_n 2, 1) := by decide +kernel
theorem d_MM_carry_3 : decode b_MM_carry 3 = .ok (.iconst 1, 1) := by decide +kernel
theorem d_MM_carry_4 : decode b_MM_carry 4 = .ok (.iload_n 3, 1) := by decide +kernel
theorem d_MM_carry_5 : decode b_MM_carry 5 = .ok (.ishl, 1) := by decide +kernel
theorem d_MM_carry_6 : decode b_MM_carry 6 = .ok (.ior, 1) := by decide +kernel
theorem d_MM_carry_7 : decode b_MM_carry 7 = .ok (.imul, 1) := by decide +kernel
theorem d_MM_carry_8 : decode b_MM_carry 8 = .ok (.istore 4, 2) := by decide +kernel
theorem d_MM_carry_10 : decode b_MM_carry 10 = .ok (.iload_n 2, 1) := by decide +kernel
theorem d_MM_carry_11 : decode b_MM_carry 11 = .ok (.iload_n 3, 1) := by decide +kernel
theorem d_MM_carry_12 : decode b_MM_carry 12 = .ok (.invokestatic 170, 3) := by decide +kernel
theorem d_MM_carry_15 : decode b_MM_carry 15 = .ok (.iconst 2, 1) := by decide +kernel
theorem d_MM_carry_16 : decode b_MM_carry 16 = .ok (.irem, 1) := by decide +kernel
theorem d_MM_carry_17 : decode b_MM_carry 17 = .ok (.ifCond .ne 7, 3) := by decide +kernel
theorem d_MM_carry_20 : decode b_MM_carry 20 = .ok (.iconst 1, 1) := by decide +kernel
theorem d_MM_carry_21 : decode b_MM_carry 21 = .ok (.goto 4, 3) := by decide +kernel
theorem d_MM_carry_24 : decode b_MM_carry 24 = .ok (.iconst (-1), 1) := by decide +kernel
theorem d_MM_carry_25 : decode b_MM_carry 25 = .ok (.istore 5, 2) := by decide +kernel
theorem d_MM_carry_27 : decode b_MM_carry 27 = .ok (.iload 5, 2) := by decide +kernel
theorem d_MM_carry_29 : decode b_MM_carry 29 = .ok (.i2l, 1) := by decide +kernel
theorem d_MM_carry_30 : decode b_MM_carry 30 = .ok (.aload_n 0, 1) := by decide +kernel
theorem d_MM_carry_31 : decode b_MM_carry 31 = .ok (.getfield 47, 3) := by decide +kernel
theorem d_MM_carry_34 : decode b_MM_carry 34 = .ok (.bipush 32, 2) := by decide +kernel
theorem d_MM_carry_36 : decode b_MM_carry 36 = .ok (.iload_n 1, 1) := by decide +kernel
theorem d_MM_carry_37 : decode b_MM_carry 37 = .ok (.imul, 1) := by decide +kernel
theorem d_MM_carry_38 : decode b_MM_carry 38 = .ok (.iload_n 3, 1) := by decide +kernel
theorem d_MM_carry_39 : decode b_MM_carry 39 = .ok (.iadd, 1) := by decide +kernel
theorem d_MM_carry_40 : decode b_MM_carry 40 = .ok (.iaload, 1) := by decide +kernel
theorem d_MM_carry_41 : decode b_MM_carry 41 = .ok (.i2l, 1) := by decide +kernel
theorem d_MM_carry_42 : decode b_MM_carry 42 = .ok (.lmul, 1) := by decide +kernel
theorem d_MM_carry_43 : decode b_MM_carry 43 = .ok (.lstore 6, 2) := by decide +kernel
theorem d_MM_carry_45 : decode b_MM_carry 45 = .ok (.iload 5, 2) := by decide +kernel
theorem d_MM_carry_47 : decode b_MM_carry 47 = .ok (.i2l, 1) := by decide +kernel
theorem d_MM_carry_48 : decode b_MM_carry 48 = .ok (.aload_n 0, 1) := by decide +kernel
theorem d_MM_carry_49 : decode b_MM_carry 49 = .ok (.getfield 50, 3) := by decide +kernel
theorem d_MM_carry_52 : decode b_MM_carry 52 = .ok (.bipush 32, 2) := by decide +kernel
theorem d_MM_carry_54 : decode b_MM_carry 54 = .ok (.iload_n 1, 1) := by decide +kernel
theorem d_MM_carry_55 : decode b_MM_carry 55 = .ok (.imul, 1) := by decide +kernel
theorem d_MM_carry_56 : decode b_MM_carry 56 = .ok (.iload_n 3, 1) := by decide +kernel
theorem d_MM_carry_57 : decode b_MM_carry 57 = .ok (.iadd, 1) := by decide +kernel
theorem d_MM_carry_58 : decode b_MM_carry 58 = .ok (.iaload, 1) := by decide +kernel
theorem d_MM_carry_59 : decode b_MM_carry 59 = .ok (.i2l, 1) := by decide +kernel
theorem d_MM_carry_60 : decode b_MM_carry 60 = .ok (.lmul, 1) := by decide +kernel
theorem d_MM_carry_61 : decode b_MM_carry 61 = .ok (.lstore 8, 2) := by decide +kernel
theorem d_MM_carry_63 : decode b_MM_carry 63 = .ok (.iconst 0, 1) := by decide +kernel
theorem d_MM_carry_64 : decode b_MM_carry 64 = .ok (.istore 10, 2) := by decide +kernel
theorem d_MM_carry_66 : decode b_MM_carry 66 = .ok (.iload 10, 2) := by decide +kernel
theorem d_MM_carry_68 : decode b_MM_carry 68 = .ok (.bipush 14, 2) := by decide +kernel
theorem d_MM_carry_70 : decode b_MM_carry 70 = .ok (.if_icmp .ge 72, 3) := by decide +kernel
theorem d_MM_carry_73 : decode b_MM_carry 73 = .ok (.aload_n 0, 1) := by decide +kernel
theorem d_MM_carry_74 : decode b_MM_carry 74 = .ok (.getfield 54, 3) := by decide +kernel
theorem d_MM_carry_77 : decode b_MM_carry 77 = .ok (.iload 4, 2) := by decide +kernel
theorem d_MM_carry_79 : decode b_MM_carry 79 = .ok (.iload 10, 2) := by decide +kernel
theorem d_MM_carry_81 : decode b_MM_carry 81 = .ok (.iadd, 1) := by decide +kernel
theorem d_MM_carry_82 : decode b_MM_carry 82 = .ok (.aload_n 0, 1) := by decide +kernel
theorem d_MM_carry_83 : decode b_MM_carry 83 = .ok (.getfield 54, 3) := by decide +kernel
theorem d_MM_carry_86 : decode b_MM_carry 86 = .ok (.iload 4, 2) := by decide +kernel
theorem d_MM_carry_88 : decode b_MM_carry 88 = .ok (.iload 10, 2) := by decide +kernel
theorem d_MM_carry_90 : decode b_MM_carry 90 = .ok (.iadd, 1) := by decide +kernel
theorem d_MM_carry_91 : decode b_MM_carry 91 = .ok (.laload, 1) := by decide +kernel
theorem d_MM_carry_92 : decode b_MM_carry 92 = .ok (.lload 6, 2) := by decide +kernel
theorem d_MM_carry_94 : decode b_MM_carry 94 = .ok (.aload_n 0, 1) := by decide +kernel
theorem d_MM_carry_95 : decode b_MM_carry 95 = .ok (.getfield 54, 3) := by decide +kernel
theorem d_MM_carry_98 : decode b_MM_carry 98 = .ok (.bipush 14, 2) := by decide +kernel
theorem d_MM_carry_100 : decode b_MM_carry 100 = .ok (.iload_n 2, 1) := by decide +kernel
theorem d_MM_carry_101 : decode b_MM_carry 101 = .ok (.imul, 1) := by decide +kernel
theorem d_MM_carry_102 : decode b_MM_carry 102 = .ok (.iload 10, 2) := by decide +kernel
theorem d_MM_carry_104 : decode b_MM_carry 104 = .ok (.iadd, 1) := by decide +kernel
theorem d_MM_carry_105 : decode b_MM_carry 105 = .ok (.laload, 1) := by decide +kernel
theorem d_MM_carry_106 : decode b_MM_carry 106 = .ok (.lmul, 1) := by decide +kernel
theorem d_MM_carry_107 : decode b_MM_carry 107 = .ok (.ladd, 1) := by decide +kernel
theorem d_MM_carry_108 : decode b_MM_carry 108 = .ok (.iload 10, 2) := by decide +kernel
theorem d_MM_carry_110 : decode b_MM_carry 110 = .ok (.ifCond .le 23, 3) := by decide +kernel
theorem d_MM_carry_113 : decode b_MM_carry 113 = .ok (.lload 8, 2) := by decide +kernel
theorem d_MM_carry_115 : decode b_MM_carry 115 = .ok (.aload_n 0, 1) := by decide +kernel
theorem d_MM_carry_116 : decode b_MM_carry 116 = .ok (.getfield 54, 3) := by decide +kernel
theorem d_MM_carry_119 : decode b_MM_carry 119 = .ok (.bipush 14, 2) := by decide +kernel
theorem d_MM_carry_121 : decode b_MM_carry 121 = .ok (.iload_n 2, 1) := by decide +kernel
theorem d_MM_carry_122 : decode b_MM_carry 122 = .ok (.imul, 1) := by decide +kernel
theorem d_MM_carry_123 : decode b_MM_carry 123 = .ok (.iload 10, 2) := by decide +kernel
theorem d_MM_carry_125 : decode b_MM_carry 125 = .ok (.iadd, 1) := by decide +kernel
theorem d_MM_carry_126 : decode b_MM_carry 126 = .ok (.iconst 1, 1) := by decide +kernel
theorem d_MM_carry_127 : decode b_MM_carry 127 = .ok (.isub, 1) := by decide +kernel
theorem d_MM_carry_128 : decode b_MM_carry 128 = .ok (.laload, 1) := by decide +kernel
theorem d_MM_carry_129 : decode b_MM_carry 129 = .ok (.lmul, 1) := by decide +kernel
theorem d_MM_carry_130 : decode b_MM_carry 130 = .ok (.goto 4, 3) := by decide +kernel
theorem d_MM_carry_133 : decode b_MM_carry 133 = .ok (.lconst 0, 1) := by decide +kernel
theorem d_MM_carry_134 : decode b_MM_carry 134 = .ok (.ladd, 1) := by decide +kernel
theorem d_MM_carry_135 : decode b_MM_carry 135 = .ok (.lastore, 1) := by decide +kernel
theorem d_MM_carry_136 : decode b_MM_carry 136 = .ok (.iinc 10 1, 3) := by decide +kernel
theorem d_MM_carry_139 : decode b_MM_carry 139 = .ok (.goto (-73), 3) := by decide +kernel
theorem d_MM_carry_142 : decode b_MM_carry 142 = .ok (.return_, 1) := by decide +kernel
theorem d_MM_sumUp_0 : decode b_MM_sumUp 0 = .ok (.iconst 0, 1) := by decide +kernel
theorem d_MM_sumUp_1 : decode b_MM_sumUp 1 = .ok (.istore_n 2, 1) := by decide +kernel
theorem d_MM_sumUp_2 : decode b_MM_sumUp 2 = .ok (.iload_n 2, 1) := by decide +kernel
theorem d_MM_sumUp_3 : decode b_MM_sumUp 3 = .ok (.bipush 14, 2) := by decide +kernel
theorem d_MM_sumUp_5 : decode b_MM_sumUp 5 = .ok (.aload_n 0, 1) := by decide +kernel
theorem d_MM_sumUp_6 : decode b_MM_sumUp 6 = .ok (.getfield 151, 3) := by decide +kernel
theorem d_MM_sumUp_9 : decode b_MM_sumUp 9 = .ok (.ishl, 1) := by decide +kernel
theorem d_MM_sumUp_10 : decode b_MM_sumUp 10 = .ok (.if_icmp .ge 16, 3) := by decide +kernel
theorem d_MM_sumUp_13 : decode b_MM_sumUp 13 = .ok (.aload_n 0, 1) := by decide +kernel
theorem d_MM_sumUp_14 : decode b_MM_sumUp 14 = .ok (.getfield 54, 3) := by decide +kernel
theorem d_MM_sumUp_17 : decode b_MM_sumUp 17 = .ok (.iload_n 2, 1) := by decide +kernel
theorem d_MM_sumUp_18 : decode b_MM_sumUp 18 = .ok (.lconst 0, 1) := by decide +kernel
theorem d_MM_sumUp_19 : decode b_MM_sumUp 19 = .ok (.lastore, 1) := by decide +kernel
theorem d_MM_sumUp_20 : decode b_MM_sumUp 20 = .ok (.iinc 2 1, 3) := by decide +kernel
theorem d_MM_sumUp_23 : decode b_MM_sumUp 23 = .ok (.goto (-21), 3) := by decide +kernel
theorem d_MM_sumUp_26 : decode b_MM_sumUp 26 = .ok (.aload_n 0, 1) := by decide +kernel
theorem d_MM_sumUp_27 : decode b_MM_sumUp 27 = .ok (.getfield 54, 3) := by decide +kernel
theorem d_MM_sumUp_30 : decode b_MM_sumUp 30 = .ok (.iconst 0, 1) := by decide +kernel
theorem d_MM_sumUp_31 : decode b_MM_sumUp 31 = .ok (.lconst 1, 1) := by decide +kernel
theorem d_MM_sumUp_32 : decode b_MM_sumUp 32 = .ok (.lastore, 1) := by decide +kernel
theorem d_MM_sumUp_33 : decode b_MM_sumUp 33 = .ok (.iconst 0, 1) := by decide +kernel
theorem d_MM_sumUp_34 : decode b_MM_sumUp 34 = .ok (.istore_n 2, 1) := by decide +kernel
theorem d_MM_sumUp_35 : decode b_MM_sumUp 35 = .ok (.iconst 0, 1) := by decide +kernel
theorem d_MM_sumUp_36 : decode b_MM_sumUp 36 = .ok (.istore_n 3, 1) := by decide +kernel
theorem d_MM_sumUp_37 : decode b_MM_sumUp 37 = .ok (.iload_n 3, 1) := by decide +kernel
theorem d_MM_sumUp_38 : decode b_MM_sumUp 38 = .ok (.aload_n 0, 1) := by decide +kernel
theorem d_MM_sumUp_39 : decode b_MM_sumUp 39 = .ok (.getfield 73, 3) := by decide +kernel
theorem d_MM_sumUp_42 : decode b_MM_sumUp 42 = .ok (.if_icmp .ge 113, 3) := by decide +kernel
theorem d_MM_sumUp_45 : decode b_MM_sumUp 45 = .ok (.iload_n 3, 1) := by decide +kernel
theorem d_MM_sumUp_46 : decode b_MM_sumUp 46 = .ok (.iload_n 1, 1) := by decide +kernel
theorem d_MM_sumUp_47 : decode b_MM_sumUp 47 = .ok (.if_icmp .eq 102, 3) := by decide +kernel
theorem d_MM_sumUp_50 : decode b_MM_sumUp 50 = .ok (.iconst 0, 1) := by decide +kernel
theorem d_MM_sumUp_51 : decode b_MM_sumUp 51 = .ok (.istore 4, 2) := by decide +kernel
theorem d_MM_sumUp_53 : decode b_MM_sumUp 53 = .ok (.iload 4, 2) := by decide +kernel
theorem d_MM_sumUp_55 : decode b_MM_sumUp 55 = .ok (.iconst 1, 1) := by decide +kernel
theorem d_MM_sumUp_56 : decode b_MM_sumUp 56 = .ok (.aload_n 0, 1) := by decide +kernel
theorem d_MM_sumUp_57 : decode b_MM_sumUp 57 = .ok (.getfield 151, 3) := by decide +kernel
theorem d_MM_sumUp_60 : decode b_MM_sumUp 60 = .ok (.ishl, 1) := by decide +kernel
theorem d_MM_sumUp_61 : decode b_MM_sumUp 61 = .ok (.if_icmp .ge 85, 3) := by decide +kernel
theorem d_MM_sumUp_64 : decode b_MM_sumUp 64 = .ok (.iconst 0, 1) := by decide +kernel
theorem d_MM_sumUp_65 : decode b_MM_sumUp 65 = .ok (.istore 5, 2) := by decide +kernel
theorem d_MM_sumUp_67 : decode b_MM_sumUp 67 = .ok (.iload 5, 2) := by decide +kernel
theorem d_MM_sumUp_69 : decode b_MM_sumUp 69 = .ok (.aload_n 0, 1) := by decide +kernel
theorem d_MM_sumUp_70 : decode b_MM_sumUp 70 = .ok (.getfield 151, 3) := by decide +kernel
theorem d_MM_sumUp_73 : decode b_MM_sumUp 73 = .ok (.if_icmp .ge 67, 3) := by decide +kernel
theorem d_MM_sumUp_76 : decode b_MM_sumUp 76 = .ok (.iload 4, 2) := by decide +kernel
theorem d_MM_sumUp_78 : decode b_MM_sumUp 78 = .ok (.invokestatic 167, 3) := by decide +kernel
theorem d_MM_sumUp_81 : decode b_MM_sumUp 81 = .ok (.iload_n 2, 1) := by decide +kernel
theorem d_MM_sumUp_82 : decode b_MM_sumUp 82 = .ok (.if_icmp .ne 58, 3) := by decide +kernel
theorem d_MM_sumUp_85 : decode b_MM_sumUp 85 = .ok (.iload 4, 2) := by decide +kernel
theorem d_MM_sumUp_87 : decode b_MM_sumUp 87 = .ok (.iload 5, 2) := by decide +kernel
theorem d_MM_sumUp_89 : decode b_MM_sumUp 89 = .ok (.ishr, 1) := by decide +kernel
theorem d_MM_sumUp_90 : decode b_MM_sumUp 90 = .ok (.iconst 1, 1) := by decide +kernel
theorem d_MM_sumUp_91 : decode b_MM_sumUp 91 = .ok (.iand, 1) := by decide +kernel
theorem d_MM_sumUp_92 : decode b_MM_sumUp 92 = .ok (.ifCond .ne 42, 3) := by decide +kernel
theorem d_MM_sumUp_95 : decode b_MM_sumUp 95 = .ok (.aload_n 0, 1) := by decide +kernel
theorem d_MM_sumUp_96 : decode b_MM_sumUp 96 = .ok (.getfield 47, 3) := by decide +kernel
theorem d_MM_sumUp_99 : decode b_MM_sumUp 99 = .ok (.bipush 32, 2) := by decide +kernel
theorem d_MM_sumUp_101 : decode b_MM_sumUp 101 = .ok (.iload_n 3, 1) := by decide +kernel
theorem d_MM_sumUp_102 : decode b_MM_sumUp 102 = .ok (.imul, 1) := by decide +kernel
theorem d_MM_sumUp_103 : decode b_MM_sumUp 103 = .ok (.iload 5, 2) := by decide +kernel
theorem d_MM_sumUp_105 : decode b_MM_sumUp 105 = .ok (.iadd, 1) := by decide +kernel
theorem d_MM_sumUp_106 : decode b_MM_sumUp 106 = .ok (.iaload, 1) := by decide +kernel
theorem d_MM_sumUp_107 : decode b_MM_sumUp 107 = .ok (.ifCond .ne 18, 3) := by decide +kernel
theorem d_MM_sumUp_110 : decode b_MM_sumUp 110 = .ok (.aload_n 0, 1) := by decide +kernel
theorem d_MM_sumUp_111 : decode b_MM_sumUp 111 = .ok (.getfield 50, 3) := by decide +kernel
theorem d_MM_sumUp_114 : decode b_MM_sumUp 114 = .ok (.bipush 32, 2) := by decide +kernel
theorem d_MM_sumUp_116 : decode b_MM_sumUp 116 = .ok (.iload_n 3, 1) := by decide +kernel
theorem d_MM_sumUp_117 : decode b_MM_sumUp 117 = .ok (.imul, 1) := by decide +kernel
theorem d_MM_sumUp_118 : decode b_MM_sumUp 118 = .ok (.iload 5, 2) := by decide +kernel
theorem d_MM_sumUp_120 : decode b_MM_sumUp 120 = .ok (.iadd, 1) := by decide +kernel
theorem d_MM_sumUp_121 : decode b_MM_sumUp 121 = .ok (.iaload, 1) := by decide +kernel
theorem d_MM_sumUp_122 : decode b_MM_sumUp 122 = .ok (.ifCond .eq 12, 3) := by decide +kernel
theorem d_MM_sumUp_125 : decode b_MM_sumUp 125 = .ok (.aload_n 0, 1) := by decide +kernel
theorem d_MM_sumUp_126 : decode b_MM_sumUp 126 = .ok (.iload_n 3, 1) := by decide +kernel
theorem d_MM_sumUp_127 : decode b_MM_sumUp 127 = .ok (.iload 4, 2) := by decide +kernel
theorem d_MM_sumUp_129 : decode b_MM_sumUp 129 = .ok (.iload 5, 2) := by decide +kernel
theorem d_MM_sumUp_131 : decode b_MM_sumUp 131 = .ok (.invokevirtual 174, 3) := by decide +kernel
theorem d_MM_sumUp_134 : decode b_MM_sumUp 134 = .ok (.iinc 5 1, 3) := by decide +kernel
theorem d_MM_sumUp_137 : decode b_MM_sumUp 137 = .ok (.goto (-70), 3) := by decide +kernel
theorem d_MM_sumUp_140 : decode b_MM_sumUp 140 = .ok (.iinc 4 1, 3) := by decide +kernel
theorem d_MM_sumUp_143 : decode b_MM_sumUp 143 = .ok (.goto (-90), 3) := by decide +kernel
theorem d_MM_sumUp_146 : decode b_MM_sumUp 146 = .ok (.iinc 2 1, 3) := by decide +kernel
theorem d_MM_sumUp_149 : decode b_MM_sumUp 149 = .ok (.iinc 3 1, 3) := by decide +kernel
theorem d_MM_sumUp_152 : decode b_MM_sumUp 152 = .ok (.goto (-115), 3) := by decide +kernel
theorem d_MM_sumUp_155 : decode b_MM_sumUp 155 = .ok (.return_, 1) := by decide +kernel
theorem d_MM_know_0 : decode b_MM_know 0 = .ok (.aload_n 0, 1) := by decide +kernel
theorem d_MM_know_1 : decode b_MM_know 1 = .ok (.getfield 141, 3) := by decide +kernel
theorem d_MM_know_4 : decode b_MM_know 4 = .ok (.ifCond .eq 4, 3) := by decide +kernel
theorem d_MM_know_7 : decode b_MM_know 7 = .ok (.return_, 1) := by decide +kernel
theorem d_MM_know_8 : decode b_MM_know 8 = .ok (.aload_n 0, 1) := by decide +kernel
theorem d_MM_know_9 : decode b_MM_know 9 = .ok (.iconst 1, 1) := by decide +kernel
theorem d_MM_know_10 : decode b_MM_know 10 = .ok (.putfield 141, 3) := by decide +kernel
theorem d_MM_know_13 : decode b_MM_know 13 = .ok (.aload_n 0, 1) := by decide +kernel
theorem d_MM_know_14 : decode b_MM_know 14 = .ok (.invokevirtual 178, 3) := by decide +kernel
theorem d_MM_know_17 : decode b_MM_know 17 = .ok (.aload_n 0, 1) := by decide +kernel
theorem d_MM_know_18 : decode b_MM_know 18 = .ok (.iconst 0, 1) := by decide +kernel
theorem d_MM_know_19 : decode b_MM_know 19 = .ok (.putfield 181, 3) := by decide +kernel
theorem d_MM_know_22 : decode b_MM_know 22 = .ok (.iconst 0, 1) := by decide +kernel
theorem d_MM_know_23 : decode b_MM_know 23 = .ok (.istore_n 1, 1) := by decide +kernel
theorem d_MM_know_24 : decode b_MM_know 24 = .ok (.iload_n 1, 1) := by decide +kernel
theorem d_MM_know_25 : decode b_MM_know 25 = .ok (.bipush 14, 2) := by decide +kernel
theorem d_MM_know_27 : decode b_MM_know 27 = .ok (.if_icmp .ge 16, 3) := by decide +kernel
theorem d_MM_know_30 : decode b_MM_know 30 = .ok (.aload_n 0, 1) := by decide +kernel
theorem d_MM_know_31 : decode b_MM_know 31 = .ok (.getfield 61, 3) := by decide +kernel
theorem d_MM_know_34 : decode b_MM_know 34 = .ok (.iload_n 1, 1) := by decide +kernel
theorem d_MM_know_35 : decode b_MM_know 35 = .ok (.lconst 0, 1) := by decide +kernel
theorem d_MM_know_36 : decode b_MM_know 36 = .ok (.lastore, 1) := by decide +kernel
theorem d_MM_know_37 : decode b_MM_know 37 = .ok (.iinc 1 1, 3) := by decide +kernel
theorem d_MM_know_40 : decode b_MM_know 40 = .ok (.goto (-16), 3) := by decide +kernel
theorem d_MM_know_43 : decode b_MM_know 43 = .ok (.aload_n 0, 1) := by decide +kernel
theorem d_MM_know_44 : decode b_MM_know 44 = .ok (.getfield 151, 3) := by decide +kernel
theorem d_MM_know_47 : decode b_MM_know 47 = .ok (.ifCond .eq 16, 3) := by decide +kernel
theorem d_MM_know_50 : decode b_MM_know 50 = .ok (.aload_n 0, 1) := by decide +kernel
theorem d_MM_know_51 : decode b_MM_know 51 = .ok (.getfield 151, 3) := by decide +kernel
theorem d_MM_know_54 : decode b_MM_know 54 = .ok (.aload_n 0, 1) := by decide +kernel
theorem d_MM_know_55 : decode b_MM_know 55 = .ok (.getfield 73, 3) := by decide +kernel
theorem d_MM_know_58 : decode b_MM_know 58 = .ok (.iconst 1, 1) := by decide +kernel
theorem d_MM_know_59 : decode b_MM_know 59 = .ok (.iadd, 1) := by decide +kernel
theorem d_MM_know_60 : decode b_MM_know 60 = .ok (.if_icmp .le 4, 3) := by decide +kernel
theorem d_MM_know_63 : decode b_MM_know 63 = .ok (.return_, 1) := by decide +kernel
theorem d_MM_know_64 : decode b_MM_know 64 = .ok (.aload_n 0, 1) := by decide +kernel
theorem d_MM_know_65 : decode b_MM_know 65 = .ok (.getfield 151, 3) := by decide +kernel
theorem d_MM_know_68 : decode b_MM_know 68 = .ok (.aload_n 0, 1) := by decide +kernel
theorem d_MM_know_69 : decode b_MM_know 69 = .ok (.getfield 73, 3) := by decide +kernel
theorem d_MM_know_72 : decode b_MM_know 72 = .ok (.iconst 1, 1) := by decide +kernel
theorem d_MM_know_73 : decode b_MM_know 73 = .ok (.iadd, 1) := by decide +kernel
theorem d_MM_know_74 : decode b_MM_know 74 = .ok (.if_icmp .ne 7, 3) := by decide +kernel
theorem d_MM_know_77 : decode b_MM_know 77 = .ok (.iconst (-1), 1) := by decide +kernel
theorem d_MM_know_78 : decode b_MM_know 78 = .ok (.goto 4, 3) := by decide +kernel
theorem d_MM_know_81 : decode b_MM_know 81 = .ok (.iconst 0, 1) := by decide +kernel
theorem d_MM_know_82 : decode b_MM_know 82 = .ok (.istore_n 1, 1) := by decide +kernel
theorem d_MM_know_83 : decode b_MM_know 83 = .ok (.aload_n 0, 1) := by decide +kernel
theorem d_MM_know_84 : decode b_MM_know 84 = .ok (.getfield 151, 3) := by decide +kernel
theorem d_MM_know_87 : decode b_MM_know 87 = .ok (.aload_n 0, 1) := by decide +kernel
theorem d_MM_know_88 : decode b_MM_know 88 = .ok (.getfield 73, 3) := by decide +kernel
theorem d_MM_know_91 : decode b_MM_know 91 = .ok (.iconst 1, 1) := by decide +kernel
theorem d_MM_know_92 : decode b_MM_know 92 = .ok (.iadd, 1) := by decide +kernel
theorem d_MM_know_93 : decode b_MM_know 93 = .ok (.if_icmp .ne 7, 3) := by decide +kernel
theorem d_MM_know_96 : decode b_MM_know 96 = .ok (.iconst (-1), 1) := by decide +kernel
theorem d_MM_know_97 : decode b_MM_know 97 = .ok (.goto 9, 3) := by decide +kernel
theorem d_MM_know_100 : decode b_MM_know 100 = .ok (.aload_n 0, 1) := by decide +kernel
theorem d_MM_know_101 : decode b_MM_know 101 = .ok (.getfield 73, 3) := by decide +kernel
theorem d_MM_know_104 : decode b_MM_know 104 = .ok (.iconst 1, 1) := by decide +kernel
theorem d_MM_know_105 : decode b_MM_know 105 = .ok (.isub, 1) := by decide +kernel
theorem d_MM_know_106 : decode b_MM_know 106 = .ok (.istore_n 2, 1) := by decide +kernel
theorem d_MM_know_107 : decode b_MM_know 107 = .ok (.iload_n 1, 1) := by decide +kernel
theorem d_MM_know_108 : decode b_MM_know 108 = .ok (.istore_n 3, 1) := by decide +kernel
theorem d_MM_know_109 : decode b_MM_know 109 = .ok (.iload_n 3, 1) := by decide +kernel
theorem d_MM_know_110 : decode b_MM_know 110 = .ok (.iload_n 2, 1) := by decide +kernel
theorem d_MM_know_111 : decode b_MM_know 111 = .ok (.if_icmp .gt 101, 3) := by decide +kernel
theorem d_MM_know_114 : decode b_MM_know 114 = .ok (.aload_n 0, 1) := by decide +kernel
theorem d_MM_know_115 : decode b_MM_know 115 = .ok (.iload_n 3, 1) := by decide +kernel
theorem d_MM_know_116 : decode b_MM_know 116 = .ok (.invokevirtual 184, 3) := by decide +kernel
theorem d_MM_know_119 : decode b_MM_know 119 = .ok (.iconst 0, 1) := by decide +kernel
theorem d_MM_know_120 : decode b_MM_know 120 = .ok (.istore 4, 2) := by decide +kernel
theorem d_MM_know_122 : decode b_MM_know 122 = .ok (.iload 4, 2) := by decide +kernel
theorem d_MM_know_124 : decode b_MM_know 124 = .ok (.aload_n 0, 1) := by decide +kernel
theorem d_MM_know_125 : decode b_MM_know 125 = .ok (.getfield 151, 3) := by decide +kernel
theorem d_MM_know_128 : decode b_MM_know 128 = .ok (.if_icmp .ge 78, 3) := by decide +kernel
theorem d_MM_know_131 : decode b_MM_know 131 = .ok (.iconst 1, 1) := by decide +kernel
theorem d_MM_know_132 : decode b_MM_know 132 = .ok (.aload_n 0, 1) := by decide +kernel
theorem d_MM_know_133 : decode b_MM_know 133 = .ok (.getfield 151, 3) := by decide +kernel
theorem d_MM_know_136 : decode b_MM_know 136 = .ok (.ishl, 1) := by decide +kernel
theorem d_MM_know_137 : decode b_MM_know 137 = .ok (.iconst 1, 1) := by decide +kernel
theorem d_MM_know_138 : decode b_MM_know 138 = .ok (.isub, 1) := by decide +kernel
theorem d_MM_know_139 : decode b_MM_know 139 = .ok (.iconst 1, 1) := by decide +kernel
theorem d_MM_know_140 : decode b_MM_know 140 = .ok (.iload 4, 2) := by decide +kernel
theorem d_MM_know_142 : decode b_MM_know 142 = .ok (.ishl, 1) := by decide +kernel
theorem d_MM_know_143 : decode b_MM_know 143 = .ok (.isub, 1) := by decide +kernel
theorem d_MM_know_144 : decode b_MM_know 144 = .ok (.istore 5, 2) := by decide +kernel
theorem d_MM_know_146 : decode b_MM_know 146 = .ok (.iconst 0, 1) := by decide +kernel
theorem d_MM_know_147 : decode b_MM_know 147 = .ok (.istore 6, 2) := by decide +kernel
theorem d_MM_know_149 : decode b_MM_know 149 = .ok (.iload 6, 2) := by decide +kernel
theorem d_MM_know_151 : decode b_MM_know 151 = .ok (.bipush 14, 2) := by decide +kernel
theorem d_MM_know_153 : decode b_MM_know 153 = .ok (.if_icmp .ge 37, 3) := by decide +kernel
theorem d_MM_know_156 : decode b_MM_know 156 = .ok (.aload_n 0, 1) := by decide +kernel
theorem d_MM_know_157 : decode b_MM_know 157 = .ok (.getfield 58, 3) := by decide +kernel
theorem d_MM_know_160 : decode b_MM_know 160 = .ok (.bipush 14, 2) := by decide +kernel
theorem d_MM_know_162 : decode b_MM_know 162 = .ok (.aload_n 0, 1) := by decide +kernel
theorem d_MM_know_163 : decode b_MM_know 163 = .ok (.getfield 181, 3) := by decide +kernel
theorem d_MM_know_166 : decode b_MM_know 166 = .ok (.imul, 1) := by decide +kernel
theorem d_MM_know_167 : decode b_MM_know 167 = .ok (.iload 6, 2) := by decide +kernel
theorem d_MM_know_169 : decode b_MM_know 169 = .ok (.iadd, 1) := by decide +kernel
theorem d_MM_know_170 : decode b_MM_know 170 = .ok (.aload_n 0, 1) := by decide +kernel
theorem d_MM_know_171 : decode b_MM_know 171 = .ok (.getfield 54, 3) := by decide +kernel
theorem d_MM_know_174 : decode b_MM_know 174 = .ok (.bipush 14, 2) := by decide +kernel
theorem d_MM_know_176 : decode b_MM_know 176 = .ok (.iload 5, 2) := by decide +kernel
theorem d_MM_know_178 : decode b_MM_know 178 = .ok (.imul, 1) := by decide +kernel
theorem d_MM_know_179 : decode b_MM_know 179 = .ok (.iload 6, 2) := by decide +kernel
theorem d_MM_know_181 : decode b_MM_know 181 = .ok (.iadd, 1) := by decide +kernel
theorem d_MM_know_182 : decode b_MM_know 182 = .ok (.laload, 1) := by decide +kernel
theorem d_MM_know_183 : decode b_MM_know 183 = .ok (.lastore, 1) := by decide +kernel
theorem d_MM_know_184 : decode b_MM_know 184 = .ok (.iinc 6 1, 3) := by decide +kernel
theorem d_MM_know_187 : decode b_MM_know 187 = .ok (.goto (-38), 3) := by decide +kernel
theorem d_MM_know_190 : decode b_MM_know 190 = .ok (.aload_n 0, 1) := by decide +kernel
theorem d_MM_know_191 : decode b_MM_know 191 = .ok (.dup, 1) := by decide +kernel
theorem d_MM_know_192 : decode b_MM_know 192 = .ok (.getfield 181, 3) := by decide +kernel
theorem d_MM_know_195 : decode b_MM_know 195 = .ok (.iconst 1, 1) := by decide +kernel
theorem d_MM_know_196 : decode b_MM_know 196 = .ok (.iadd, 1) := by decide +kernel
theorem d_MM_know_197 : decode b_MM_know 197 = .ok (.putfield 181, 3) := by decide +kernel
theorem d_MM_know_200 : decode b_MM_know 200 = .ok (.iinc 4 1, 3) := by decide +kernel
theorem d_MM_know_203 : decode b_MM_know 203 = .ok (.goto (-81), 3) := by decide +kernel
theorem d_MM_know_206 : decode b_MM_know 206 = .ok (.iinc 3 1, 3) := by decide +kernel
theorem d_MM_know_209 : decode b_MM_know 209 = .ok (.goto (-100), 3) := by decide +kernel
theorem d_MM_know_212 : decode b_MM_know 212 = .ok (.aload_n 0, 1) := by decide +kernel
theorem d_MM_know_213 : decode b_MM_know 213 = .ok (.invokevirtual 188, 3) := by decide +kernel
theorem d_MM_know_216 : decode b_MM_know 216 = .ok (.return_, 1) := by decide +kernel
theorem d_MM_lowest_0 : decode b_MM_lowest 0 = .ok (.iconst 0, 1) := by decide +kernel
theorem d_MM_lowest_1 : decode b_MM_lowest 1 = .ok (.istore_n 2, 1) := by decide +kernel
theorem d_MM_lowest_2 : decode b_MM_lowest 2 = .ok (.iload_n 2, 1) := by decide +kernel
theorem d_MM_lowest_3 : decode b_MM_lowest 3 = .ok (.bipush 14, 2) := by decide +kernel
theorem d_MM_lowest_5 : decode b_MM_lowest 5 = .ok (.if_icmp .ge 25, 3) := by decide +kernel
theorem d_MM_lowest_8 : decode b_MM_lowest 8 = .ok (.aload_n 0, 1) := by decide +kernel
theorem d_MM_lowest_9 : decode b_MM_lowest 9 = .ok (.getfield 58, 3) := by decide +kernel
theorem d_MM_lowest_12 : decode b_MM_lowest 12 = .ok (.bipush 14, 2) := by decide +kernel
theorem d_MM_lowest_14 : decode b_MM_lowest 14 = .ok (.iload_n 1, 1) := by decide +kernel
theorem d_MM_lowest_15 : decode b_MM_lowest 15 = .ok (.imul, 1) := by decide +kernel
theorem d_MM_lowest_16 : decode b_MM_lowest 16 = .ok (.iload_n 2, 1) := by decide +kernel
theorem d_MM_lowest_17 : decode b_MM_lowest 17 = .ok (.iadd, 1) := by decide +kernel
theorem d_MM_lowest_18 : decode b_MM_lowest 18 = .ok (.laload, 1) := by decide +kernel
theorem d_MM_lowest_19 : decode b_MM_lowest 19 = .ok (.lconst 0, 1) := by decide +kernel
theorem d_MM_lowest_20 : decode b_MM_lowest 20 = .ok (.lcmp, 1) := by decide +kernel
theorem d_MM_lowest_21 : decode b_MM_lowest 21 = .ok (.ifCond .ne 9, 3) := by decide +kernel
theorem d_MM_lowest_24 : decode b_MM_lowest 24 = .ok (.iinc 2 1, 3) := by decide +kernel
theorem d_MM_lowest_27 : decode b_MM_lowest 27 = .ok (.goto (-25), 3) := by decide +kernel
theorem d_MM_lowest_30 : decode b_MM_lowest 30 = .ok (.iload_n 2, 1) := by decide +kernel
theorem d_MM_lowest_31 : decode b_MM_lowest 31 = .ok (.ireturn, 1) := by decide +kernel
theorem d_MM_divides_0 : decode b_MM_divides 0 = .ok (.aload_n 0, 1) := by decide +kernel
theorem d_MM_divides_1 : decode b_MM_divides 1 = .ok (.iload_n 1, 1) := by decide +kernel
theorem d_MM_divides_2 : decode b_MM_divides 2 = .ok (.invokevirtual 191, 3) := by decide +kernel
theorem d_MM_divides_5 : decode b_MM_divides 5 = .ok (.istore_n 3, 1) := by decide +kernel
theorem d_MM_divides_6 : decode b_MM_divides 6 = .ok (.aload_n 0, 1) := by decide +kernel
theorem d_MM_divides_7 : decode b_MM_divides 7 = .ok (.iload_n 2, 1) := by decide +kernel
theorem d_MM_divides_8 : decode b_MM_divides 8 = .ok (.invokevirtual 191, 3) := by decide +kernel
theorem d_MM_divides_11 : decode b_MM_divides 11 = .ok (.istore 4, 2) := by decide +kernel
theorem d_MM_divides_13 : decode b_MM_divides 13 = .ok (.iconst 0, 1) := by decide +kernel
theorem d_MM_divides_14 : decode b_MM_divides 14 = .ok (.istore 5, 2) := by decide +kernel
theorem d_MM_divides_16 : decode b_MM_divides 16 = .ok (.iload 5, 2) := by decide +kernel
theorem d_MM_divides_18 : decode b_MM_divides 18 = .ok (.bipush 28, 2) := by decide +kernel
theorem d_MM_divides_20 : decode b_MM_divides 20 = .ok (.if_icmp .ge 45, 3) := by decide +kernel
theorem d_MM_divides_23 : decode b_MM_divides 23 = .ok (.aload_n 0, 1) := by decide +kernel
theorem d_MM_divides_24 : decode b_MM_divides 24 = .ok (.getfield 64, 3) := by decide +kernel
theorem d_MM_divides_27 : decode b_MM_divides 27 = .ok (.iload 5, 2) := by decide +kernel
theorem d_MM_divides_29 : decode b_MM_divides 29 = .ok (.iload 5, 2) := by decide +kernel
theorem d_MM_divides_31 : decode b_MM_divides 31 = .ok (.iload 4, 2) := by decide +kernel
theorem d_MM_divides_33 : decode b_MM_divides 33 = .ok (.iadd, 1) := by decide +kernel
theorem d_MM_divides_34 : decode b_MM_divides 34 = .ok (.bipush 14, 2) := by decide +kernel
theorem d_MM_divides_36 : decode b_MM_divides 36 = .ok (.if_icmp .ge 21, 3) := by decide +kernel
theorem d_MM_divides_39 : decode b_MM_divides 39 = .ok (.aload_n 0, 1) := by decide +kernel
theorem d_MM_divides_40 : decode b_MM_divides 40 = .ok (.getfield 58, 3) := by decide +kernel
theorem d_MM_divides_43 : decode b_MM_divides 43 = .ok (.bipush 14, 2) := by decide +kernel
theorem d_MM_divides_45 : decode b_MM_divides 45 = .ok (.iload_n 2, 1) := by decide +kernel
theorem d_MM_divides_46 : decode b_MM_divides 46 = .ok (.imul, 1) := by decide +kernel
theorem d_MM_divides_47 : decode b_MM_divides 47 = .ok (.iload 4, 2) := by decide +kernel
theorem d_MM_divides_49 : decode b_MM_divides 49 = .ok (.iadd, 1) := by decide +kernel
theorem d_MM_divides_50 : decode b_MM_divides 50 = .ok (.iload 5, 2) := by decide +kernel
theorem d_MM_divides_52 : decode b_MM_divides 52 = .ok (.iadd, 1) := by decide +kernel
theorem d_MM_divides_53 : decode b_MM_divides 53 = .ok (.laload, 1) := by decide +kernel
theorem d_MM_divides_54 : decode b_MM_divides 54 = .ok (.goto 4, 3) := by decide +kernel
theorem d_MM_divides_57 : decode b_MM_divides 57 = .ok (.lconst 0, 1) := by decide +kernel
theorem d_MM_divides_58 : decode b_MM_divides 58 = .ok (.lastore, 1) := by decide +kernel
theorem d_MM_divides_59 : decode b_MM_divides 59 = .ok (.iinc 5 1, 3) := by decide +kernel
theorem d_MM_divides_62 : decode b_MM_divides 62 = .ok (.goto (-46), 3) := by decide +kernel
theorem d_MM_divides_65 : decode b_MM_divides 65 = .ok (.iconst 0, 1) := by decide +kernel
theorem d_MM_divides_66 : decode b_MM_divides 66 = .ok (.istore 5, 2) := by decide +kernel
theorem d_MM_divides_68 : decode b_MM_divides 68 = .ok (.iload 5, 2) := by decide +kernel
theorem d_MM_divides_70 : decode b_MM_divides 70 = .ok (.bipush 14, 2) := by decide +kernel
theorem d_MM_divides_72 : decode b_MM_divides 72 = .ok (.if_icmp .ge 117, 3) := by decide +kernel
theorem d_MM_divides_75 : decode b_MM_divides 75 = .ok (.aload_n 0, 1) := by decide +kernel
theorem d_MM_divides_76 : decode b_MM_divides 76 = .ok (.getfield 58, 3) := by decide +kernel
theorem d_MM_divides_79 : decode b_MM_divides 79 = .ok (.bipush 14, 2) := by decide +kernel
theorem d_MM_divides_81 : decode b_MM_divides 81 = .ok (.iload_n 1, 1) := by decide +kernel
theorem d_MM_divides_82 : decode b_MM_divides 82 = .ok (.imul, 1) := by decide +kernel
theorem d_MM_divides_83 : decode b_MM_divides 83 = .ok (.iload_n 3, 1) := by decide +kernel
theorem d_MM_divides_84 : decode b_MM_divides 84 = .ok (.iadd, 1) := by decide +kernel
theorem d_MM_divides_85 : decode b_MM_divides 85 = .ok (.laload, 1) := by decide +kernel
theorem d_MM_divides_86 : decode b_MM_divides 86 = .ok (.lstore 6, 2) := by decide +kernel
theorem d_MM_divides_88 : decode b_MM_divides 88 = .ok (.aload_n 0, 1) := by decide +kernel
theorem d_MM_divides_89 : decode b_MM_divides 89 = .ok (.getfield 64, 3) := by decide +kernel
theorem d_MM_divides_92 : decode b_MM_divides 92 = .ok (.iload 5, 2) := by decide +kernel
theorem d_MM_divides_94 : decode b_MM_divides 94 = .ok (.laload, 1) := by decide +kernel
theorem d_MM_divides_95 : decode b_MM_divides 95 = .ok (.lload 6, 2) := by decide +kernel
theorem d_MM_divides_97 : decode b_MM_divides 97 = .ok (.lrem, 1) := by decide +kernel
theorem d_MM_divides_98 : decode b_MM_divides 98 = .ok (.lconst 0, 1) := by decide +kernel
theorem d_MM_divides_99 : decode b_MM_divides 99 = .ok (.lcmp, 1) := by decide +kernel
theorem d_MM_divides_100 : decode b_MM_divides 100 = .ok (.ifCond .eq 5, 3) := by decide +kernel
theorem d_MM_divides_103 : decode b_MM_divides 103 = .ok (.iconst 0, 1) := by decide +kernel
theorem d_MM_divides_104 : decode b_MM_divides 104 = .ok (.ireturn, 1) := by decide +kernel
theorem d_MM_divides_105 : decode b_MM_divides 105 = .ok (.aload_n 0, 1) := by decide +kernel
theorem d_MM_divides_106 : decode b_MM_divides 106 = .ok (.getfield 64, 3) := by decide +kernel
theorem d_MM_divides_109 : decode b_MM_divides 109 = .ok (.iload 5, 2) := by decide +kernel
theorem d_MM_divides_111 : decode b_MM_divides 111 = .ok (.laload, 1) := by decide +kernel
theorem d_MM_divides_112 : decode b_MM_divides 112 = .ok (.lload 6, 2) := by decide +kernel
theorem d_MM_divides_114 : decode b_MM_divides 114 = .ok (.ldiv, 1) := by decide +kernel
theorem d_MM_divides_115 : decode b_MM_divides 115 = .ok (.lstore 8, 2) := by decide +kernel
theorem d_MM_divides_117 : decode b_MM_divides 117 = .ok (.iconst 0, 1) := by decide +kernel
theorem d_MM_divides_118 : decode b_MM_divides 118 = .ok (.istore 10, 2) := by decide +kernel
theorem d_MM_divides_120 : decode b_MM_divides 120 = .ok (.iload_n 3, 1) := by decide +kernel
theorem d_MM_divides_121 : decode b_MM_divides 121 = .ok (.iload 10, 2) := by decide +kernel
theorem d_MM_divides_123 : decode b_MM_divides 123 = .ok (.iadd, 1) := by decide +kernel
theorem d_MM_divides_124 : decode b_MM_divides 124 = .ok (.bipush 14, 2) := by decide +kernel
theorem d_MM_divides_126 : decode b_MM_divides 126 = .ok (.if_icmp .ge 57, 3) := by decide +kernel
theorem d_MM_divides_129 : decode b_MM_divides 129 = .ok (.iload 5, 2) := by decide +kernel
theorem d_MM_divides_131 : decode b_MM_divides 131 = .ok (.iload 10, 2) := by decide +kernel
theorem d_MM_divides_133 : decode b_MM_divides 133 = .ok (.iadd, 1) := by decide +kernel
theorem d_MM_divides_134 : decode b_MM_divides 134 = .ok (.bipush 28, 2) := by decide +kernel
theorem d_MM_divides_136 : decode b_MM_divides 136 = .ok (.if_icmp .ge 47, 3) := by decide +kernel
theorem d_MM_divides_139 : decode b_MM_divides 139 = .ok (.aload_n 0, 1) := by decide +kernel
theorem d_MM_divides_140 : decode b_MM_divides 140 = .ok (.getfield 64, 3) := by decide +kernel
theorem d_MM_divides_143 : decode b_MM_divides 143 = .ok (.iload 5, 2) := by decide +kernel
theorem d_MM_divides_145 : decode b_MM_divides 145 = .ok (.iload 10, 2) := by decide +kernel
theorem d_MM_divides_147 : decode b_MM_divides 147 = .ok (.iadd, 1) := by decide +kernel
theorem d_MM_divides_148 : decode b_MM_divides 148 = .ok (.aload_n 0, 1) := by decide +kernel
theorem d_MM_divides_149 : decode b_MM_divides 149 = .ok (.getfield 64, 3) := by decide +kernel
theorem d_MM_divides_152 : decode b_MM_divides 152 = .ok (.iload 5, 2) := by decide +kernel
theorem d_MM_divides_154 : decode b_MM_divides 154 = .ok (.iload 10, 2) := by decide +kernel
theorem d_MM_divides_156 : decode b_MM_divides 156 = .ok (.iadd, 1) := by decide +kernel
theorem d_MM_divides_157 : decode b_MM_divides 157 = .ok (.laload, 1) := by decide +kernel
theorem d_MM_divides_158 : decode b_MM_divides 158 = .ok (.lload 8, 2) := by decide +kernel
theorem d_MM_divides_160 : decode b_MM_divides 160 = .ok (.aload_n 0, 1) := by decide +kernel
theorem d_MM_divides_161 : decode b_MM_divides 161 = .ok (.getfield 58, 3) := by decide +kernel
theorem d_MM_divides_164 : decode b_MM_divides 164 = .ok (.bipush 14, 2) := by decide +kernel
theorem d_MM_divides_166 : decode b_MM_divides 166 = .ok (.iload_n 1, 1) := by decide +kernel
theorem d_MM_divides_167 : decode b_MM_divides 167 = .ok (.imul, 1) := by decide +kernel
theorem d_MM_divides_168 : decode b_MM_divides 168 = .ok (.iload_n 3, 1) := by decide +kernel
theorem d_MM_divides_169 : decode b_MM_divides 169 = .ok (.iadd, 1) := by decide +kernel
theorem d_MM_divides_170 : decode b_MM_divides 170 = .ok (.iload 10, 2) := by decide +kernel
theorem d_MM_divides_172 : decode b_MM_divides 172 = .ok (.iadd, 1) := by decide +kernel
theorem d_MM_divides_173 : decode b_MM_divides 173 = .ok (.laload, 1) := by decide +kernel
theorem d_MM_divides_174 : decode b_MM_divides 174 = .ok (.lmul, 1) := by decide +kernel
theorem d_MM_divides_175 : decode b_MM_divides 175 = .ok (.lsub, 1) := by decide +kernel
theorem d_MM_divides_176 : decode b_MM_divides 176 = .ok (.lastore, 1) := by decide +kernel
theorem d_MM_divides_177 : decode b_MM_divides 177 = .ok (.iinc 10 1, 3) := by decide +kernel
theorem d_MM_divides_180 : decode b_MM_divides 180 = .ok (.goto (-60), 3) := by decide +kernel
theorem d_MM_divides_183 : decode b_MM_divides 183 = .ok (.iinc 5 1, 3) := by decide +kernel
theorem d_MM_divides_186 : decode b_MM_divides 186 = .ok (.goto (-118), 3) := by decide +kernel
theorem d_MM_divides_189 : decode b_MM_divides 189 = .ok (.iconst 0, 1) := by decide +kernel
theorem d_MM_divides_190 : decode b_MM_divides 190 = .ok (.istore 5, 2) := by decide +kernel
theorem d_MM_divides_192 : decode b_MM_divides 192 = .ok (.iload 5, 2) := by decide +kernel
theorem d_MM_divides_194 : decode b_MM_divides 194 = .ok (.bipush 28, 2) := by decide +kernel
theorem d_MM_divides_196 : decode b_MM_divides 196 = .ok (.if_icmp .ge 23, 3) := by decide +kernel
theorem d_MM_divides_199 : decode b_MM_divides 199 = .ok (.aload_n 0, 1) := by decide +kernel
theorem d_MM_divides_200 : decode b_MM_divides 200 = .ok (.getfield 64, 3) := by decide +kernel
theorem d_MM_divides_203 : decode b_MM_divides 203 = .ok (.iload 5, 2) := by decide +kernel
theorem d_MM_divides_205 : decode b_MM_divides 205 = .ok (.laload, 1) := by decide +kernel
theorem d_MM_divides_206 : decode b_MM_divides 206 = .ok (.lconst 0, 1) := by decide +kernel
theorem d_MM_divides_207 : decode b_MM_divides 207 = .ok (.lcmp, 1) := by decide +kernel
theorem d_MM_divides_208 : decode b_MM_divides 208 = .ok (.ifCond .eq 5, 3) := by decide +kernel
theorem d_MM_divides_211 : decode b_MM_divides 211 = .ok (.iconst 0, 1) := by decide +kernel
theorem d_MM_divides_212 : decode b_MM_divides 212 = .ok (.ireturn, 1) := by decide +kernel
theorem d_MM_divides_213 : decode b_MM_divides 213 = .ok (.iinc 5 1, 3) := by decide +kernel
theorem d_MM_divides_216 : decode b_MM_divides 216 = .ok (.goto (-24), 3) := by decide +kernel
theorem d_MM_divides_219 : decode b_MM_divides 219 = .ok (.iconst 1, 1) := by decide +kernel
theorem d_MM_divides_220 : decode b_MM_divides 220 = .ok (.ireturn, 1) := by decide +kernel
theorem d_MM_findDivisor_0 : decode b_MM_findDivisor 0 = .ok (.iconst (-1), 1) := by decide +kernel
theorem d_MM_findDivisor_1 : decode b_MM_findDivisor 1 = .ok (.istore_n 1, 1) := by decide +kernel
theorem d_MM_findDivisor_2 : decode b_MM_findDivisor 2 = .ok (.iconst 0, 1) := by decide +kernel
theorem d_MM_findDivisor_3 : decode b_MM_findDivisor 3 = .ok (.istore_n 2, 1) := by decide +kernel
theorem d_MM_findDivisor_4 : decode b_MM_findDivisor 4 = .ok (.iload_n 2, 1) := by decide +kernel
theorem d_MM_findDivisor_5 : decode b_MM_findDivisor 5 = .ok (.aload_n 0, 1) := by decide +kernel
theorem d_MM_findDivisor_6 : decode b_MM_findDivisor 6 = .ok (.getfield 181, 3) := by decide +kernel
theorem d_MM_findDivisor_9 : decode b_MM_findDivisor 9 = .ok (.if_icmp .ge 69, 3) := by decide +kernel
theorem d_MM_findDivisor_12 : decode b_MM_findDivisor 12 = .ok (.iload_n 1, 1) := by decide +kernel
theorem d_MM_findDivisor_13 : decode b_MM_findDivisor 13 = .ok (.ifCond .ge 65, 3) := by decide +kernel
theorem d_MM_findDivisor_16 : decode b_MM_findDivisor 16 = .ok (.aload_n 0, 1) := by decide +kernel
theorem d_MM_findDivisor_17 : decode b_MM_findDivisor 17 = .ok (.iload_n 2, 1) := by decide +kernel
theorem d_MM_findDivisor_18 : decode b_MM_findDivisor 18 = .ok (.invokevirtual 191, 3) := by decide +kernel
theorem d_MM_findDivisor_21 : decode b_MM_findDivisor 21 = .ok (.bipush 14, 2) := by decide +kernel
theorem d_MM_findDivisor_23 : decode b_MM_findDivisor 23 = .ok (.if_icmp .ge 7, 3) := by decide +kernel
theorem d_MM_findDivisor_26 : decode b_MM_findDivisor 26 = .ok (.iconst 1, 1) := by decide +kernel
theorem d_MM_findDivisor_27 : decode b_MM_findDivisor 27 = .ok (.goto 4, 3) := by decide +kernel
theorem d_MM_findDivisor_30 : decode b_MM_findDivisor 30 = .ok (.iconst 0, 1) := by decide +kernel
theorem d_MM_findDivisor_31 : decode b_MM_findDivisor 31 = .ok (.istore_n 3, 1) := by decide +kernel
theorem d_MM_findDivisor_32 : decode b_MM_findDivisor 32 = .ok (.iconst 0, 1) := by decide +kernel
theorem d_MM_findDivisor_33 : decode b_MM_findDivisor 33 = .ok (.istore 4, 2) := by decide +kernel
theorem d_MM_findDivisor_35 : decode b_MM_findDivisor 35 = .ok (.iload 4, 2) := by decide +kernel
theorem d_MM_findDivisor_37 : decode b_MM_findDivisor 37 = .ok (.aload_n 0, 1) := by decide +kernel
theorem d_MM_findDivisor_38 : decode b_MM_findDivisor 38 = .ok (.getfield 181, 3) := by decide +kernel
theorem d_MM_findDivisor_41 : decode b_MM_findDivisor 41 = .ok (.if_icmp .ge 21, 3) := by decide +kernel
theorem d_MM_findDivisor_44 : decode b_MM_findDivisor 44 = .ok (.iload_n 3, 1) := by decide +kernel
theorem d_MM_findDivisor_45 : decode b_MM_findDivisor 45 = .ok (.ifCond .eq 17, 3) := by decide +kernel
theorem d_MM_findDivisor_48 : decode b_MM_findDivisor 48 = .ok (.aload_n 0, 1) := by decide +kernel
theorem d_MM_findDivisor_49 : decode b_MM_findDivisor 49 = .ok (.iload_n 2, 1) := by decide +kernel
theorem d_MM_findDivisor_50 : decode b_MM_findDivisor 50 = .ok (.iload 4, 2) := by decide +kernel
theorem d_MM_findDivisor_52 : decode b_MM_findDivisor 52 = .ok (.invokevirtual 194, 3) := by decide +kernel
theorem d_MM_findDivisor_55 : decode b_MM_findDivisor 55 = .ok (.istore_n 3, 1) := by decide +kernel
theorem d_MM_findDivisor_56 : decode b_MM_findDivisor 56 = .ok (.iinc 4 1, 3) := by decide +kernel
theorem d_MM_findDivisor_59 : decode b_MM_findDivisor 59 = .ok (.goto (-24), 3) := by decide +kernel
theorem d_MM_findDivisor_62 : decode b_MM_findDivisor 62 = .ok (.iload_n 3, 1) := by decide +kernel
theorem d_MM_findDivisor_63 : decode b_MM_findDivisor 63 = .ok (.ifCond .eq 7, 3) := by decide +kernel
theorem d_MM_findDivisor_66 : decode b_MM_findDivisor 66 = .ok (.iload_n 2, 1) := by decide +kernel
theorem d_MM_findDivisor_67 : decode b_MM_findDivisor 67 = .ok (.goto 4, 3) := by decide +kernel
theorem d_MM_findDivisor_70 : decode b_MM_findDivisor 70 = .ok (.iconst (-1), 1) := by decide +kernel
theorem d_MM_findDivisor_71 : decode b_MM_findDivisor 71 = .ok (.istore_n 1, 1) := by decide +kernel
theorem d_MM_findDivisor_72 : decode b_MM_findDivisor 72 = .ok (.iinc 2 1, 3) := by decide +kernel
theorem d_MM_findDivisor_75 : decode b_MM_findDivisor 75 = .ok (.goto (-71), 3) := by decide +kernel
theorem d_MM_findDivisor_78 : decode b_MM_findDivisor 78 = .ok (.iload_n 1, 1) := by decide +kernel
theorem d_MM_findDivisor_79 : decode b_MM_findDivisor 79 = .ok (.ifCond .ge 4, 3) := by decide +kernel
theorem d_MM_findDivisor_82 : decode b_MM_findDivisor 82 = .ok (.return_, 1) := by decide +kernel
theorem d_MM_findDivisor_83 : decode b_MM_findDivisor 83 = .ok (.aload_n 0, 1) := by decide +kernel
theorem d_MM_findDivisor_84 : decode b_MM_findDivisor 84 = .ok (.iload_n 1, 1) := by decide +kernel
theorem d_MM_findDivisor_85 : decode b_MM_findDivisor 85 = .ok (.invokevirtual 191, 3) := by decide +kernel
theorem d_MM_findDivisor_88 : decode b_MM_findDivisor 88 = .ok (.istore_n 2, 1) := by decide +kernel
theorem d_MM_findDivisor_89 : decode b_MM_findDivisor 89 = .ok (.aload_n 0, 1) := by decide +kernel
theorem d_MM_findDivisor_90 : decode b_MM_findDivisor 90 = .ok (.getfield 58, 3) := by decide +kernel
theorem d_MM_findDivisor_93 : decode b_MM_findDivisor 93 = .ok (.bipush 14, 2) := by decide +kernel
theorem d_MM_findDivisor_95 : decode b_MM_findDivisor 95 = .ok (.iload_n 1, 1) := by decide +kernel
theorem d_MM_findDivisor_96 : decode b_MM_findDivisor 96 = .ok (.imul, 1) := by decide +kernel
theorem d_MM_findDivisor_97 : decode b_MM_findDivisor 97 = .ok (.iload_n 2, 1) := by decide +kernel
theorem d_MM_findDivisor_98 : decode b_MM_findDivisor 98 = .ok (.iadd, 1) := by decide +kernel
theorem d_MM_findDivisor_99 : decode b_MM_findDivisor 99 = .ok (.laload, 1) := by decide +kernel
theorem d_MM_findDivisor_100 : decode b_MM_findDivisor 100 = .ok (.lconst 0, 1) := by decide +kernel
theorem d_MM_findDivisor_101 : decode b_MM_findDivisor 101 = .ok (.lcmp, 1) := by decide +kernel
theorem d_MM_findDivisor_102 : decode b_MM_findDivisor 102 = .ok (.ifCond .ge 7, 3) := by decide +kernel
theorem d_MM_findDivisor_105 : decode b_MM_findDivisor 105 = .ok (.iconst (-1), 1) := by decide +kernel
theorem d_MM_findDivisor_106 : decode b_MM_findDivisor 106 = .ok (.goto 4, 3) := by decide +kernel
theorem d_MM_findDivisor_109 : decode b_MM_findDivisor 109 = .ok (.iconst 1, 1) := by decide +kernel
theorem d_MM_findDivisor_110 : decode b_MM_findDivisor 110 = .ok (.istore_n 3, 1) := by decide +kernel
theorem d_MM_findDivisor_111 : decode b_MM_findDivisor 111 = .ok (.iconst 0, 1) := by decide +kernel
theorem d_MM_findDivisor_112 : decode b_MM_findDivisor 112 = .ok (.istore 4, 2) := by decide +kernel
theorem d_MM_findDivisor_114 : decode b_MM_findDivisor 114 = .ok (.iload_n 2, 1) := by decide +kernel
theorem d_MM_findDivisor_115 : decode b_MM_findDivisor 115 = .ok (.iload 4, 2) := by decide +kernel
theorem d_MM_findDivisor_117 : decode b_MM_findDivisor 117 = .ok (.iadd, 1) := by decide +kernel
theorem d_MM_findDivisor_118 : decode b_MM_findDivisor 118 = .ok (.bipush 14, 2) := by decide +kernel
theorem d_MM_findDivisor_120 : decode b_MM_findDivisor 120 = .ok (.if_icmp .ge 33, 3) := by decide +kernel
theorem d_MM_findDivisor_123 : decode b_MM_findDivisor 123 = .ok (.aload_n 0, 1) := by decide +kernel
theorem d_MM_findDivisor_124 : decode b_MM_findDivisor 124 = .ok (.getfield 61, 3) := by decide +kernel
theorem d_MM_findDivisor_127 : decode b_MM_findDivisor 127 = .ok (.iload 4, 2) := by decide +kernel
theorem d_MM_findDivisor_129 : decode b_MM_findDivisor 129 = .ok (.iload_n 3, 1) := by decide +kernel
theorem d_MM_findDivisor_130 : decode b_MM_findDivisor 130 = .ok (.i2l, 1) := by decide +kernel
theorem d_MM_findDivisor_131 : decode b_MM_findDivisor 131 = .ok (.aload_n 0, 1) := by decide +kernel
theorem d_MM_findDivisor_132 : decode b_MM_findDivisor 132 = .ok (.getfield 58, 3) := by decide +kernel
theorem d_MM_findDivisor_135 : decode b_MM_findDivisor 135 = .ok (.bipush 14, 2) := by decide +kernel
theorem d_MM_findDivisor_137 : decode b_MM_findDivisor 137 = .ok (.iload_n 1, 1) := by decide +kernel
theorem d_MM_findDivisor_138 : decode b_MM_findDivisor 138 = .ok (.imul, 1) := by decide +kernel
theorem d_MM_findDivisor_139 : decode b_MM_findDivisor 139 = .ok (.iload_n 2, 1) := by decide +kernel
theorem d_MM_findDivisor_140 : decode b_MM_findDivisor 140 = .ok (.iadd, 1) := by decide +kernel
theorem d_MM_findDivisor_141 : decode b_MM_findDivisor 141 = .ok (.iload 4, 2) := by decide +kernel
theorem d_MM_findDivisor_143 : decode b_MM_findDivisor 143 = .ok (.iadd, 1) := by decide +kernel
theorem d_MM_findDivisor_144 : decode b_MM_findDivisor 144 = .ok (.laload, 1) := by decide +kernel
theorem d_MM_findDivisor_145 : decode b_MM_findDivisor 145 = .ok (.lmul, 1) := by decide +kernel
theorem d_MM_findDivisor_146 : decode b_MM_findDivisor 146 = .ok (.lastore, 1) := by decide +kernel
theorem d_MM_findDivisor_147 : decode b_MM_findDivisor 147 = .ok (.iinc 4 1, 3) := by decide +kernel
theorem d_MM_findDivisor_150 : decode b_MM_findDivisor 150 = .ok (.goto (-36), 3) := by decide +kernel
theorem d_MM_findDivisor_153 : decode b_MM_findDivisor 153 = .ok (.return_, 1) := by decide +kernel
theorem d_MM_degree_0 : decode b_MM_degree 0 = .ok (.bipush 13, 2) := by decide +kernel
theorem d_MM_degree_2 : decode b_MM_degree 2 = .ok (.istore_n 1, 1) := by decide +kernel
theorem d_MM_degree_3 : decode b_MM_degree 3 = .ok (.iload_n 1, 1) := by decide +kernel
theorem d_MM_degree_4 : decode b_MM_degree 4 = .ok (.ifCond .lt 20, 3) := by decide +kernel
theorem d_MM_degree_7 : decode b_MM_degree 7 = .ok (.aload_n 0, 1) := by decide +kernel
theorem d_MM_degree_8 : decode b_MM_degree 8 = .ok (.getfield 61, 3) := by decide +kernel
theorem d_MM_degree_11 : decode b_MM_degree 11 = .ok (.iload_n 1, 1) := by decide +kernel
theorem d_MM_degree_12 : decode b_MM_degree 12 = .ok (.laload, 1) := by decide +kernel
theorem d_MM_degree_13 : decode b_MM_degree 13 = .ok (.lconst 0, 1) := by decide +kernel
theorem d_MM_degree_14 : decode b_MM_degree 14 = .ok (.lcmp, 1) := by decide +kernel
theorem d_MM_degree_15 : decode b_MM_degree 15 = .ok (.ifCond .ne 9, 3) := by decide +kernel
theorem d_MM_degree_18 : decode b_MM_degree 18 = .ok (.iinc 1 (-1), 3) := by decide +kernel
theorem d_MM_degree_21 : decode b_MM_degree 21 = .ok (.goto (-18), 3) := by decide +kernel
theorem d_MM_degree_24 : decode b_MM_degree 24 = .ok (.iload_n 1, 1) := by decide +kernel
theorem d_MM_degree_25 : decode b_MM_degree 25 = .ok (.ireturn, 1) := by decide +kernel
theorem d_MM_valueAt_0 : decode b_MM_valueAt 0 = .ok (.lconst 0, 1) := by decide +kernel
theorem d_MM_valueAt_1 : decode b_MM_valueAt 1 = .ok (.lstore_n 2, 1) := by decide +kernel
theorem d_MM_valueAt_2 : decode b_MM_valueAt 2 = .ok (.bipush 13, 2) := by decide +kernel
theorem d_MM_valueAt_4 : decode b_MM_valueAt 4 = .ok (.istore 4, 2) := by decide +kernel
theorem d_MM_valueAt_6 : decode b_MM_valueAt 6 = .ok (.iload 4, 2) := by decide +kernel
theorem d_MM_valueAt_8 : decode b_MM_valueAt 8 = .ok (.ifCond .lt 22, 3) := by decide +kernel
theorem d_MM_valueAt_11 : decode b_MM_valueAt 11 = .ok (.iload_n 1, 1) := by decide +kernel
theorem d_MM_valueAt_12 : decode b_MM_valueAt 12 = .ok (.i2l, 1) := by decide +kernel
theorem d_MM_valueAt_13 : decode b_MM_valueAt 13 = .ok (.lload_n 2, 1) := by decide +kernel
theorem d_MM_valueAt_14 : decode b_MM_valueAt 14 = .ok (.lmul, 1) := by decide +kernel
theorem d_MM_valueAt_15 : decode b_MM_valueAt 15 = .ok (.aload_n 0, 1) := by decide +kernel
theorem d_MM_valueAt_16 : decode b_MM_valueAt 16 = .ok (.getfield 61, 3) := by decide +kernel
theorem d_MM_valueAt_19 : decode b_MM_valueAt 19 = .ok (.iload 4, 2) := by decide +kernel
theorem d_MM_valueAt_21 : decode b_MM_valueAt 21 = .ok (.laload, 1) := by decide +kernel
theorem d_MM_valueAt_22 : decode b_MM_valueAt 22 = .ok (.ladd, 1) := by decide +kernel
theorem d_MM_valueAt_23 : decode b_MM_valueAt 23 = .ok (.lstore_n 2, 1) := by decide +kernel
theorem d_MM_valueAt_24 : decode b_MM_valueAt 24 = .ok (.iinc 4 (-1), 3) := by decide +kernel
theorem d_MM_valueAt_27 : decode b_MM_valueAt 27 = .ok (.goto (-21), 3) := by decide +kernel
theorem d_MM_valueAt_30 : decode b_MM_valueAt 30 = .ok (.lload_n 2, 1) := by decide +kernel
theorem d_MM_valueAt_31 : decode b_MM_valueAt 31 = .ok (.lreturn, 1) := by decide +kernel
theorem d_MM_many_0 : decode b_MM_many 0 = .ok (.aload_n 0, 1) := by decide +kernel
theorem d_MM_many_1 : decode b_MM_many 1 = .ok (.invokevirtual 198, 3) := by decide +kernel
theorem d_MM_many_4 : decode b_MM_many 4 = .ok (.iload_n 1, 1) := by decide +kernel
theorem d_MM_many_5 : decode b_MM_many 5 = .ok (.tableswitch 85 0 6 #[43, 49, 55, 61, 67, 73, 79], 43) := by decide +kernel
theorem d_MM_many_48 : decode b_MM_many 48 = .ok (.aload_n 0, 1) := by decide +kernel
theorem d_MM_many_49 : decode b_MM_many 49 = .ok (.getfield 73, 3) := by decide +kernel
theorem d_MM_many_52 : decode b_MM_many 52 = .ok (.i2l, 1) := by decide +kernel
theorem d_MM_many_53 : decode b_MM_many 53 = .ok (.lreturn, 1) := by decide +kernel
theorem d_MM_many_54 : decode b_MM_many 54 = .ok (.aload_n 0, 1) := by decide +kernel
theorem d_MM_many_55 : decode b_MM_many 55 = .ok (.getfield 109, 3) := by decide +kernel
theorem d_MM_many_58 : decode b_MM_many 58 = .ok (.i2l, 1) := by decide +kernel
theorem d_MM_many_59 : decode b_MM_many 59 = .ok (.lreturn, 1) := by decide +kernel
theorem d_MM_many_60 : decode b_MM_many 60 = .ok (.aload_n 0, 1) := by decide +kernel
theorem d_MM_many_61 : decode b_MM_many 61 = .ok (.getfield 151, 3) := by decide +kernel
theorem d_MM_many_64 : decode b_MM_many 64 = .ok (.i2l, 1) := by decide +kernel
theorem d_MM_many_65 : decode b_MM_many 65 = .ok (.lreturn, 1) := by decide +kernel
theorem d_MM_many_66 : decode b_MM_many 66 = .ok (.aload_n 0, 1) := by decide +kernel
theorem d_MM_many_67 : decode b_MM_many 67 = .ok (.invokevirtual 201, 3) := by decide +kernel
theorem d_MM_many_70 : decode b_MM_many 70 = .ok (.i2l, 1) := by decide +kernel
theorem d_MM_many_71 : decode b_MM_many 71 = .ok (.lreturn, 1) := by decide +kernel
theorem d_MM_many_72 : decode b_MM_many 72 = .ok (.aload_n 0, 1) := by decide +kernel
theorem d_MM_many_73 : decode b_MM_many 73 = .ok (.iconst 1, 1) := by decide +kernel
theorem d_MM_many_74 : decode b_MM_many 74 = .ok (.invokevirtual 204, 3) := by decide +kernel
theorem d_MM_many_77 : decode b_MM_many 77 = .ok (.lreturn, 1) := by decide +kernel
theorem d_MM_many_78 : decode b_MM_many 78 = .ok (.aload_n 0, 1) := by decide +kernel
theorem d_MM_many_79 : decode b_MM_many 79 = .ok (.iconst (-1), 1) := by decide +kernel
theorem d_MM_many_80 : decode b_MM_many 80 = .ok (.invokevirtual 204, 3) := by decide +kernel
theorem d_MM_many_83 : decode b_MM_many 83 = .ok (.lreturn, 1) := by decide +kernel
theorem d_MM_many_84 : decode b_MM_many 84 = .ok (.aload_n 0, 1) := by decide +kernel
theorem d_MM_many_85 : decode b_MM_many 85 = .ok (.getfield 103, 3) := by decide +kernel
theorem d_MM_many_88 : decode b_MM_many 88 = .ok (.i2l, 1) := by decide +kernel
theorem d_MM_many_89 : decode b_MM_many 89 = .ok (.lreturn, 1) := by decide +kernel
theorem d_MM_many_90 : decode b_MM_many 90 = .ok (.ldc2_w 208, 3) := by decide +kernel
theorem d_MM_many_93 : decode b_MM_many 93 = .ok (.lreturn, 1) := by decide +kernel
theorem d_MM_arc_0 : decode b_MM_arc 0 = .ok (.aload_n 0, 1) := by decide +kernel
theorem d_MM_arc_1 : decode b_MM_arc 1 = .ok (.invokevirtual 198, 3) := by decide +kernel
theorem d_MM_arc_4 : decode b_MM_arc 4 = .ok (.iload_n 1, 1) := by decide +kernel
theorem d_MM_arc_5 : decode b_MM_arc 5 = .ok (.iconst 1, 1) := by decide +kernel
theorem d_MM_arc_6 : decode b_MM_arc 6 = .ok (.if_icmp .lt 12, 3) := by decide +kernel
theorem d_MM_arc_9 : decode b_MM_arc 9 = .ok (.aload_n 0, 1) := by decide +kernel
theorem d_MM_arc_10 : decode b_MM_arc 10 = .ok (.iload_n 1, 1) := by decide +kernel
theorem d_MM_arc_11 : decode b_MM_arc 11 = .ok (.iconst 1, 1) := by decide +kernel
theorem d_MM_arc_12 : decode b_MM_arc 12 = .ok (.invokevirtual 80, 3) := by decide +kernel
theorem d_MM_arc_15 : decode b_MM_arc 15 = .ok (.ifCond .ge 7, 3) := by decide +kernel
theorem d_MM_arc_18 : decode b_MM_arc 18 = .ok (.iconst (-1), 1) := by decide +kernel
theorem d_MM_arc_19 : decode b_MM_arc 19 = .ok (.goto 8, 3) := by decide +kernel
theorem d_MM_arc_22 : decode b_MM_arc 22 = .ok (.aload_n 0, 1) := by decide +kernel
theorem d_MM_arc_23 : decode b_MM_arc 23 = .ok (.iload_n 1, 1) := by decide +kernel
theorem d_MM_arc_24 : decode b_MM_arc 24 = .ok (.invokevirtual 160, 3) := by decide +kernel
theorem d_MM_arc_27 : decode b_MM_arc 27 = .ok (.ireturn, 1) := by decide +kernel
theorem d_MM_least_0 : decode b_MM_least 0 = .ok (.aload_n 0, 1) := by decide +kernel
theorem d_MM_least_1 : decode b_MM_least 1 = .ok (.invokevirtual 198, 3) := by decide +kernel
theorem d_MM_least_4 : decode b_MM_least 4 = .ok (.iload_n 1, 1) := by decide +kernel
theorem d_MM_least_5 : decode b_MM_least 5 = .ok (.ifCond .lt 11, 3) := by decide +kernel
theorem d_MM_least_8 : decode b_MM_least 8 = .ok (.iload_n 1, 1) := by decide +kernel
theorem d_MM_least_9 : decode b_MM_least 9 = .ok (.aload_n 0, 1) := by decide +kernel
theorem d_MM_least_10 : decode b_MM_least 10 = .ok (.getfield 151, 3) := by decide +kernel
theorem d_MM_least_13 : decode b_MM_least 13 = .ok (.if_icmp .lt 7, 3) := by decide +kernel
theorem d_MM_least_16 : decode b_MM_least 16 = .ok (.iconst (-1), 1) := by decide +kernel
theorem d_MM_least_17 : decode b_MM_least 17 = .ok (.goto 9, 3) := by decide +kernel
theorem d_MM_least_20 : decode b_MM_least 20 = .ok (.aload_n 0, 1) := by decide +kernel
theorem d_MM_least_21 : decode b_MM_least 21 = .ok (.getfield 44, 3) := by decide +kernel
theorem d_MM_least_24 : decode b_MM_least 24 = .ok (.iload_n 1, 1) := by decide +kernel
theorem d_MM_least_25 : decode b_MM_least 25 = .ok (.iaload, 1) := by decide +kernel
theorem d_MM_least_26 : decode b_MM_least 26 = .ok (.ireturn, 1) := by decide +kernel
theorem d_MM_entry_0 : decode b_MM_entry 0 = .ok (.aload_n 0, 1) := by decide +kernel
theorem d_MM_entry_1 : decode b_MM_entry 1 = .ok (.invokevirtual 198, 3) := by decide +kernel
theorem d_MM_entry_4 : decode b_MM_entry 4 = .ok (.iload_n 1, 1) := by decide +kernel
theorem d_MM_entry_5 : decode b_MM_entry 5 = .ok (.ifCond .lt 23, 3) := by decide +kernel
theorem d_MM_entry_8 : decode b_MM_entry 8 = .ok (.iload_n 1, 1) := by decide +kernel
theorem d_MM_entry_9 : decode b_MM_entry 9 = .ok (.aload_n 0, 1) := by decide +kernel
theorem d_MM_entry_10 : decode b_MM_entry 10 = .ok (.getfield 73, 3) := by decide +kernel
theorem d_MM_entry_13 : decode b_MM_entry 13 = .ok (.if_icmp .ge 15, 3) := by decide +kernel
theorem d_MM_entry_16 : decode b_MM_entry 16 = .ok (.iload_n 2, 1) := by decide +kernel
theorem d_MM_entry_17 : decode b_MM_entry 17 = .ok (.ifCond .lt 11, 3) := by decide +kernel
theorem d_MM_entry_20 : decode b_MM_entry 20 = .ok (.iload_n 2, 1) := by decide +kernel
theorem d_MM_entry_21 : decode b_MM_entry 21 = .ok (.aload_n 0, 1) := by decide +kernel
theorem d_MM_entry_22 : decode b_MM_entry 22 = .ok (.getfield 151, 3) := by decide +kernel
theorem d_MM_entry_25 : decode b_MM_entry 25 = .ok (.if_icmp .lt 5, 3) := by decide +kernel
theorem d_MM_entry_28 : decode b_MM_entry 28 = .ok (.iconst 0, 1) := by decide +kernel
theorem d_MM_entry_29 : decode b_MM_entry 29 = .ok (.ireturn, 1) := by decide +kernel
theorem d_MM_entry_30 : decode b_MM_entry 30 = .ok (.iload_n 3, 1) := by decide +kernel
theorem d_MM_entry_31 : decode b_MM_entry 31 = .ok (.ifCond .ne 17, 3) := by decide +kernel
theorem d_MM_entry_34 : decode b_MM_entry 34 = .ok (.aload_n 0, 1) := by decide +kernel
theorem d_MM_entry_35 : decode b_MM_entry 35 = .ok (.getfield 47, 3) := by decide +kernel
theorem d_MM_entry_38 : decode b_MM_entry 38 = .ok (.bipush 32, 2) := by decide +kernel
theorem d_MM_entry_40 : decode b_MM_entry 40 = .ok (.iload_n 1, 1) := by decide +kernel
theorem d_MM_entry_41 : decode b_MM_entry 41 = .ok (.imul, 1) := by decide +kernel
theorem d_MM_entry_42 : decode b_MM_entry 42 = .ok (.iload_n 2, 1) := by decide +kernel
theorem d_MM_entry_43 : decode b_MM_entry 43 = .ok (.iadd, 1) := by decide +kernel
theorem d_MM_entry_44 : decode b_MM_entry 44 = .ok (.iaload, 1) := by decide +kernel
theorem d_MM_entry_45 : decode b_MM_entry 45 = .ok (.goto 23, 3) := by decide +kernel
theorem d_MM_entry_48 : decode b_MM_entry 48 = .ok (.iload_n 3, 1) := by decide +kernel
theorem d_MM_entry_49 : decode b_MM_entry 49 = .ok (.iconst 1, 1) := by decide +kernel
theorem d_MM_entry_50 : decode b_MM_entry 50 = .ok (.if_icmp .ne 17, 3) := by decide +kernel
theorem d_MM_entry_53 : decode b_MM_entry 53 = .ok (.aload_n 0, 1) := by decide +kernel
theorem d_MM_entry_54 : decode b_MM_entry 54 = .ok (.getfield 50, 3) := by decide +kernel
theorem d_MM_entry_57 : decode b_MM_entry 57 = .ok (.bipush 32, 2) := by decide +kernel
theorem d_MM_entry_59 : decode b_MM_entry 59 = .ok (.iload_n 1, 1) := by decide +kernel
theorem d_MM_entry_60 : decode b_MM_entry 60 = .ok (.imul, 1) := by decide +kernel
theorem d_MM_entry_61 : decode b_MM_entry 61 = .ok (.iload_n 2, 1) := by decide +kernel
theorem d_MM_entry_62 : decode b_MM_entry 62 = .ok (.iadd, 1) := by decide +kernel
theorem d_MM_entry_63 : decode b_MM_entry 63 = .ok (.iaload, 1) := by decide +kernel
theorem d_MM_entry_64 : decode b_MM_entry 64 = .ok (.goto 4, 3) := by decide +kernel
theorem d_MM_entry_67 : decode b_MM_entry 67 = .ok (.iconst 0, 1) := by decide +kernel
theorem d_MM_entry_68 : decode b_MM_entry 68 = .ok (.ireturn, 1) := by decide +kernel
theorem d_MM_minor_0 : decode b_MM_minor 0 = .ok (.aload_n 0, 1) := by decide +kernel
theorem d_MM_minor_1 : decode b_MM_minor 1 = .ok (.invokevirtual 198, 3) := by decide +kernel
theorem d_MM_minor_4 : decode b_MM_minor 4 = .ok (.iload_n 2, 1) := by decide +kernel
theorem d_MM_minor_5 : decode b_MM_minor 5 = .ok (.ifCond .lt 41, 3) := by decide +kernel
theorem d_MM_minor_8 : decode b_MM_minor 8 = .ok (.iload_n 2, 1) := by decide +kernel
theorem d_MM_minor_9 : decode b_MM_minor 9 = .ok (.aload_n 0, 1) := by decide +kernel
theorem d_MM_minor_10 : decode b_MM_minor 10 = .ok (.getfield 151, 3) := by decide +kernel
theorem d_MM_minor_13 : decode b_MM_minor 13 = .ok (.if_icmp .ge 33, 3) := by decide +kernel
theorem d_MM_minor_16 : decode b_MM_minor 16 = .ok (.iload_n 3, 1) := by decide +kernel
theorem d_MM_minor_17 : decode b_MM_minor 17 = .ok (.ifCond .lt 29, 3) := by decide +kernel
theorem d_MM_minor_20 : decode b_MM_minor 20 = .ok (.iload_n 3, 1) := by decide +kernel
theorem d_MM_minor_21 : decode b_MM_minor 21 = .ok (.bipush 14, 2) := by decide +kernel
theorem d_MM_minor_23 : decode b_MM_minor 23 = .ok (.if_icmp .ge 23, 3) := by decide +kernel
theorem d_MM_minor_26 : decode b_MM_minor 26 = .ok (.iload_n 1, 1) := by decide +kernel
theorem d_MM_minor_27 : decode b_MM_minor 27 = .ok (.iconst (-1), 1) := by decide +kernel
theorem d_MM_minor_28 : decode b_MM_minor 28 = .ok (.if_icmp .lt 18, 3) := by decide +kernel
theorem d_MM_minor_31 : decode b_MM_minor 31 = .ok (.iload_n 1, 1) := by decide +kernel
theorem d_MM_minor_32 : decode b_MM_minor 32 = .ok (.aload_n 0, 1) := by decide +kernel
theorem d_MM_minor_33 : decode b_MM_minor 33 = .ok (.getfield 73, 3) := by decide +kernel
theorem d_MM_minor_36 : decode b_MM_minor 36 = .ok (.if_icmp .ge 10, 3) := by decide +kernel
theorem d_MM_minor_39 : decode b_MM_minor 39 = .ok (.aload_n 0, 1) := by decide +kernel
theorem d_MM_minor_40 : decode b_MM_minor 40 = .ok (.getfield 181, 3) := by decide +kernel
theorem d_MM_minor_43 : decode b_MM_minor 43 = .ok (.ifCond .ne 5, 3) := by decide +kernel
theorem d_MM_minor_46 : decode b_MM_minor 46 = .ok (.lconst 0, 1) := by decide +kernel
theorem d_MM_minor_47 : decode b_MM_minor 47 = .ok (.lreturn, 1) := by decide +kernel
theorem d_MM_minor_48 : decode b_MM_minor 48 = .ok (.aload_n 0, 1) := by decide +kernel
theorem d_MM_minor_49 : decode b_MM_minor 49 = .ok (.getfield 151, 3) := by decide +kernel
theorem d_MM_minor_52 : decode b_MM_minor 52 = .ok (.aload_n 0, 1) := by decide +kernel
theorem d_MM_minor_53 : decode b_MM_minor 53 = .ok (.getfield 73, 3) := by decide +kernel
theorem d_MM_minor_56 : decode b_MM_minor 56 = .ok (.iconst 1, 1) := by decide +kernel
theorem d_MM_minor_57 : decode b_MM_minor 57 = .ok (.iadd, 1) := by decide +kernel
theorem d_MM_minor_58 : decode b_MM_minor 58 = .ok (.if_icmp .ne 7, 3) := by decide +kernel
theorem d_MM_minor_61 : decode b_MM_minor 61 = .ok (.iconst 1, 1) := by decide +kernel
theorem d_MM_minor_62 : decode b_MM_minor 62 = .ok (.goto 4, 3) := by decide +kernel
theorem d_MM_minor_65 : decode b_MM_minor 65 = .ok (.iconst 0, 1) := by decide +kernel
theorem d_MM_minor_66 : decode b_MM_minor 66 = .ok (.istore 4, 2) := by decide +kernel
theorem d_MM_minor_68 : decode b_MM_minor 68 = .ok (.iload 4, 2) := by decide +kernel
theorem d_MM_minor_70 : decode b_MM_minor 70 = .ok (.iload_n 1, 1) := by decide +kernel
theorem d_MM_minor_71 : decode b_MM_minor 71 = .ok (.iconst (-1), 1) := by decide +kernel
theorem d_MM_minor_72 : decode b_MM_minor 72 = .ok (.if_icmp .ne 7, 3) := by decide +kernel
theorem d_MM_minor_75 : decode b_MM_minor 75 = .ok (.iconst 1, 1) := by decide +kernel
theorem d_MM_minor_76 : decode b_MM_minor 76 = .ok (.goto 4, 3) := by decide +kernel
theorem d_MM_minor_79 : decode b_MM_minor 79 = .ok (.iconst 0, 1) := by decide +kernel
theorem d_MM_minor_80 : decode b_MM_minor 80 = .ok (.if_icmp .eq 5, 3) := by decide +kernel
theorem d_MM_minor_83 : decode b_MM_minor 83 = .ok (.lconst 0, 1) := by decide +kernel
theorem d_MM_minor_84 : decode b_MM_minor 84 = .ok (.lreturn, 1) := by decide +kernel
theorem d_MM_minor_85 : decode b_MM_minor 85 = .ok (.aload_n 0, 1) := by decide +kernel
theorem d_MM_minor_86 : decode b_MM_minor 86 = .ok (.getfield 58, 3) := by decide +kernel
theorem d_MM_minor_89 : decode b_MM_minor 89 = .ok (.bipush 14, 2) := by decide +kernel
theorem d_MM_minor_91 : decode b_MM_minor 91 = .ok (.iload 4, 2) := by decide +kernel
theorem d_MM_minor_93 : decode b_MM_minor 93 = .ok (.ifCond .eq 7, 3) := by decide +kernel
theorem d_MM_minor_96 : decode b_MM_minor 96 = .ok (.iload_n 2, 1) := by decide +kernel
theorem d_MM_minor_97 : decode b_MM_minor 97 = .ok (.goto 11, 3) := by decide +kernel
theorem d_MM_minor_100 : decode b_MM_minor 100 = .ok (.aload_n 0, 1) := by decide +kernel
theorem d_MM_minor_101 : decode b_MM_minor 101 = .ok (.getfield 151, 3) := by decide +kernel
theorem d_MM_minor_104 : decode b_MM_minor 104 = .ok (.iload_n 1, 1) := by decide +kernel
theorem d_MM_minor_105 : decode b_MM_minor 105 = .ok (.imul, 1) := by decide +kernel
theorem d_MM_minor_106 : decode b_MM_minor 106 = .ok (.iload_n 2, 1) := by decide +kernel
theorem d_MM_minor_107 : decode b_MM_minor 107 = .ok (.iadd, 1) := by decide +kernel
theorem d_MM_minor_108 : decode b_MM_minor 108 = .ok (.imul, 1) := by decide +kernel
theorem d_MM_minor_109 : decode b_MM_minor 109 = .ok (.iload_n 3, 1) := by decide +kernel
theorem d_MM_minor_110 : decode b_MM_minor 110 = .ok (.iadd, 1) := by decide +kernel
theorem d_MM_minor_111 : decode b_MM_minor 111 = .ok (.laload, 1) := by decide +kernel
theorem d_MM_minor_112 : decode b_MM_minor 112 = .ok (.lreturn, 1) := by decide +kernel
theorem d_MM_alexander_0 : decode b_MM_alexander 0 = .ok (.aload_n 0, 1) := by decide +kernel
theorem d_MM_alexander_1 : decode b_MM_alexander 1 = .ok (.invokevirtual 198, 3) := by decide +kernel
theorem d_MM_alexander_4 : decode b_MM_alexander 4 = .ok (.iload_n 1, 1) := by decide +kernel
theorem d_MM_alexander_5 : decode b_MM_alexander 5 = .ok (.ifCond .lt 9, 3) := by decide +kernel
theorem d_MM_alexander_8 : decode b_MM_alexander 8 = .ok (.iload_n 1, 1) := by decide +kernel
theorem d_MM_alexander_9 : decode b_MM_alexander 9 = .ok (.bipush 14, 2) := by decide +kernel
theorem d_MM_alexander_11 : decode b_MM_alexander 11 = .ok (.if_icmp .lt 7, 3) := by decide +kernel
theorem d_MM_alexander_14 : decode b_MM_alexander 14 = .ok (.lconst 0, 1) := by decide +kernel
theorem d_MM_alexander_15 : decode b_MM_alexander 15 = .ok (.goto 9, 3) := by decide +kernel
theorem d_MM_alexander_18 : decode b_MM_alexander 18 = .ok (.aload_n 0, 1) := by decide +kernel
theorem d_MM_alexander_19 : decode b_MM_alexander 19 = .ok (.getfield 61, 3) := by decide +kernel
theorem d_MM_alexander_22 : decode b_MM_alexander 22 = .ok (.iload_n 1, 1) := by decide +kernel
theorem d_MM_alexander_23 : decode b_MM_alexander 23 = .ok (.laload, 1) := by decide +kernel
theorem d_MM_alexander_24 : decode b_MM_alexander 24 = .ok (.lreturn, 1) := by decide +kernel
theorem d_MM_isPrime_0 : decode b_MM_isPrime 0 = .ok (.iload_n 0, 1) := by decide +kernel
theorem d_MM_isPrime_1 : decode b_MM_isPrime 1 = .ok (.iconst 2, 1) := by decide +kernel
theorem d_MM_isPrime_2 : decode b_MM_isPrime 2 = .ok (.if_icmp .lt 13, 3) := by decide +kernel
theorem d_MM_isPrime_5 : decode b_MM_isPrime 5 = .ok (.iload_n 0, 1) := by decide +kernel
theorem d_MM_isPrime_6 : decode b_MM_isPrime 6 = .ok (.bipush 97, 2) := by decide +kernel
theorem d_MM_isPrime_8 : decode b_MM_isPrime 8 = .ok (.if_icmp .gt 7, 3) := by decide +kernel
theorem d_MM_isPrime_11 : decode b_MM_isPrime 11 = .ok (.iconst 1, 1) := by decide +kernel
theorem d_MM_isPrime_12 : decode b_MM_isPrime 12 = .ok (.goto 4, 3) := by decide +kernel
theorem d_MM_isPrime_15 : decode b_MM_isPrime 15 = .ok (.iconst 0, 1) := by decide +kernel
theorem d_MM_isPrime_16 : decode b_MM_isPrime 16 = .ok (.istore_n 1, 1) := by decide +kernel
theorem d_MM_isPrime_17 : decode b_MM_isPrime 17 = .ok (.iconst 2, 1) := by decide +kernel
theorem d_MM_isPrime_18 : decode b_MM_isPrime 18 = .ok (.istore_n 2, 1) := by decide +kernel
theorem d_MM_isPrime_19 : decode b_MM_isPrime 19 = .ok (.iload_n 2, 1) := by decide +kernel
theorem d_MM_isPrime_20 : decode b_MM_isPrime 20 = .ok (.iload_n 0, 1) := by decide +kernel
theorem d_MM_isPrime_21 : decode b_MM_isPrime 21 = .ok (.if_icmp .ge 25, 3) := by decide +kernel
theorem d_MM_isPrime_24 : decode b_MM_isPrime 24 = .ok (.iload_n 1, 1) := by decide +kernel
theorem d_MM_isPrime_25 : decode b_MM_isPrime 25 = .ok (.ifCond .eq 21, 3) := by decide +kernel
theorem d_MM_isPrime_28 : decode b_MM_isPrime 28 = .ok (.iload_n 0, 1) := by decide +kernel
theorem d_MM_isPrime_29 : decode b_MM_isPrime 29 = .ok (.iload_n 2, 1) := by decide +kernel
theorem d_MM_isPrime_30 : decode b_MM_isPrime 30 = .ok (.irem, 1) := by decide +kernel
theorem d_MM_isPrime_31 : decode b_MM_isPrime 31 = .ok (.ifCond .eq 7, 3) := by decide +kernel
theorem d_MM_isPrime_34 : decode b_MM_isPrime 34 = .ok (.iconst 1, 1) := by decide +kernel
theorem d_MM_isPrime_35 : decode b_MM_isPrime 35 = .ok (.goto 4, 3) := by decide +kernel
theorem d_MM_isPrime_38 : decode b_MM_isPrime 38 = .ok (.iconst 0, 1) := by decide +kernel
theorem d_MM_isPrime_39 : decode b_MM_isPrime 39 = .ok (.istore_n 1, 1) := by decide +kernel
theorem d_MM_isPrime_40 : decode b_MM_isPrime 40 = .ok (.iinc 2 1, 3) := by decide +kernel
theorem d_MM_isPrime_43 : decode b_MM_isPrime 43 = .ok (.goto (-24), 3) := by decide +kernel
theorem d_MM_isPrime_46 : decode b_MM_isPrime 46 = .ok (.iload_n 1, 1) := by decide +kernel
theorem d_MM_isPrime_47 : decode b_MM_isPrime 47 = .ok (.ireturn, 1) := by decide +kernel
theorem d_MM_mod_0 : decode b_MM_mod 0 = .ok (.lload_n 0, 1) := by decide +kernel
theorem d_MM_mod_1 : decode b_MM_mod 1 = .ok (.iload_n 2, 1) := by decide +kernel
theorem d_MM_mod_2 : decode b_MM_mod 2 = .ok (.i2l, 1) := by decide +kernel
theorem d_MM_mod_3 : decode b_MM_mod 3 = .ok (.lrem, 1) := by decide +kernel
theorem d_MM_mod_4 : decode b_MM_mod 4 = .ok (.l2i, 1) := by decide +kernel
theorem d_MM_mod_5 : decode b_MM_mod 5 = .ok (.istore_n 3, 1) := by decide +kernel
theorem d_MM_mod_6 : decode b_MM_mod 6 = .ok (.iload_n 3, 1) := by decide +kernel
theorem d_MM_mod_7 : decode b_MM_mod 7 = .ok (.ifCond .ge 9, 3) := by decide +kernel
theorem d_MM_mod_10 : decode b_MM_mod 10 = .ok (.iload_n 3, 1) := by decide +kernel
theorem d_MM_mod_11 : decode b_MM_mod 11 = .ok (.iload_n 2, 1) := by decide +kernel
theorem d_MM_mod_12 : decode b_MM_mod 12 = .ok (.iadd, 1) := by decide +kernel
theorem d_MM_mod_13 : decode b_MM_mod 13 = .ok (.goto 4, 3) := by decide +kernel
theorem d_MM_mod_16 : decode b_MM_mod 16 = .ok (.iload_n 3, 1) := by decide +kernel
theorem d_MM_mod_17 : decode b_MM_mod 17 = .ok (.ireturn, 1) := by decide +kernel
theorem d_MM_rowWith_0 : decode b_MM_rowWith 0 = .ok (.iconst (-1), 1) := by decide +kernel
theorem d_MM_rowWith_1 : decode b_MM_rowWith 1 = .ok (.istore_n 3, 1) := by decide +kernel
theorem d_MM_rowWith_2 : decode b_MM_rowWith 2 = .ok (.aload_n 0, 1) := by decide +kernel
theorem d_MM_rowWith_3 : decode b_MM_rowWith 3 = .ok (.getfield 73, 3) := by decide +kernel
theorem d_MM_rowWith_6 : decode b_MM_rowWith 6 = .ok (.iconst 1, 1) := by decide +kernel
theorem d_MM_rowWith_7 : decode b_MM_rowWith 7 = .ok (.isub, 1) := by decide +kernel
theorem d_MM_rowWith_8 : decode b_MM_rowWith 8 = .ok (.istore 4, 2) := by decide +kernel
theorem d_MM_rowWith_10 : decode b_MM_rowWith 10 = .ok (.iload 4, 2) := by decide +kernel
theorem d_MM_rowWith_12 : decode b_MM_rowWith 12 = .ok (.iload_n 1, 1) := by decide +kernel
theorem d_MM_rowWith_13 : decode b_MM_rowWith 13 = .ok (.if_icmp .lt 31, 3) := by decide +kernel
theorem d_MM_rowWith_16 : decode b_MM_rowWith 16 = .ok (.aload_n 0, 1) := by decide +kernel
theorem d_MM_rowWith_17 : decode b_MM_rowWith 17 = .ok (.getfield 67, 3) := by decide +kernel
theorem d_MM_rowWith_20 : decode b_MM_rowWith 20 = .ok (.bipush 32, 2) := by decide +kernel
theorem d_MM_rowWith_22 : decode b_MM_rowWith 22 = .ok (.iload 4, 2) := by decide +kernel
theorem d_MM_rowWith_24 : decode b_MM_rowWith 24 = .ok (.imul, 1) := by decide +kernel
theorem d_MM_rowWith_25 : decode b_MM_rowWith 25 = .ok (.iload_n 2, 1) := by decide +kernel
theorem d_MM_rowWith_26 : decode b_MM_rowWith 26 = .ok (.iadd, 1) := by decide +kernel
theorem d_MM_rowWith_27 : decode b_MM_rowWith 27 = .ok (.iaload, 1) := by decide +kernel
theorem d_MM_rowWith_28 : decode b_MM_rowWith 28 = .ok (.ifCond .eq 8, 3) := by decide +kernel
theorem d_MM_rowWith_31 : decode b_MM_rowWith 31 = .ok (.iload 4, 2) := by decide +kernel
theorem d_MM_rowWith_33 : decode b_MM_rowWith 33 = .ok (.goto 4, 3) := by decide +kernel
theorem d_MM_rowWith_36 : decode b_MM_rowWith 36 = .ok (.iload_n 3, 1) := by decide +kernel
theorem d_MM_rowWith_37 : decode b_MM_rowWith 37 = .ok (.istore_n 3, 1) := by decide +kernel
theorem d_MM_rowWith_38 : decode b_MM_rowWith 38 = .ok (.iinc 4 (-1), 3) := by decide +kernel
theorem d_MM_rowWith_41 : decode b_MM_rowWith 41 = .ok (.goto (-31), 3) := by decide +kernel
theorem d_MM_rowWith_44 : decode b_MM_rowWith 44 = .ok (.iload_n 3, 1) := by decide +kernel
theorem d_MM_rowWith_45 : decode b_MM_rowWith 45 = .ok (.ireturn, 1) := by decide +kernel
theorem d_MM_rank_0 : decode b_MM_rank 0 = .ok (.iload_n 2, 1) := by decide +kernel
theorem d_MM_rank_1 : decode b_MM_rank 1 = .ok (.invokestatic 210, 3) := by decide +kernel
theorem d_MM_rank_4 : decode b_MM_rank 4 = .ok (.ifCond .ne 5, 3) := by decide +kernel
theorem d_MM_rank_7 : decode b_MM_rank 7 = .ok (.iconst (-1), 1) := by decide +kernel
theorem d_MM_rank_8 : decode b_MM_rank 8 = .ok (.ireturn, 1) := by decide +kernel
theorem d_MM_rank_9 : decode b_MM_rank 9 = .ok (.aload_n 0, 1) := by decide +kernel
theorem d_MM_rank_10 : decode b_MM_rank 10 = .ok (.invokevirtual 198, 3) := by decide +kernel
theorem d_MM_rank_13 : decode b_MM_rank 13 = .ok (.iload_n 1, 1) := by decide +kernel
theorem d_MM_rank_14 : decode b_MM_rank 14 = .ok (.i2l, 1) := by decide +kernel
theorem d_MM_rank_15 : decode b_MM_rank 15 = .ok (.iload_n 2, 1) := by decide +kernel
theorem d_MM_rank_16 : decode b_MM_rank 16 = .ok (.invokestatic 213, 3) := by decide +kernel
theorem d_MM_rank_19 : decode b_MM_rank 19 = .ok (.istore_n 3, 1) := by decide +kernel
theorem d_MM_rank_20 : decode b_MM_rank 20 = .ok (.iconst 0, 1) := by decide +kernel
theorem d_MM_rank_21 : decode b_MM_rank 21 = .ok (.istore 4, 2) := by decide +kernel
theorem d_MM_rank_23 : decode b_MM_rank 23 = .ok (.iload 4, 2) := by decide +kernel
theorem d_MM_rank_25 : decode b_MM_rank 25 = .ok (.sipush 384, 3) := by decide +kernel
theorem d_MM_rank_28 : decode b_MM_rank 28 = .ok (.if_icmp .ge 40, 3) := by decide +kernel
theorem d_MM_rank_31 : decode b_MM_rank 31 = .ok (.aload_n 0, 1) := by decide +kernel
theorem d_MM_rank_32 : decode b_MM_rank 32 = .ok (.getfield 67, 3) := by decide +kernel
theorem d_MM_rank_35 : decode b_MM_rank 35 = .ok (.iload 4, 2) := by decide +kernel
theorem d_MM_rank_37 : decode b_MM_rank 37 = .ok (.aload_n 0, 1) := by decide +kernel
theorem d_MM_rank_38 : decode b_MM_rank 38 = .ok (.getfield 47, 3) := by decide +kernel
theorem d_MM_rank_41 : decode b_MM_rank 41 = .ok (.iload 4, 2) := by decide +kernel
theorem d_MM_rank_43 : decode b_MM_rank 43 = .ok (.iaload, 1) := by decide +kernel
theorem d_MM_rank_44 : decode b_MM_rank 44 = .ok (.i2l, 1) := by decide +kernel
theorem d_MM_rank_45 : decode b_MM_rank 45 = .ok (.aload_n 0, 1) := by decide +kernel
theorem d_MM_rank_46 : decode b_MM_rank 46 = .ok (.getfield 50, 3) := by decide +kernel
theorem d_MM_rank_49 : decode b_MM_rank 49 = .ok (.iload 4, 2) := by decide +kernel
theorem d_MM_rank_51 : decode b_MM_rank 51 = .ok (.iaload, 1) := by decide +kernel
theorem d_MM_rank_52 : decode b_MM_rank 52 = .ok (.i2l, 1) := by decide +kernel
theorem d_MM_rank_53 : decode b_MM_rank 53 = .ok (.iload_n 3, 1) := by decide +kernel
theorem d_MM_rank_54 : decode b_MM_rank 54 = .ok (.i2l, 1) := by decide +kernel
theorem d_MM_rank_55 : decode b_MM_rank 55 = .ok (.lmul, 1) := by decide +kernel
theorem d_MM_rank_56 : decode b_MM_rank 56 = .ok (.ladd, 1) := by decide +kernel
theorem d_MM_rank_57 : decode b_MM_rank 57 = .ok (.iload_n 2, 1) := by decide +kernel
theorem d_MM_rank_58 : decode b_MM_rank 58 = .ok (.invokestatic 213, 3) := by decide +kernel
theorem d_MM_rank_61 : decode b_MM_rank 61 = .ok (.iastore, 1) := by decide +kernel
theorem d_MM_rank_62 : decode b_MM_rank 62 = .ok (.iinc 4 1, 3) := by decide +kernel
theorem d_MM_rank_65 : decode b_MM_rank 65 = .ok (.goto (-42), 3) := by decide +kernel
theorem d_MM_rank_68 : decode b_MM_rank 68 = .ok (.iconst 0, 1) := by decide +kernel
theorem d_MM_rank_69 : decode b_MM_rank 69 = .ok (.istore 4, 2) := by decide +kernel
theorem d_MM_rank_71 : decode b_MM_rank 71 = .ok (.iconst 0, 1) := by decide +kernel
theorem d_MM_rank_72 : decode b_MM_rank 72 = .ok (.istore 5, 2) := by decide +kernel
theorem d_MM_rank_74 : decode b_MM_rank 74 = .ok (.iload 5, 2) := by decide +kernel
theorem d_MM_rank_76 : decode b_MM_rank 76 = .ok (.aload_n 0, 1) := by decide +kernel
theorem d_MM_rank_77 : decode b_MM_rank 77 = .ok (.getfield 151, 3) := by decide +kernel
theorem d_MM_rank_80 : decode b_MM_rank 80 = .ok (.if_icmp .ge 233, 3) := by decide +kernel
theorem d_MM_rank_83 : decode b_MM_rank 83 = .ok (.iload 4, 2) := by decide +kernel
theorem d_MM_rank_85 : decode b_MM_rank 85 = .ok (.aload_n 0, 1) := by decide +kernel
theorem d_MM_rank_86 : decode b_MM_rank 86 = .ok (.getfield 73, 3) := by decide +kernel
theorem d_MM_rank_89 : decode b_MM_rank 89 = .ok (.if_icmp .ge 224, 3) := by decide +kernel
theorem d_MM_rank_92 : decode b_MM_rank 92 = .ok (.aload_n 0, 1) := by decide +kernel
theorem d_MM_rank_93 : decode b_MM_rank 93 = .ok (.iload 4, 2) := by decide +kernel
theorem d_MM_rank_95 : decode b_MM_rank 95 = .ok (.iload 5, 2) := by decide +kernel
theorem d_MM_rank_97 : decode b_MM_rank 97 = .ok (.invokevirtual 217, 3) := by decide +kernel
theorem d_MM_rank_100 : decode b_MM_rank 100 = .ok (.istore 6, 2) := by decide +kernel
theorem d_MM_rank_102 : decode b_MM_rank 102 = .ok (.iload 6, 2) := by decide +kernel
theorem d_MM_rank_104 : decode b_MM_rank 104 = .ok (.ifCond .lt 203, 3) := by decide +kernel
theorem d_MM_rank_107 : decode b_MM_rank 107 = .ok (.iconst 0, 1) := by decide +kernel
theorem d_MM_rank_108 : decode b_MM_rank 108 = .ok (.istore 7, 2) := by decide +kernel
theorem d_MM_rank_110 : decode b_MM_rank 110 = .ok (.iload 7, 2) := by decide +kernel
theorem d_MM_rank_112 : decode b_MM_rank 112 = .ok (.aload_n 0, 1) := by decide +kernel
theorem d_MM_rank_113 : decode b_MM_rank 113 = .ok (.getfield 151, 3) := by decide +kernel
theorem d_MM_rank_116 : decode b_MM_rank 116 = .ok (.if_icmp .ge 65, 3) := by decide +kernel
theorem d_MM_rank_119 : decode b_MM_rank 119 = .ok (.aload_n 0, 1) := by decide +kernel
theorem d_MM_rank_120 : decode b_MM_rank 120 = .ok (.getfield 67, 3) := by decide +kernel
theorem d_MM_rank_123 : decode b_MM_rank 123 = .ok (.bipush 32, 2) := by decide +kernel
theorem d_MM_rank_125 : decode b_MM_rank 125 = .ok (.iload 6, 2) := by decide +kernel
theorem d_MM_rank_127 : decode b_MM_rank 127 = .ok (.imul, 1) := by decide +kernel
theorem d_MM_rank_128 : decode b_MM_rank 128 = .ok (.iload 7, 2) := by decide +kernel
theorem d_MM_rank_130 : decode b_MM_rank 130 = .ok (.iadd, 1) := by decide +kernel
theorem d_MM_rank_131 : decode b_MM_rank 131 = .ok (.iaload, 1) := by decide +kernel
theorem d_MM_rank_132 : decode b_MM_rank 132 = .ok (.istore 8, 2) := by decide +kernel
theorem d_MM_rank_134 : decode b_MM_rank 134 = .ok (.aload_n 0, 1) := by decide +kernel
theorem d_MM_rank_135 : decode b_MM_rank 135 = .ok (.getfield 67, 3) := by decide +kernel
theorem d_MM_rank_138 : decode b_MM_rank 138 = .ok (.bipush 32, 2) := by decide +kernel
theorem d_MM_rank_140 : decode b_MM_rank 140 = .ok (.iload 6, 2) := by decide +kernel
theorem d_MM_rank_142 : decode b_MM_rank 142 = .ok (.imul, 1) := by decide +kernel
theorem d_MM_rank_143 : decode b_MM_rank 143 = .ok (.iload 7, 2) := by decide +kernel
theorem d_MM_rank_145 : decode b_MM_rank 145 = .ok (.iadd, 1) := by decide +kernel
theorem d_MM_rank_146 : decode b_MM_rank 146 = .ok (.aload_n 0, 1) := by decide +kernel
theorem d_MM_rank_147 : decode b_MM_rank 147 = .ok (.getfield 67, 3) := by decide +kernel
theorem d_MM_rank_150 : decode b_MM_rank 150 = .ok (.bipush 32, 2) := by decide +kernel
theorem d_MM_rank_152 : decode b_MM_rank 152 = .ok (.iload 4, 2) := by decide +kernel
theorem d_MM_rank_154 : decode b_MM_rank 154 = .ok (.imul, 1) := by decide +kernel
theorem d_MM_rank_155 : decode b_MM_rank 155 = .ok (.iload 7, 2) := by decide +kernel
theorem d_MM_rank_157 : decode b_MM_rank 157 = .ok (.iadd, 1) := by decide +kernel
theorem d_MM_rank_158 : decode b_MM_rank 158 = .ok (.iaload, 1) := by decide +kernel
theorem d_MM_rank_159 : decode b_MM_rank 159 = .ok (.iastore, 1) := by decide +kernel
theorem d_MM_rank_160 : decode b_MM_rank 160 = .ok (.aload_n 0, 1) := by decide +kernel
theorem d_MM_rank_161 : decode b_MM_rank 161 = .ok (.getfield 67, 3) := by decide +kernel
theorem d_MM_rank_164 : decode b_MM_rank 164 = .ok (.bipush 32, 2) := by decide +kernel
theorem d_MM_rank_166 : decode b_MM_rank 166 = .ok (.iload 4, 2) := by decide +kernel
theorem d_MM_rank_168 : decode b_MM_rank 168 = .ok (.imul, 1) := by decide +kernel
theorem d_MM_rank_169 : decode b_MM_rank 169 = .ok (.iload 7, 2) := by decide +kernel
theorem d_MM_rank_171 : decode b_MM_rank 171 = .ok (.iadd, 1) := by decide +kernel
theorem d_MM_rank_172 : decode b_MM_rank 172 = .ok (.iload 8, 2) := by decide +kernel
theorem d_MM_rank_174 : decode b_MM_rank 174 = .ok (.iastore, 1) := by decide +kernel
theorem d_MM_rank_175 : decode b_MM_rank 175 = .ok (.iinc 7 1, 3) := by decide +kernel
theorem d_MM_rank_178 : decode b_MM_rank 178 = .ok (.goto (-68), 3) := by decide +kernel
theorem d_MM_rank_181 : decode b_MM_rank 181 = .ok (.iload 4, 2) := by decide +kernel
theorem d_MM_rank_183 : decode b_MM_rank 183 = .ok (.iconst 1, 1) := by decide +kernel
theorem d_MM_rank_184 : decode b_MM_rank 184 = .ok (.iadd, 1) := by decide +kernel
theorem d_MM_rank_185 : decode b_MM_rank 185 = .ok (.istore 7, 2) := by decide +kernel
theorem d_MM_rank_187 : decode b_MM_rank 187 = .ok (.iload 7, 2) := by decide +kernel
theorem d_MM_rank_189 : decode b_MM_rank 189 = .ok (.aload_n 0, 1) := by decide +kernel
theorem d_MM_rank_190 : decode b_MM_rank 190 = .ok (.getfield 73, 3) := by decide +kernel
theorem d_MM_rank_193 : decode b_MM_rank 193 = .ok (.if_icmp .ge 111, 3) := by decide +kernel
theorem d_MM_rank_196 : decode b_MM_rank 196 = .ok (.aload_n 0, 1) := by decide +kernel
theorem d_MM_rank_197 : decode b_MM_rank 197 = .ok (.getfield 67, 3) := by decide +kernel
theorem d_MM_rank_200 : decode b_MM_rank 200 = .ok (.bipush 32, 2) := by decide +kernel
theorem d_MM_rank_202 : decode b_MM_rank 202 = .ok (.iload 4, 2) := by decide +kernel
theorem d_MM_rank_204 : decode b_MM_rank 204 = .ok (.imul, 1) := by decide +kernel
theorem d_MM_rank_205 : decode b_MM_rank 205 = .ok (.iload 5, 2) := by decide +kernel
theorem d_MM_rank_207 : decode b_MM_rank 207 = .ok (.iadd, 1) := by decide +kernel
theorem d_MM_rank_208 : decode b_MM_rank 208 = .ok (.iaload, 1) := by decide +kernel
theorem d_MM_rank_209 : decode b_MM_rank 209 = .ok (.istore 8, 2) := by decide +kernel
theorem d_MM_rank_211 : decode b_MM_rank 211 = .ok (.aload_n 0, 1) := by decide +kernel
theorem d_MM_rank_212 : decode b_MM_rank 212 = .ok (.getfield 67, 3) := by decide +kernel
theorem d_MM_rank_215 : decode b_MM_rank 215 = .ok (.bipush 32, 2) := by decide +kernel
theorem d_MM_rank_217 : decode b_MM_rank 217 = .ok (.iload 7, 2) := by decide +kernel
theorem d_MM_rank_219 : decode b_MM_rank 219 = .ok (.imul, 1) := by decide +kernel
theorem d_MM_rank_220 : decode b_MM_rank 220 = .ok (.iload 5, 2) := by decide +kernel
theorem d_MM_rank_222 : decode b_MM_rank 222 = .ok (.iadd, 1) := by decide +kernel
theorem d_MM_rank_223 : decode b_MM_rank 223 = .ok (.iaload, 1) := by decide +kernel
theorem d_MM_rank_224 : decode b_MM_rank 224 = .ok (.istore 9, 2) := by decide +kernel
theorem d_MM_rank_226 : decode b_MM_rank 226 = .ok (.iconst 0, 1) := by decide +kernel
theorem d_MM_rank_227 : decode b_MM_rank 227 = .ok (.istore 10, 2) := by decide +kernel
theorem d_MM_rank_229 : decode b_MM_rank 229 = .ok (.iload 10, 2) := by decide +kernel
theorem d_MM_rank_231 : decode b_MM_rank 231 = .ok (.aload_n 0, 1) := by decide +kernel
theorem d_MM_rank_232 : decode b_MM_rank 232 = .ok (.getfield 151, 3) := by decide +kernel
theorem d_MM_rank_235 : decode b_MM_rank 235 = .ok (.if_icmp .ge 63, 3) := by decide +kernel
theorem d_MM_rank_238 : decode b_MM_rank 238 = .ok (.aload_n 0, 1) := by decide +kernel
theorem d_MM_rank_239 : decode b_MM_rank 239 = .ok (.getfield 67, 3) := by decide +kernel
theorem d_MM_rank_242 : decode b_MM_rank 242 = .ok (.bipush 32, 2) := by decide +kernel
theorem d_MM_rank_244 : decode b_MM_rank 244 = .ok (.iload 7, 2) := by decide +kernel
theorem d_MM_rank_246 : decode b_MM_rank 246 = .ok (.imul, 1) := by decide +kernel
theorem d_MM_rank_247 : decode b_MM_rank 247 = .ok (.iload 10, 2) := by decide +kernel
theorem d_MM_rank_249 : decode b_MM_rank 249 = .ok (.iadd, 1) := by decide +kernel
theorem d_MM_rank_250 : decode b_MM_rank 250 = .ok (.iload 8, 2) := by decide +kernel
theorem d_MM_rank_252 : decode b_MM_rank 252 = .ok (.i2l, 1) := by decide +kernel
theorem d_MM_rank_253 : decode b_MM_rank 253 = .ok (.aload_n 0, 1) := by decide +kernel
theorem d_MM_rank_254 : decode b_MM_rank 254 = .ok (.getfield 67, 3) := by decide +kernel
theorem d_MM_rank_257 : decode b_MM_rank 257 = .ok (.bipush 32, 2) := by decide +kernel
theorem d_MM_rank_259 : decode b_MM_rank 259 = .ok (.iload 7, 2) := by decide +kernel
theorem d_MM_rank_261 : decode b_MM_rank 261 = .ok (.imul, 1) := by decide +kernel
theorem d_MM_rank_262 : decode b_MM_rank 262 = .ok (.iload 10, 2) := by decide +kernel
theorem d_MM_rank_264 : decode b_MM_rank 264 = .ok (.iadd, 1) := by decide +kernel
theorem d_MM_rank_265 : decode b_MM_rank 265 = .ok (.iaload, 1) := by decide +kernel
theorem d_MM_rank_266 : decode b_MM_rank 266 = .ok (.i2l, 1) := by decide +kernel
theorem d_MM_rank_267 : decode b_MM_rank 267 = .ok (.lmul, 1) := by decide +kernel
theorem d_MM_rank_268 : decode b_MM_rank 268 = .ok (.iload 9, 2) := by decide +kernel
theorem d_MM_rank_270 : decode b_MM_rank 270 = .ok (.i2l, 1) := by decide +kernel
theorem d_MM_rank_271 : decode b_MM_rank 271 = .ok (.aload_n 0, 1) := by decide +kernel
theorem d_MM_rank_272 : decode b_MM_rank 272 = .ok (.getfield 67, 3) := by decide +kernel
theorem d_MM_rank_275 : decode b_MM_rank 275 = .ok (.bipush 32, 2) := by decide +kernel
theorem d_MM_rank_277 : decode b_MM_rank 277 = .ok (.iload 4, 2) := by decide +kernel
theorem d_MM_rank_279 : decode b_MM_rank 279 = .ok (.imul, 1) := by decide +kernel
theorem d_MM_rank_280 : decode b_MM_rank 280 = .ok (.iload 10, 2) := by decide +kernel
theorem d_MM_rank_282 : decode b_MM_rank 282 = .ok (.iadd, 1) := by decide +kernel
theorem d_MM_rank_283 : decode b_MM_rank 283 = .ok (.iaload, 1) := by decide +kernel
theorem d_MM_rank_284 : decode b_MM_rank 284 = .ok (.i2l, 1) := by decide +kernel
theorem d_MM_rank_285 : decode b_MM_rank 285 = .ok (.lmul, 1) := by decide +kernel
theorem d_MM_rank_286 : decode b_MM_rank 286 = .ok (.lsub, 1) := by decide +kernel
theorem d_MM_rank_287 : decode b_MM_rank 287 = .ok (.iload_n 2, 1) := by decide +kernel
theorem d_MM_rank_288 : decode b_MM_rank 288 = .ok (.invokestatic 213, 3) := by decide +kernel
theorem d_MM_rank_291 : decode b_MM_rank 291 = .ok (.iastore, 1) := by decide +kernel
theorem d_MM_rank_292 : decode b_MM_rank 292 = .ok (.iinc 10 1, 3) := by decide +kernel
theorem d_MM_rank_295 : decode b_MM_rank 295 = .ok (.goto (-66), 3) := by decide +kernel
theorem d_MM_rank_298 : decode b_MM_rank 298 = .ok (.iinc 7 1, 3) := by decide +kernel
theorem d_MM_rank_301 : decode b_MM_rank 301 = .ok (.goto (-114), 3) := by decide +kernel
theorem d_MM_rank_304 : decode b_MM_rank 304 = .ok (.iinc 4 1, 3) := by decide +kernel
theorem d_MM_rank_307 : decode b_MM_rank 307 = .ok (.iinc 5 1, 3) := by decide +kernel
theorem d_MM_rank_310 : decode b_MM_rank 310 = .ok (.goto (-236), 3) := by decide +kernel
theorem d_MM_rank_313 : decode b_MM_rank 313 = .ok (.iload 4, 2) := by decide +kernel
theorem d_MM_rank_315 : decode b_MM_rank 315 = .ok (.ireturn, 1) := by decide +kernel
theorem d_MM_change_0 : decode b_MM_change 0 = .ok (.iload_n 1, 1) := by decide +kernel
theorem d_MM_change_1 : decode b_MM_change 1 = .ok (.ifCond .lt 11, 3) := by decide +kernel
theorem d_MM_change_4 : decode b_MM_change 4 = .ok (.iload_n 1, 1) := by decide +kernel
theorem d_MM_change_5 : decode b_MM_change 5 = .ok (.aload_n 0, 1) := by decide +kernel
theorem d_MM_change_6 : decode b_MM_change 6 = .ok (.getfield 73, 3) := by decide +kernel
theorem d_MM_change_9 : decode b_MM_change 9 = .ok (.if_icmp .lt 5, 3) := by decide +kernel
theorem d_MM_change_12 : decode b_MM_change 12 = .ok (.iconst 0, 1) := by decide +kernel
theorem d_MM_change_13 : decode b_MM_change 13 = .ok (.ireturn, 1) := by decide +kernel
theorem d_MM_change_14 : decode b_MM_change 14 = .ok (.aload_n 0, 1) := by decide +kernel
theorem d_MM_change_15 : decode b_MM_change 15 = .ok (.iload_n 1, 1) := by decide +kernel
theorem d_MM_change_16 : decode b_MM_change 16 = .ok (.invokevirtual 220, 3) := by decide +kernel
theorem d_MM_change_19 : decode b_MM_change 19 = .ok (.istore_n 2, 1) := by decide +kernel
theorem d_MM_change_20 : decode b_MM_change 20 = .ok (.iconst 0, 1) := by decide +kernel
theorem d_MM_change_21 : decode b_MM_change 21 = .ok (.istore_n 3, 1) := by decide +kernel
theorem d_MM_change_22 : decode b_MM_change 22 = .ok (.iload_n 3, 1) := by decide +kernel
theorem d_MM_change_23 : decode b_MM_change 23 = .ok (.iconst 4, 1) := by decide +kernel
theorem d_MM_change_24 : decode b_MM_change 24 = .ok (.if_icmp .ge 29, 3) := by decide +kernel
theorem d_MM_change_27 : decode b_MM_change 27 = .ok (.aload_n 0, 1) := by decide +kernel
theorem d_MM_change_28 : decode b_MM_change 28 = .ok (.getfield 35, 3) := by decide +kernel
theorem d_MM_change_31 : decode b_MM_change 31 = .ok (.iload_n 3, 1) := by decide +kernel
theorem d_MM_change_32 : decode b_MM_change 32 = .ok (.aload_n 0, 1) := by decide +kernel
theorem d_MM_change_33 : decode b_MM_change 33 = .ok (.getfield 23, 3) := by decide +kernel
theorem d_MM_change_36 : decode b_MM_change 36 = .ok (.iconst 4, 1) := by decide +kernel
theorem d_MM_change_37 : decode b_MM_change 37 = .ok (.iload_n 1, 1) := by decide +kernel
theorem d_MM_change_38 : decode b_MM_change 38 = .ok (.imul, 1) := by decide +kernel
theorem d_MM_change_39 : decode b_MM_change 39 = .ok (.iload_n 2, 1) := by decide +kernel
theorem d_MM_change_40 : decode b_MM_change 40 = .ok (.iload_n 3, 1) := by decide +kernel
theorem d_MM_change_41 : decode b_MM_change 41 = .ok (.iadd, 1) := by decide +kernel
theorem d_MM_change_42 : decode b_MM_change 42 = .ok (.iconst 4, 1) := by decide +kernel
theorem d_MM_change_43 : decode b_MM_change 43 = .ok (.irem, 1) := by decide +kernel
theorem d_MM_change_44 : decode b_MM_change 44 = .ok (.iadd, 1) := by decide +kernel
theorem d_MM_change_45 : decode b_MM_change 45 = .ok (.iaload, 1) := by decide +kernel
theorem d_MM_change_46 : decode b_MM_change 46 = .ok (.iastore, 1) := by decide +kernel
theorem d_MM_change_47 : decode b_MM_change 47 = .ok (.iinc 3 1, 3) := by decide +kernel
theorem d_MM_change_50 : decode b_MM_change 50 = .ok (.goto (-28), 3) := by decide +kernel
theorem d_MM_change_53 : decode b_MM_change 53 = .ok (.iconst 0, 1) := by decide +kernel
theorem d_MM_change_54 : decode b_MM_change 54 = .ok (.istore_n 3, 1) := by decide +kernel
theorem d_MM_change_55 : decode b_MM_change 55 = .ok (.iload_n 3, 1) := by decide +kernel
theorem d_MM_change_56 : decode b_MM_change 56 = .ok (.iconst 4, 1) := by decide +kernel
theorem d_MM_change_57 : decode b_MM_change 57 = .ok (.if_icmp .ge 25, 3) := by decide +kernel
theorem d_MM_change_60 : decode b_MM_change 60 = .ok (.aload_n 0, 1) := by decide +kernel
theorem d_MM_change_61 : decode b_MM_change 61 = .ok (.getfield 23, 3) := by decide +kernel
theorem d_MM_change_64 : decode b_MM_change 64 = .ok (.iconst 4, 1) := by decide +kernel
theorem d_MM_change_65 : decode b_MM_change 65 = .ok (.iload_n 1, 1) := by decide +kernel
theorem d_MM_change_66 : decode b_MM_change 66 = .ok (.imul, 1) := by decide +kernel
theorem d_MM_change_67 : decode b_MM_change 67 = .ok (.iload_n 3, 1) := by decide +kernel
theorem d_MM_change_68 : decode b_MM_change 68 = .ok (.iadd, 1) := by decide +kernel
theorem d_MM_change_69 : decode b_MM_change 69 = .ok (.aload_n 0, 1) := by decide +kernel
theorem d_MM_change_70 : decode b_MM_change 70 = .ok (.getfield 35, 3) := by decide +kernel
theorem d_MM_change_73 : decode b_MM_change 73 = .ok (.iload_n 3, 1) := by decide +kernel
theorem d_MM_change_74 : decode b_MM_change 74 = .ok (.iaload, 1) := by decide +kernel
theorem d_MM_change_75 : decode b_MM_change 75 = .ok (.iastore, 1) := by decide +kernel
theorem d_MM_change_76 : decode b_MM_change 76 = .ok (.iinc 3 1, 3) := by decide +kernel
theorem d_MM_change_79 : decode b_MM_change 79 = .ok (.goto (-24), 3) := by decide +kernel
theorem d_MM_change_82 : decode b_MM_change 82 = .ok (.aload_n 0, 1) := by decide +kernel
theorem d_MM_change_83 : decode b_MM_change 83 = .ok (.getfield 20, 3) := by decide +kernel
theorem d_MM_change_86 : decode b_MM_change 86 = .ok (.iload_n 1, 1) := by decide +kernel
theorem d_MM_change_87 : decode b_MM_change 87 = .ok (.aload_n 0, 1) := by decide +kernel
theorem d_MM_change_88 : decode b_MM_change 88 = .ok (.getfield 20, 3) := by decide +kernel
theorem d_MM_change_91 : decode b_MM_change 91 = .ok (.iload_n 1, 1) := by decide +kernel
theorem d_MM_change_92 : decode b_MM_change 92 = .ok (.iaload, 1) := by decide +kernel
theorem d_MM_change_93 : decode b_MM_change 93 = .ok (.ineg, 1) := by decide +kernel
theorem d_MM_change_94 : decode b_MM_change 94 = .ok (.iastore, 1) := by decide +kernel
theorem d_MM_change_95 : decode b_MM_change 95 = .ok (.aload_n 0, 1) := by decide +kernel
theorem d_MM_change_96 : decode b_MM_change 96 = .ok (.iconst 0, 1) := by decide +kernel
theorem d_MM_change_97 : decode b_MM_change 97 = .ok (.putfield 141, 3) := by decide +kernel
theorem d_MM_change_100 : decode b_MM_change 100 = .ok (.iconst 1, 1) := by decide +kernel
theorem d_MM_change_101 : decode b_MM_change 101 = .ok (.ireturn, 1) := by decide +kernel
theorem d_MM_rename_0 : decode b_MM_rename 0 = .ok (.iconst 0, 1) := by decide +kernel
theorem d_MM_rename_1 : decode b_MM_rename 1 = .ok (.istore_n 3, 1) := by decide +kernel
theorem d_MM_rename_2 : decode b_MM_rename 2 = .ok (.iload_n 3, 1) := by decide +kernel
theorem d_MM_rename_3 : decode b_MM_rename 3 = .ok (.iconst 4, 1) := by decide +kernel
theorem d_MM_rename_4 : decode b_MM_rename 4 = .ok (.aload_n 0, 1) := by decide +kernel
theorem d_MM_rename_5 : decode b_MM_rename 5 = .ok (.getfield 73, 3) := by decide +kernel
theorem d_MM_rename_8 : decode b_MM_rename 8 = .ok (.imul, 1) := by decide +kernel
theorem d_MM_rename_9 : decode b_MM_rename 9 = .ok (.if_icmp .ge 35, 3) := by decide +kernel
theorem d_MM_rename_12 : decode b_MM_rename 12 = .ok (.aload_n 0, 1) := by decide +kernel
theorem d_MM_rename_13 : decode b_MM_rename 13 = .ok (.getfield 23, 3) := by decide +kernel
theorem d_MM_rename_16 : decode b_MM_rename 16 = .ok (.iload_n 3, 1) := by decide +kernel
theorem d_MM_rename_17 : decode b_MM_rename 17 = .ok (.aload_n 0, 1) := by decide +kernel
theorem d_MM_rename_18 : decode b_MM_rename 18 = .ok (.getfield 23, 3) := by decide +kernel
theorem d_MM_rename_21 : decode b_MM_rename 21 = .ok (.iload_n 3, 1) := by decide +kernel
theorem d_MM_rename_22 : decode b_MM_rename 22 = .ok (.iaload, 1) := by decide +kernel
theorem d_MM_rename_23 : decode b_MM_rename 23 = .ok (.iload_n 1, 1) := by decide +kernel
theorem d_MM_rename_24 : decode b_MM_rename 24 = .ok (.if_icmp .ne 7, 3) := by decide +kernel
theorem d_MM_rename_27 : decode b_MM_rename 27 = .ok (.iload_n 2, 1) := by decide +kernel
theorem d_MM_rename_28 : decode b_MM_rename 28 = .ok (.goto 9, 3) := by decide +kernel
theorem d_MM_rename_31 : decode b_MM_rename 31 = .ok (.aload_n 0, 1) := by decide +kernel
theorem d_MM_rename_32 : decode b_MM_rename 32 = .ok (.getfield 23, 3) := by decide +kernel
theorem d_MM_rename_35 : decode b_MM_rename 35 = .ok (.iload_n 3, 1) := by decide +kernel
theorem d_MM_rename_36 : decode b_MM_rename 36 = .ok (.iaload, 1) := by decide +kernel
theorem d_MM_rename_37 : decode b_MM_rename 37 = .ok (.iastore, 1) := by decide +kernel
theorem d_MM_rename_38 : decode b_MM_rename 38 = .ok (.iinc 3 1, 3) := by decide +kernel
theorem d_MM_rename_41 : decode b_MM_rename 41 = .ok (.goto (-39), 3) := by decide +kernel
theorem d_MM_rename_44 : decode b_MM_rename 44 = .ok (.iconst 0, 1) := by decide +kernel
theorem d_MM_rename_45 : decode b_MM_rename 45 = .ok (.istore_n 3, 1) := by decide +kernel
theorem d_MM_rename_46 : decode b_MM_rename 46 = .ok (.iload_n 3, 1) := by decide +kernel
theorem d_MM_rename_47 : decode b_MM_rename 47 = .ok (.iconst 4, 1) := by decide +kernel
theorem d_MM_rename_48 : decode b_MM_rename 48 = .ok (.if_icmp .ge 35, 3) := by decide +kernel
theorem d_MM_rename_51 : decode b_MM_rename 51 = .ok (.aload_n 0, 1) := by decide +kernel
theorem d_MM_rename_52 : decode b_MM_rename 52 = .ok (.getfield 35, 3) := by decide +kernel
theorem d_MM_rename_55 : decode b_MM_rename 55 = .ok (.iload_n 3, 1) := by decide +kernel
theorem d_MM_rename_56 : decode b_MM_rename 56 = .ok (.aload_n 0, 1) := by decide +kernel
theorem d_MM_rename_57 : decode b_MM_rename 57 = .ok (.getfield 35, 3) := by decide +kernel
theorem d_MM_rename_60 : decode b_MM_rename 60 = .ok (.iload_n 3, 1) := by decide +kernel
theorem d_MM_rename_61 : decode b_MM_rename 61 = .ok (.iaload, 1) := by decide +kernel
theorem d_MM_rename_62 : decode b_MM_rename 62 = .ok (.iload_n 1, 1) := by decide +kernel
theorem d_MM_rename_63 : decode b_MM_rename 63 = .ok (.if_icmp .ne 7, 3) := by decide +kernel
theorem d_MM_rename_66 : decode b_MM_rename 66 = .ok (.iload_n 2, 1) := by decide +kernel
theorem d_MM_rename_67 : decode b_MM_rename 67 = .ok (.goto 9, 3) := by decide +kernel
theorem d_MM_rename_70 : decode b_MM_rename 70 = .ok (.aload_n 0, 1) := by decide +kernel
theorem d_MM_rename_71 : decode b_MM_rename 71 = .ok (.getfield 35, 3) := by decide +kernel
theorem d_MM_rename_74 : decode b_MM_rename 74 = .ok (.iload_n 3, 1) := by decide +kernel
theorem d_MM_rename_75 : decode b_MM_rename 75 = .ok (.iaload, 1) := by decide +kernel
theorem d_MM_rename_76 : decode b_MM_rename 76 = .ok (.iastore, 1) := by decide +kernel
theorem d_MM_rename_77 : decode b_MM_rename 77 = .ok (.iinc 3 1, 3) := by decide +kernel
theorem d_MM_rename_80 : decode b_MM_rename 80 = .ok (.goto (-34), 3) := by decide +kernel
theorem d_MM_rename_83 : decode b_MM_rename 83 = .ok (.return_, 1) := by decide +kernel
theorem d_MM_join_0 : decode b_MM_join 0 = .ok (.iload_n 1, 1) := by decide +kernel
theorem d_MM_join_1 : decode b_MM_join 1 = .ok (.iload_n 2, 1) := by decide +kernel
theorem d_MM_join_2 : decode b_MM_join 2 = .ok (.if_icmp .ne 16, 3) := by decide +kernel
theorem d_MM_join_5 : decode b_MM_join 5 = .ok (.aload_n 0, 1) := by decide +kernel
theorem d_MM_join_6 : decode b_MM_join 6 = .ok (.dup, 1) := by decide +kernel
theorem d_MM_join_7 : decode b_MM_join 7 = .ok (.getfield 109, 3) := by decide +kernel
theorem d_MM_join_10 : decode b_MM_join 10 = .ok (.iconst 1, 1) := by decide +kernel
theorem d_MM_join_11 : decode b_MM_join 11 = .ok (.iadd, 1) := by decide +kernel
theorem d_MM_join_12 : decode b_MM_join 12 = .ok (.putfield 109, 3) := by decide +kernel
theorem d_MM_join_15 : decode b_MM_join 15 = .ok (.goto 27, 3) := by decide +kernel
theorem d_MM_join_18 : decode b_MM_join 18 = .ok (.aload_n 0, 1) := by decide +kernel
theorem d_MM_join_19 : decode b_MM_join 19 = .ok (.iload_n 1, 1) := by decide +kernel
theorem d_MM_join_20 : decode b_MM_join 20 = .ok (.iload_n 2, 1) := by decide +kernel
theorem d_MM_join_21 : decode b_MM_join 21 = .ok (.if_icmp .ge 7, 3) := by decide +kernel
theorem d_MM_join_24 : decode b_MM_join 24 = .ok (.iload_n 2, 1) := by decide +kernel
theorem d_MM_join_25 : decode b_MM_join 25 = .ok (.goto 4, 3) := by decide +kernel
theorem d_MM_join_28 : decode b_MM_join 28 = .ok (.iload_n 1, 1) := by decide +kernel
theorem d_MM_join_29 : decode b_MM_join 29 = .ok (.iload_n 1, 1) := by decide +kernel
theorem d_MM_join_30 : decode b_MM_join 30 = .ok (.iload_n 2, 1) := by decide +kernel
theorem d_MM_join_31 : decode b_MM_join 31 = .ok (.if_icmp .ge 7, 3) := by decide +kernel
theorem d_MM_join_34 : decode b_MM_join 34 = .ok (.iload_n 1, 1) := by decide +kernel
theorem d_MM_join_35 : decode b_MM_join 35 = .ok (.goto 4, 3) := by decide +kernel
theorem d_MM_join_38 : decode b_MM_join 38 = .ok (.iload_n 2, 1) := by decide +kernel
theorem d_MM_join_39 : decode b_MM_join 39 = .ok (.invokevirtual 223, 3) := by decide +kernel
theorem d_MM_join_42 : decode b_MM_join 42 = .ok (.return_, 1) := by decide +kernel
theorem d_MM_smooth_0 : decode b_MM_smooth 0 = .ok (.iload_n 1, 1) := by decide +kernel
theorem d_MM_smooth_1 : decode b_MM_smooth 1 = .ok (.ifCond .lt 11, 3) := by decide +kernel
theorem d_MM_smooth_4 : decode b_MM_smooth 4 = .ok (.iload_n 1, 1) := by decide +kernel
theorem d_MM_smooth_5 : decode b_MM_smooth 5 = .ok (.aload_n 0, 1) := by decide +kernel
theorem d_MM_smooth_6 : decode b_MM_smooth 6 = .ok (.getfield 73, 3) := by decide +kernel
theorem d_MM_smooth_9 : decode b_MM_smooth 9 = .ok (.if_icmp .lt 5, 3) := by decide +kernel
theorem d_MM_smooth_12 : decode b_MM_smooth 12 = .ok (.iconst 0, 1) := by decide +kernel
theorem d_MM_smooth_13 : decode b_MM_smooth 13 = .ok (.ireturn, 1) := by decide +kernel
theorem d_MM_smooth_14 : decode b_MM_smooth 14 = .ok (.aload_n 0, 1) := by decide +kernel
theorem d_MM_smooth_15 : decode b_MM_smooth 15 = .ok (.iload_n 1, 1) := by decide +kernel
theorem d_MM_smooth_16 : decode b_MM_smooth 16 = .ok (.invokevirtual 220, 3) := by decide +kernel
theorem d_MM_smooth_19 : decode b_MM_smooth 19 = .ok (.istore_n 2, 1) := by decide +kernel
theorem d_MM_smooth_20 : decode b_MM_smooth 20 = .ok (.aload_n 0, 1) := by decide +kernel
theorem d_MM_smooth_21 : decode b_MM_smooth 21 = .ok (.getfield 23, 3) := by decide +kernel
theorem d_MM_smooth_24 : decode b_MM_smooth 24 = .ok (.iconst 4, 1) := by decide +kernel
theorem d_MM_smooth_25 : decode b_MM_smooth 25 = .ok (.iload_n 1, 1) := by decide +kernel
theorem d_MM_smooth_26 : decode b_MM_smooth 26 = .ok (.imul, 1) := by decide +kernel
theorem d_MM_smooth_27 : decode b_MM_smooth 27 = .ok (.iaload, 1) := by decide +kernel
theorem d_MM_smooth_28 : decode b_MM_smooth 28 = .ok (.istore_n 3, 1) := by decide +kernel
theorem d_MM_smooth_29 : decode b_MM_smooth 29 = .ok (.aload_n 0, 1) := by decide +kernel
theorem d_MM_smooth_30 : decode b_MM_smooth 30 = .ok (.getfield 23, 3) := by decide +kernel
theorem d_MM_smooth_33 : decode b_MM_smooth 33 = .ok (.iconst 4, 1) := by decide +kernel
theorem d_MM_smooth_34 : decode b_MM_smooth 34 = .ok (.iload_n 1, 1) := by decide +kernel
theorem d_MM_smooth_35 : decode b_MM_smooth 35 = .ok (.imul, 1) := by decide +kernel
theorem d_MM_smooth_36 : decode b_MM_smooth 36 = .ok (.iload_n 2, 1) := by decide +kernel
theorem d_MM_smooth_37 : decode b_MM_smooth 37 = .ok (.iconst 2, 1) := by decide +kernel
theorem d_MM_smooth_38 : decode b_MM_smooth 38 = .ok (.iadd, 1) := by decide +kernel
theorem d_MM_smooth_39 : decode b_MM_smooth 39 = .ok (.iconst 4, 1) := by decide +kernel
theorem d_MM_smooth_40 : decode b_MM_smooth 40 = .ok (.irem, 1) := by decide +kernel
theorem d_MM_smooth_41 : decode b_MM_smooth 41 = .ok (.iadd, 1) := by decide +kernel
theorem d_MM_smooth_42 : decode b_MM_smooth 42 = .ok (.iaload, 1) := by decide +kernel
theorem d_MM_smooth_43 : decode b_MM_smooth 43 = .ok (.istore 4, 2) := by decide +kernel
theorem d_MM_smooth_45 : decode b_MM_smooth 45 = .ok (.aload_n 0, 1) := by decide +kernel
theorem d_MM_smooth_46 : decode b_MM_smooth 46 = .ok (.getfield 23, 3) := by decide +kernel
theorem d_MM_smooth_49 : decode b_MM_smooth 49 = .ok (.iconst 4, 1) := by decide +kernel
theorem d_MM_smooth_50 : decode b_MM_smooth 50 = .ok (.iload_n 1, 1) := by decide +kernel
theorem d_MM_smooth_51 : decode b_MM_smooth 51 = .ok (.imul, 1) := by decide +kernel
theorem d_MM_smooth_52 : decode b_MM_smooth 52 = .ok (.iload_n 2, 1) := by decide +kernel
theorem d_MM_smooth_53 : decode b_MM_smooth 53 = .ok (.iadd, 1) := by decide +kernel
theorem d_MM_smooth_54 : decode b_MM_smooth 54 = .ok (.iaload, 1) := by decide +kernel
theorem d_MM_smooth_55 : decode b_MM_smooth 55 = .ok (.istore 5, 2) := by decide +kernel
theorem d_MM_smooth_57 : decode b_MM_smooth 57 = .ok (.aload_n 0, 1) := by decide +kernel
theorem d_MM_smooth_58 : decode b_MM_smooth 58 = .ok (.getfield 23, 3) := by decide +kernel
theorem d_MM_smooth_61 : decode b_MM_smooth 61 = .ok (.iconst 4, 1) := by decide +kernel
theorem d_MM_smooth_62 : decode b_MM_smooth 62 = .ok (.iload_n 1, 1) := by decide +kernel
theorem d_MM_smooth_63 : decode b_MM_smooth 63 = .ok (.imul, 1) := by decide +kernel
theorem d_MM_smooth_64 : decode b_MM_smooth 64 = .ok (.iconst 2, 1) := by decide +kernel
theorem d_MM_smooth_65 : decode b_MM_smooth 65 = .ok (.iadd, 1) := by decide +kernel
theorem d_MM_smooth_66 : decode b_MM_smooth 66 = .ok (.iaload, 1) := by decide +kernel
theorem d_MM_smooth_67 : decode b_MM_smooth 67 = .ok (.istore 6, 2) := by decide +kernel
theorem d_MM_smooth_69 : decode b_MM_smooth 69 = .ok (.iload_n 3, 1) := by decide +kernel
theorem d_MM_smooth_70 : decode b_MM_smooth 70 = .ok (.iload 4, 2) := by decide +kernel
theorem d_MM_smooth_72 : decode b_MM_smooth 72 = .ok (.if_icmp .ne 7, 3) := by decide +kernel
theorem d_MM_smooth_75 : decode b_MM_smooth 75 = .ok (.iconst 1, 1) := by decide +kernel
theorem d_MM_smooth_76 : decode b_MM_smooth 76 = .ok (.goto 4, 3) := by decide +kernel
theorem d_MM_smooth_79 : decode b_MM_smooth 79 = .ok (.iconst 0, 1) := by decide +kernel
theorem d_MM_smooth_80 : decode b_MM_smooth 80 = .ok (.iload 5, 2) := by decide +kernel
theorem d_MM_smooth_82 : decode b_MM_smooth 82 = .ok (.iload 6, 2) := by decide +kernel
theorem d_MM_smooth_84 : decode b_MM_smooth 84 = .ok (.if_icmp .ne 7, 3) := by decide +kernel
theorem d_MM_smooth_87 : decode b_MM_smooth 87 = .ok (.iconst 1, 1) := by decide +kernel
theorem d_MM_smooth_88 : decode b_MM_smooth 88 = .ok (.goto 4, 3) := by decide +kernel
theorem d_MM_smooth_91 : decode b_MM_smooth 91 = .ok (.iconst 0, 1) := by decide +kernel
theorem d_MM_smooth_92 : decode b_MM_smooth 92 = .ok (.iadd, 1) := by decide +kernel
theorem d_MM_smooth_93 : decode b_MM_smooth 93 = .ok (.istore 7, 2) := by decide +kernel
theorem d_MM_smooth_95 : decode b_MM_smooth 95 = .ok (.iload 7, 2) := by decide +kernel
theorem d_MM_smooth_97 : decode b_MM_smooth 97 = .ok (.ifCond .ne 19, 3) := by decide +kernel
theorem d_MM_smooth_100 : decode b_MM_smooth 100 = .ok (.iload_n 3, 1) := by decide +kernel
theorem d_MM_smooth_101 : decode b_MM_smooth 101 = .ok (.iload 6, 2) := by decide +kernel
theorem d_MM_smooth_103 : decode b_MM_smooth 103 = .ok (.if_icmp .ne 13, 3) := by decide +kernel
theorem d_MM_smooth_106 : decode b_MM_smooth 106 = .ok (.iload 5, 2) := by decide +kernel
theorem d_MM_smooth_108 : decode b_MM_smooth 108 = .ok (.iload 4, 2) := by decide +kernel
theorem d_MM_smooth_110 : decode b_MM_smooth 110 = .ok (.if_icmp .ne 6, 3) := by decide +kernel
theorem d_MM_smooth_113 : decode b_MM_smooth 113 = .ok (.iconst 1, 1) := by decide +kernel
theorem d_MM_smooth_114 : decode b_MM_smooth 114 = .ok (.istore 7, 2) := by decide +kernel
theorem d_MM_smooth_116 : decode b_MM_smooth 116 = .ok (.aload_n 0, 1) := by decide +kernel
theorem d_MM_smooth_117 : decode b_MM_smooth 117 = .ok (.getfield 109, 3) := by decide +kernel
theorem d_MM_smooth_120 : decode b_MM_smooth 120 = .ok (.iload 7, 2) := by decide +kernel
theorem d_MM_smooth_122 : decode b_MM_smooth 122 = .ok (.iadd, 1) := by decide +kernel
theorem d_MM_smooth_123 : decode b_MM_smooth 123 = .ok (.bipush 9, 2) := by decide +kernel
theorem d_MM_smooth_125 : decode b_MM_smooth 125 = .ok (.if_icmp .le 5, 3) := by decide +kernel
theorem d_MM_smooth_128 : decode b_MM_smooth 128 = .ok (.iconst 0, 1) := by decide +kernel
theorem d_MM_smooth_129 : decode b_MM_smooth 129 = .ok (.ireturn, 1) := by decide +kernel
theorem d_MM_smooth_130 : decode b_MM_smooth 130 = .ok (.aload_n 0, 1) := by decide +kernel
theorem d_MM_smooth_131 : decode b_MM_smooth 131 = .ok (.getfield 35, 3) := by decide +kernel
theorem d_MM_smooth_134 : decode b_MM_smooth 134 = .ok (.iconst 0, 1) := by decide +kernel
theorem d_MM_smooth_135 : decode b_MM_smooth 135 = .ok (.iload_n 3, 1) := by decide +kernel
theorem d_MM_smooth_136 : decode b_MM_smooth 136 = .ok (.iastore, 1) := by decide +kernel
theorem d_MM_smooth_137 : decode b_MM_smooth 137 = .ok (.aload_n 0, 1) := by decide +kernel
theorem d_MM_smooth_138 : decode b_MM_smooth 138 = .ok (.getfield 35, 3) := by decide +kernel
theorem d_MM_smooth_141 : decode b_MM_smooth 141 = .ok (.iconst 1, 1) := by decide +kernel
theorem d_MM_smooth_142 : decode b_MM_smooth 142 = .ok (.iload 4, 2) := by decide +kernel
theorem d_MM_smooth_144 : decode b_MM_smooth 144 = .ok (.iastore, 1) := by decide +kernel
theorem d_MM_smooth_145 : decode b_MM_smooth 145 = .ok (.aload_n 0, 1) := by decide +kernel
theorem d_MM_smooth_146 : decode b_MM_smooth 146 = .ok (.getfield 35, 3) := by decide +kernel
theorem d_MM_smooth_149 : decode b_MM_smooth 149 = .ok (.iconst 2, 1) := by decide +kernel
theorem d_MM_smooth_150 : decode b_MM_smooth 150 = .ok (.iload 5, 2) := by decide +kernel
theorem d_MM_smooth_152 : decode b_MM_smooth 152 = .ok (.iastore, 1) := by decide +kernel
theorem d_MM_smooth_153 : decode b_MM_smooth 153 = .ok (.aload_n 0, 1) := by decide +kernel
theorem d_MM_smooth_154 : decode b_MM_smooth 154 = .ok (.getfield 35, 3) := by decide +kernel
theorem d_MM_smooth_157 : decode b_MM_smooth 157 = .ok (.iconst 3, 1) := by decide +kernel
theorem d_MM_smooth_158 : decode b_MM_smooth 158 = .ok (.iload 6, 2) := by decide +kernel
theorem d_MM_smooth_160 : decode b_MM_smooth 160 = .ok (.iastore, 1) := by decide +kernel
theorem d_MM_smooth_161 : decode b_MM_smooth 161 = .ok (.aload_n 0, 1) := by decide +kernel
theorem d_MM_smooth_162 : decode b_MM_smooth 162 = .ok (.dup, 1) := by decide +kernel
theorem d_MM_smooth_163 : decode b_MM_smooth 163 = .ok (.getfield 73, 3) := by decide +kernel
theorem d_MM_smooth_166 : decode b_MM_smooth 166 = .ok (.iconst 1, 1) := by decide +kernel
theorem d_MM_smooth_167 : decode b_MM_smooth 167 = .ok (.isub, 1) := by decide +kernel
theorem d_MM_smooth_168 : decode b_MM_smooth 168 = .ok (.putfield 73, 3) := by decide +kernel
theorem d_MM_smooth_171 : decode b_MM_smooth 171 = .ok (.iload_n 1, 1) := by decide +kernel
theorem d_MM_smooth_172 : decode b_MM_smooth 172 = .ok (.istore 8, 2) := by decide +kernel
theorem d_MM_smooth_174 : decode b_MM_smooth 174 = .ok (.iload 8, 2) := by decide +kernel
theorem d_MM_smooth_176 : decode b_MM_smooth 176 = .ok (.aload_n 0, 1) := by decide +kernel
theorem d_MM_smooth_177 : decode b_MM_smooth 177 = .ok (.getfield 73, 3) := by decide +kernel
theorem d_MM_smooth_180 : decode b_MM_smooth 180 = .ok (.if_icmp .ge 66, 3) := by decide +kernel
theorem d_MM_smooth_183 : decode b_MM_smooth 183 = .ok (.aload_n 0, 1) := by decide +kernel
theorem d_MM_smooth_184 : decode b_MM_smooth 184 = .ok (.getfield 20, 3) := by decide +kernel
theorem d_MM_smooth_187 : decode b_MM_smooth 187 = .ok (.iload 8, 2) := by decide +kernel
theorem d_MM_smooth_189 : decode b_MM_smooth 189 = .ok (.aload_n 0, 1) := by decide +kernel
theorem d_MM_smooth_190 : decode b_MM_smooth 190 = .ok (.getfield 20, 3) := by decide +kernel
theorem d_MM_smooth_193 : decode b_MM_smooth 193 = .ok (.iload 8, 2) := by decide +kernel
theorem d_MM_smooth_195 : decode b_MM_smooth 195 = .ok (.iconst 1, 1) := by decide +kernel
theorem d_MM_smooth_196 : decode b_MM_smooth 196 = .ok (.iadd, 1) := by decide +kernel
theorem d_MM_smooth_197 : decode b_MM_smooth 197 = .ok (.iaload, 1) := by decide +kernel
theorem d_MM_smooth_198 : decode b_MM_smooth 198 = .ok (.iastore, 1) := by decide +kernel
theorem d_MM_smooth_199 : decode b_MM_smooth 199 = .ok (.iconst 0, 1) := by decide +kernel
theorem d_MM_smooth_200 : decode b_MM_smooth 200 = .ok (.istore 9, 2) := by decide +kernel
theorem d_MM_smooth_202 : decode b_MM_smooth 202 = .ok (.iload 9, 2) := by decide +kernel
theorem d_MM_smooth_204 : decode b_MM_smooth 204 = .ok (.iconst 4, 1) := by decide +kernel
theorem d_MM_smooth_205 : decode b_MM_smooth 205 = .ok (.if_icmp .ge 35, 3) := by decide +kernel
theorem d_MM_smooth_208 : decode b_MM_smooth 208 = .ok (.aload_n 0, 1) := by decide +kernel
theorem d_MM_smooth_209 : decode b_MM_smooth 209 = .ok (.getfield 23, 3) := by decide +kernel
theorem d_MM_smooth_212 : decode b_MM_smooth 212 = .ok (.iconst 4, 1) := by decide +kernel
theorem d_MM_smooth_213 : decode b_MM_smooth 213 = .ok (.iload 8, 2) := by decide +kernel
theorem d_MM_smooth_215 : decode b_MM_smooth 215 = .ok (.imul, 1) := by decide +kernel
theorem d_MM_smooth_216 : decode b_MM_smooth 216 = .ok (.iload 9, 2) := by decide +kernel
theorem d_MM_smooth_218 : decode b_MM_smooth 218 = .ok (.iadd, 1) := by decide +kernel
theorem d_MM_smooth_219 : decode b_MM_smooth 219 = .ok (.aload_n 0, 1) := by decide +kernel
theorem d_MM_smooth_220 : decode b_MM_smooth 220 = .ok (.getfield 23, 3) := by decide +kernel
theorem d_MM_smooth_223 : decode b_MM_smooth 223 = .ok (.iconst 4, 1) := by decide +kernel
theorem d_MM_smooth_224 : decode b_MM_smooth 224 = .ok (.iload 8, 2) := by decide +kernel
theorem d_MM_smooth_226 : decode b_MM_smooth 226 = .ok (.imul, 1) := by decide +kernel
theorem d_MM_smooth_227 : decode b_MM_smooth 227 = .ok (.iconst 4, 1) := by decide +kernel
theorem d_MM_smooth_228 : decode b_MM_smooth 228 = .ok (.iadd, 1) := by decide +kernel
theorem d_MM_smooth_229 : decode b_MM_smooth 229 = .ok (.iload 9, 2) := by decide +kernel
theorem d_MM_smooth_231 : decode b_MM_smooth 231 = .ok (.iadd, 1) := by decide +kernel
theorem d_MM_smooth_232 : decode b_MM_smooth 232 = .ok (.iaload, 1) := by decide +kernel
theorem d_MM_smooth_233 : decode b_MM_smooth 233 = .ok (.iastore, 1) := by decide +kernel
theorem d_MM_smooth_234 : decode b_MM_smooth 234 = .ok (.iinc 9 1, 3) := by decide +kernel
theorem d_MM_smooth_237 : decode b_MM_smooth 237 = .ok (.goto (-35), 3) := by decide +kernel
theorem d_MM_smooth_240 : decode b_MM_smooth 240 = .ok (.iinc 8 1, 3) := by decide +kernel
theorem d_MM_smooth_243 : decode b_MM_smooth 243 = .ok (.goto (-69), 3) := by decide +kernel
theorem d_MM_smooth_246 : decode b_MM_smooth 246 = .ok (.aload_n 0, 1) := by decide +kernel
theorem d_MM_smooth_247 : decode b_MM_smooth 247 = .ok (.aload_n 0, 1) := by decide +kernel
theorem d_MM_smooth_248 : decode b_MM_smooth 248 = .ok (.getfield 35, 3) := by decide +kernel
theorem d_MM_smooth_251 : decode b_MM_smooth 251 = .ok (.iconst 0, 1) := by decide +kernel
theorem d_MM_smooth_252 : decode b_MM_smooth 252 = .ok (.iaload, 1) := by decide +kernel
theorem d_MM_smooth_253 : decode b_MM_smooth 253 = .ok (.aload_n 0, 1) := by decide +kernel
theorem d_MM_smooth_254 : decode b_MM_smooth 254 = .ok (.getfield 35, 3) := by decide +kernel
theorem d_MM_smooth_257 : decode b_MM_smooth 257 = .ok (.iconst 1, 1) := by decide +kernel
theorem d_MM_smooth_258 : decode b_MM_smooth 258 = .ok (.iaload, 1) := by decide +kernel
theorem d_MM_smooth_259 : decode b_MM_smooth 259 = .ok (.invokevirtual 227, 3) := by decide +kernel
theorem d_MM_smooth_262 : decode b_MM_smooth 262 = .ok (.aload_n 0, 1) := by decide +kernel
theorem d_MM_smooth_263 : decode b_MM_smooth 263 = .ok (.aload_n 0, 1) := by decide +kernel
theorem d_MM_smooth_264 : decode b_MM_smooth 264 = .ok (.getfield 35, 3) := by decide +kernel
theorem d_MM_smooth_267 : decode b_MM_smooth 267 = .ok (.iconst 2, 1) := by decide +kernel
theorem d_MM_smooth_268 : decode b_MM_smooth 268 = .ok (.iaload, 1) := by decide +kernel
theorem d_MM_smooth_269 : decode b_MM_smooth 269 = .ok (.aload_n 0, 1) := by decide +kernel
theorem d_MM_smooth_270 : decode b_MM_smooth 270 = .ok (.getfield 35, 3) := by decide +kernel
theorem d_MM_smooth_273 : decode b_MM_smooth 273 = .ok (.iconst 3, 1) := by decide +kernel
theorem d_MM_smooth_274 : decode b_MM_smooth 274 = .ok (.iaload, 1) := by decide +kernel
theorem d_MM_smooth_275 : decode b_MM_smooth 275 = .ok (.invokevirtual 227, 3) := by decide +kernel
theorem d_MM_smooth_278 : decode b_MM_smooth 278 = .ok (.aload_n 0, 1) := by decide +kernel
theorem d_MM_smooth_279 : decode b_MM_smooth 279 = .ok (.iconst 0, 1) := by decide +kernel
theorem d_MM_smooth_280 : decode b_MM_smooth 280 = .ok (.putfield 141, 3) := by decide +kernel
theorem d_MM_smooth_283 : decode b_MM_smooth 283 = .ok (.iconst 1, 1) := by decide +kernel
theorem d_MM_smooth_284 : decode b_MM_smooth 284 = .ok (.ireturn, 1) := by decide +kernel
