theorem d_AL_init_0 : decode b_AL_init 0 = .ok (.aload_n 0, 1) := by decide +kernel
theorem d_AL_init_1 : decode b_AL_init 1 = .ok (.invokespecial 3, 3) := by decide +kernel
theorem d_AL_init_4 : decode b_AL_init 4 = .ok (.aload_n 0, 1) := by decide +kernel
theorem d_AL_init_5 : decode b_AL_init 5 = .ok (.bipush 48, 2) := by decide +kernel
theorem d_AL_init_7 : decode b_AL_init 7 = .ok (.newarray .int, 2) := by decide +kernel
theorem d_AL_init_9 : decode b_AL_init 9 = .ok (.putfield 9, 3) := by decide +kernel
theorem d_AL_init_12 : decode b_AL_init 12 = .ok (.aload_n 0, 1) := by decide +kernel
theorem d_AL_init_13 : decode b_AL_init 13 = .ok (.bipush 48, 2) := by decide +kernel
theorem d_AL_init_15 : decode b_AL_init 15 = .ok (.newarray .int, 2) := by decide +kernel
theorem d_AL_init_17 : decode b_AL_init 17 = .ok (.putfield 15, 3) := by decide +kernel
theorem d_AL_init_20 : decode b_AL_init 20 = .ok (.aload_n 0, 1) := by decide +kernel
theorem d_AL_init_21 : decode b_AL_init 21 = .ok (.bipush 33, 2) := by decide +kernel
theorem d_AL_init_23 : decode b_AL_init 23 = .ok (.newarray .int, 2) := by decide +kernel
theorem d_AL_init_25 : decode b_AL_init 25 = .ok (.putfield 18, 3) := by decide +kernel
theorem d_AL_init_28 : decode b_AL_init 28 = .ok (.aload_n 0, 1) := by decide +kernel
theorem d_AL_init_29 : decode b_AL_init 29 = .ok (.iconst 0, 1) := by decide +kernel
theorem d_AL_init_30 : decode b_AL_init 30 = .ok (.putfield 21, 3) := by decide +kernel
theorem d_AL_init_33 : decode b_AL_init 33 = .ok (.aload_n 0, 1) := by decide +kernel
theorem d_AL_init_34 : decode b_AL_init 34 = .ok (.iconst 0, 1) := by decide +kernel
theorem d_AL_init_35 : decode b_AL_init 35 = .ok (.putfield 25, 3) := by decide +kernel
theorem d_AL_init_38 : decode b_AL_init 38 = .ok (.return_, 1) := by decide +kernel
theorem d_AL_read_0 : decode b_AL_read 0 = .ok (.aload_n 0, 1) := by decide +kernel
theorem d_AL_read_1 : decode b_AL_read 1 = .ok (.aload_n 1, 1) := by decide +kernel
theorem d_AL_read_2 : decode b_AL_read 2 = .ok (.invokevirtual 28, 3) := by decide +kernel
theorem d_AL_read_5 : decode b_AL_read 5 = .ok (.bipush 48, 2) := by decide +kernel
theorem d_AL_read_7 : decode b_AL_read 7 = .ok (.invokestatic 33, 3) := by decide +kernel
theorem d_AL_read_10 : decode b_AL_read 10 = .ok (.putfield 21, 3) := by decide +kernel
theorem d_AL_read_13 : decode b_AL_read 13 = .ok (.iconst 0, 1) := by decide +kernel
theorem d_AL_read_14 : decode b_AL_read 14 = .ok (.istore_n 3, 1) := by decide +kernel
theorem d_AL_read_15 : decode b_AL_read 15 = .ok (.iload_n 3, 1) := by decide +kernel
theorem d_AL_read_16 : decode b_AL_read 16 = .ok (.aload_n 0, 1) := by decide +kernel
theorem d_AL_read_17 : decode b_AL_read 17 = .ok (.getfield 21, 3) := by decide +kernel
theorem d_AL_read_20 : decode b_AL_read 20 = .ok (.if_icmp .ge 32, 3) := by decide +kernel
theorem d_AL_read_23 : decode b_AL_read 23 = .ok (.aload_n 0, 1) := by decide +kernel
theorem d_AL_read_24 : decode b_AL_read 24 = .ok (.getfield 9, 3) := by decide +kernel
theorem d_AL_read_27 : decode b_AL_read 27 = .ok (.iload_n 3, 1) := by decide +kernel
theorem d_AL_read_28 : decode b_AL_read 28 = .ok (.aload_n 1, 1) := by decide +kernel
theorem d_AL_read_29 : decode b_AL_read 29 = .ok (.iload_n 3, 1) := by decide +kernel
theorem d_AL_read_30 : decode b_AL_read 30 = .ok (.invokevirtual 39, 3) := by decide +kernel
theorem d_AL_read_33 : decode b_AL_read 33 = .ok (.iastore, 1) := by decide +kernel
theorem d_AL_read_34 : decode b_AL_read 34 = .ok (.aload_n 0, 1) := by decide +kernel
theorem d_AL_read_35 : decode b_AL_read 35 = .ok (.getfield 15, 3) := by decide +kernel
theorem d_AL_read_38 : decode b_AL_read 38 = .ok (.iload_n 3, 1) := by decide +kernel
theorem d_AL_read_39 : decode b_AL_read 39 = .ok (.aload_n 0, 1) := by decide +kernel
theorem d_AL_read_40 : decode b_AL_read 40 = .ok (.getfield 9, 3) := by decide +kernel
theorem d_AL_read_43 : decode b_AL_read 43 = .ok (.iload_n 3, 1) := by decide +kernel
theorem d_AL_read_44 : decode b_AL_read 44 = .ok (.iaload, 1) := by decide +kernel
theorem d_AL_read_45 : decode b_AL_read 45 = .ok (.iastore, 1) := by decide +kernel
theorem d_AL_read_46 : decode b_AL_read 46 = .ok (.iinc 3 1, 3) := by decide +kernel
theorem d_AL_read_49 : decode b_AL_read 49 = .ok (.goto (-34), 3) := by decide +kernel
theorem d_AL_read_52 : decode b_AL_read 52 = .ok (.iconst 0, 1) := by decide +kernel
theorem d_AL_read_53 : decode b_AL_read 53 = .ok (.istore_n 3, 1) := by decide +kernel
theorem d_AL_read_54 : decode b_AL_read 54 = .ok (.iload_n 3, 1) := by decide +kernel
theorem d_AL_read_55 : decode b_AL_read 55 = .ok (.aload_n 1, 1) := by decide +kernel
theorem d_AL_read_56 : decode b_AL_read 56 = .ok (.invokevirtual 43, 3) := by decide +kernel
theorem d_AL_read_59 : decode b_AL_read 59 = .ok (.if_icmp .ge 23, 3) := by decide +kernel
theorem d_AL_read_62 : decode b_AL_read 62 = .ok (.aload_n 0, 1) := by decide +kernel
theorem d_AL_read_63 : decode b_AL_read 63 = .ok (.aload_n 1, 1) := by decide +kernel
theorem d_AL_read_64 : decode b_AL_read 64 = .ok (.iload_n 3, 1) := by decide +kernel
theorem d_AL_read_65 : decode b_AL_read 65 = .ok (.invokevirtual 46, 3) := by decide +kernel
theorem d_AL_read_68 : decode b_AL_read 68 = .ok (.aload_n 1, 1) := by decide +kernel
theorem d_AL_read_69 : decode b_AL_read 69 = .ok (.iload_n 3, 1) := by decide +kernel
theorem d_AL_read_70 : decode b_AL_read 70 = .ok (.invokevirtual 49, 3) := by decide +kernel
theorem d_AL_read_73 : decode b_AL_read 73 = .ok (.invokevirtual 52, 3) := by decide +kernel
theorem d_AL_read_76 : decode b_AL_read 76 = .ok (.iinc 3 1, 3) := by decide +kernel
theorem d_AL_read_79 : decode b_AL_read 79 = .ok (.goto (-25), 3) := by decide +kernel
theorem d_AL_read_82 : decode b_AL_read 82 = .ok (.aload_n 0, 1) := by decide +kernel
theorem d_AL_read_83 : decode b_AL_read 83 = .ok (.iconst 0, 1) := by decide +kernel
theorem d_AL_read_84 : decode b_AL_read 84 = .ok (.putfield 25, 3) := by decide +kernel
theorem d_AL_read_87 : decode b_AL_read 87 = .ok (.iconst 0, 1) := by decide +kernel
theorem d_AL_read_88 : decode b_AL_read 88 = .ok (.istore_n 3, 1) := by decide +kernel
theorem d_AL_read_89 : decode b_AL_read 89 = .ok (.iload_n 3, 1) := by decide +kernel
theorem d_AL_read_90 : decode b_AL_read 90 = .ok (.aload_n 0, 1) := by decide +kernel
theorem d_AL_read_91 : decode b_AL_read 91 = .ok (.getfield 21, 3) := by decide +kernel
theorem d_AL_read_94 : decode b_AL_read 94 = .ok (.if_icmp .ge 19, 3) := by decide +kernel
theorem d_AL_read_97 : decode b_AL_read 97 = .ok (.aload_n 0, 1) := by decide +kernel
theorem d_AL_read_98 : decode b_AL_read 98 = .ok (.aload_n 0, 1) := by decide +kernel
theorem d_AL_read_99 : decode b_AL_read 99 = .ok (.getfield 15, 3) := by decide +kernel
theorem d_AL_read_102 : decode b_AL_read 102 = .ok (.iload_n 3, 1) := by decide +kernel
theorem d_AL_read_103 : decode b_AL_read 103 = .ok (.iaload, 1) := by decide +kernel
theorem d_AL_read_104 : decode b_AL_read 104 = .ok (.invokevirtual 56, 3) := by decide +kernel
theorem d_AL_read_107 : decode b_AL_read 107 = .ok (.iinc 3 1, 3) := by decide +kernel
theorem d_AL_read_110 : decode b_AL_read 110 = .ok (.goto (-21), 3) := by decide +kernel
theorem d_AL_read_113 : decode b_AL_read 113 = .ok (.iconst 0, 1) := by decide +kernel
theorem d_AL_read_114 : decode b_AL_read 114 = .ok (.istore_n 3, 1) := by decide +kernel
theorem d_AL_read_115 : decode b_AL_read 115 = .ok (.iload_n 3, 1) := by decide +kernel
theorem d_AL_read_116 : decode b_AL_read 116 = .ok (.iload_n 2, 1) := by decide +kernel
theorem d_AL_read_117 : decode b_AL_read 117 = .ok (.if_icmp .ge 38, 3) := by decide +kernel
theorem d_AL_read_120 : decode b_AL_read 120 = .ok (.aload_n 0, 1) := by decide +kernel
theorem d_AL_read_121 : decode b_AL_read 121 = .ok (.getfield 25, 3) := by decide +kernel
theorem d_AL_read_124 : decode b_AL_read 124 = .ok (.bipush 33, 2) := by decide +kernel
theorem d_AL_read_126 : decode b_AL_read 126 = .ok (.if_icmp .ge 29, 3) := by decide +kernel
theorem d_AL_read_129 : decode b_AL_read 129 = .ok (.aload_n 0, 1) := by decide +kernel
theorem d_AL_read_130 : decode b_AL_read 130 = .ok (.getfield 18, 3) := by decide +kernel
theorem d_AL_read_133 : decode b_AL_read 133 = .ok (.aload_n 0, 1) := by decide +kernel
theorem d_AL_read_134 : decode b_AL_read 134 = .ok (.getfield 25, 3) := by decide +kernel
theorem d_AL_read_137 : decode b_AL_read 137 = .ok (.iconst 0, 1) := by decide +kernel
theorem d_AL_read_138 : decode b_AL_read 138 = .ok (.iastore, 1) := by decide +kernel
theorem d_AL_read_139 : decode b_AL_read 139 = .ok (.aload_n 0, 1) := by decide +kernel
theorem d_AL_read_140 : decode b_AL_read 140 = .ok (.dup, 1) := by decide +kernel
theorem d_AL_read_141 : decode b_AL_read 141 = .ok (.getfield 25, 3) := by decide +kernel
theorem d_AL_read_144 : decode b_AL_read 144 = .ok (.iconst 1, 1) := by decide +kernel
theorem d_AL_read_145 : decode b_AL_read 145 = .ok (.iadd, 1) := by decide +kernel
theorem d_AL_read_146 : decode b_AL_read 146 = .ok (.putfield 25, 3) := by decide +kernel
theorem d_AL_read_149 : decode b_AL_read 149 = .ok (.iinc 3 1, 3) := by decide +kernel
theorem d_AL_read_152 : decode b_AL_read 152 = .ok (.goto (-37), 3) := by decide +kernel
theorem d_AL_read_155 : decode b_AL_read 155 = .ok (.return_, 1) := by decide +kernel
theorem d_AL_size_0 : decode b_AL_size 0 = .ok (.aload_n 0, 1) := by decide +kernel
theorem d_AL_size_1 : decode b_AL_size 1 = .ok (.getfield 25, 3) := by decide +kernel
theorem d_AL_size_4 : decode b_AL_size 4 = .ok (.ireturn, 1) := by decide +kernel
theorem d_AL_leastLabel_0 : decode b_AL_leastLabel 0 = .ok (.iload_n 1, 1) := by decide +kernel
theorem d_AL_leastLabel_1 : decode b_AL_leastLabel 1 = .ok (.ifCond .lt 20, 3) := by decide +kernel
theorem d_AL_leastLabel_4 : decode b_AL_leastLabel 4 = .ok (.iload_n 1, 1) := by decide +kernel
theorem d_AL_leastLabel_5 : decode b_AL_leastLabel 5 = .ok (.aload_n 0, 1) := by decide +kernel
theorem d_AL_leastLabel_6 : decode b_AL_leastLabel 6 = .ok (.getfield 25, 3) := by decide +kernel
theorem d_AL_leastLabel_9 : decode b_AL_leastLabel 9 = .ok (.if_icmp .ge 12, 3) := by decide +kernel
theorem d_AL_leastLabel_12 : decode b_AL_leastLabel 12 = .ok (.aload_n 0, 1) := by decide +kernel
theorem d_AL_leastLabel_13 : decode b_AL_leastLabel 13 = .ok (.getfield 18, 3) := by decide +kernel
theorem d_AL_leastLabel_16 : decode b_AL_leastLabel 16 = .ok (.iload_n 1, 1) := by decide +kernel
theorem d_AL_leastLabel_17 : decode b_AL_leastLabel 17 = .ok (.iaload, 1) := by decide +kernel
theorem d_AL_leastLabel_18 : decode b_AL_leastLabel 18 = .ok (.goto 4, 3) := by decide +kernel
theorem d_AL_leastLabel_21 : decode b_AL_leastLabel 21 = .ok (.iconst (-1), 1) := by decide +kernel
theorem d_AL_leastLabel_22 : decode b_AL_leastLabel 22 = .ok (.ireturn, 1) := by decide +kernel
theorem d_AL_numberOfLabel_0 : decode b_AL_numberOfLabel 0 = .ok (.iconst 0, 1) := by decide +kernel
theorem d_AL_numberOfLabel_1 : decode b_AL_numberOfLabel 1 = .ok (.istore_n 2, 1) := by decide +kernel
theorem d_AL_numberOfLabel_2 : decode b_AL_numberOfLabel 2 = .ok (.iload_n 2, 1) := by decide +kernel
theorem d_AL_numberOfLabel_3 : decode b_AL_numberOfLabel 3 = .ok (.aload_n 0, 1) := by decide +kernel
theorem d_AL_numberOfLabel_4 : decode b_AL_numberOfLabel 4 = .ok (.getfield 21, 3) := by decide +kernel
theorem d_AL_numberOfLabel_7 : decode b_AL_numberOfLabel 7 = .ok (.if_icmp .ge 25, 3) := by decide +kernel
theorem d_AL_numberOfLabel_10 : decode b_AL_numberOfLabel 10 = .ok (.aload_n 0, 1) := by decide +kernel
theorem d_AL_numberOfLabel_11 : decode b_AL_numberOfLabel 11 = .ok (.getfield 9, 3) := by decide +kernel
theorem d_AL_numberOfLabel_14 : decode b_AL_numberOfLabel 14 = .ok (.iload_n 2, 1) := by decide +kernel
theorem d_AL_numberOfLabel_15 : decode b_AL_numberOfLabel 15 = .ok (.iaload, 1) := by decide +kernel
theorem d_AL_numberOfLabel_16 : decode b_AL_numberOfLabel 16 = .ok (.iload_n 1, 1) := by decide +kernel
theorem d_AL_numberOfLabel_17 : decode b_AL_numberOfLabel 17 = .ok (.if_icmp .ne 9, 3) := by decide +kernel
theorem d_AL_numberOfLabel_20 : decode b_AL_numberOfLabel 20 = .ok (.aload_n 0, 1) := by decide +kernel
theorem d_AL_numberOfLabel_21 : decode b_AL_numberOfLabel 21 = .ok (.iload_n 2, 1) := by decide +kernel
theorem d_AL_numberOfLabel_22 : decode b_AL_numberOfLabel 22 = .ok (.invokevirtual 60, 3) := by decide +kernel
theorem d_AL_numberOfLabel_25 : decode b_AL_numberOfLabel 25 = .ok (.ireturn, 1) := by decide +kernel
theorem d_AL_numberOfLabel_26 : decode b_AL_numberOfLabel 26 = .ok (.iinc 2 1, 3) := by decide +kernel
theorem d_AL_numberOfLabel_29 : decode b_AL_numberOfLabel 29 = .ok (.goto (-27), 3) := by decide +kernel
theorem d_AL_numberOfLabel_32 : decode b_AL_numberOfLabel 32 = .ok (.iconst (-1), 1) := by decide +kernel
theorem d_AL_numberOfLabel_33 : decode b_AL_numberOfLabel 33 = .ok (.ireturn, 1) := by decide +kernel
theorem d_AL_numberAt_0 : decode b_AL_numberAt 0 = .ok (.iload_n 1, 1) := by decide +kernel
theorem d_AL_numberAt_1 : decode b_AL_numberAt 1 = .ok (.ifCond .lt 11, 3) := by decide +kernel
theorem d_AL_numberAt_4 : decode b_AL_numberAt 4 = .ok (.iload_n 1, 1) := by decide +kernel
theorem d_AL_numberAt_5 : decode b_AL_numberAt 5 = .ok (.aload_n 0, 1) := by decide +kernel
theorem d_AL_numberAt_6 : decode b_AL_numberAt 6 = .ok (.getfield 21, 3) := by decide +kernel
theorem d_AL_numberAt_9 : decode b_AL_numberAt 9 = .ok (.if_icmp .lt 5, 3) := by decide +kernel
theorem d_AL_numberAt_12 : decode b_AL_numberAt 12 = .ok (.iconst (-1), 1) := by decide +kernel
theorem d_AL_numberAt_13 : decode b_AL_numberAt 13 = .ok (.ireturn, 1) := by decide +kernel
theorem d_AL_numberAt_14 : decode b_AL_numberAt 14 = .ok (.iconst 0, 1) := by decide +kernel
theorem d_AL_numberAt_15 : decode b_AL_numberAt 15 = .ok (.istore_n 2, 1) := by decide +kernel
theorem d_AL_numberAt_16 : decode b_AL_numberAt 16 = .ok (.iload_n 2, 1) := by decide +kernel
theorem d_AL_numberAt_17 : decode b_AL_numberAt 17 = .ok (.aload_n 0, 1) := by decide +kernel
theorem d_AL_numberAt_18 : decode b_AL_numberAt 18 = .ok (.getfield 25, 3) := by decide +kernel
theorem d_AL_numberAt_21 : decode b_AL_numberAt 21 = .ok (.if_icmp .ge 26, 3) := by decide +kernel
theorem d_AL_numberAt_24 : decode b_AL_numberAt 24 = .ok (.aload_n 0, 1) := by decide +kernel
theorem d_AL_numberAt_25 : decode b_AL_numberAt 25 = .ok (.getfield 18, 3) := by decide +kernel
theorem d_AL_numberAt_28 : decode b_AL_numberAt 28 = .ok (.iload_n 2, 1) := by decide +kernel
theorem d_AL_numberAt_29 : decode b_AL_numberAt 29 = .ok (.iaload, 1) := by decide +kernel
theorem d_AL_numberAt_30 : decode b_AL_numberAt 30 = .ok (.aload_n 0, 1) := by decide +kernel
theorem d_AL_numberAt_31 : decode b_AL_numberAt 31 = .ok (.getfield 15, 3) := by decide +kernel
theorem d_AL_numberAt_34 : decode b_AL_numberAt 34 = .ok (.iload_n 1, 1) := by decide +kernel
theorem d_AL_numberAt_35 : decode b_AL_numberAt 35 = .ok (.iaload, 1) := by decide +kernel
theorem d_AL_numberAt_36 : decode b_AL_numberAt 36 = .ok (.if_icmp .ne 5, 3) := by decide +kernel
theorem d_AL_numberAt_39 : decode b_AL_numberAt 39 = .ok (.iload_n 2, 1) := by decide +kernel
theorem d_AL_numberAt_40 : decode b_AL_numberAt 40 = .ok (.ireturn, 1) := by decide +kernel
theorem d_AL_numberAt_41 : decode b_AL_numberAt 41 = .ok (.iinc 2 1, 3) := by decide +kernel
theorem d_AL_numberAt_44 : decode b_AL_numberAt 44 = .ok (.goto (-28), 3) := by decide +kernel
theorem d_AL_numberAt_47 : decode b_AL_numberAt 47 = .ok (.iconst (-1), 1) := by decide +kernel
theorem d_AL_numberAt_48 : decode b_AL_numberAt 48 = .ok (.ireturn, 1) := by decide +kernel
theorem d_AL_joinOver_0 : decode b_AL_joinOver 0 = .ok (.iload_n 1, 1) := by decide +kernel
theorem d_AL_joinOver_1 : decode b_AL_joinOver 1 = .ok (.ifCond .lt 23, 3) := by decide +kernel
theorem d_AL_joinOver_4 : decode b_AL_joinOver 4 = .ok (.iload_n 1, 1) := by decide +kernel
theorem d_AL_joinOver_5 : decode b_AL_joinOver 5 = .ok (.aload_n 0, 1) := by decide +kernel
theorem d_AL_joinOver_6 : decode b_AL_joinOver 6 = .ok (.getfield 21, 3) := by decide +kernel
theorem d_AL_joinOver_9 : decode b_AL_joinOver 9 = .ok (.if_icmp .ge 15, 3) := by decide +kernel
theorem d_AL_joinOver_12 : decode b_AL_joinOver 12 = .ok (.iload_n 2, 1) := by decide +kernel
theorem d_AL_joinOver_13 : decode b_AL_joinOver 13 = .ok (.ifCond .lt 11, 3) := by decide +kernel
theorem d_AL_joinOver_16 : decode b_AL_joinOver 16 = .ok (.iload_n 2, 1) := by decide +kernel
theorem d_AL_joinOver_17 : decode b_AL_joinOver 17 = .ok (.aload_n 0, 1) := by decide +kernel
theorem d_AL_joinOver_18 : decode b_AL_joinOver 18 = .ok (.getfield 21, 3) := by decide +kernel
theorem d_AL_joinOver_21 : decode b_AL_joinOver 21 = .ok (.if_icmp .lt 4, 3) := by decide +kernel
theorem d_AL_joinOver_24 : decode b_AL_joinOver 24 = .ok (.return_, 1) := by decide +kernel
theorem d_AL_joinOver_25 : decode b_AL_joinOver 25 = .ok (.aload_n 0, 1) := by decide +kernel
theorem d_AL_joinOver_26 : decode b_AL_joinOver 26 = .ok (.getfield 15, 3) := by decide +kernel
theorem d_AL_joinOver_29 : decode b_AL_joinOver 29 = .ok (.iload_n 1, 1) := by decide +kernel
theorem d_AL_joinOver_30 : decode b_AL_joinOver 30 = .ok (.iaload, 1) := by decide +kernel
theorem d_AL_joinOver_31 : decode b_AL_joinOver 31 = .ok (.aload_n 0, 1) := by decide +kernel
theorem d_AL_joinOver_32 : decode b_AL_joinOver 32 = .ok (.getfield 15, 3) := by decide +kernel
theorem d_AL_joinOver_35 : decode b_AL_joinOver 35 = .ok (.iload_n 2, 1) := by decide +kernel
theorem d_AL_joinOver_36 : decode b_AL_joinOver 36 = .ok (.iaload, 1) := by decide +kernel
theorem d_AL_joinOver_37 : decode b_AL_joinOver 37 = .ok (.invokestatic 33, 3) := by decide +kernel
theorem d_AL_joinOver_40 : decode b_AL_joinOver 40 = .ok (.istore_n 3, 1) := by decide +kernel
theorem d_AL_joinOver_41 : decode b_AL_joinOver 41 = .ok (.aload_n 0, 1) := by decide +kernel
theorem d_AL_joinOver_42 : decode b_AL_joinOver 42 = .ok (.getfield 15, 3) := by decide +kernel
theorem d_AL_joinOver_45 : decode b_AL_joinOver 45 = .ok (.iload_n 1, 1) := by decide +kernel
theorem d_AL_joinOver_46 : decode b_AL_joinOver 46 = .ok (.iaload, 1) := by decide +kernel
theorem d_AL_joinOver_47 : decode b_AL_joinOver 47 = .ok (.aload_n 0, 1) := by decide +kernel
theorem d_AL_joinOver_48 : decode b_AL_joinOver 48 = .ok (.getfield 15, 3) := by decide +kernel
theorem d_AL_joinOver_51 : decode b_AL_joinOver 51 = .ok (.iload_n 2, 1) := by decide +kernel
theorem d_AL_joinOver_52 : decode b_AL_joinOver 52 = .ok (.iaload, 1) := by decide +kernel
theorem d_AL_joinOver_53 : decode b_AL_joinOver 53 = .ok (.invokestatic 63, 3) := by decide +kernel
theorem d_AL_joinOver_56 : decode b_AL_joinOver 56 = .ok (.istore 4, 2) := by decide +kernel
theorem d_AL_joinOver_58 : decode b_AL_joinOver 58 = .ok (.iconst 0, 1) := by decide +kernel
theorem d_AL_joinOver_59 : decode b_AL_joinOver 59 = .ok (.istore 5, 2) := by decide +kernel
theorem d_AL_joinOver_61 : decode b_AL_joinOver 61 = .ok (.iload 5, 2) := by decide +kernel
theorem d_AL_joinOver_63 : decode b_AL_joinOver 63 = .ok (.aload_n 0, 1) := by decide +kernel
theorem d_AL_joinOver_64 : decode b_AL_joinOver 64 = .ok (.getfield 21, 3) := by decide +kernel
theorem d_AL_joinOver_67 : decode b_AL_joinOver 67 = .ok (.if_icmp .ge 29, 3) := by decide +kernel
theorem d_AL_joinOver_70 : decode b_AL_joinOver 70 = .ok (.aload_n 0, 1) := by decide +kernel
theorem d_AL_joinOver_71 : decode b_AL_joinOver 71 = .ok (.getfield 15, 3) := by decide +kernel
theorem d_AL_joinOver_74 : decode b_AL_joinOver 74 = .ok (.iload 5, 2) := by decide +kernel
theorem d_AL_joinOver_76 : decode b_AL_joinOver 76 = .ok (.iaload, 1) := by decide +kernel
theorem d_AL_joinOver_77 : decode b_AL_joinOver 77 = .ok (.iload 4, 2) := by decide +kernel
theorem d_AL_joinOver_79 : decode b_AL_joinOver 79 = .ok (.if_icmp .ne 11, 3) := by decide +kernel
theorem d_AL_joinOver_82 : decode b_AL_joinOver 82 = .ok (.aload_n 0, 1) := by decide +kernel
theorem d_AL_joinOver_83 : decode b_AL_joinOver 83 = .ok (.getfield 15, 3) := by decide +kernel
theorem d_AL_joinOver_86 : decode b_AL_joinOver 86 = .ok (.iload 5, 2) := by decide +kernel
theorem d_AL_joinOver_88 : decode b_AL_joinOver 88 = .ok (.iload_n 3, 1) := by decide +kernel
theorem d_AL_joinOver_89 : decode b_AL_joinOver 89 = .ok (.iastore, 1) := by decide +kernel
theorem d_AL_joinOver_90 : decode b_AL_joinOver 90 = .ok (.iinc 5 1, 3) := by decide +kernel
theorem d_AL_joinOver_93 : decode b_AL_joinOver 93 = .ok (.goto (-32), 3) := by decide +kernel
theorem d_AL_joinOver_96 : decode b_AL_joinOver 96 = .ok (.return_, 1) := by decide +kernel
theorem d_AL_insert_0 : decode b_AL_insert 0 = .ok (.iconst 0, 1) := by decide +kernel
theorem d_AL_insert_1 : decode b_AL_insert 1 = .ok (.istore_n 2, 1) := by decide +kernel
theorem d_AL_insert_2 : decode b_AL_insert 2 = .ok (.iload_n 2, 1) := by decide +kernel
theorem d_AL_insert_3 : decode b_AL_insert 3 = .ok (.aload_n 0, 1) := by decide +kernel
theorem d_AL_insert_4 : decode b_AL_insert 4 = .ok (.getfield 25, 3) := by decide +kernel
theorem d_AL_insert_7 : decode b_AL_insert 7 = .ok (.if_icmp .ge 19, 3) := by decide +kernel
theorem d_AL_insert_10 : decode b_AL_insert 10 = .ok (.aload_n 0, 1) := by decide +kernel
theorem d_AL_insert_11 : decode b_AL_insert 11 = .ok (.getfield 18, 3) := by decide +kernel
theorem d_AL_insert_14 : decode b_AL_insert 14 = .ok (.iload_n 2, 1) := by decide +kernel
theorem d_AL_insert_15 : decode b_AL_insert 15 = .ok (.iaload, 1) := by decide +kernel
theorem d_AL_insert_16 : decode b_AL_insert 16 = .ok (.iload_n 1, 1) := by decide +kernel
theorem d_AL_insert_17 : decode b_AL_insert 17 = .ok (.if_icmp .ge 9, 3) := by decide +kernel
theorem d_AL_insert_20 : decode b_AL_insert 20 = .ok (.iinc 2 1, 3) := by decide +kernel
theorem d_AL_insert_23 : decode b_AL_insert 23 = .ok (.goto (-21), 3) := by decide +kernel
theorem d_AL_insert_26 : decode b_AL_insert 26 = .ok (.iload_n 2, 1) := by decide +kernel
theorem d_AL_insert_27 : decode b_AL_insert 27 = .ok (.aload_n 0, 1) := by decide +kernel
theorem d_AL_insert_28 : decode b_AL_insert 28 = .ok (.getfield 25, 3) := by decide +kernel
theorem d_AL_insert_31 : decode b_AL_insert 31 = .ok (.if_icmp .ge 17, 3) := by decide +kernel
theorem d_AL_insert_34 : decode b_AL_insert 34 = .ok (.aload_n 0, 1) := by decide +kernel
theorem d_AL_insert_35 : decode b_AL_insert 35 = .ok (.getfield 18, 3) := by decide +kernel
theorem d_AL_insert_38 : decode b_AL_insert 38 = .ok (.iload_n 2, 1) := by decide +kernel
theorem d_AL_insert_39 : decode b_AL_insert 39 = .ok (.iaload, 1) := by decide +kernel
theorem d_AL_insert_40 : decode b_AL_insert 40 = .ok (.iload_n 1, 1) := by decide +kernel
theorem d_AL_insert_41 : decode b_AL_insert 41 = .ok (.if_icmp .ne 7, 3) := by decide +kernel
theorem d_AL_insert_44 : decode b_AL_insert 44 = .ok (.iconst 1, 1) := by decide +kernel
theorem d_AL_insert_45 : decode b_AL_insert 45 = .ok (.goto 4, 3) := by decide +kernel
theorem d_AL_insert_48 : decode b_AL_insert 48 = .ok (.iconst 0, 1) := by decide +kernel
theorem d_AL_insert_49 : decode b_AL_insert 49 = .ok (.istore_n 3, 1) := by decide +kernel
theorem d_AL_insert_50 : decode b_AL_insert 50 = .ok (.iload_n 3, 1) := by decide +kernel
theorem d_AL_insert_51 : decode b_AL_insert 51 = .ok (.ifCond .ne 12, 3) := by decide +kernel
theorem d_AL_insert_54 : decode b_AL_insert 54 = .ok (.aload_n 0, 1) := by decide +kernel
theorem d_AL_insert_55 : decode b_AL_insert 55 = .ok (.getfield 25, 3) := by decide +kernel
theorem d_AL_insert_58 : decode b_AL_insert 58 = .ok (.bipush 33, 2) := by decide +kernel
theorem d_AL_insert_60 : decode b_AL_insert 60 = .ok (.if_icmp .lt 4, 3) := by decide +kernel
theorem d_AL_insert_63 : decode b_AL_insert 63 = .ok (.return_, 1) := by decide +kernel
theorem d_AL_insert_64 : decode b_AL_insert 64 = .ok (.aload_n 0, 1) := by decide +kernel
theorem d_AL_insert_65 : decode b_AL_insert 65 = .ok (.getfield 25, 3) := by decide +kernel
theorem d_AL_insert_68 : decode b_AL_insert 68 = .ok (.istore 4, 2) := by decide +kernel
theorem d_AL_insert_70 : decode b_AL_insert 70 = .ok (.iload 4, 2) := by decide +kernel
theorem d_AL_insert_72 : decode b_AL_insert 72 = .ok (.iload_n 2, 1) := by decide +kernel
theorem d_AL_insert_73 : decode b_AL_insert 73 = .ok (.if_icmp .le 25, 3) := by decide +kernel
theorem d_AL_insert_76 : decode b_AL_insert 76 = .ok (.aload_n 0, 1) := by decide +kernel
theorem d_AL_insert_77 : decode b_AL_insert 77 = .ok (.getfield 18, 3) := by decide +kernel
theorem d_AL_insert_80 : decode b_AL_insert 80 = .ok (.iload 4, 2) := by decide +kernel
theorem d_AL_insert_82 : decode b_AL_insert 82 = .ok (.aload_n 0, 1) := by decide +kernel
theorem d_AL_insert_83 : decode b_AL_insert 83 = .ok (.getfield 18, 3) := by decide +kernel
theorem d_AL_insert_86 : decode b_AL_insert 86 = .ok (.iload 4, 2) := by decide +kernel
theorem d_AL_insert_88 : decode b_AL_insert 88 = .ok (.iconst 1, 1) := by decide +kernel
theorem d_AL_insert_89 : decode b_AL_insert 89 = .ok (.isub, 1) := by decide +kernel
theorem d_AL_insert_90 : decode b_AL_insert 90 = .ok (.iaload, 1) := by decide +kernel
theorem d_AL_insert_91 : decode b_AL_insert 91 = .ok (.iastore, 1) := by decide +kernel
theorem d_AL_insert_92 : decode b_AL_insert 92 = .ok (.iinc 4 (-1), 3) := by decide +kernel
theorem d_AL_insert_95 : decode b_AL_insert 95 = .ok (.goto (-25), 3) := by decide +kernel
theorem d_AL_insert_98 : decode b_AL_insert 98 = .ok (.aload_n 0, 1) := by decide +kernel
theorem d_AL_insert_99 : decode b_AL_insert 99 = .ok (.getfield 18, 3) := by decide +kernel
theorem d_AL_insert_102 : decode b_AL_insert 102 = .ok (.iload_n 2, 1) := by decide +kernel
theorem d_AL_insert_103 : decode b_AL_insert 103 = .ok (.iload_n 1, 1) := by decide +kernel
theorem d_AL_insert_104 : decode b_AL_insert 104 = .ok (.iastore, 1) := by decide +kernel
theorem d_AL_insert_105 : decode b_AL_insert 105 = .ok (.aload_n 0, 1) := by decide +kernel
theorem d_AL_insert_106 : decode b_AL_insert 106 = .ok (.dup, 1) := by decide +kernel
theorem d_AL_insert_107 : decode b_AL_insert 107 = .ok (.getfield 25, 3) := by decide +kernel
theorem d_AL_insert_110 : decode b_AL_insert 110 = .ok (.iconst 1, 1) := by decide +kernel
theorem d_AL_insert_111 : decode b_AL_insert 111 = .ok (.iadd, 1) := by decide +kernel
theorem d_AL_insert_112 : decode b_AL_insert 112 = .ok (.putfield 25, 3) := by decide +kernel
theorem d_AL_insert_115 : decode b_AL_insert 115 = .ok (.return_, 1) := by decide +kernel
theorem d_CR_init_0 : decode b_CR_init 0 = .ok (.aload_n 0, 1) := by decide +kernel
theorem d_CR_init_1 : decode b_CR_init 1 = .ok (.invokespecial 3, 3) := by decide +kernel
theorem d_CR_init_4 : decode b_CR_init 4 = .ok (.aload_n 0, 1) := by decide +kernel
theorem d_CR_init_5 : decode b_CR_init 5 = .ok (.bipush 12, 2) := by decide +kernel
theorem d_CR_init_7 : decode b_CR_init 7 = .ok (.newarray .int, 2) := by decide +kernel
theorem d_CR_init_9 : decode b_CR_init 9 = .ok (.putfield 9, 3) := by decide +kernel
theorem d_CR_init_12 : decode b_CR_init 12 = .ok (.aload_n 0, 1) := by decide +kernel
theorem d_CR_init_13 : decode b_CR_init 13 = .ok (.bipush 48, 2) := by decide +kernel
theorem d_CR_init_15 : decode b_CR_init 15 = .ok (.newarray .int, 2) := by decide +kernel
theorem d_CR_init_17 : decode b_CR_init 17 = .ok (.putfield 15, 3) := by decide +kernel
theorem d_CR_init_20 : decode b_CR_init 20 = .ok (.aload_n 0, 1) := by decide +kernel
theorem d_CR_init_21 : decode b_CR_init 21 = .ok (.iconst 0, 1) := by decide +kernel
theorem d_CR_init_22 : decode b_CR_init 22 = .ok (.putfield 18, 3) := by decide +kernel
theorem d_CR_init_25 : decode b_CR_init 25 = .ok (.return_, 1) := by decide +kernel
theorem d_CR_size_0 : decode b_CR_size 0 = .ok (.aload_n 0, 1) := by decide +kernel
theorem d_CR_size_1 : decode b_CR_size 1 = .ok (.getfield 18, 3) := by decide +kernel
theorem d_CR_size_4 : decode b_CR_size 4 = .ok (.ireturn, 1) := by decide +kernel
theorem d_CR_places_0 : decode b_CR_places 0 = .ok (.iconst 4, 1) := by decide +kernel
theorem d_CR_places_1 : decode b_CR_places 1 = .ok (.aload_n 0, 1) := by decide +kernel
theorem d_CR_places_2 : decode b_CR_places 2 = .ok (.getfield 18, 3) := by decide +kernel
theorem d_CR_places_5 : decode b_CR_places 5 = .ok (.imul, 1) := by decide +kernel
theorem d_CR_places_6 : decode b_CR_places 6 = .ok (.ireturn, 1) := by decide +kernel
theorem d_CR_has_0 : decode b_CR_has 0 = .ok (.iload_n 1, 1) := by decide +kernel
theorem d_CR_has_1 : decode b_CR_has 1 = .ok (.ifCond .lt 15, 3) := by decide +kernel
theorem d_CR_has_4 : decode b_CR_has 4 = .ok (.iload_n 1, 1) := by decide +kernel
theorem d_CR_has_5 : decode b_CR_has 5 = .ok (.aload_n 0, 1) := by decide +kernel
theorem d_CR_has_6 : decode b_CR_has 6 = .ok (.getfield 18, 3) := by decide +kernel
theorem d_CR_has_9 : decode b_CR_has 9 = .ok (.if_icmp .ge 7, 3) := by decide +kernel
theorem d_CR_has_12 : decode b_CR_has 12 = .ok (.iconst 1, 1) := by decide +kernel
theorem d_CR_has_13 : decode b_CR_has 13 = .ok (.goto 4, 3) := by decide +kernel
theorem d_CR_has_16 : decode b_CR_has 16 = .ok (.iconst 0, 1) := by decide +kernel
theorem d_CR_has_17 : decode b_CR_has 17 = .ok (.ireturn, 1) := by decide +kernel
theorem d_CR_clear_0 : decode b_CR_clear 0 = .ok (.aload_n 0, 1) := by decide +kernel
theorem d_CR_clear_1 : decode b_CR_clear 1 = .ok (.iconst 0, 1) := by decide +kernel
theorem d_CR_clear_2 : decode b_CR_clear 2 = .ok (.putfield 18, 3) := by decide +kernel
theorem d_CR_clear_5 : decode b_CR_clear 5 = .ok (.return_, 1) := by decide +kernel
theorem d_CR_append_0 : decode b_CR_append 0 = .ok (.aload_n 0, 1) := by decide +kernel
theorem d_CR_append_1 : decode b_CR_append 1 = .ok (.getfield 18, 3) := by decide +kernel
theorem d_CR_append_4 : decode b_CR_append 4 = .ok (.bipush 12, 2) := by decide +kernel
theorem d_CR_append_6 : decode b_CR_append 6 = .ok (.if_icmp .lt 5, 3) := by decide +kernel
theorem d_CR_append_9 : decode b_CR_append 9 = .ok (.iconst (-1), 1) := by decide +kernel
theorem d_CR_append_10 : decode b_CR_append 10 = .ok (.ireturn, 1) := by decide +kernel
theorem d_CR_append_11 : decode b_CR_append 11 = .ok (.aload_n 0, 1) := by decide +kernel
theorem d_CR_append_12 : decode b_CR_append 12 = .ok (.aload_n 0, 1) := by decide +kernel
theorem d_CR_append_13 : decode b_CR_append 13 = .ok (.getfield 18, 3) := by decide +kernel
theorem d_CR_append_16 : decode b_CR_append 16 = .ok (.iload_n 1, 1) := by decide +kernel
theorem d_CR_append_17 : decode b_CR_append 17 = .ok (.iload_n 2, 1) := by decide +kernel
theorem d_CR_append_18 : decode b_CR_append 18 = .ok (.iload_n 3, 1) := by decide +kernel
theorem d_CR_append_19 : decode b_CR_append 19 = .ok (.iload 4, 2) := by decide +kernel
theorem d_CR_append_21 : decode b_CR_append 21 = .ok (.iload 5, 2) := by decide +kernel
theorem d_CR_append_23 : decode b_CR_append 23 = .ok (.invokevirtual 22, 3) := by decide +kernel
theorem d_CR_append_26 : decode b_CR_append 26 = .ok (.aload_n 0, 1) := by decide +kernel
theorem d_CR_append_27 : decode b_CR_append 27 = .ok (.dup, 1) := by decide +kernel
theorem d_CR_append_28 : decode b_CR_append 28 = .ok (.getfield 18, 3) := by decide +kernel
theorem d_CR_append_31 : decode b_CR_append 31 = .ok (.iconst 1, 1) := by decide +kernel
theorem d_CR_append_32 : decode b_CR_append 32 = .ok (.iadd, 1) := by decide +kernel
theorem d_CR_append_33 : decode b_CR_append 33 = .ok (.putfield 18, 3) := by decide +kernel
theorem d_CR_append_36 : decode b_CR_append 36 = .ok (.aload_n 0, 1) := by decide +kernel
theorem d_CR_append_37 : decode b_CR_append 37 = .ok (.getfield 18, 3) := by decide +kernel
theorem d_CR_append_40 : decode b_CR_append 40 = .ok (.ireturn, 1) := by decide +kernel
theorem d_CR_copyFrom_0 : decode b_CR_copyFrom 0 = .ok (.aload_n 1, 1) := by decide +kernel
theorem d_CR_copyFrom_1 : decode b_CR_copyFrom 1 = .ok (.getfield 9, 3) := by decide +kernel
theorem d_CR_copyFrom_4 : decode b_CR_copyFrom 4 = .ok (.iconst 0, 1) := by decide +kernel
theorem d_CR_copyFrom_5 : decode b_CR_copyFrom 5 = .ok (.aload_n 0, 1) := by decide +kernel
theorem d_CR_copyFrom_6 : decode b_CR_copyFrom 6 = .ok (.getfield 9, 3) := by decide +kernel
theorem d_CR_copyFrom_9 : decode b_CR_copyFrom 9 = .ok (.iconst 0, 1) := by decide +kernel
theorem d_CR_copyFrom_10 : decode b_CR_copyFrom 10 = .ok (.bipush 12, 2) := by decide +kernel
theorem d_CR_copyFrom_12 : decode b_CR_copyFrom 12 = .ok (.invokestatic 26, 3) := by decide +kernel
theorem d_CR_copyFrom_15 : decode b_CR_copyFrom 15 = .ok (.aload_n 1, 1) := by decide +kernel
theorem d_CR_copyFrom_16 : decode b_CR_copyFrom 16 = .ok (.getfield 15, 3) := by decide +kernel
theorem d_CR_copyFrom_19 : decode b_CR_copyFrom 19 = .ok (.iconst 0, 1) := by decide +kernel
theorem d_CR_copyFrom_20 : decode b_CR_copyFrom 20 = .ok (.aload_n 0, 1) := by decide +kernel
theorem d_CR_copyFrom_21 : decode b_CR_copyFrom 21 = .ok (.getfield 15, 3) := by decide +kernel
theorem d_CR_copyFrom_24 : decode b_CR_copyFrom 24 = .ok (.iconst 0, 1) := by decide +kernel
theorem d_CR_copyFrom_25 : decode b_CR_copyFrom 25 = .ok (.bipush 48, 2) := by decide +kernel
theorem d_CR_copyFrom_27 : decode b_CR_copyFrom 27 = .ok (.invokestatic 26, 3) := by decide +kernel
theorem d_CR_copyFrom_30 : decode b_CR_copyFrom 30 = .ok (.aload_n 0, 1) := by decide +kernel
theorem d_CR_copyFrom_31 : decode b_CR_copyFrom 31 = .ok (.aload_n 1, 1) := by decide +kernel
theorem d_CR_copyFrom_32 : decode b_CR_copyFrom 32 = .ok (.getfield 18, 3) := by decide +kernel
theorem d_CR_copyFrom_35 : decode b_CR_copyFrom 35 = .ok (.putfield 18, 3) := by decide +kernel
theorem d_CR_copyFrom_38 : decode b_CR_copyFrom 38 = .ok (.return_, 1) := by decide +kernel
theorem d_CR_signOf_0 : decode b_CR_signOf 0 = .ok (.aload_n 0, 1) := by decide +kernel
theorem d_CR_signOf_1 : decode b_CR_signOf 1 = .ok (.iload_n 1, 1) := by decide +kernel
theorem d_CR_signOf_2 : decode b_CR_signOf 2 = .ok (.invokevirtual 32, 3) := by decide +kernel
theorem d_CR_signOf_5 : decode b_CR_signOf 5 = .ok (.ifCond .eq 12, 3) := by decide +kernel
theorem d_CR_signOf_8 : decode b_CR_signOf 8 = .ok (.aload_n 0, 1) := by decide +kernel
theorem d_CR_signOf_9 : decode b_CR_signOf 9 = .ok (.getfield 9, 3) := by decide +kernel
theorem d_CR_signOf_12 : decode b_CR_signOf 12 = .ok (.iload_n 1, 1) := by decide +kernel
theorem d_CR_signOf_13 : decode b_CR_signOf 13 = .ok (.iaload, 1) := by decide +kernel
theorem d_CR_signOf_14 : decode b_CR_signOf 14 = .ok (.goto 4, 3) := by decide +kernel
theorem d_CR_signOf_17 : decode b_CR_signOf 17 = .ok (.iconst 0, 1) := by decide +kernel
theorem d_CR_signOf_18 : decode b_CR_signOf 18 = .ok (.ireturn, 1) := by decide +kernel
theorem d_CR_labelAt_0 : decode b_CR_labelAt 0 = .ok (.iload_n 1, 1) := by decide +kernel
theorem d_CR_labelAt_1 : decode b_CR_labelAt 1 = .ok (.ifCond .lt 20, 3) := by decide +kernel
theorem d_CR_labelAt_4 : decode b_CR_labelAt 4 = .ok (.iload_n 1, 1) := by decide +kernel
theorem d_CR_labelAt_5 : decode b_CR_labelAt 5 = .ok (.aload_n 0, 1) := by decide +kernel
theorem d_CR_labelAt_6 : decode b_CR_labelAt 6 = .ok (.invokevirtual 36, 3) := by decide +kernel
theorem d_CR_labelAt_9 : decode b_CR_labelAt 9 = .ok (.if_icmp .ge 12, 3) := by decide +kernel
theorem d_CR_labelAt_12 : decode b_CR_labelAt 12 = .ok (.aload_n 0, 1) := by decide +kernel
theorem d_CR_labelAt_13 : decode b_CR_labelAt 13 = .ok (.getfield 15, 3) := by decide +kernel
theorem d_CR_labelAt_16 : decode b_CR_labelAt 16 = .ok (.iload_n 1, 1) := by decide +kernel
theorem d_CR_labelAt_17 : decode b_CR_labelAt 17 = .ok (.iaload, 1) := by decide +kernel
theorem d_CR_labelAt_18 : decode b_CR_labelAt 18 = .ok (.goto 4, 3) := by decide +kernel
theorem d_CR_labelAt_21 : decode b_CR_labelAt 21 = .ok (.iconst 0, 1) := by decide +kernel
theorem d_CR_labelAt_22 : decode b_CR_labelAt 22 = .ok (.ireturn, 1) := by decide +kernel
theorem d_CR_lowerIn_0 : decode b_CR_lowerIn 0 = .ok (.iconst 4, 1) := by decide +kernel
theorem d_CR_lowerIn_1 : decode b_CR_lowerIn 1 = .ok (.iload_n 1, 1) := by decide +kernel
theorem d_CR_lowerIn_2 : decode b_CR_lowerIn 2 = .ok (.imul, 1) := by decide +kernel
theorem d_CR_lowerIn_3 : decode b_CR_lowerIn 3 = .ok (.ireturn, 1) := by decide +kernel
theorem d_CR_lowerOut_0 : decode b_CR_lowerOut 0 = .ok (.iconst 4, 1) := by decide +kernel
theorem d_CR_lowerOut_1 : decode b_CR_lowerOut 1 = .ok (.iload_n 1, 1) := by decide +kernel
theorem d_CR_lowerOut_2 : decode b_CR_lowerOut 2 = .ok (.imul, 1) := by decide +kernel
theorem d_CR_lowerOut_3 : decode b_CR_lowerOut 3 = .ok (.iconst 2, 1) := by decide +kernel
theorem d_CR_lowerOut_4 : decode b_CR_lowerOut 4 = .ok (.iadd, 1) := by decide +kernel
theorem d_CR_lowerOut_5 : decode b_CR_lowerOut 5 = .ok (.ireturn, 1) := by decide +kernel
theorem d_CR_upperIn_0 : decode b_CR_upperIn 0 = .ok (.iconst 4, 1) := by decide +kernel
theorem d_CR_upperIn_1 : decode b_CR_upperIn 1 = .ok (.iload_n 1, 1) := by decide +kernel
theorem d_CR_upperIn_2 : decode b_CR_upperIn 2 = .ok (.imul, 1) := by decide +kernel
theorem d_CR_upperIn_3 : decode b_CR_upperIn 3 = .ok (.aload_n 0, 1) := by decide +kernel
theorem d_CR_upperIn_4 : decode b_CR_upperIn 4 = .ok (.iload_n 1, 1) := by decide +kernel
theorem d_CR_upperIn_5 : decode b_CR_upperIn 5 = .ok (.invokevirtual 40, 3) := by decide +kernel
theorem d_CR_upperIn_8 : decode b_CR_upperIn 8 = .ok (.iconst 1, 1) := by decide +kernel
theorem d_CR_upperIn_9 : decode b_CR_upperIn 9 = .ok (.if_icmp .ne 7, 3) := by decide +kernel
theorem d_CR_upperIn_12 : decode b_CR_upperIn 12 = .ok (.iconst 3, 1) := by decide +kernel
theorem d_CR_upperIn_13 : decode b_CR_upperIn 13 = .ok (.goto 4, 3) := by decide +kernel
theorem d_CR_upperIn_16 : decode b_CR_upperIn 16 = .ok (.iconst 1, 1) := by decide +kernel
theorem d_CR_upperIn_17 : decode b_CR_upperIn 17 = .ok (.iadd, 1) := by decide +kernel
theorem d_CR_upperIn_18 : decode b_CR_upperIn 18 = .ok (.ireturn, 1) := by decide +kernel
theorem d_CR_upperOut_0 : decode b_CR_upperOut 0 = .ok (.iconst 4, 1) := by decide +kernel
theorem d_CR_upperOut_1 : decode b_CR_upperOut 1 = .ok (.iload_n 1, 1) := by decide +kernel
theorem d_CR_upperOut_2 : decode b_CR_upperOut 2 = .ok (.imul, 1) := by decide +kernel
theorem d_CR_upperOut_3 : decode b_CR_upperOut 3 = .ok (.aload_n 0, 1) := by decide +kernel
theorem d_CR_upperOut_4 : decode b_CR_upperOut 4 = .ok (.iload_n 1, 1) := by decide +kernel
theorem d_CR_upperOut_5 : decode b_CR_upperOut 5 = .ok (.invokevirtual 40, 3) := by decide +kernel
theorem d_CR_upperOut_8 : decode b_CR_upperOut 8 = .ok (.iconst 1, 1) := by decide +kernel
theorem d_CR_upperOut_9 : decode b_CR_upperOut 9 = .ok (.if_icmp .ne 7, 3) := by decide +kernel
theorem d_CR_upperOut_12 : decode b_CR_upperOut 12 = .ok (.iconst 1, 1) := by decide +kernel
theorem d_CR_upperOut_13 : decode b_CR_upperOut 13 = .ok (.goto 4, 3) := by decide +kernel
theorem d_CR_upperOut_16 : decode b_CR_upperOut 16 = .ok (.iconst 3, 1) := by decide +kernel
theorem d_CR_upperOut_17 : decode b_CR_upperOut 17 = .ok (.iadd, 1) := by decide +kernel
theorem d_CR_upperOut_18 : decode b_CR_upperOut 18 = .ok (.ireturn, 1) := by decide +kernel
theorem d_CR_goesIn_0 : decode b_CR_goesIn 0 = .ok (.iload_n 1, 1) := by decide +kernel
theorem d_CR_goesIn_1 : decode b_CR_goesIn 1 = .ok (.iconst 4, 1) := by decide +kernel
theorem d_CR_goesIn_2 : decode b_CR_goesIn 2 = .ok (.idiv, 1) := by decide +kernel
theorem d_CR_goesIn_3 : decode b_CR_goesIn 3 = .ok (.istore_n 2, 1) := by decide +kernel
theorem d_CR_goesIn_4 : decode b_CR_goesIn 4 = .ok (.iload_n 1, 1) := by decide +kernel
theorem d_CR_goesIn_5 : decode b_CR_goesIn 5 = .ok (.aload_n 0, 1) := by decide +kernel
theorem d_CR_goesIn_6 : decode b_CR_goesIn 6 = .ok (.iload_n 2, 1) := by decide +kernel
theorem d_CR_goesIn_7 : decode b_CR_goesIn 7 = .ok (.invokevirtual 44, 3) := by decide +kernel
theorem d_CR_goesIn_10 : decode b_CR_goesIn 10 = .ok (.if_icmp .eq 12, 3) := by decide +kernel
theorem d_CR_goesIn_13 : decode b_CR_goesIn 13 = .ok (.iload_n 1, 1) := by decide +kernel
theorem d_CR_goesIn_14 : decode b_CR_goesIn 14 = .ok (.aload_n 0, 1) := by decide +kernel
theorem d_CR_goesIn_15 : decode b_CR_goesIn 15 = .ok (.iload_n 2, 1) := by decide +kernel
theorem d_CR_goesIn_16 : decode b_CR_goesIn 16 = .ok (.invokevirtual 47, 3) := by decide +kernel
theorem d_CR_goesIn_19 : decode b_CR_goesIn 19 = .ok (.if_icmp .ne 7, 3) := by decide +kernel
theorem d_CR_goesIn_22 : decode b_CR_goesIn 22 = .ok (.iconst 1, 1) := by decide +kernel
theorem d_CR_goesIn_23 : decode b_CR_goesIn 23 = .ok (.goto 4, 3) := by decide +kernel
theorem d_CR_goesIn_26 : decode b_CR_goesIn 26 = .ok (.iconst 0, 1) := by decide +kernel
theorem d_CR_goesIn_27 : decode b_CR_goesIn 27 = .ok (.ireturn, 1) := by decide +kernel
theorem d_CR_swapStrands_0 : decode b_CR_swapStrands 0 = .ok (.aload_n 0, 1) := by decide +kernel
theorem d_CR_swapStrands_1 : decode b_CR_swapStrands 1 = .ok (.iload_n 1, 1) := by decide +kernel
theorem d_CR_swapStrands_2 : decode b_CR_swapStrands 2 = .ok (.invokevirtual 32, 3) := by decide +kernel
theorem d_CR_swapStrands_5 : decode b_CR_swapStrands 5 = .ok (.ifCond .ne 4, 3) := by decide +kernel
theorem d_CR_swapStrands_8 : decode b_CR_swapStrands 8 = .ok (.return_, 1) := by decide +kernel
theorem d_CR_swapStrands_9 : decode b_CR_swapStrands 9 = .ok (.aload_n 0, 1) := by decide +kernel
theorem d_CR_swapStrands_10 : decode b_CR_swapStrands 10 = .ok (.iload_n 1, 1) := by decide +kernel
theorem d_CR_swapStrands_11 : decode b_CR_swapStrands 11 = .ok (.invokevirtual 47, 3) := by decide +kernel
theorem d_CR_swapStrands_14 : decode b_CR_swapStrands 14 = .ok (.aload_n 0, 1) := by decide +kernel
theorem d_CR_swapStrands_15 : decode b_CR_swapStrands 15 = .ok (.iload_n 1, 1) := by decide +kernel
theorem d_CR_swapStrands_16 : decode b_CR_swapStrands 16 = .ok (.invokevirtual 44, 3) := by decide +kernel
theorem d_CR_swapStrands_19 : decode b_CR_swapStrands 19 = .ok (.isub, 1) := by decide +kernel
theorem d_CR_swapStrands_20 : decode b_CR_swapStrands 20 = .ok (.istore_n 2, 1) := by decide +kernel
theorem d_CR_swapStrands_21 : decode b_CR_swapStrands 21 = .ok (.aload_n 0, 1) := by decide +kernel
theorem d_CR_swapStrands_22 : decode b_CR_swapStrands 22 = .ok (.iload_n 1, 1) := by decide +kernel
theorem d_CR_swapStrands_23 : decode b_CR_swapStrands 23 = .ok (.invokevirtual 44, 3) := by decide +kernel
theorem d_CR_swapStrands_26 : decode b_CR_swapStrands 26 = .ok (.istore_n 3, 1) := by decide +kernel
theorem d_CR_swapStrands_27 : decode b_CR_swapStrands 27 = .ok (.aload_n 0, 1) := by decide +kernel
theorem d_CR_swapStrands_28 : decode b_CR_swapStrands 28 = .ok (.iload_n 1, 1) := by decide +kernel
theorem d_CR_swapStrands_29 : decode b_CR_swapStrands 29 = .ok (.aload_n 0, 1) := by decide +kernel
theorem d_CR_swapStrands_30 : decode b_CR_swapStrands 30 = .ok (.getfield 9, 3) := by decide +kernel
theorem d_CR_swapStrands_33 : decode b_CR_swapStrands 33 = .ok (.iload_n 1, 1) := by decide +kernel
theorem d_CR_swapStrands_34 : decode b_CR_swapStrands 34 = .ok (.iaload, 1) := by decide +kernel
theorem d_CR_swapStrands_35 : decode b_CR_swapStrands 35 = .ok (.ineg, 1) := by decide +kernel
theorem d_CR_swapStrands_36 : decode b_CR_swapStrands 36 = .ok (.aload_n 0, 1) := by decide +kernel
theorem d_CR_swapStrands_37 : decode b_CR_swapStrands 37 = .ok (.iload_n 3, 1) := by decide +kernel
theorem d_CR_swapStrands_38 : decode b_CR_swapStrands 38 = .ok (.iload_n 2, 1) := by decide +kernel
theorem d_CR_swapStrands_39 : decode b_CR_swapStrands 39 = .ok (.iconst 4, 1) := by decide +kernel
theorem d_CR_swapStrands_40 : decode b_CR_swapStrands 40 = .ok (.irem, 1) := by decide +kernel
theorem d_CR_swapStrands_41 : decode b_CR_swapStrands 41 = .ok (.iadd, 1) := by decide +kernel
theorem d_CR_swapStrands_42 : decode b_CR_swapStrands 42 = .ok (.invokevirtual 50, 3) := by decide +kernel
theorem d_CR_swapStrands_45 : decode b_CR_swapStrands 45 = .ok (.aload_n 0, 1) := by decide +kernel
theorem d_CR_swapStrands_46 : decode b_CR_swapStrands 46 = .ok (.iload_n 3, 1) := by decide +kernel
theorem d_CR_swapStrands_47 : decode b_CR_swapStrands 47 = .ok (.iload_n 2, 1) := by decide +kernel
theorem d_CR_swapStrands_48 : decode b_CR_swapStrands 48 = .ok (.iconst 1, 1) := by decide +kernel
theorem d_CR_swapStrands_49 : decode b_CR_swapStrands 49 = .ok (.iadd, 1) := by decide +kernel
theorem d_CR_swapStrands_50 : decode b_CR_swapStrands 50 = .ok (.iconst 4, 1) := by decide +kernel
theorem d_CR_swapStrands_51 : decode b_CR_swapStrands 51 = .ok (.irem, 1) := by decide +kernel
theorem d_CR_swapStrands_52 : decode b_CR_swapStrands 52 = .ok (.iadd, 1) := by decide +kernel
theorem d_CR_swapStrands_53 : decode b_CR_swapStrands 53 = .ok (.invokevirtual 50, 3) := by decide +kernel
theorem d_CR_swapStrands_56 : decode b_CR_swapStrands 56 = .ok (.aload_n 0, 1) := by decide +kernel
theorem d_CR_swapStrands_57 : decode b_CR_swapStrands 57 = .ok (.iload_n 3, 1) := by decide +kernel
theorem d_CR_swapStrands_58 : decode b_CR_swapStrands 58 = .ok (.iload_n 2, 1) := by decide +kernel
theorem d_CR_swapStrands_59 : decode b_CR_swapStrands 59 = .ok (.iconst 2, 1) := by decide +kernel
theorem d_CR_swapStrands_60 : decode b_CR_swapStrands 60 = .ok (.iadd, 1) := by decide +kernel
theorem d_CR_swapStrands_61 : decode b_CR_swapStrands 61 = .ok (.iconst 4, 1) := by decide +kernel
theorem d_CR_swapStrands_62 : decode b_CR_swapStrands 62 = .ok (.irem, 1) := by decide +kernel
theorem d_CR_swapStrands_63 : decode b_CR_swapStrands 63 = .ok (.iadd, 1) := by decide +kernel
theorem d_CR_swapStrands_64 : decode b_CR_swapStrands 64 = .ok (.invokevirtual 50, 3) := by decide +kernel
theorem d_CR_swapStrands_67 : decode b_CR_swapStrands 67 = .ok (.aload_n 0, 1) := by decide +kernel
theorem d_CR_swapStrands_68 : decode b_CR_swapStrands 68 = .ok (.iload_n 3, 1) := by decide +kernel
theorem d_CR_swapStrands_69 : decode b_CR_swapStrands 69 = .ok (.iload_n 2, 1) := by decide +kernel
theorem d_CR_swapStrands_70 : decode b_CR_swapStrands 70 = .ok (.iconst 3, 1) := by decide +kernel
theorem d_CR_swapStrands_71 : decode b_CR_swapStrands 71 = .ok (.iadd, 1) := by decide +kernel
theorem d_CR_swapStrands_72 : decode b_CR_swapStrands 72 = .ok (.iconst 4, 1) := by decide +kernel
theorem d_CR_swapStrands_73 : decode b_CR_swapStrands 73 = .ok (.irem, 1) := by decide +kernel
theorem d_CR_swapStrands_74 : decode b_CR_swapStrands 74 = .ok (.iadd, 1) := by decide +kernel
theorem d_CR_swapStrands_75 : decode b_CR_swapStrands 75 = .ok (.invokevirtual 50, 3) := by decide +kernel
theorem d_CR_swapStrands_78 : decode b_CR_swapStrands 78 = .ok (.invokevirtual 22, 3) := by decide +kernel
theorem d_CR_swapStrands_81 : decode b_CR_swapStrands 81 = .ok (.return_, 1) := by decide +kernel
theorem d_CR_closingsAt_0 : decode b_CR_closingsAt 0 = .ok (.iconst 0, 1) := by decide +kernel
theorem d_CR_closingsAt_1 : decode b_CR_closingsAt 1 = .ok (.istore_n 2, 1) := by decide +kernel
theorem d_CR_closingsAt_2 : decode b_CR_closingsAt 2 = .ok (.aload_n 0, 1) := by decide +kernel
theorem d_CR_closingsAt_3 : decode b_CR_closingsAt 3 = .ok (.aload_n 0, 1) := by decide +kernel
theorem d_CR_closingsAt_4 : decode b_CR_closingsAt 4 = .ok (.iload_n 1, 1) := by decide +kernel
theorem d_CR_closingsAt_5 : decode b_CR_closingsAt 5 = .ok (.invokevirtual 44, 3) := by decide +kernel
theorem d_CR_closingsAt_8 : decode b_CR_closingsAt 8 = .ok (.invokevirtual 50, 3) := by decide +kernel
theorem d_CR_closingsAt_11 : decode b_CR_closingsAt 11 = .ok (.aload_n 0, 1) := by decide +kernel
theorem d_CR_closingsAt_12 : decode b_CR_closingsAt 12 = .ok (.aload_n 0, 1) := by decide +kernel
theorem d_CR_closingsAt_13 : decode b_CR_closingsAt 13 = .ok (.iload_n 1, 1) := by decide +kernel
theorem d_CR_closingsAt_14 : decode b_CR_closingsAt 14 = .ok (.invokevirtual 53, 3) := by decide +kernel
theorem d_CR_closingsAt_17 : decode b_CR_closingsAt 17 = .ok (.invokevirtual 50, 3) := by decide +kernel
theorem d_CR_closingsAt_20 : decode b_CR_closingsAt 20 = .ok (.if_icmp .ne 6, 3) := by decide +kernel
theorem d_CR_closingsAt_23 : decode b_CR_closingsAt 23 = .ok (.iinc 2 1, 3) := by decide +kernel
theorem d_CR_closingsAt_26 : decode b_CR_closingsAt 26 = .ok (.aload_n 0, 1) := by decide +kernel
theorem d_CR_closingsAt_27 : decode b_CR_closingsAt 27 = .ok (.aload_n 0, 1) := by decide +kernel
theorem d_CR_closingsAt_28 : decode b_CR_closingsAt 28 = .ok (.iload_n 1, 1) := by decide +kernel
theorem d_CR_closingsAt_29 : decode b_CR_closingsAt 29 = .ok (.invokevirtual 47, 3) := by decide +kernel
theorem d_CR_closingsAt_32 : decode b_CR_closingsAt 32 = .ok (.invokevirtual 50, 3) := by decide +kernel
theorem d_CR_closingsAt_35 : decode b_CR_closingsAt 35 = .ok (.aload_n 0, 1) := by decide +kernel
theorem d_CR_closingsAt_36 : decode b_CR_closingsAt 36 = .ok (.aload_n 0, 1) := by decide +kernel
theorem d_CR_closingsAt_37 : decode b_CR_closingsAt 37 = .ok (.iload_n 1, 1) := by decide +kernel
theorem d_CR_closingsAt_38 : decode b_CR_closingsAt 38 = .ok (.invokevirtual 56, 3) := by decide +kernel
theorem d_CR_closingsAt_41 : decode b_CR_closingsAt 41 = .ok (.invokevirtual 50, 3) := by decide +kernel
theorem d_CR_closingsAt_44 : decode b_CR_closingsAt 44 = .ok (.if_icmp .ne 6, 3) := by decide +kernel
theorem d_CR_closingsAt_47 : decode b_CR_closingsAt 47 = .ok (.iinc 2 1, 3) := by decide +kernel
theorem d_CR_closingsAt_50 : decode b_CR_closingsAt 50 = .ok (.iload_n 2, 1) := by decide +kernel
theorem d_CR_closingsAt_51 : decode b_CR_closingsAt 51 = .ok (.ireturn, 1) := by decide +kernel
theorem d_CR_joinStrands_0 : decode b_CR_joinStrands 0 = .ok (.aload_n 0, 1) := by decide +kernel
theorem d_CR_joinStrands_1 : decode b_CR_joinStrands 1 = .ok (.iload_n 1, 1) := by decide +kernel
theorem d_CR_joinStrands_2 : decode b_CR_joinStrands 2 = .ok (.invokevirtual 32, 3) := by decide +kernel
theorem d_CR_joinStrands_5 : decode b_CR_joinStrands 5 = .ok (.ifCond .ne 4, 3) := by decide +kernel
theorem d_CR_joinStrands_8 : decode b_CR_joinStrands 8 = .ok (.return_, 1) := by decide +kernel
theorem d_CR_joinStrands_9 : decode b_CR_joinStrands 9 = .ok (.aload_n 0, 1) := by decide +kernel
theorem d_CR_joinStrands_10 : decode b_CR_joinStrands 10 = .ok (.aload_n 0, 1) := by decide +kernel
theorem d_CR_joinStrands_11 : decode b_CR_joinStrands 11 = .ok (.aload_n 0, 1) := by decide +kernel
theorem d_CR_joinStrands_12 : decode b_CR_joinStrands 12 = .ok (.iload_n 1, 1) := by decide +kernel
theorem d_CR_joinStrands_13 : decode b_CR_joinStrands 13 = .ok (.invokevirtual 44, 3) := by decide +kernel
theorem d_CR_joinStrands_16 : decode b_CR_joinStrands 16 = .ok (.invokevirtual 50, 3) := by decide +kernel
theorem d_CR_joinStrands_19 : decode b_CR_joinStrands 19 = .ok (.aload_n 0, 1) := by decide +kernel
theorem d_CR_joinStrands_20 : decode b_CR_joinStrands 20 = .ok (.aload_n 0, 1) := by decide +kernel
theorem d_CR_joinStrands_21 : decode b_CR_joinStrands 21 = .ok (.iload_n 1, 1) := by decide +kernel
theorem d_CR_joinStrands_22 : decode b_CR_joinStrands 22 = .ok (.invokevirtual 53, 3) := by decide +kernel
theorem d_CR_joinStrands_25 : decode b_CR_joinStrands 25 = .ok (.invokevirtual 50, 3) := by decide +kernel
theorem d_CR_joinStrands_28 : decode b_CR_joinStrands 28 = .ok (.invokevirtual 59, 3) := by decide +kernel
theorem d_CR_joinStrands_31 : decode b_CR_joinStrands 31 = .ok (.aload_n 0, 1) := by decide +kernel
theorem d_CR_joinStrands_32 : decode b_CR_joinStrands 32 = .ok (.aload_n 0, 1) := by decide +kernel
theorem d_CR_joinStrands_33 : decode b_CR_joinStrands 33 = .ok (.aload_n 0, 1) := by decide +kernel
theorem d_CR_joinStrands_34 : decode b_CR_joinStrands 34 = .ok (.iload_n 1, 1) := by decide +kernel
theorem d_CR_joinStrands_35 : decode b_CR_joinStrands 35 = .ok (.invokevirtual 47, 3) := by decide +kernel
theorem d_CR_joinStrands_38 : decode b_CR_joinStrands 38 = .ok (.invokevirtual 50, 3) := by decide +kernel
theorem d_CR_joinStrands_41 : decode b_CR_joinStrands 41 = .ok (.aload_n 0, 1) := by decide +kernel
theorem d_CR_joinStrands_42 : decode b_CR_joinStrands 42 = .ok (.aload_n 0, 1) := by decide +kernel
theorem d_CR_joinStrands_43 : decode b_CR_joinStrands 43 = .ok (.iload_n 1, 1) := by decide +kernel
theorem d_CR_joinStrands_44 : decode b_CR_joinStrands 44 = .ok (.invokevirtual 56, 3) := by decide +kernel
theorem d_CR_joinStrands_47 : decode b_CR_joinStrands 47 = .ok (.invokevirtual 50, 3) := by decide +kernel
theorem d_CR_joinStrands_50 : decode b_CR_joinStrands 50 = .ok (.invokevirtual 59, 3) := by decide +kernel
theorem d_CR_joinStrands_53 : decode b_CR_joinStrands 53 = .ok (.aload_n 0, 1) := by decide +kernel
theorem d_CR_joinStrands_54 : decode b_CR_joinStrands 54 = .ok (.iload_n 1, 1) := by decide +kernel
theorem d_CR_joinStrands_55 : decode b_CR_joinStrands 55 = .ok (.invokevirtual 63, 3) := by decide +kernel
theorem d_CR_joinStrands_58 : decode b_CR_joinStrands 58 = .ok (.return_, 1) := by decide +kernel
theorem d_CR_makeOne_0 : decode b_CR_makeOne 0 = .ok (.iload_n 1, 1) := by decide +kernel
theorem d_CR_makeOne_1 : decode b_CR_makeOne 1 = .ok (.iload_n 2, 1) := by decide +kernel
theorem d_CR_makeOne_2 : decode b_CR_makeOne 2 = .ok (.invokestatic 67, 3) := by decide +kernel
theorem d_CR_makeOne_5 : decode b_CR_makeOne 5 = .ok (.istore_n 3, 1) := by decide +kernel
theorem d_CR_makeOne_6 : decode b_CR_makeOne 6 = .ok (.iload_n 1, 1) := by decide +kernel
theorem d_CR_makeOne_7 : decode b_CR_makeOne 7 = .ok (.iload_n 2, 1) := by decide +kernel
theorem d_CR_makeOne_8 : decode b_CR_makeOne 8 = .ok (.invokestatic 73, 3) := by decide +kernel
theorem d_CR_makeOne_11 : decode b_CR_makeOne 11 = .ok (.istore 4, 2) := by decide +kernel
theorem d_CR_makeOne_13 : decode b_CR_makeOne 13 = .ok (.iconst 0, 1) := by decide +kernel
theorem d_CR_makeOne_14 : decode b_CR_makeOne 14 = .ok (.istore 5, 2) := by decide +kernel
theorem d_CR_makeOne_16 : decode b_CR_makeOne 16 = .ok (.iload 5, 2) := by decide +kernel
theorem d_CR_makeOne_18 : decode b_CR_makeOne 18 = .ok (.bipush 48, 2) := by decide +kernel
theorem d_CR_makeOne_20 : decode b_CR_makeOne 20 = .ok (.if_icmp .ge 29, 3) := by decide +kernel
theorem d_CR_makeOne_23 : decode b_CR_makeOne 23 = .ok (.aload_n 0, 1) := by decide +kernel
theorem d_CR_makeOne_24 : decode b_CR_makeOne 24 = .ok (.getfield 15, 3) := by decide +kernel
theorem d_CR_makeOne_27 : decode b_CR_makeOne 27 = .ok (.iload 5, 2) := by decide +kernel
theorem d_CR_makeOne_29 : decode b_CR_makeOne 29 = .ok (.iaload, 1) := by decide +kernel
theorem d_CR_makeOne_30 : decode b_CR_makeOne 30 = .ok (.iload 4, 2) := by decide +kernel
theorem d_CR_makeOne_32 : decode b_CR_makeOne 32 = .ok (.if_icmp .ne 11, 3) := by decide +kernel
theorem d_CR_makeOne_35 : decode b_CR_makeOne 35 = .ok (.aload_n 0, 1) := by decide +kernel
theorem d_CR_makeOne_36 : decode b_CR_makeOne 36 = .ok (.getfield 15, 3) := by decide +kernel
theorem d_CR_makeOne_39 : decode b_CR_makeOne 39 = .ok (.iload 5, 2) := by decide +kernel
theorem d_CR_makeOne_41 : decode b_CR_makeOne 41 = .ok (.iload_n 3, 1) := by decide +kernel
theorem d_CR_makeOne_42 : decode b_CR_makeOne 42 = .ok (.iastore, 1) := by decide +kernel
theorem d_CR_makeOne_43 : decode b_CR_makeOne 43 = .ok (.iinc 5 1, 3) := by decide +kernel
theorem d_CR_makeOne_46 : decode b_CR_makeOne 46 = .ok (.goto (-30), 3) := by decide +kernel
theorem d_CR_makeOne_49 : decode b_CR_makeOne 49 = .ok (.return_, 1) := by decide +kernel
theorem d_CR_remove_0 : decode b_CR_remove 0 = .ok (.iload_n 1, 1) := by decide +kernel
theorem d_CR_remove_1 : decode b_CR_remove 1 = .ok (.iconst 1, 1) := by decide +kernel
theorem d_CR_remove_2 : decode b_CR_remove 2 = .ok (.iadd, 1) := by decide +kernel
theorem d_CR_remove_3 : decode b_CR_remove 3 = .ok (.istore_n 2, 1) := by decide +kernel
theorem d_CR_remove_4 : decode b_CR_remove 4 = .ok (.iload_n 2, 1) := by decide +kernel
theorem d_CR_remove_5 : decode b_CR_remove 5 = .ok (.aload_n 0, 1) := by decide +kernel
theorem d_CR_remove_6 : decode b_CR_remove 6 = .ok (.getfield 18, 3) := by decide +kernel
theorem d_CR_remove_9 : decode b_CR_remove 9 = .ok (.if_icmp .ge 51, 3) := by decide +kernel
theorem d_CR_remove_12 : decode b_CR_remove 12 = .ok (.iconst 4, 1) := by decide +kernel
theorem d_CR_remove_13 : decode b_CR_remove 13 = .ok (.iload_n 2, 1) := by decide +kernel
theorem d_CR_remove_14 : decode b_CR_remove 14 = .ok (.imul, 1) := by decide +kernel
theorem d_CR_remove_15 : decode b_CR_remove 15 = .ok (.istore_n 3, 1) := by decide +kernel
theorem d_CR_remove_16 : decode b_CR_remove 16 = .ok (.aload_n 0, 1) := by decide +kernel
theorem d_CR_remove_17 : decode b_CR_remove 17 = .ok (.iload_n 2, 1) := by decide +kernel
theorem d_CR_remove_18 : decode b_CR_remove 18 = .ok (.iconst 1, 1) := by decide +kernel
theorem d_CR_remove_19 : decode b_CR_remove 19 = .ok (.isub, 1) := by decide +kernel
theorem d_CR_remove_20 : decode b_CR_remove 20 = .ok (.aload_n 0, 1) := by decide +kernel
theorem d_CR_remove_21 : decode b_CR_remove 21 = .ok (.iload_n 2, 1) := by decide +kernel
theorem d_CR_remove_22 : decode b_CR_remove 22 = .ok (.invokevirtual 40, 3) := by decide +kernel
theorem d_CR_remove_25 : decode b_CR_remove 25 = .ok (.aload_n 0, 1) := by decide +kernel
theorem d_CR_remove_26 : decode b_CR_remove 26 = .ok (.iload_n 3, 1) := by decide +kernel
theorem d_CR_remove_27 : decode b_CR_remove 27 = .ok (.invokevirtual 50, 3) := by decide +kernel
theorem d_CR_remove_30 : decode b_CR_remove 30 = .ok (.aload_n 0, 1) := by decide +kernel
theorem d_CR_remove_31 : decode b_CR_remove 31 = .ok (.iload_n 3, 1) := by decide +kernel
theorem d_CR_remove_32 : decode b_CR_remove 32 = .ok (.iconst 1, 1) := by decide +kernel
theorem d_CR_remove_33 : decode b_CR_remove 33 = .ok (.iadd, 1) := by decide +kernel
theorem d_CR_remove_34 : decode b_CR_remove 34 = .ok (.invokevirtual 50, 3) := by decide +kernel
theorem d_CR_remove_37 : decode b_CR_remove 37 = .ok (.aload_n 0, 1) := by decide +kernel
theorem d_CR_remove_38 : decode b_CR_remove 38 = .ok (.iload_n 3, 1) := by decide +kernel
theorem d_CR_remove_39 : decode b_CR_remove 39 = .ok (.iconst 2, 1) := by decide +kernel
theorem d_CR_remove_40 : decode b_CR_remove 40 = .ok (.iadd, 1) := by decide +kernel
theorem d_CR_remove_41 : decode b_CR_remove 41 = .ok (.invokevirtual 50, 3) := by decide +kernel
theorem d_CR_remove_44 : decode b_CR_remove 44 = .ok (.aload_n 0, 1) := by decide +kernel
theorem d_CR_remove_45 : decode b_CR_remove 45 = .ok (.iload_n 3, 1) := by decide +kernel
theorem d_CR_remove_46 : decode b_CR_remove 46 = .ok (.iconst 3, 1) := by decide +kernel
theorem d_CR_remove_47 : decode b_CR_remove 47 = .ok (.iadd, 1) := by decide +kernel
theorem d_CR_remove_48 : decode b_CR_remove 48 = .ok (.invokevirtual 50, 3) := by decide +kernel
theorem d_CR_remove_51 : decode b_CR_remove 51 = .ok (.invokevirtual 22, 3) := by decide +kernel
theorem d_CR_remove_54 : decode b_CR_remove 54 = .ok (.iinc 2 1, 3) := by decide +kernel
theorem d_CR_remove_57 : decode b_CR_remove 57 = .ok (.goto (-53), 3) := by decide +kernel
theorem d_CR_remove_60 : decode b_CR_remove 60 = .ok (.aload_n 0, 1) := by decide +kernel
theorem d_CR_remove_61 : decode b_CR_remove 61 = .ok (.dup, 1) := by decide +kernel
theorem d_CR_remove_62 : decode b_CR_remove 62 = .ok (.getfield 18, 3) := by decide +kernel
theorem d_CR_remove_65 : decode b_CR_remove 65 = .ok (.iconst 1, 1) := by decide +kernel
theorem d_CR_remove_66 : decode b_CR_remove 66 = .ok (.isub, 1) := by decide +kernel
theorem d_CR_remove_67 : decode b_CR_remove 67 = .ok (.putfield 18, 3) := by decide +kernel
theorem d_CR_remove_70 : decode b_CR_remove 70 = .ok (.return_, 1) := by decide +kernel
theorem d_CR_write_0 : decode b_CR_write 0 = .ok (.iload_n 1, 1) := by decide +kernel
theorem d_CR_write_1 : decode b_CR_write 1 = .ok (.ifCond .lt 9, 3) := by decide +kernel
theorem d_CR_write_4 : decode b_CR_write 4 = .ok (.iload_n 1, 1) := by decide +kernel
theorem d_CR_write_5 : decode b_CR_write 5 = .ok (.bipush 12, 2) := by decide +kernel
theorem d_CR_write_7 : decode b_CR_write 7 = .ok (.if_icmp .lt 4, 3) := by decide +kernel
theorem d_CR_write_10 : decode b_CR_write 10 = .ok (.return_, 1) := by decide +kernel
theorem d_CR_write_11 : decode b_CR_write 11 = .ok (.iconst 4, 1) := by decide +kernel
theorem d_CR_write_12 : decode b_CR_write 12 = .ok (.iload_n 1, 1) := by decide +kernel
theorem d_CR_write_13 : decode b_CR_write 13 = .ok (.imul, 1) := by decide +kernel
theorem d_CR_write_14 : decode b_CR_write 14 = .ok (.istore 7, 2) := by decide +kernel
theorem d_CR_write_16 : decode b_CR_write 16 = .ok (.aload_n 0, 1) := by decide +kernel
theorem d_CR_write_17 : decode b_CR_write 17 = .ok (.getfield 9, 3) := by decide +kernel
theorem d_CR_write_20 : decode b_CR_write 20 = .ok (.iload_n 1, 1) := by decide +kernel
theorem d_CR_write_21 : decode b_CR_write 21 = .ok (.iload_n 2, 1) := by decide +kernel
theorem d_CR_write_22 : decode b_CR_write 22 = .ok (.iastore, 1) := by decide +kernel
theorem d_CR_write_23 : decode b_CR_write 23 = .ok (.aload_n 0, 1) := by decide +kernel
theorem d_CR_write_24 : decode b_CR_write 24 = .ok (.getfield 15, 3) := by decide +kernel
theorem d_CR_write_27 : decode b_CR_write 27 = .ok (.iload 7, 2) := by decide +kernel
theorem d_CR_write_29 : decode b_CR_write 29 = .ok (.iload_n 3, 1) := by decide +kernel
theorem d_CR_write_30 : decode b_CR_write 30 = .ok (.iastore, 1) := by decide +kernel
theorem d_CR_write_31 : decode b_CR_write 31 = .ok (.aload_n 0, 1) := by decide +kernel
theorem d_CR_write_32 : decode b_CR_write 32 = .ok (.getfield 15, 3) := by decide +kernel
theorem d_CR_write_35 : decode b_CR_write 35 = .ok (.iload 7, 2) := by decide +kernel
theorem d_CR_write_37 : decode b_CR_write 37 = .ok (.iconst 1, 1) := by decide +kernel
theorem d_CR_write_38 : decode b_CR_write 38 = .ok (.iadd, 1) := by decide +kernel
theorem d_CR_write_39 : decode b_CR_write 39 = .ok (.iload 4, 2) := by decide +kernel
theorem d_CR_write_41 : decode b_CR_write 41 = .ok (.iastore, 1) := by decide +kernel
theorem d_CR_write_42 : decode b_CR_write 42 = .ok (.aload_n 0, 1) := by decide +kernel
theorem d_CR_write_43 : decode b_CR_write 43 = .ok (.getfield 15, 3) := by decide +kernel
theorem d_CR_write_46 : decode b_CR_write 46 = .ok (.iload 7, 2) := by decide +kernel
theorem d_CR_write_48 : decode b_CR_write 48 = .ok (.iconst 2, 1) := by decide +kernel
theorem d_CR_write_49 : decode b_CR_write 49 = .ok (.iadd, 1) := by decide +kernel
theorem d_CR_write_50 : decode b_CR_write 50 = .ok (.iload 5, 2) := by decide +kernel
theorem d_CR_write_52 : decode b_CR_write 52 = .ok (.iastore, 1) := by decide +kernel
theorem d_CR_write_53 : decode b_CR_write 53 = .ok (.aload_n 0, 1) := by decide +kernel
theorem d_CR_write_54 : decode b_CR_write 54 = .ok (.getfield 15, 3) := by decide +kernel
theorem d_CR_write_57 : decode b_CR_write 57 = .ok (.iload 7, 2) := by decide +kernel
theorem d_CR_write_59 : decode b_CR_write 59 = .ok (.iconst 3, 1) := by decide +kernel
theorem d_CR_write_60 : decode b_CR_write 60 = .ok (.iadd, 1) := by decide +kernel
theorem d_CR_write_61 : decode b_CR_write 61 = .ok (.iload 6, 2) := by decide +kernel
theorem d_CR_write_63 : decode b_CR_write 63 = .ok (.iastore, 1) := by decide +kernel
theorem d_CR_write_64 : decode b_CR_write 64 = .ok (.return_, 1) := by decide +kernel
theorem d_DR_init_0 : decode b_DR_init 0 = .ok (.aload_n 0, 1) := by decide +kernel
theorem d_DR_init_1 : decode b_DR_init 1 = .ok (.invokespecial 3, 3) := by decide +kernel
theorem d_DR_init_4 : decode b_DR_init 4 = .ok (.aload_n 0, 1) := by decide +kernel
theorem d_DR_init_5 : decode b_DR_init 5 = .ok (.bipush 48, 2) := by decide +kernel
theorem d_DR_init_7 : decode b_DR_init 7 = .ok (.newarray .int, 2) := by decide +kernel
theorem d_DR_init_9 : decode b_DR_init 9 = .ok (.putfield 9, 3) := by decide +kernel
theorem d_DR_init_12 : decode b_DR_init 12 = .ok (.aload_n 0, 1) := by decide +kernel
theorem d_DR_init_13 : decode b_DR_init 13 = .ok (.bipush 12, 2) := by decide +kernel
theorem d_DR_init_15 : decode b_DR_init 15 = .ok (.newarray .int, 2) := by decide +kernel
theorem d_DR_init_17 : decode b_DR_init 17 = .ok (.putfield 15, 3) := by decide +kernel
theorem d_DR_init_20 : decode b_DR_init 20 = .ok (.aload_n 0, 1) := by decide +kernel
theorem d_DR_init_21 : decode b_DR_init 21 = .ok (.bipush 12, 2) := by decide +kernel
theorem d_DR_init_23 : decode b_DR_init 23 = .ok (.newarray .int, 2) := by decide +kernel
theorem d_DR_init_25 : decode b_DR_init 25 = .ok (.putfield 18, 3) := by decide +kernel
theorem d_DR_init_28 : decode b_DR_init 28 = .ok (.aload_n 0, 1) := by decide +kernel
theorem d_DR_init_29 : decode b_DR_init 29 = .ok (.bipush 48, 2) := by decide +kernel
theorem d_DR_init_31 : decode b_DR_init 31 = .ok (.newarray .boolean, 2) := by decide +kernel
theorem d_DR_init_33 : decode b_DR_init 33 = .ok (.putfield 21, 3) := by decide +kernel
theorem d_DR_init_36 : decode b_DR_init 36 = .ok (.return_, 1) := by decide +kernel
theorem d_DR_firstBroken_0 : decode b_DR_firstBroken 0 = .ok (.aload_n 1, 1) := by decide +kernel
theorem d_DR_firstBroken_1 : decode b_DR_firstBroken 1 = .ok (.invokevirtual 25, 3) := by decide +kernel
theorem d_DR_firstBroken_4 : decode b_DR_firstBroken 4 = .ok (.bipush 48, 2) := by decide +kernel
theorem d_DR_firstBroken_6 : decode b_DR_firstBroken 6 = .ok (.invokestatic 31, 3) := by decide +kernel
theorem d_DR_firstBroken_9 : decode b_DR_firstBroken 9 = .ok (.istore_n 2, 1) := by decide +kernel
theorem d_DR_firstBroken_10 : decode b_DR_firstBroken 10 = .ok (.aload_n 0, 1) := by decide +kernel
theorem d_DR_firstBroken_11 : decode b_DR_firstBroken 11 = .ok (.aload_n 1, 1) := by decide +kernel
theorem d_DR_firstBroken_12 : decode b_DR_firstBroken 12 = .ok (.iload_n 2, 1) := by decide +kernel
theorem d_DR_firstBroken_13 : decode b_DR_firstBroken 13 = .ok (.invokevirtual 37, 3) := by decide +kernel
theorem d_DR_firstBroken_16 : decode b_DR_firstBroken 16 = .ok (.ifCond .ne 5, 3) := by decide +kernel
theorem d_DR_firstBroken_19 : decode b_DR_firstBroken 19 = .ok (.iconst 1, 1) := by decide +kernel
theorem d_DR_firstBroken_20 : decode b_DR_firstBroken 20 = .ok (.ireturn, 1) := by decide +kernel
theorem d_DR_firstBroken_21 : decode b_DR_firstBroken 21 = .ok (.aload_n 0, 1) := by decide +kernel
theorem d_DR_firstBroken_22 : decode b_DR_firstBroken 22 = .ok (.aload_n 1, 1) := by decide +kernel
theorem d_DR_firstBroken_23 : decode b_DR_firstBroken 23 = .ok (.iload_n 2, 1) := by decide +kernel
theorem d_DR_firstBroken_24 : decode b_DR_firstBroken 24 = .ok (.invokevirtual 41, 3) := by decide +kernel
theorem d_DR_firstBroken_27 : decode b_DR_firstBroken 27 = .ok (.ifCond .ne 5, 3) := by decide +kernel
theorem d_DR_firstBroken_30 : decode b_DR_firstBroken 30 = .ok (.iconst 2, 1) := by decide +kernel
theorem d_DR_firstBroken_31 : decode b_DR_firstBroken 31 = .ok (.ireturn, 1) := by decide +kernel
theorem d_DR_firstBroken_32 : decode b_DR_firstBroken 32 = .ok (.aload_n 0, 1) := by decide +kernel
theorem d_DR_firstBroken_33 : decode b_DR_firstBroken 33 = .ok (.iload_n 2, 1) := by decide +kernel
theorem d_DR_firstBroken_34 : decode b_DR_firstBroken 34 = .ok (.invokevirtual 44, 3) := by decide +kernel
theorem d_DR_firstBroken_37 : decode b_DR_firstBroken 37 = .ok (.aload_n 0, 1) := by decide +kernel
theorem d_DR_firstBroken_38 : decode b_DR_firstBroken 38 = .ok (.iload_n 2, 1) := by decide +kernel
theorem d_DR_firstBroken_39 : decode b_DR_firstBroken 39 = .ok (.invokevirtual 48, 3) := by decide +kernel
theorem d_DR_firstBroken_42 : decode b_DR_firstBroken 42 = .ok (.ifCond .eq 7, 3) := by decide +kernel
theorem d_DR_firstBroken_45 : decode b_DR_firstBroken 45 = .ok (.iconst 0, 1) := by decide +kernel
theorem d_DR_firstBroken_46 : decode b_DR_firstBroken 46 = .ok (.goto 4, 3) := by decide +kernel
theorem d_DR_firstBroken_49 : decode b_DR_firstBroken 49 = .ok (.iconst 3, 1) := by decide +kernel
theorem d_DR_firstBroken_50 : decode b_DR_firstBroken 50 = .ok (.ireturn, 1) := by decide +kernel
theorem d_DR_findPartners_0 : decode b_DR_findPartners 0 = .ok (.iconst 0, 1) := by decide +kernel
theorem d_DR_findPartners_1 : decode b_DR_findPartners 1 = .ok (.istore_n 3, 1) := by decide +kernel
theorem d_DR_findPartners_2 : decode b_DR_findPartners 2 = .ok (.iload_n 3, 1) := by decide +kernel
theorem d_DR_findPartners_3 : decode b_DR_findPartners 3 = .ok (.iload_n 2, 1) := by decide +kernel
theorem d_DR_findPartners_4 : decode b_DR_findPartners 4 = .ok (.if_icmp .ge 66, 3) := by decide +kernel
theorem d_DR_findPartners_7 : decode b_DR_findPartners 7 = .ok (.iconst 0, 1) := by decide +kernel
theorem d_DR_findPartners_8 : decode b_DR_findPartners 8 = .ok (.istore 4, 2) := by decide +kernel
theorem d_DR_findPartners_10 : decode b_DR_findPartners 10 = .ok (.iconst 0, 1) := by decide +kernel
theorem d_DR_findPartners_11 : decode b_DR_findPartners 11 = .ok (.istore 5, 2) := by decide +kernel
theorem d_DR_findPartners_13 : decode b_DR_findPartners 13 = .ok (.iload 5, 2) := by decide +kernel
theorem d_DR_findPartners_15 : decode b_DR_findPartners 15 = .ok (.iload_n 2, 1) := by decide +kernel
theorem d_DR_findPartners_16 : decode b_DR_findPartners 16 = .ok (.if_icmp .ge 40, 3) := by decide +kernel
theorem d_DR_findPartners_19 : decode b_DR_findPartners 19 = .ok (.iload 5, 2) := by decide +kernel
theorem d_DR_findPartners_21 : decode b_DR_findPartners 21 = .ok (.iload_n 3, 1) := by decide +kernel
theorem d_DR_findPartners_22 : decode b_DR_findPartners 22 = .ok (.if_icmp .eq 28, 3) := by decide +kernel
theorem d_DR_findPartners_25 : decode b_DR_findPartners 25 = .ok (.aload_n 1, 1) := by decide +kernel
theorem d_DR_findPartners_26 : decode b_DR_findPartners 26 = .ok (.iload 5, 2) := by decide +kernel
theorem d_DR_findPartners_28 : decode b_DR_findPartners 28 = .ok (.invokevirtual 52, 3) := by decide +kernel
theorem d_DR_findPartners_31 : decode b_DR_findPartners 31 = .ok (.aload_n 1, 1) := by decide +kernel
theorem d_DR_findPartners_32 : decode b_DR_findPartners 32 = .ok (.iload_n 3, 1) := by decide +kernel
theorem d_DR_findPartners_33 : decode b_DR_findPartners 33 = .ok (.invokevirtual 52, 3) := by decide +kernel
theorem d_DR_findPartners_36 : decode b_DR_findPartners 36 = .ok (.if_icmp .ne 14, 3) := by decide +kernel
theorem d_DR_findPartners_39 : decode b_DR_findPartners 39 = .ok (.aload_n 0, 1) := by decide +kernel
theorem d_DR_findPartners_40 : decode b_DR_findPartners 40 = .ok (.getfield 9, 3) := by decide +kernel
theorem d_DR_findPartners_43 : decode b_DR_findPartners 43 = .ok (.iload_n 3, 1) := by decide +kernel
theorem d_DR_findPartners_44 : decode b_DR_findPartners 44 = .ok (.iload 5, 2) := by decide +kernel
theorem d_DR_findPartners_46 : decode b_DR_findPartners 46 = .ok (.iastore, 1) := by decide +kernel
theorem d_DR_findPartners_47 : decode b_DR_findPartners 47 = .ok (.iinc 4 1, 3) := by decide +kernel
theorem d_DR_findPartners_50 : decode b_DR_findPartners 50 = .ok (.iinc 5 1, 3) := by decide +kernel
theorem d_DR_findPartners_53 : decode b_DR_findPartners 53 = .ok (.goto (-40), 3) := by decide +kernel
theorem d_DR_findPartners_56 : decode b_DR_findPartners 56 = .ok (.iload 4, 2) := by decide +kernel
theorem d_DR_findPartners_58 : decode b_DR_findPartners 58 = .ok (.iconst 1, 1) := by decide +kernel
theorem d_DR_findPartners_59 : decode b_DR_findPartners 59 = .ok (.if_icmp .eq 5, 3) := by decide +kernel
theorem d_DR_findPartners_62 : decode b_DR_findPartners 62 = .ok (.iconst 0, 1) := by decide +kernel
theorem d_DR_findPartners_63 : decode b_DR_findPartners 63 = .ok (.ireturn, 1) := by decide +kernel
theorem d_DR_findPartners_64 : decode b_DR_findPartners 64 = .ok (.iinc 3 1, 3) := by decide +kernel
theorem d_DR_findPartners_67 : decode b_DR_findPartners 67 = .ok (.goto (-65), 3) := by decide +kernel
theorem d_DR_findPartners_70 : decode b_DR_findPartners 70 = .ok (.iconst 1, 1) := by decide +kernel
theorem d_DR_findPartners_71 : decode b_DR_findPartners 71 = .ok (.ireturn, 1) := by decide +kernel
theorem d_DR_partnersAreEdges_0 : decode b_DR_partnersAreEdges 0 = .ok (.iconst 0, 1) := by decide +kernel
theorem d_DR_partnersAreEdges_1 : decode b_DR_partnersAreEdges 1 = .ok (.istore_n 3, 1) := by decide +kernel
theorem d_DR_partnersAreEdges_2 : decode b_DR_partnersAreEdges 2 = .ok (.iload_n 3, 1) := by decide +kernel
theorem d_DR_partnersAreEdges_3 : decode b_DR_partnersAreEdges 3 = .ok (.iload_n 2, 1) := by decide +kernel
theorem d_DR_partnersAreEdges_4 : decode b_DR_partnersAreEdges 4 = .ok (.if_icmp .ge 29, 3) := by decide +kernel
theorem d_DR_partnersAreEdges_7 : decode b_DR_partnersAreEdges 7 = .ok (.aload_n 1, 1) := by decide +kernel
theorem d_DR_partnersAreEdges_8 : decode b_DR_partnersAreEdges 8 = .ok (.iload_n 3, 1) := by decide +kernel
theorem d_DR_partnersAreEdges_9 : decode b_DR_partnersAreEdges 9 = .ok (.invokevirtual 56, 3) := by decide +kernel
theorem d_DR_partnersAreEdges_12 : decode b_DR_partnersAreEdges 12 = .ok (.aload_n 1, 1) := by decide +kernel
theorem d_DR_partnersAreEdges_13 : decode b_DR_partnersAreEdges 13 = .ok (.aload_n 0, 1) := by decide +kernel
theorem d_DR_partnersAreEdges_14 : decode b_DR_partnersAreEdges 14 = .ok (.getfield 9, 3) := by decide +kernel
theorem d_DR_partnersAreEdges_17 : decode b_DR_partnersAreEdges 17 = .ok (.iload_n 3, 1) := by decide +kernel
theorem d_DR_partnersAreEdges_18 : decode b_DR_partnersAreEdges 18 = .ok (.iaload, 1) := by decide +kernel
theorem d_DR_partnersAreEdges_19 : decode b_DR_partnersAreEdges 19 = .ok (.invokevirtual 56, 3) := by decide +kernel
theorem d_DR_partnersAreEdges_22 : decode b_DR_partnersAreEdges 22 = .ok (.if_icmp .ne 5, 3) := by decide +kernel
theorem d_DR_partnersAreEdges_25 : decode b_DR_partnersAreEdges 25 = .ok (.iconst 0, 1) := by decide +kernel
theorem d_DR_partnersAreEdges_26 : decode b_DR_partnersAreEdges 26 = .ok (.ireturn, 1) := by decide +kernel
theorem d_DR_partnersAreEdges_27 : decode b_DR_partnersAreEdges 27 = .ok (.iinc 3 1, 3) := by decide +kernel
theorem d_DR_partnersAreEdges_30 : decode b_DR_partnersAreEdges 30 = .ok (.goto (-28), 3) := by decide +kernel
theorem d_DR_partnersAreEdges_33 : decode b_DR_partnersAreEdges 33 = .ok (.iconst 1, 1) := by decide +kernel
theorem d_DR_partnersAreEdges_34 : decode b_DR_partnersAreEdges 34 = .ok (.ireturn, 1) := by decide +kernel
theorem d_DR_findPieces_0 : decode b_DR_findPieces 0 = .ok (.iconst 0, 1) := by decide +kernel
theorem d_DR_findPieces_1 : decode b_DR_findPieces 1 = .ok (.istore_n 2, 1) := by decide +kernel
theorem d_DR_findPieces_2 : decode b_DR_findPieces 2 = .ok (.iload_n 2, 1) := by decide +kernel
theorem d_DR_findPieces_3 : decode b_DR_findPieces 3 = .ok (.bipush 12, 2) := by decide +kernel
theorem d_DR_findPieces_5 : decode b_DR_findPieces 5 = .ok (.if_icmp .ge 16, 3) := by decide +kernel
theorem d_DR_findPieces_8 : decode b_DR_findPieces 8 = .ok (.aload_n 0, 1) := by decide +kernel
theorem d_DR_findPieces_9 : decode b_DR_findPieces 9 = .ok (.getfield 15, 3) := by decide +kernel
theorem d_DR_findPieces_12 : decode b_DR_findPieces 12 = .ok (.iload_n 2, 1) := by decide +kernel
theorem d_DR_findPieces_13 : decode b_DR_findPieces 13 = .ok (.iload_n 2, 1) := by decide +kernel
theorem d_DR_findPieces_14 : decode b_DR_findPieces 14 = .ok (.iastore, 1) := by decide +kernel
theorem d_DR_findPieces_15 : decode b_DR_findPieces 15 = .ok (.iinc 2 1, 3) := by decide +kernel
theorem d_DR_findPieces_18 : decode b_DR_findPieces 18 = .ok (.goto (-16), 3) := by decide +kernel
theorem d_DR_findPieces_21 : decode b_DR_findPieces 21 = .ok (.iconst 0, 1) := by decide +kernel
theorem d_DR_findPieces_22 : decode b_DR_findPieces 22 = .ok (.istore_n 2, 1) := by decide +kernel
theorem d_DR_findPieces_23 : decode b_DR_findPieces 23 = .ok (.iload_n 2, 1) := by decide +kernel
theorem d_DR_findPieces_24 : decode b_DR_findPieces 24 = .ok (.iload_n 1, 1) := by decide +kernel
theorem d_DR_findPieces_25 : decode b_DR_findPieces 25 = .ok (.if_icmp .ge 63, 3) := by decide +kernel
theorem d_DR_findPieces_28 : decode b_DR_findPieces 28 = .ok (.aload_n 0, 1) := by decide +kernel
theorem d_DR_findPieces_29 : decode b_DR_findPieces 29 = .ok (.iload_n 2, 1) := by decide +kernel
theorem d_DR_findPieces_30 : decode b_DR_findPieces 30 = .ok (.invokevirtual 59, 3) := by decide +kernel
theorem d_DR_findPieces_33 : decode b_DR_findPieces 33 = .ok (.istore_n 3, 1) := by decide +kernel
theorem d_DR_findPieces_34 : decode b_DR_findPieces 34 = .ok (.aload_n 0, 1) := by decide +kernel
theorem d_DR_findPieces_35 : decode b_DR_findPieces 35 = .ok (.aload_n 0, 1) := by decide +kernel
theorem d_DR_findPieces_36 : decode b_DR_findPieces 36 = .ok (.getfield 9, 3) := by decide +kernel
theorem d_DR_findPieces_39 : decode b_DR_findPieces 39 = .ok (.iload_n 2, 1) := by decide +kernel
theorem d_DR_findPieces_40 : decode b_DR_findPieces 40 = .ok (.iaload, 1) := by decide +kernel
theorem d_DR_findPieces_41 : decode b_DR_findPieces 41 = .ok (.invokevirtual 59, 3) := by decide +kernel
theorem d_DR_findPieces_44 : decode b_DR_findPieces 44 = .ok (.istore 4, 2) := by decide +kernel
theorem d_DR_findPieces_46 : decode b_DR_findPieces 46 = .ok (.iconst 0, 1) := by decide +kernel
theorem d_DR_findPieces_47 : decode b_DR_findPieces 47 = .ok (.istore 5, 2) := by decide +kernel
theorem d_DR_findPieces_49 : decode b_DR_findPieces 49 = .ok (.iload 5, 2) := by decide +kernel
theorem d_DR_findPieces_51 : decode b_DR_findPieces 51 = .ok (.bipush 12, 2) := by decide +kernel
theorem d_DR_findPieces_53 : decode b_DR_findPieces 53 = .ok (.if_icmp .ge 29, 3) := by decide +kernel
theorem d_DR_findPieces_56 : decode b_DR_findPieces 56 = .ok (.aload_n 0, 1) := by decide +kernel
theorem d_DR_findPieces_57 : decode b_DR_findPieces 57 = .ok (.getfield 15, 3) := by decide +kernel
theorem d_DR_findPieces_60 : decode b_DR_findPieces 60 = .ok (.iload 5, 2) := by decide +kernel
theorem d_DR_findPieces_62 : decode b_DR_findPieces 62 = .ok (.iaload, 1) := by decide +kernel
theorem d_DR_findPieces_63 : decode b_DR_findPieces 63 = .ok (.iload 4, 2) := by decide +kernel
theorem d_DR_findPieces_65 : decode b_DR_findPieces 65 = .ok (.if_icmp .ne 11, 3) := by decide +kernel
theorem d_DR_findPieces_68 : decode b_DR_findPieces 68 = .ok (.aload_n 0, 1) := by decide +kernel
theorem d_DR_findPieces_69 : decode b_DR_findPieces 69 = .ok (.getfield 15, 3) := by decide +kernel
theorem d_DR_findPieces_72 : decode b_DR_findPieces 72 = .ok (.iload 5, 2) := by decide +kernel
theorem d_DR_findPieces_74 : decode b_DR_findPieces 74 = .ok (.iload_n 3, 1) := by decide +kernel
theorem d_DR_findPieces_75 : decode b_DR_findPieces 75 = .ok (.iastore, 1) := by decide +kernel
theorem d_DR_findPieces_76 : decode b_DR_findPieces 76 = .ok (.iinc 5 1, 3) := by decide +kernel
theorem d_DR_findPieces_79 : decode b_DR_findPieces 79 = .ok (.goto (-30), 3) := by decide +kernel
theorem d_DR_findPieces_82 : decode b_DR_findPieces 82 = .ok (.iinc 2 1, 3) := by decide +kernel
theorem d_DR_findPieces_85 : decode b_DR_findPieces 85 = .ok (.goto (-62), 3) := by decide +kernel
theorem d_DR_findPieces_88 : decode b_DR_findPieces 88 = .ok (.return_, 1) := by decide +kernel
theorem d_DR_pieceAt_0 : decode b_DR_pieceAt 0 = .ok (.iload_n 1, 1) := by decide +kernel
theorem d_DR_pieceAt_1 : decode b_DR_pieceAt 1 = .ok (.iconst 4, 1) := by decide +kernel
theorem d_DR_pieceAt_2 : decode b_DR_pieceAt 2 = .ok (.idiv, 1) := by decide +kernel
theorem d_DR_pieceAt_3 : decode b_DR_pieceAt 3 = .ok (.istore_n 2, 1) := by decide +kernel
theorem d_DR_pieceAt_4 : decode b_DR_pieceAt 4 = .ok (.iload_n 2, 1) := by decide +kernel
theorem d_DR_pieceAt_5 : decode b_DR_pieceAt 5 = .ok (.ifCond .lt 18, 3) := by decide +kernel
theorem d_DR_pieceAt_8 : decode b_DR_pieceAt 8 = .ok (.iload_n 2, 1) := by decide +kernel
theorem d_DR_pieceAt_9 : decode b_DR_pieceAt 9 = .ok (.bipush 12, 2) := by decide +kernel
theorem d_DR_pieceAt_11 : decode b_DR_pieceAt 11 = .ok (.if_icmp .ge 12, 3) := by decide +kernel
theorem d_DR_pieceAt_14 : decode b_DR_pieceAt 14 = .ok (.aload_n 0, 1) := by decide +kernel
theorem d_DR_pieceAt_15 : decode b_DR_pieceAt 15 = .ok (.getfield 15, 3) := by decide +kernel
theorem d_DR_pieceAt_18 : decode b_DR_pieceAt 18 = .ok (.iload_n 2, 1) := by decide +kernel
theorem d_DR_pieceAt_19 : decode b_DR_pieceAt 19 = .ok (.iaload, 1) := by decide +kernel
theorem d_DR_pieceAt_20 : decode b_DR_pieceAt 20 = .ok (.goto 4, 3) := by decide +kernel
theorem d_DR_pieceAt_23 : decode b_DR_pieceAt 23 = .ok (.iconst (-1), 1) := by decide +kernel
theorem d_DR_pieceAt_24 : decode b_DR_pieceAt 24 = .ok (.ireturn, 1) := by decide +kernel
theorem d_DR_piecesAreSpheres_0 : decode b_DR_piecesAreSpheres 0 = .ok (.aload_n 0, 1) := by decide +kernel
theorem d_DR_piecesAreSpheres_1 : decode b_DR_piecesAreSpheres 1 = .ok (.getfield 18, 3) := by decide +kernel
theorem d_DR_piecesAreSpheres_4 : decode b_DR_piecesAreSpheres 4 = .ok (.iconst 0, 1) := by decide +kernel
theorem d_DR_piecesAreSpheres_5 : decode b_DR_piecesAreSpheres 5 = .ok (.invokestatic 62, 3) := by decide +kernel
theorem d_DR_piecesAreSpheres_8 : decode b_DR_piecesAreSpheres 8 = .ok (.aload_n 0, 1) := by decide +kernel
theorem d_DR_piecesAreSpheres_9 : decode b_DR_piecesAreSpheres 9 = .ok (.iload_n 1, 1) := by decide +kernel
theorem d_DR_piecesAreSpheres_10 : decode b_DR_piecesAreSpheres 10 = .ok (.invokevirtual 68, 3) := by decide +kernel
theorem d_DR_piecesAreSpheres_13 : decode b_DR_piecesAreSpheres 13 = .ok (.iconst 0, 1) := by decide +kernel
theorem d_DR_piecesAreSpheres_14 : decode b_DR_piecesAreSpheres 14 = .ok (.istore_n 2, 1) := by decide +kernel
theorem d_DR_piecesAreSpheres_15 : decode b_DR_piecesAreSpheres 15 = .ok (.iload_n 2, 1) := by decide +kernel
theorem d_DR_piecesAreSpheres_16 : decode b_DR_piecesAreSpheres 16 = .ok (.iload_n 1, 1) := by decide +kernel
theorem d_DR_piecesAreSpheres_17 : decode b_DR_piecesAreSpheres 17 = .ok (.if_icmp .ge 15, 3) := by decide +kernel
theorem d_DR_piecesAreSpheres_20 : decode b_DR_piecesAreSpheres 20 = .ok (.aload_n 0, 1) := by decide +kernel
theorem d_DR_piecesAreSpheres_21 : decode b_DR_piecesAreSpheres 21 = .ok (.iload_n 2, 1) := by decide +kernel
theorem d_DR_piecesAreSpheres_22 : decode b_DR_piecesAreSpheres 22 = .ok (.iconst (-1), 1) := by decide +kernel
theorem d_DR_piecesAreSpheres_23 : decode b_DR_piecesAreSpheres 23 = .ok (.invokevirtual 71, 3) := by decide +kernel
theorem d_DR_piecesAreSpheres_26 : decode b_DR_piecesAreSpheres 26 = .ok (.iinc 2 4, 3) := by decide +kernel
theorem d_DR_piecesAreSpheres_29 : decode b_DR_piecesAreSpheres 29 = .ok (.goto (-14), 3) := by decide +kernel
theorem d_DR_piecesAreSpheres_32 : decode b_DR_piecesAreSpheres 32 = .ok (.iconst 0, 1) := by decide +kernel
theorem d_DR_piecesAreSpheres_33 : decode b_DR_piecesAreSpheres 33 = .ok (.istore_n 2, 1) := by decide +kernel
theorem d_DR_piecesAreSpheres_34 : decode b_DR_piecesAreSpheres 34 = .ok (.iload_n 2, 1) := by decide +kernel
theorem d_DR_piecesAreSpheres_35 : decode b_DR_piecesAreSpheres 35 = .ok (.iload_n 1, 1) := by decide +kernel
theorem d_DR_piecesAreSpheres_36 : decode b_DR_piecesAreSpheres 36 = .ok (.if_icmp .ge 37, 3) := by decide +kernel
theorem d_DR_piecesAreSpheres_39 : decode b_DR_piecesAreSpheres 39 = .ok (.aload_n 0, 1) := by decide +kernel
theorem d_DR_piecesAreSpheres_40 : decode b_DR_piecesAreSpheres 40 = .ok (.iload_n 2, 1) := by decide +kernel
theorem d_DR_piecesAreSpheres_41 : decode b_DR_piecesAreSpheres 41 = .ok (.invokevirtual 59, 3) := by decide +kernel
theorem d_DR_piecesAreSpheres_44 : decode b_DR_piecesAreSpheres 44 = .ok (.istore_n 3, 1) := by decide +kernel
theorem d_DR_piecesAreSpheres_45 : decode b_DR_piecesAreSpheres 45 = .ok (.iload_n 3, 1) := by decide +kernel
theorem d_DR_piecesAreSpheres_46 : decode b_DR_piecesAreSpheres 46 = .ok (.ifCond .lt 19, 3) := by decide +kernel
theorem d_DR_piecesAreSpheres_49 : decode b_DR_piecesAreSpheres 49 = .ok (.iload_n 3, 1) := by decide +kernel
theorem d_DR_piecesAreSpheres_50 : decode b_DR_piecesAreSpheres 50 = .ok (.bipush 12, 2) := by decide +kernel
theorem d_DR_piecesAreSpheres_52 : decode b_DR_piecesAreSpheres 52 = .ok (.if_icmp .ge 13, 3) := by decide +kernel
theorem d_DR_piecesAreSpheres_55 : decode b_DR_piecesAreSpheres 55 = .ok (.aload_n 0, 1) := by decide +kernel
theorem d_DR_piecesAreSpheres_56 : decode b_DR_piecesAreSpheres 56 = .ok (.getfield 18, 3) := by decide +kernel
theorem d_DR_piecesAreSpheres_59 : decode b_DR_piecesAreSpheres 59 = .ok (.iload_n 3, 1) := by decide +kernel
theorem d_DR_piecesAreSpheres_60 : decode b_DR_piecesAreSpheres 60 = .ok (.iaload, 1) := by decide +kernel
theorem d_DR_piecesAreSpheres_61 : decode b_DR_piecesAreSpheres 61 = .ok (.iconst 2, 1) := by decide +kernel
theorem d_DR_piecesAreSpheres_62 : decode b_DR_piecesAreSpheres 62 = .ok (.if_icmp .eq 5, 3) := by decide +kernel
theorem d_DR_piecesAreSpheres_65 : decode b_DR_piecesAreSpheres 65 = .ok (.iconst 0, 1) := by decide +kernel
theorem d_DR_piecesAreSpheres_66 : decode b_DR_piecesAreSpheres 66 = .ok (.ireturn, 1) := by decide +kernel
theorem d_DR_piecesAreSpheres_67 : decode b_DR_piecesAreSpheres 67 = .ok (.iinc 2 4, 3) := by decide +kernel
theorem d_DR_piecesAreSpheres_70 : decode b_DR_piecesAreSpheres 70 = .ok (.goto (-36), 3) := by decide +kernel
theorem d_DR_piecesAreSpheres_73 : decode b_DR_piecesAreSpheres 73 = .ok (.iconst 1, 1) := by decide +kernel
theorem d_DR_piecesAreSpheres_74 : decode b_DR_piecesAreSpheres 74 = .ok (.ireturn, 1) := by decide +kernel
theorem d_DR_countFaces_0 : decode b_DR_countFaces 0 = .ok (.iconst 0, 1) := by decide +kernel
theorem d_DR_countFaces_1 : decode b_DR_countFaces 1 = .ok (.istore_n 2, 1) := by decide +kernel
theorem d_DR_countFaces_2 : decode b_DR_countFaces 2 = .ok (.iload_n 2, 1) := by decide +kernel
theorem d_DR_countFaces_3 : decode b_DR_countFaces 3 = .ok (.iload_n 1, 1) := by decide +kernel
theorem d_DR_countFaces_4 : decode b_DR_countFaces 4 = .ok (.if_icmp .ge 16, 3) := by decide +kernel
theorem d_DR_countFaces_7 : decode b_DR_countFaces 7 = .ok (.aload_n 0, 1) := by decide +kernel
theorem d_DR_countFaces_8 : decode b_DR_countFaces 8 = .ok (.getfield 21, 3) := by decide +kernel
theorem d_DR_countFaces_11 : decode b_DR_countFaces 11 = .ok (.iload_n 2, 1) := by decide +kernel
theorem d_DR_countFaces_12 : decode b_DR_countFaces 12 = .ok (.iconst 0, 1) := by decide +kernel
theorem d_DR_countFaces_13 : decode b_DR_countFaces 13 = .ok (.bastore, 1) := by decide +kernel
theorem d_DR_countFaces_14 : decode b_DR_countFaces 14 = .ok (.iinc 2 1, 3) := by decide +kernel
theorem d_DR_countFaces_17 : decode b_DR_countFaces 17 = .ok (.goto (-15), 3) := by decide +kernel
theorem d_DR_countFaces_20 : decode b_DR_countFaces 20 = .ok (.iconst 0, 1) := by decide +kernel
theorem d_DR_countFaces_21 : decode b_DR_countFaces 21 = .ok (.istore_n 2, 1) := by decide +kernel
theorem d_DR_countFaces_22 : decode b_DR_countFaces 22 = .ok (.iload_n 2, 1) := by decide +kernel
theorem d_DR_countFaces_23 : decode b_DR_countFaces 23 = .ok (.iload_n 1, 1) := by decide +kernel
theorem d_DR_countFaces_24 : decode b_DR_countFaces 24 = .ok (.if_icmp .ge 29, 3) := by decide +kernel
theorem d_DR_countFaces_27 : decode b_DR_countFaces 27 = .ok (.aload_n 0, 1) := by decide +kernel
theorem d_DR_countFaces_28 : decode b_DR_countFaces 28 = .ok (.getfield 21, 3) := by decide +kernel
theorem d_DR_countFaces_31 : decode b_DR_countFaces 31 = .ok (.iload_n 2, 1) := by decide +kernel
theorem d_DR_countFaces_32 : decode b_DR_countFaces 32 = .ok (.baload, 1) := by decide +kernel
theorem d_DR_countFaces_33 : decode b_DR_countFaces 33 = .ok (.ifCond .ne 14, 3) := by decide +kernel
theorem d_DR_countFaces_36 : decode b_DR_countFaces 36 = .ok (.aload_n 0, 1) := by decide +kernel
theorem d_DR_countFaces_37 : decode b_DR_countFaces 37 = .ok (.iload_n 2, 1) := by decide +kernel
theorem d_DR_countFaces_38 : decode b_DR_countFaces 38 = .ok (.invokevirtual 75, 3) := by decide +kernel
theorem d_DR_countFaces_41 : decode b_DR_countFaces 41 = .ok (.aload_n 0, 1) := by decide +kernel
theorem d_DR_countFaces_42 : decode b_DR_countFaces 42 = .ok (.iload_n 2, 1) := by decide +kernel
theorem d_DR_countFaces_43 : decode b_DR_countFaces 43 = .ok (.iconst 1, 1) := by decide +kernel
theorem d_DR_countFaces_44 : decode b_DR_countFaces 44 = .ok (.invokevirtual 71, 3) := by decide +kernel
theorem d_DR_countFaces_47 : decode b_DR_countFaces 47 = .ok (.iinc 2 1, 3) := by decide +kernel
theorem d_DR_countFaces_50 : decode b_DR_countFaces 50 = .ok (.goto (-28), 3) := by decide +kernel
theorem d_DR_countFaces_53 : decode b_DR_countFaces 53 = .ok (.return_, 1) := by decide +kernel
theorem d_DR_goRound_0 : decode b_DR_goRound 0 = .ok (.iload_n 1, 1) := by decide +kernel
theorem d_DR_goRound_1 : decode b_DR_goRound 1 = .ok (.istore_n 2, 1) := by decide +kernel
theorem d_DR_goRound_2 : decode b_DR_goRound 2 = .ok (.iconst 0, 1) := by decide +kernel
theorem d_DR_goRound_3 : decode b_DR_goRound 3 = .ok (.istore_n 3, 1) := by decide +kernel
theorem d_DR_goRound_4 : decode b_DR_goRound 4 = .ok (.iload_n 3, 1) := by decide +kernel
theorem d_DR_goRound_5 : decode b_DR_goRound 5 = .ok (.bipush 48, 2) := by decide +kernel
theorem d_DR_goRound_7 : decode b_DR_goRound 7 = .ok (.if_icmp .ge 59, 3) := by decide +kernel
theorem d_DR_goRound_10 : decode b_DR_goRound 10 = .ok (.iload_n 2, 1) := by decide +kernel
theorem d_DR_goRound_11 : decode b_DR_goRound 11 = .ok (.ifCond .lt 18, 3) := by decide +kernel
theorem d_DR_goRound_14 : decode b_DR_goRound 14 = .ok (.iload_n 2, 1) := by decide +kernel
theorem d_DR_goRound_15 : decode b_DR_goRound 15 = .ok (.bipush 48, 2) := by decide +kernel
theorem d_DR_goRound_17 : decode b_DR_goRound 17 = .ok (.if_icmp .ge 12, 3) := by decide +kernel
theorem d_DR_goRound_20 : decode b_DR_goRound 20 = .ok (.aload_n 0, 1) := by decide +kernel
theorem d_DR_goRound_21 : decode b_DR_goRound 21 = .ok (.getfield 21, 3) := by decide +kernel
theorem d_DR_goRound_24 : decode b_DR_goRound 24 = .ok (.iload_n 2, 1) := by decide +kernel
theorem d_DR_goRound_25 : decode b_DR_goRound 25 = .ok (.baload, 1) := by decide +kernel
theorem d_DR_goRound_26 : decode b_DR_goRound 26 = .ok (.ifCond .eq 4, 3) := by decide +kernel
theorem d_DR_goRound_29 : decode b_DR_goRound 29 = .ok (.return_, 1) := by decide +kernel
theorem d_DR_goRound_30 : decode b_DR_goRound 30 = .ok (.aload_n 0, 1) := by decide +kernel
theorem d_DR_goRound_31 : decode b_DR_goRound 31 = .ok (.getfield 21, 3) := by decide +kernel
theorem d_DR_goRound_34 : decode b_DR_goRound 34 = .ok (.iload_n 2, 1) := by decide +kernel
theorem d_DR_goRound_35 : decode b_DR_goRound 35 = .ok (.iconst 1, 1) := by decide +kernel
theorem d_DR_goRound_36 : decode b_DR_goRound 36 = .ok (.bastore, 1) := by decide +kernel
theorem d_DR_goRound_37 : decode b_DR_goRound 37 = .ok (.iload_n 2, 1) := by decide +kernel
theorem d_DR_goRound_38 : decode b_DR_goRound 38 = .ok (.iload_n 2, 1) := by decide +kernel
theorem d_DR_goRound_39 : decode b_DR_goRound 39 = .ok (.iconst 4, 1) := by decide +kernel
theorem d_DR_goRound_40 : decode b_DR_goRound 40 = .ok (.irem, 1) := by decide +kernel
theorem d_DR_goRound_41 : decode b_DR_goRound 41 = .ok (.isub, 1) := by decide +kernel
theorem d_DR_goRound_42 : decode b_DR_goRound 42 = .ok (.istore 4, 2) := by decide +kernel
theorem d_DR_goRound_44 : decode b_DR_goRound 44 = .ok (.aload_n 0, 1) := by decide +kernel
theorem d_DR_goRound_45 : decode b_DR_goRound 45 = .ok (.getfield 9, 3) := by decide +kernel
theorem d_DR_goRound_48 : decode b_DR_goRound 48 = .ok (.iload 4, 2) := by decide +kernel
theorem d_DR_goRound_50 : decode b_DR_goRound 50 = .ok (.iload_n 2, 1) := by decide +kernel
theorem d_DR_goRound_51 : decode b_DR_goRound 51 = .ok (.iconst 4, 1) := by decide +kernel
theorem d_DR_goRound_52 : decode b_DR_goRound 52 = .ok (.iadd, 1) := by decide +kernel
theorem d_DR_goRound_53 : decode b_DR_goRound 53 = .ok (.iconst 1, 1) := by decide +kernel
theorem d_DR_goRound_54 : decode b_DR_goRound 54 = .ok (.isub, 1) := by decide +kernel
theorem d_DR_goRound_55 : decode b_DR_goRound 55 = .ok (.iconst 4, 1) := by decide +kernel
theorem d_DR_goRound_56 : decode b_DR_goRound 56 = .ok (.irem, 1) := by decide +kernel
theorem d_DR_goRound_57 : decode b_DR_goRound 57 = .ok (.iadd, 1) := by decide +kernel
theorem d_DR_goRound_58 : decode b_DR_goRound 58 = .ok (.iaload, 1) := by decide +kernel
theorem d_DR_goRound_59 : decode b_DR_goRound 59 = .ok (.istore_n 2, 1) := by decide +kernel
theorem d_DR_goRound_60 : decode b_DR_goRound 60 = .ok (.iinc 3 1, 3) := by decide +kernel
theorem d_DR_goRound_63 : decode b_DR_goRound 63 = .ok (.goto (-59), 3) := by decide +kernel
theorem d_DR_goRound_66 : decode b_DR_goRound 66 = .ok (.return_, 1) := by decide +kernel
theorem d_DR_addSurplus_0 : decode b_DR_addSurplus 0 = .ok (.aload_n 0, 1) := by decide +kernel
theorem d_DR_addSurplus_1 : decode b_DR_addSurplus 1 = .ok (.iload_n 1, 1) := by decide +kernel
theorem d_DR_addSurplus_2 : decode b_DR_addSurplus 2 = .ok (.invokevirtual 59, 3) := by decide +kernel
theorem d_DR_addSurplus_5 : decode b_DR_addSurplus 5 = .ok (.istore_n 3, 1) := by decide +kernel
theorem d_DR_addSurplus_6 : decode b_DR_addSurplus 6 = .ok (.iload_n 3, 1) := by decide +kernel
theorem d_DR_addSurplus_7 : decode b_DR_addSurplus 7 = .ok (.ifCond .lt 19, 3) := by decide +kernel
theorem d_DR_addSurplus_10 : decode b_DR_addSurplus 10 = .ok (.iload_n 3, 1) := by decide +kernel
theorem d_DR_addSurplus_11 : decode b_DR_addSurplus 11 = .ok (.bipush 12, 2) := by decide +kernel
theorem d_DR_addSurplus_13 : decode b_DR_addSurplus 13 = .ok (.if_icmp .ge 13, 3) := by decide +kernel
theorem d_DR_addSurplus_16 : decode b_DR_addSurplus 16 = .ok (.aload_n 0, 1) := by decide +kernel
theorem d_DR_addSurplus_17 : decode b_DR_addSurplus 17 = .ok (.getfield 18, 3) := by decide +kernel
theorem d_DR_addSurplus_20 : decode b_DR_addSurplus 20 = .ok (.iload_n 3, 1) := by decide +kernel
theorem d_DR_addSurplus_21 : decode b_DR_addSurplus 21 = .ok (.dup2, 1) := by decide +kernel
theorem d_DR_addSurplus_22 : decode b_DR_addSurplus 22 = .ok (.iaload, 1) := by decide +kernel
theorem d_DR_addSurplus_23 : decode b_DR_addSurplus 23 = .ok (.iload_n 2, 1) := by decide +kernel
theorem d_DR_addSurplus_24 : decode b_DR_addSurplus 24 = .ok (.iadd, 1) := by decide +kernel
theorem d_DR_addSurplus_25 : decode b_DR_addSurplus 25 = .ok (.iastore, 1) := by decide +kernel
theorem d_DR_addSurplus_26 : decode b_DR_addSurplus 26 = .ok (.return_, 1) := by decide +kernel
