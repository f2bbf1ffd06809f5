theorem d_AM_init_0 : decode b_AM_init 0 = .ok (.aload_n 0, 1) := by decide +kernel
theorem d_AM_init_1 : decode b_AM_init 1 = .ok (.invokespecial 3, 3) := by decide +kernel
theorem d_AM_init_4 : decode b_AM_init 4 = .ok (.aload_n 0, 1) := by decide +kernel
theorem d_AM_init_5 : decode b_AM_init 5 = .ok (.new 9, 3) := by decide +kernel
theorem d_AM_init_8 : decode b_AM_init 8 = .ok (.dup, 1) := by decide +kernel
theorem d_AM_init_9 : decode b_AM_init 9 = .ok (.invokespecial 11, 3) := by decide +kernel
theorem d_AM_init_12 : decode b_AM_init 12 = .ok (.putfield 12, 3) := by decide +kernel
theorem d_AM_init_15 : decode b_AM_init 15 = .ok (.aload_n 0, 1) := by decide +kernel
theorem d_AM_init_16 : decode b_AM_init 16 = .ok (.new 9, 3) := by decide +kernel
theorem d_AM_init_19 : decode b_AM_init 19 = .ok (.dup, 1) := by decide +kernel
theorem d_AM_init_20 : decode b_AM_init 20 = .ok (.invokespecial 11, 3) := by decide +kernel
theorem d_AM_init_23 : decode b_AM_init 23 = .ok (.putfield 16, 3) := by decide +kernel
theorem d_AM_init_26 : decode b_AM_init 26 = .ok (.aload_n 0, 1) := by decide +kernel
theorem d_AM_init_27 : decode b_AM_init 27 = .ok (.new 19, 3) := by decide +kernel
theorem d_AM_init_30 : decode b_AM_init 30 = .ok (.dup, 1) := by decide +kernel
theorem d_AM_init_31 : decode b_AM_init 31 = .ok (.invokespecial 21, 3) := by decide +kernel
theorem d_AM_init_34 : decode b_AM_init 34 = .ok (.putfield 22, 3) := by decide +kernel
theorem d_AM_init_37 : decode b_AM_init 37 = .ok (.aload_n 0, 1) := by decide +kernel
theorem d_AM_init_38 : decode b_AM_init 38 = .ok (.new 26, 3) := by decide +kernel
theorem d_AM_init_41 : decode b_AM_init 41 = .ok (.dup, 1) := by decide +kernel
theorem d_AM_init_42 : decode b_AM_init 42 = .ok (.invokespecial 28, 3) := by decide +kernel
theorem d_AM_init_45 : decode b_AM_init 45 = .ok (.putfield 29, 3) := by decide +kernel
theorem d_AM_init_48 : decode b_AM_init 48 = .ok (.aload_n 0, 1) := by decide +kernel
theorem d_AM_init_49 : decode b_AM_init 49 = .ok (.new 33, 3) := by decide +kernel
theorem d_AM_init_52 : decode b_AM_init 52 = .ok (.dup, 1) := by decide +kernel
theorem d_AM_init_53 : decode b_AM_init 53 = .ok (.invokespecial 35, 3) := by decide +kernel
theorem d_AM_init_56 : decode b_AM_init 56 = .ok (.putfield 36, 3) := by decide +kernel
theorem d_AM_init_59 : decode b_AM_init 59 = .ok (.aload_n 0, 1) := by decide +kernel
theorem d_AM_init_60 : decode b_AM_init 60 = .ok (.new 40, 3) := by decide +kernel
theorem d_AM_init_63 : decode b_AM_init 63 = .ok (.dup, 1) := by decide +kernel
theorem d_AM_init_64 : decode b_AM_init 64 = .ok (.invokespecial 42, 3) := by decide +kernel
theorem d_AM_init_67 : decode b_AM_init 67 = .ok (.putfield 43, 3) := by decide +kernel
theorem d_AM_init_70 : decode b_AM_init 70 = .ok (.aload_n 0, 1) := by decide +kernel
theorem d_AM_init_71 : decode b_AM_init 71 = .ok (.new 47, 3) := by decide +kernel
theorem d_AM_init_74 : decode b_AM_init 74 = .ok (.dup, 1) := by decide +kernel
theorem d_AM_init_75 : decode b_AM_init 75 = .ok (.invokespecial 49, 3) := by decide +kernel
theorem d_AM_init_78 : decode b_AM_init 78 = .ok (.putfield 50, 3) := by decide +kernel
theorem d_AM_init_81 : decode b_AM_init 81 = .ok (.aload_n 0, 1) := by decide +kernel
theorem d_AM_init_82 : decode b_AM_init 82 = .ok (.new 54, 3) := by decide +kernel
theorem d_AM_init_85 : decode b_AM_init 85 = .ok (.dup, 1) := by decide +kernel
theorem d_AM_init_86 : decode b_AM_init 86 = .ok (.invokespecial 56, 3) := by decide +kernel
theorem d_AM_init_89 : decode b_AM_init 89 = .ok (.putfield 57, 3) := by decide +kernel
theorem d_AM_init_92 : decode b_AM_init 92 = .ok (.aload_n 0, 1) := by decide +kernel
theorem d_AM_init_93 : decode b_AM_init 93 = .ok (.iconst 0, 1) := by decide +kernel
theorem d_AM_init_94 : decode b_AM_init 94 = .ok (.putfield 61, 3) := by decide +kernel
theorem d_AM_init_97 : decode b_AM_init 97 = .ok (.aload_n 0, 1) := by decide +kernel
theorem d_AM_init_98 : decode b_AM_init 98 = .ok (.iconst 0, 1) := by decide +kernel
theorem d_AM_init_99 : decode b_AM_init 99 = .ok (.putfield 65, 3) := by decide +kernel
theorem d_AM_init_102 : decode b_AM_init 102 = .ok (.return_, 1) := by decide +kernel
theorem d_AM_crossing_0 : decode b_AM_crossing 0 = .ok (.iload_n 1, 1) := by decide +kernel
theorem d_AM_crossing_1 : decode b_AM_crossing 1 = .ok (.iconst 1, 1) := by decide +kernel
theorem d_AM_crossing_2 : decode b_AM_crossing 2 = .ok (.if_icmp .eq 10, 3) := by decide +kernel
theorem d_AM_crossing_5 : decode b_AM_crossing 5 = .ok (.iload_n 1, 1) := by decide +kernel
theorem d_AM_crossing_6 : decode b_AM_crossing 6 = .ok (.iconst (-1), 1) := by decide +kernel
theorem d_AM_crossing_7 : decode b_AM_crossing 7 = .ok (.if_icmp .eq 5, 3) := by decide +kernel
theorem d_AM_crossing_10 : decode b_AM_crossing 10 = .ok (.iconst (-1), 1) := by decide +kernel
theorem d_AM_crossing_11 : decode b_AM_crossing 11 = .ok (.ireturn, 1) := by decide +kernel
theorem d_AM_crossing_12 : decode b_AM_crossing 12 = .ok (.iload_n 2, 1) := by decide +kernel
theorem d_AM_crossing_13 : decode b_AM_crossing 13 = .ok (.invokestatic 69, 3) := by decide +kernel
theorem d_AM_crossing_16 : decode b_AM_crossing 16 = .ok (.ifCond .eq 26, 3) := by decide +kernel
theorem d_AM_crossing_19 : decode b_AM_crossing 19 = .ok (.iload_n 3, 1) := by decide +kernel
theorem d_AM_crossing_20 : decode b_AM_crossing 20 = .ok (.invokestatic 69, 3) := by decide +kernel
theorem d_AM_crossing_23 : decode b_AM_crossing 23 = .ok (.ifCond .eq 19, 3) := by decide +kernel
theorem d_AM_crossing_26 : decode b_AM_crossing 26 = .ok (.iload 4, 2) := by decide +kernel
theorem d_AM_crossing_28 : decode b_AM_crossing 28 = .ok (.invokestatic 69, 3) := by decide +kernel
theorem d_AM_crossing_31 : decode b_AM_crossing 31 = .ok (.ifCond .eq 11, 3) := by decide +kernel
theorem d_AM_crossing_34 : decode b_AM_crossing 34 = .ok (.iload 5, 2) := by decide +kernel
theorem d_AM_crossing_36 : decode b_AM_crossing 36 = .ok (.invokestatic 69, 3) := by decide +kernel
theorem d_AM_crossing_39 : decode b_AM_crossing 39 = .ok (.ifCond .ne 5, 3) := by decide +kernel
theorem d_AM_crossing_42 : decode b_AM_crossing 42 = .ok (.iconst (-1), 1) := by decide +kernel
theorem d_AM_crossing_43 : decode b_AM_crossing 43 = .ok (.ireturn, 1) := by decide +kernel
theorem d_AM_crossing_44 : decode b_AM_crossing 44 = .ok (.aload_n 0, 1) := by decide +kernel
theorem d_AM_crossing_45 : decode b_AM_crossing 45 = .ok (.getfield 12, 3) := by decide +kernel
theorem d_AM_crossing_48 : decode b_AM_crossing 48 = .ok (.iload_n 1, 1) := by decide +kernel
theorem d_AM_crossing_49 : decode b_AM_crossing 49 = .ok (.iload_n 2, 1) := by decide +kernel
theorem d_AM_crossing_50 : decode b_AM_crossing 50 = .ok (.iload_n 3, 1) := by decide +kernel
theorem d_AM_crossing_51 : decode b_AM_crossing 51 = .ok (.iload 4, 2) := by decide +kernel
theorem d_AM_crossing_53 : decode b_AM_crossing 53 = .ok (.iload 5, 2) := by decide +kernel
theorem d_AM_crossing_55 : decode b_AM_crossing 55 = .ok (.invokevirtual 73, 3) := by decide +kernel
theorem d_AM_crossing_58 : decode b_AM_crossing 58 = .ok (.ireturn, 1) := by decide +kernel
theorem d_AM_check_0 : decode b_AM_check 0 = .ok (.iload_n 1, 1) := by decide +kernel
theorem d_AM_check_1 : decode b_AM_check 1 = .ok (.ifCond .lt 9, 3) := by decide +kernel
theorem d_AM_check_4 : decode b_AM_check 4 = .ok (.iload_n 1, 1) := by decide +kernel
theorem d_AM_check_5 : decode b_AM_check 5 = .ok (.bipush 9, 2) := by decide +kernel
theorem d_AM_check_7 : decode b_AM_check 7 = .ok (.if_icmp .le 5, 3) := by decide +kernel
theorem d_AM_check_10 : decode b_AM_check 10 = .ok (.iconst (-1), 1) := by decide +kernel
theorem d_AM_check_11 : decode b_AM_check 11 = .ok (.ireturn, 1) := by decide +kernel
theorem d_AM_check_12 : decode b_AM_check 12 = .ok (.aload_n 0, 1) := by decide +kernel
theorem d_AM_check_13 : decode b_AM_check 13 = .ok (.getfield 22, 3) := by decide +kernel
theorem d_AM_check_16 : decode b_AM_check 16 = .ok (.aload_n 0, 1) := by decide +kernel
theorem d_AM_check_17 : decode b_AM_check 17 = .ok (.getfield 12, 3) := by decide +kernel
theorem d_AM_check_20 : decode b_AM_check 20 = .ok (.invokevirtual 77, 3) := by decide +kernel
theorem d_AM_check_23 : decode b_AM_check 23 = .ok (.istore_n 2, 1) := by decide +kernel
theorem d_AM_check_24 : decode b_AM_check 24 = .ok (.iload_n 2, 1) := by decide +kernel
theorem d_AM_check_25 : decode b_AM_check 25 = .ok (.ifCond .ne 23, 3) := by decide +kernel
theorem d_AM_check_28 : decode b_AM_check 28 = .ok (.aload_n 0, 1) := by decide +kernel
theorem d_AM_check_29 : decode b_AM_check 29 = .ok (.getfield 16, 3) := by decide +kernel
theorem d_AM_check_32 : decode b_AM_check 32 = .ok (.aload_n 0, 1) := by decide +kernel
theorem d_AM_check_33 : decode b_AM_check 33 = .ok (.getfield 12, 3) := by decide +kernel
theorem d_AM_check_36 : decode b_AM_check 36 = .ok (.invokevirtual 81, 3) := by decide +kernel
theorem d_AM_check_39 : decode b_AM_check 39 = .ok (.aload_n 0, 1) := by decide +kernel
theorem d_AM_check_40 : decode b_AM_check 40 = .ok (.iload_n 1, 1) := by decide +kernel
theorem d_AM_check_41 : decode b_AM_check 41 = .ok (.putfield 61, 3) := by decide +kernel
theorem d_AM_check_44 : decode b_AM_check 44 = .ok (.aload_n 0, 1) := by decide +kernel
theorem d_AM_check_45 : decode b_AM_check 45 = .ok (.invokevirtual 85, 3) := by decide +kernel
theorem d_AM_check_48 : decode b_AM_check 48 = .ok (.aload_n 0, 1) := by decide +kernel
theorem d_AM_check_49 : decode b_AM_check 49 = .ok (.getfield 12, 3) := by decide +kernel
theorem d_AM_check_52 : decode b_AM_check 52 = .ok (.invokevirtual 88, 3) := by decide +kernel
theorem d_AM_check_55 : decode b_AM_check 55 = .ok (.iload_n 2, 1) := by decide +kernel
theorem d_AM_check_56 : decode b_AM_check 56 = .ok (.ireturn, 1) := by decide +kernel
theorem d_AM_many_0 : decode b_AM_many 0 = .ok (.iload_n 1, 1) := by decide +kernel
theorem d_AM_many_1 : decode b_AM_many 1 = .ok (.tableswitch 103 0 6 #[43, 52, 58, 67, 76, 85, 94], 43) := by decide +kernel
theorem d_AM_many_44 : decode b_AM_many 44 = .ok (.aload_n 0, 1) := by decide +kernel
theorem d_AM_many_45 : decode b_AM_many 45 = .ok (.getfield 16, 3) := by decide +kernel
theorem d_AM_many_48 : decode b_AM_many 48 = .ok (.invokevirtual 91, 3) := by decide +kernel
theorem d_AM_many_51 : decode b_AM_many 51 = .ok (.i2l, 1) := by decide +kernel
theorem d_AM_many_52 : decode b_AM_many 52 = .ok (.lreturn, 1) := by decide +kernel
theorem d_AM_many_53 : decode b_AM_many 53 = .ok (.aload_n 0, 1) := by decide +kernel
theorem d_AM_many_54 : decode b_AM_many 54 = .ok (.getfield 61, 3) := by decide +kernel
theorem d_AM_many_57 : decode b_AM_many 57 = .ok (.i2l, 1) := by decide +kernel
theorem d_AM_many_58 : decode b_AM_many 58 = .ok (.lreturn, 1) := by decide +kernel
theorem d_AM_many_59 : decode b_AM_many 59 = .ok (.aload_n 0, 1) := by decide +kernel
theorem d_AM_many_60 : decode b_AM_many 60 = .ok (.getfield 29, 3) := by decide +kernel
theorem d_AM_many_63 : decode b_AM_many 63 = .ok (.invokevirtual 95, 3) := by decide +kernel
theorem d_AM_many_66 : decode b_AM_many 66 = .ok (.i2l, 1) := by decide +kernel
theorem d_AM_many_67 : decode b_AM_many 67 = .ok (.lreturn, 1) := by decide +kernel
theorem d_AM_many_68 : decode b_AM_many 68 = .ok (.aload_n 0, 1) := by decide +kernel
theorem d_AM_many_69 : decode b_AM_many 69 = .ok (.invokevirtual 96, 3) := by decide +kernel
theorem d_AM_many_72 : decode b_AM_many 72 = .ok (.invokevirtual 100, 3) := by decide +kernel
theorem d_AM_many_75 : decode b_AM_many 75 = .ok (.i2l, 1) := by decide +kernel
theorem d_AM_many_76 : decode b_AM_many 76 = .ok (.lreturn, 1) := by decide +kernel
theorem d_AM_many_77 : decode b_AM_many 77 = .ok (.aload_n 0, 1) := by decide +kernel
theorem d_AM_many_78 : decode b_AM_many 78 = .ok (.invokevirtual 96, 3) := by decide +kernel
theorem d_AM_many_81 : decode b_AM_many 81 = .ok (.iconst 1, 1) := by decide +kernel
theorem d_AM_many_82 : decode b_AM_many 82 = .ok (.invokevirtual 103, 3) := by decide +kernel
theorem d_AM_many_85 : decode b_AM_many 85 = .ok (.lreturn, 1) := by decide +kernel
theorem d_AM_many_86 : decode b_AM_many 86 = .ok (.aload_n 0, 1) := by decide +kernel
theorem d_AM_many_87 : decode b_AM_many 87 = .ok (.invokevirtual 96, 3) := by decide +kernel
theorem d_AM_many_90 : decode b_AM_many 90 = .ok (.iconst (-1), 1) := by decide +kernel
theorem d_AM_many_91 : decode b_AM_many 91 = .ok (.invokevirtual 103, 3) := by decide +kernel
theorem d_AM_many_94 : decode b_AM_many 94 = .ok (.lreturn, 1) := by decide +kernel
theorem d_AM_many_95 : decode b_AM_many 95 = .ok (.aload_n 0, 1) := by decide +kernel
theorem d_AM_many_96 : decode b_AM_many 96 = .ok (.getfield 12, 3) := by decide +kernel
theorem d_AM_many_99 : decode b_AM_many 99 = .ok (.invokevirtual 91, 3) := by decide +kernel
theorem d_AM_many_102 : decode b_AM_many 102 = .ok (.i2l, 1) := by decide +kernel
theorem d_AM_many_103 : decode b_AM_many 103 = .ok (.lreturn, 1) := by decide +kernel
theorem d_AM_many_104 : decode b_AM_many 104 = .ok (.ldc2_w 107, 3) := by decide +kernel
theorem d_AM_many_107 : decode b_AM_many 107 = .ok (.lreturn, 1) := by decide +kernel
theorem d_AM_arc_0 : decode b_AM_arc 0 = .ok (.aload_n 0, 1) := by decide +kernel
theorem d_AM_arc_1 : decode b_AM_arc 1 = .ok (.getfield 29, 3) := by decide +kernel
theorem d_AM_arc_4 : decode b_AM_arc 4 = .ok (.iload_n 1, 1) := by decide +kernel
theorem d_AM_arc_5 : decode b_AM_arc 5 = .ok (.invokevirtual 109, 3) := by decide +kernel
theorem d_AM_arc_8 : decode b_AM_arc 8 = .ok (.ireturn, 1) := by decide +kernel
theorem d_AM_least_0 : decode b_AM_least 0 = .ok (.aload_n 0, 1) := by decide +kernel
theorem d_AM_least_1 : decode b_AM_least 1 = .ok (.getfield 29, 3) := by decide +kernel
theorem d_AM_least_4 : decode b_AM_least 4 = .ok (.iload_n 1, 1) := by decide +kernel
theorem d_AM_least_5 : decode b_AM_least 5 = .ok (.invokevirtual 113, 3) := by decide +kernel
theorem d_AM_least_8 : decode b_AM_least 8 = .ok (.ireturn, 1) := by decide +kernel
theorem d_AM_entry_0 : decode b_AM_entry 0 = .ok (.iload_n 3, 1) := by decide +kernel
theorem d_AM_entry_1 : decode b_AM_entry 1 = .ok (.ifCond .ne 13, 3) := by decide +kernel
theorem d_AM_entry_4 : decode b_AM_entry 4 = .ok (.aload_n 0, 1) := by decide +kernel
theorem d_AM_entry_5 : decode b_AM_entry 5 = .ok (.getfield 36, 3) := by decide +kernel
theorem d_AM_entry_8 : decode b_AM_entry 8 = .ok (.iload_n 1, 1) := by decide +kernel
theorem d_AM_entry_9 : decode b_AM_entry 9 = .ok (.iload_n 2, 1) := by decide +kernel
theorem d_AM_entry_10 : decode b_AM_entry 10 = .ok (.invokevirtual 116, 3) := by decide +kernel
theorem d_AM_entry_13 : decode b_AM_entry 13 = .ok (.ireturn, 1) := by decide +kernel
theorem d_AM_entry_14 : decode b_AM_entry 14 = .ok (.iload_n 3, 1) := by decide +kernel
theorem d_AM_entry_15 : decode b_AM_entry 15 = .ok (.iconst 1, 1) := by decide +kernel
theorem d_AM_entry_16 : decode b_AM_entry 16 = .ok (.if_icmp .ne 15, 3) := by decide +kernel
theorem d_AM_entry_19 : decode b_AM_entry 19 = .ok (.aload_n 0, 1) := by decide +kernel
theorem d_AM_entry_20 : decode b_AM_entry 20 = .ok (.getfield 36, 3) := by decide +kernel
theorem d_AM_entry_23 : decode b_AM_entry 23 = .ok (.iload_n 1, 1) := by decide +kernel
theorem d_AM_entry_24 : decode b_AM_entry 24 = .ok (.iload_n 2, 1) := by decide +kernel
theorem d_AM_entry_25 : decode b_AM_entry 25 = .ok (.invokevirtual 120, 3) := by decide +kernel
theorem d_AM_entry_28 : decode b_AM_entry 28 = .ok (.goto 4, 3) := by decide +kernel
theorem d_AM_entry_31 : decode b_AM_entry 31 = .ok (.iconst 0, 1) := by decide +kernel
theorem d_AM_entry_32 : decode b_AM_entry 32 = .ok (.ireturn, 1) := by decide +kernel
theorem d_AM_minor_0 : decode b_AM_minor 0 = .ok (.iload_n 3, 1) := by decide +kernel
theorem d_AM_minor_1 : decode b_AM_minor 1 = .ok (.ifCond .lt 9, 3) := by decide +kernel
theorem d_AM_minor_4 : decode b_AM_minor 4 = .ok (.iload_n 3, 1) := by decide +kernel
theorem d_AM_minor_5 : decode b_AM_minor 5 = .ok (.bipush 12, 2) := by decide +kernel
theorem d_AM_minor_7 : decode b_AM_minor 7 = .ok (.if_icmp .le 5, 3) := by decide +kernel
theorem d_AM_minor_10 : decode b_AM_minor 10 = .ok (.lconst 0, 1) := by decide +kernel
theorem d_AM_minor_11 : decode b_AM_minor 11 = .ok (.lreturn, 1) := by decide +kernel
theorem d_AM_minor_12 : decode b_AM_minor 12 = .ok (.aload_n 0, 1) := by decide +kernel
theorem d_AM_minor_13 : decode b_AM_minor 13 = .ok (.getfield 43, 3) := by decide +kernel
theorem d_AM_minor_16 : decode b_AM_minor 16 = .ok (.aload_n 0, 1) := by decide +kernel
theorem d_AM_minor_17 : decode b_AM_minor 17 = .ok (.getfield 36, 3) := by decide +kernel
theorem d_AM_minor_20 : decode b_AM_minor 20 = .ok (.iload_n 1, 1) := by decide +kernel
theorem d_AM_minor_21 : decode b_AM_minor 21 = .ok (.iload_n 2, 1) := by decide +kernel
theorem d_AM_minor_22 : decode b_AM_minor 22 = .ok (.invokevirtual 123, 3) := by decide +kernel
theorem d_AM_minor_25 : decode b_AM_minor 25 = .ok (.iload_n 3, 1) := by decide +kernel
theorem d_AM_minor_26 : decode b_AM_minor 26 = .ok (.invokevirtual 127, 3) := by decide +kernel
theorem d_AM_minor_29 : decode b_AM_minor 29 = .ok (.lreturn, 1) := by decide +kernel
theorem d_AM_alexander_0 : decode b_AM_alexander 0 = .ok (.aload_n 0, 1) := by decide +kernel
theorem d_AM_alexander_1 : decode b_AM_alexander 1 = .ok (.invokevirtual 96, 3) := by decide +kernel
theorem d_AM_alexander_4 : decode b_AM_alexander 4 = .ok (.iload_n 1, 1) := by decide +kernel
theorem d_AM_alexander_5 : decode b_AM_alexander 5 = .ok (.invokevirtual 127, 3) := by decide +kernel
theorem d_AM_alexander_8 : decode b_AM_alexander 8 = .ok (.lreturn, 1) := by decide +kernel
theorem d_AM_rank_0 : decode b_AM_rank 0 = .ok (.iload_n 2, 1) := by decide +kernel
theorem d_AM_rank_1 : decode b_AM_rank 1 = .ok (.invokestatic 130, 3) := by decide +kernel
theorem d_AM_rank_4 : decode b_AM_rank 4 = .ok (.ifCond .ne 5, 3) := by decide +kernel
theorem d_AM_rank_7 : decode b_AM_rank 7 = .ok (.iconst (-1), 1) := by decide +kernel
theorem d_AM_rank_8 : decode b_AM_rank 8 = .ok (.ireturn, 1) := by decide +kernel
theorem d_AM_rank_9 : decode b_AM_rank 9 = .ok (.aload_n 0, 1) := by decide +kernel
theorem d_AM_rank_10 : decode b_AM_rank 10 = .ok (.getfield 50, 3) := by decide +kernel
theorem d_AM_rank_13 : decode b_AM_rank 13 = .ok (.aload_n 0, 1) := by decide +kernel
theorem d_AM_rank_14 : decode b_AM_rank 14 = .ok (.getfield 36, 3) := by decide +kernel
theorem d_AM_rank_17 : decode b_AM_rank 17 = .ok (.iload_n 1, 1) := by decide +kernel
theorem d_AM_rank_18 : decode b_AM_rank 18 = .ok (.iload_n 2, 1) := by decide +kernel
theorem d_AM_rank_19 : decode b_AM_rank 19 = .ok (.invokevirtual 133, 3) := by decide +kernel
theorem d_AM_rank_22 : decode b_AM_rank 22 = .ok (.ireturn, 1) := by decide +kernel
theorem d_AM_change_0 : decode b_AM_change 0 = .ok (.aload_n 0, 1) := by decide +kernel
theorem d_AM_change_1 : decode b_AM_change 1 = .ok (.getfield 16, 3) := by decide +kernel
theorem d_AM_change_4 : decode b_AM_change 4 = .ok (.iload_n 1, 1) := by decide +kernel
theorem d_AM_change_5 : decode b_AM_change 5 = .ok (.invokevirtual 137, 3) := by decide +kernel
theorem d_AM_change_8 : decode b_AM_change 8 = .ok (.ifCond .ne 5, 3) := by decide +kernel
theorem d_AM_change_11 : decode b_AM_change 11 = .ok (.iconst 0, 1) := by decide +kernel
theorem d_AM_change_12 : decode b_AM_change 12 = .ok (.ireturn, 1) := by decide +kernel
theorem d_AM_change_13 : decode b_AM_change 13 = .ok (.aload_n 0, 1) := by decide +kernel
theorem d_AM_change_14 : decode b_AM_change 14 = .ok (.getfield 16, 3) := by decide +kernel
theorem d_AM_change_17 : decode b_AM_change 17 = .ok (.iload_n 1, 1) := by decide +kernel
theorem d_AM_change_18 : decode b_AM_change 18 = .ok (.invokevirtual 140, 3) := by decide +kernel
theorem d_AM_change_21 : decode b_AM_change 21 = .ok (.aload_n 0, 1) := by decide +kernel
theorem d_AM_change_22 : decode b_AM_change 22 = .ok (.invokevirtual 85, 3) := by decide +kernel
theorem d_AM_change_25 : decode b_AM_change 25 = .ok (.iconst 1, 1) := by decide +kernel
theorem d_AM_change_26 : decode b_AM_change 26 = .ok (.ireturn, 1) := by decide +kernel
theorem d_AM_smooth_0 : decode b_AM_smooth 0 = .ok (.aload_n 0, 1) := by decide +kernel
theorem d_AM_smooth_1 : decode b_AM_smooth 1 = .ok (.getfield 16, 3) := by decide +kernel
theorem d_AM_smooth_4 : decode b_AM_smooth 4 = .ok (.iload_n 1, 1) := by decide +kernel
theorem d_AM_smooth_5 : decode b_AM_smooth 5 = .ok (.invokevirtual 137, 3) := by decide +kernel
theorem d_AM_smooth_8 : decode b_AM_smooth 8 = .ok (.ifCond .ne 5, 3) := by decide +kernel
theorem d_AM_smooth_11 : decode b_AM_smooth 11 = .ok (.iconst 0, 1) := by decide +kernel
theorem d_AM_smooth_12 : decode b_AM_smooth 12 = .ok (.ireturn, 1) := by decide +kernel
theorem d_AM_smooth_13 : decode b_AM_smooth 13 = .ok (.aload_n 0, 1) := by decide +kernel
theorem d_AM_smooth_14 : decode b_AM_smooth 14 = .ok (.getfield 61, 3) := by decide +kernel
theorem d_AM_smooth_17 : decode b_AM_smooth 17 = .ok (.aload_n 0, 1) := by decide +kernel
theorem d_AM_smooth_18 : decode b_AM_smooth 18 = .ok (.getfield 16, 3) := by decide +kernel
theorem d_AM_smooth_21 : decode b_AM_smooth 21 = .ok (.iload_n 1, 1) := by decide +kernel
theorem d_AM_smooth_22 : decode b_AM_smooth 22 = .ok (.invokevirtual 144, 3) := by decide +kernel
theorem d_AM_smooth_25 : decode b_AM_smooth 25 = .ok (.iadd, 1) := by decide +kernel
theorem d_AM_smooth_26 : decode b_AM_smooth 26 = .ok (.istore_n 2, 1) := by decide +kernel
theorem d_AM_smooth_27 : decode b_AM_smooth 27 = .ok (.iload_n 2, 1) := by decide +kernel
theorem d_AM_smooth_28 : decode b_AM_smooth 28 = .ok (.bipush 9, 2) := by decide +kernel
theorem d_AM_smooth_30 : decode b_AM_smooth 30 = .ok (.if_icmp .le 5, 3) := by decide +kernel
theorem d_AM_smooth_33 : decode b_AM_smooth 33 = .ok (.iconst 0, 1) := by decide +kernel
theorem d_AM_smooth_34 : decode b_AM_smooth 34 = .ok (.ireturn, 1) := by decide +kernel
theorem d_AM_smooth_35 : decode b_AM_smooth 35 = .ok (.aload_n 0, 1) := by decide +kernel
theorem d_AM_smooth_36 : decode b_AM_smooth 36 = .ok (.getfield 16, 3) := by decide +kernel
theorem d_AM_smooth_39 : decode b_AM_smooth 39 = .ok (.iload_n 1, 1) := by decide +kernel
theorem d_AM_smooth_40 : decode b_AM_smooth 40 = .ok (.invokevirtual 147, 3) := by decide +kernel
theorem d_AM_smooth_43 : decode b_AM_smooth 43 = .ok (.aload_n 0, 1) := by decide +kernel
theorem d_AM_smooth_44 : decode b_AM_smooth 44 = .ok (.iload_n 2, 1) := by decide +kernel
theorem d_AM_smooth_45 : decode b_AM_smooth 45 = .ok (.putfield 61, 3) := by decide +kernel
theorem d_AM_smooth_48 : decode b_AM_smooth 48 = .ok (.aload_n 0, 1) := by decide +kernel
theorem d_AM_smooth_49 : decode b_AM_smooth 49 = .ok (.invokevirtual 85, 3) := by decide +kernel
theorem d_AM_smooth_52 : decode b_AM_smooth 52 = .ok (.iconst 1, 1) := by decide +kernel
theorem d_AM_smooth_53 : decode b_AM_smooth 53 = .ok (.ireturn, 1) := by decide +kernel
theorem d_AM_readDiagram_0 : decode b_AM_readDiagram 0 = .ok (.aload_n 0, 1) := by decide +kernel
theorem d_AM_readDiagram_1 : decode b_AM_readDiagram 1 = .ok (.getfield 29, 3) := by decide +kernel
theorem d_AM_readDiagram_4 : decode b_AM_readDiagram 4 = .ok (.aload_n 0, 1) := by decide +kernel
theorem d_AM_readDiagram_5 : decode b_AM_readDiagram 5 = .ok (.getfield 16, 3) := by decide +kernel
theorem d_AM_readDiagram_8 : decode b_AM_readDiagram 8 = .ok (.aload_n 0, 1) := by decide +kernel
theorem d_AM_readDiagram_9 : decode b_AM_readDiagram 9 = .ok (.getfield 61, 3) := by decide +kernel
theorem d_AM_readDiagram_12 : decode b_AM_readDiagram 12 = .ok (.invokevirtual 150, 3) := by decide +kernel
theorem d_AM_readDiagram_15 : decode b_AM_readDiagram 15 = .ok (.aload_n 0, 1) := by decide +kernel
theorem d_AM_readDiagram_16 : decode b_AM_readDiagram 16 = .ok (.getfield 36, 3) := by decide +kernel
theorem d_AM_readDiagram_19 : decode b_AM_readDiagram 19 = .ok (.aload_n 0, 1) := by decide +kernel
theorem d_AM_readDiagram_20 : decode b_AM_readDiagram 20 = .ok (.getfield 16, 3) := by decide +kernel
theorem d_AM_readDiagram_23 : decode b_AM_readDiagram 23 = .ok (.aload_n 0, 1) := by decide +kernel
theorem d_AM_readDiagram_24 : decode b_AM_readDiagram 24 = .ok (.getfield 29, 3) := by decide +kernel
theorem d_AM_readDiagram_27 : decode b_AM_readDiagram 27 = .ok (.invokevirtual 154, 3) := by decide +kernel
theorem d_AM_readDiagram_30 : decode b_AM_readDiagram 30 = .ok (.aload_n 0, 1) := by decide +kernel
theorem d_AM_readDiagram_31 : decode b_AM_readDiagram 31 = .ok (.getfield 43, 3) := by decide +kernel
theorem d_AM_readDiagram_34 : decode b_AM_readDiagram 34 = .ok (.invokevirtual 157, 3) := by decide +kernel
theorem d_AM_readDiagram_37 : decode b_AM_readDiagram 37 = .ok (.aload_n 0, 1) := by decide +kernel
theorem d_AM_readDiagram_38 : decode b_AM_readDiagram 38 = .ok (.iconst 0, 1) := by decide +kernel
theorem d_AM_readDiagram_39 : decode b_AM_readDiagram 39 = .ok (.putfield 65, 3) := by decide +kernel
theorem d_AM_readDiagram_42 : decode b_AM_readDiagram 42 = .ok (.return_, 1) := by decide +kernel
theorem d_AM_normalForm_0 : decode b_AM_normalForm 0 = .ok (.aload_n 0, 1) := by decide +kernel
theorem d_AM_normalForm_1 : decode b_AM_normalForm 1 = .ok (.getfield 65, 3) := by decide +kernel
theorem d_AM_normalForm_4 : decode b_AM_normalForm 4 = .ok (.ifCond .ne 51, 3) := by decide +kernel
theorem d_AM_normalForm_7 : decode b_AM_normalForm 7 = .ok (.aload_n 0, 1) := by decide +kernel
theorem d_AM_normalForm_8 : decode b_AM_normalForm 8 = .ok (.getfield 36, 3) := by decide +kernel
theorem d_AM_normalForm_11 : decode b_AM_normalForm 11 = .ok (.invokevirtual 160, 3) := by decide +kernel
theorem d_AM_normalForm_14 : decode b_AM_normalForm 14 = .ok (.aload_n 0, 1) := by decide +kernel
theorem d_AM_normalForm_15 : decode b_AM_normalForm 15 = .ok (.getfield 36, 3) := by decide +kernel
theorem d_AM_normalForm_18 : decode b_AM_normalForm 18 = .ok (.invokevirtual 163, 3) := by decide +kernel
theorem d_AM_normalForm_21 : decode b_AM_normalForm 21 = .ok (.if_icmp .ne 7, 3) := by decide +kernel
theorem d_AM_normalForm_24 : decode b_AM_normalForm 24 = .ok (.iconst 0, 1) := by decide +kernel
theorem d_AM_normalForm_25 : decode b_AM_normalForm 25 = .ok (.goto 4, 3) := by decide +kernel
theorem d_AM_normalForm_28 : decode b_AM_normalForm 28 = .ok (.iconst (-1), 1) := by decide +kernel
theorem d_AM_normalForm_29 : decode b_AM_normalForm 29 = .ok (.istore_n 1, 1) := by decide +kernel
theorem d_AM_normalForm_30 : decode b_AM_normalForm 30 = .ok (.aload_n 0, 1) := by decide +kernel
theorem d_AM_normalForm_31 : decode b_AM_normalForm 31 = .ok (.getfield 57, 3) := by decide +kernel
theorem d_AM_normalForm_34 : decode b_AM_normalForm 34 = .ok (.aload_n 0, 1) := by decide +kernel
theorem d_AM_normalForm_35 : decode b_AM_normalForm 35 = .ok (.getfield 43, 3) := by decide +kernel
theorem d_AM_normalForm_38 : decode b_AM_normalForm 38 = .ok (.aload_n 0, 1) := by decide +kernel
theorem d_AM_normalForm_39 : decode b_AM_normalForm 39 = .ok (.getfield 36, 3) := by decide +kernel
theorem d_AM_normalForm_42 : decode b_AM_normalForm 42 = .ok (.iload_n 1, 1) := by decide +kernel
theorem d_AM_normalForm_43 : decode b_AM_normalForm 43 = .ok (.iconst 0, 1) := by decide +kernel
theorem d_AM_normalForm_44 : decode b_AM_normalForm 44 = .ok (.invokevirtual 123, 3) := by decide +kernel
theorem d_AM_normalForm_47 : decode b_AM_normalForm 47 = .ok (.invokevirtual 166, 3) := by decide +kernel
theorem d_AM_normalForm_50 : decode b_AM_normalForm 50 = .ok (.aload_n 0, 1) := by decide +kernel
theorem d_AM_normalForm_51 : decode b_AM_normalForm 51 = .ok (.iconst 1, 1) := by decide +kernel
theorem d_AM_normalForm_52 : decode b_AM_normalForm 52 = .ok (.putfield 65, 3) := by decide +kernel
theorem d_AM_normalForm_55 : decode b_AM_normalForm 55 = .ok (.aload_n 0, 1) := by decide +kernel
theorem d_AM_normalForm_56 : decode b_AM_normalForm 56 = .ok (.getfield 57, 3) := by decide +kernel
theorem d_AM_normalForm_59 : decode b_AM_normalForm 59 = .ok (.areturn, 1) := by decide +kernel
theorem d_AM_isLabel_0 : decode b_AM_isLabel 0 = .ok (.iload_n 0, 1) := by decide +kernel
theorem d_AM_isLabel_1 : decode b_AM_isLabel 1 = .ok (.iconst 1, 1) := by decide +kernel
theorem d_AM_isLabel_2 : decode b_AM_isLabel 2 = .ok (.if_icmp .lt 14, 3) := by decide +kernel
theorem d_AM_isLabel_5 : decode b_AM_isLabel 5 = .ok (.iload_n 0, 1) := by decide +kernel
theorem d_AM_isLabel_6 : decode b_AM_isLabel 6 = .ok (.sipush 9999, 3) := by decide +kernel
theorem d_AM_isLabel_9 : decode b_AM_isLabel 9 = .ok (.if_icmp .gt 7, 3) := by decide +kernel
theorem d_AM_isLabel_12 : decode b_AM_isLabel 12 = .ok (.iconst 1, 1) := by decide +kernel
theorem d_AM_isLabel_13 : decode b_AM_isLabel 13 = .ok (.goto 4, 3) := by decide +kernel
theorem d_AM_isLabel_16 : decode b_AM_isLabel 16 = .ok (.iconst 0, 1) := by decide +kernel
theorem d_AM_isLabel_17 : decode b_AM_isLabel 17 = .ok (.ireturn, 1) := by decide +kernel
theorem d_AM_isSmallPrime_0 : decode b_AM_isSmallPrime 0 = .ok (.iload_n 0, 1) := by decide +kernel
theorem d_AM_isSmallPrime_1 : decode b_AM_isSmallPrime 1 = .ok (.iconst 2, 1) := by decide +kernel
theorem d_AM_isSmallPrime_2 : decode b_AM_isSmallPrime 2 = .ok (.if_icmp .lt 9, 3) := by decide +kernel
theorem d_AM_isSmallPrime_5 : decode b_AM_isSmallPrime 5 = .ok (.iload_n 0, 1) := by decide +kernel
theorem d_AM_isSmallPrime_6 : decode b_AM_isSmallPrime 6 = .ok (.bipush 97, 2) := by decide +kernel
theorem d_AM_isSmallPrime_8 : decode b_AM_isSmallPrime 8 = .ok (.if_icmp .le 5, 3) := by decide +kernel
theorem d_AM_isSmallPrime_11 : decode b_AM_isSmallPrime 11 = .ok (.iconst 0, 1) := by decide +kernel
theorem d_AM_isSmallPrime_12 : decode b_AM_isSmallPrime 12 = .ok (.ireturn, 1) := by decide +kernel
theorem d_AM_isSmallPrime_13 : decode b_AM_isSmallPrime 13 = .ok (.iconst 2, 1) := by decide +kernel
theorem d_AM_isSmallPrime_14 : decode b_AM_isSmallPrime 14 = .ok (.istore_n 1, 1) := by decide +kernel
theorem d_AM_isSmallPrime_15 : decode b_AM_isSmallPrime 15 = .ok (.iload_n 1, 1) := by decide +kernel
theorem d_AM_isSmallPrime_16 : decode b_AM_isSmallPrime 16 = .ok (.iload_n 1, 1) := by decide +kernel
theorem d_AM_isSmallPrime_17 : decode b_AM_isSmallPrime 17 = .ok (.imul, 1) := by decide +kernel
theorem d_AM_isSmallPrime_18 : decode b_AM_isSmallPrime 18 = .ok (.iload_n 0, 1) := by decide +kernel
theorem d_AM_isSmallPrime_19 : decode b_AM_isSmallPrime 19 = .ok (.if_icmp .gt 17, 3) := by decide +kernel
theorem d_AM_isSmallPrime_22 : decode b_AM_isSmallPrime 22 = .ok (.iload_n 0, 1) := by decide +kernel
theorem d_AM_isSmallPrime_23 : decode b_AM_isSmallPrime 23 = .ok (.iload_n 1, 1) := by decide +kernel
theorem d_AM_isSmallPrime_24 : decode b_AM_isSmallPrime 24 = .ok (.irem, 1) := by decide +kernel
theorem d_AM_isSmallPrime_25 : decode b_AM_isSmallPrime 25 = .ok (.ifCond .ne 5, 3) := by decide +kernel
theorem d_AM_isSmallPrime_28 : decode b_AM_isSmallPrime 28 = .ok (.iconst 0, 1) := by decide +kernel
theorem d_AM_isSmallPrime_29 : decode b_AM_isSmallPrime 29 = .ok (.ireturn, 1) := by decide +kernel
theorem d_AM_isSmallPrime_30 : decode b_AM_isSmallPrime 30 = .ok (.iinc 1 1, 3) := by decide +kernel
theorem d_AM_isSmallPrime_33 : decode b_AM_isSmallPrime 33 = .ok (.goto (-18), 3) := by decide +kernel
theorem d_AM_isSmallPrime_36 : decode b_AM_isSmallPrime 36 = .ok (.iconst 1, 1) := by decide +kernel
theorem d_AM_isSmallPrime_37 : decode b_AM_isSmallPrime 37 = .ok (.ireturn, 1) := by decide +kernel
theorem d_DT_init_0 : decode b_DT_init 0 = .ok (.aload_n 0, 1) := by decide +kernel
theorem d_DT_init_1 : decode b_DT_init 1 = .ok (.invokespecial 3, 3) := by decide +kernel
theorem d_DT_init_4 : decode b_DT_init 4 = .ok (.aload_n 0, 1) := by decide +kernel
theorem d_DT_init_5 : decode b_DT_init 5 = .ok (.sipush 144, 3) := by decide +kernel
theorem d_DT_init_8 : decode b_DT_init 8 = .ok (.anewarray 9, 3) := by decide +kernel
theorem d_DT_init_11 : decode b_DT_init 11 = .ok (.putfield 11, 3) := by decide +kernel
theorem d_DT_init_14 : decode b_DT_init 14 = .ok (.iconst 0, 1) := by decide +kernel
theorem d_DT_init_15 : decode b_DT_init 15 = .ok (.istore_n 1, 1) := by decide +kernel
theorem d_DT_init_16 : decode b_DT_init 16 = .ok (.iload_n 1, 1) := by decide +kernel
theorem d_DT_init_17 : decode b_DT_init 17 = .ok (.sipush 144, 3) := by decide +kernel
theorem d_DT_init_20 : decode b_DT_init 20 = .ok (.if_icmp .ge 22, 3) := by decide +kernel
theorem d_DT_init_23 : decode b_DT_init 23 = .ok (.aload_n 0, 1) := by decide +kernel
theorem d_DT_init_24 : decode b_DT_init 24 = .ok (.getfield 11, 3) := by decide +kernel
theorem d_DT_init_27 : decode b_DT_init 27 = .ok (.iload_n 1, 1) := by decide +kernel
theorem d_DT_init_28 : decode b_DT_init 28 = .ok (.new 9, 3) := by decide +kernel
theorem d_DT_init_31 : decode b_DT_init 31 = .ok (.dup, 1) := by decide +kernel
theorem d_DT_init_32 : decode b_DT_init 32 = .ok (.invokespecial 17, 3) := by decide +kernel
theorem d_DT_init_35 : decode b_DT_init 35 = .ok (.aastore, 1) := by decide +kernel
theorem d_DT_init_36 : decode b_DT_init 36 = .ok (.iinc 1 1, 3) := by decide +kernel
theorem d_DT_init_39 : decode b_DT_init 39 = .ok (.goto (-23), 3) := by decide +kernel
theorem d_DT_init_42 : decode b_DT_init 42 = .ok (.aload_n 0, 1) := by decide +kernel
theorem d_DT_init_43 : decode b_DT_init 43 = .ok (.new 9, 3) := by decide +kernel
theorem d_DT_init_46 : decode b_DT_init 46 = .ok (.dup, 1) := by decide +kernel
theorem d_DT_init_47 : decode b_DT_init 47 = .ok (.invokespecial 17, 3) := by decide +kernel
theorem d_DT_init_50 : decode b_DT_init 50 = .ok (.putfield 18, 3) := by decide +kernel
theorem d_DT_init_53 : decode b_DT_init 53 = .ok (.aload_n 0, 1) := by decide +kernel
theorem d_DT_init_54 : decode b_DT_init 54 = .ok (.new 9, 3) := by decide +kernel
theorem d_DT_init_57 : decode b_DT_init 57 = .ok (.dup, 1) := by decide +kernel
theorem d_DT_init_58 : decode b_DT_init 58 = .ok (.invokespecial 17, 3) := by decide +kernel
theorem d_DT_init_61 : decode b_DT_init 61 = .ok (.putfield 22, 3) := by decide +kernel
theorem d_DT_init_64 : decode b_DT_init 64 = .ok (.aload_n 0, 1) := by decide +kernel
theorem d_DT_init_65 : decode b_DT_init 65 = .ok (.getfield 22, 3) := by decide +kernel
theorem d_DT_init_68 : decode b_DT_init 68 = .ok (.lconst 1, 1) := by decide +kernel
theorem d_DT_init_69 : decode b_DT_init 69 = .ok (.lconst 0, 1) := by decide +kernel
theorem d_DT_init_70 : decode b_DT_init 70 = .ok (.invokevirtual 25, 3) := by decide +kernel
theorem d_DT_init_73 : decode b_DT_init 73 = .ok (.return_, 1) := by decide +kernel
theorem d_DT_put_0 : decode b_DT_put 0 = .ok (.iload_n 1, 1) := by decide +kernel
theorem d_DT_put_1 : decode b_DT_put 1 = .ok (.invokestatic 29, 3) := by decide +kernel
theorem d_DT_put_4 : decode b_DT_put 4 = .ok (.ifCond .eq 24, 3) := by decide +kernel
theorem d_DT_put_7 : decode b_DT_put 7 = .ok (.iload_n 2, 1) := by decide +kernel
theorem d_DT_put_8 : decode b_DT_put 8 = .ok (.invokestatic 29, 3) := by decide +kernel
theorem d_DT_put_11 : decode b_DT_put 11 = .ok (.ifCond .eq 17, 3) := by decide +kernel
theorem d_DT_put_14 : decode b_DT_put 14 = .ok (.aload_n 0, 1) := by decide +kernel
theorem d_DT_put_15 : decode b_DT_put 15 = .ok (.iload_n 1, 1) := by decide +kernel
theorem d_DT_put_16 : decode b_DT_put 16 = .ok (.iload_n 2, 1) := by decide +kernel
theorem d_DT_put_17 : decode b_DT_put 17 = .ok (.invokevirtual 33, 3) := by decide +kernel
theorem d_DT_put_20 : decode b_DT_put 20 = .ok (.iload_n 3, 1) := by decide +kernel
theorem d_DT_put_21 : decode b_DT_put 21 = .ok (.i2l, 1) := by decide +kernel
theorem d_DT_put_22 : decode b_DT_put 22 = .ok (.iload 4, 2) := by decide +kernel
theorem d_DT_put_24 : decode b_DT_put 24 = .ok (.i2l, 1) := by decide +kernel
theorem d_DT_put_25 : decode b_DT_put 25 = .ok (.invokevirtual 25, 3) := by decide +kernel
theorem d_DT_put_28 : decode b_DT_put 28 = .ok (.return_, 1) := by decide +kernel
theorem d_DT_evaluate_0 : decode b_DT_evaluate 0 = .ok (.aload_n 2, 1) := by decide +kernel
theorem d_DT_evaluate_1 : decode b_DT_evaluate 1 = .ok (.invokevirtual 37, 3) := by decide +kernel
theorem d_DT_evaluate_4 : decode b_DT_evaluate 4 = .ok (.iload_n 1, 1) := by decide +kernel
theorem d_DT_evaluate_5 : decode b_DT_evaluate 5 = .ok (.ifCond .lt 9, 3) := by decide +kernel
theorem d_DT_evaluate_8 : decode b_DT_evaluate 8 = .ok (.iload_n 1, 1) := by decide +kernel
theorem d_DT_evaluate_9 : decode b_DT_evaluate 9 = .ok (.bipush 12, 2) := by decide +kernel
theorem d_DT_evaluate_11 : decode b_DT_evaluate 11 = .ok (.if_icmp .le 4, 3) := by decide +kernel
theorem d_DT_evaluate_14 : decode b_DT_evaluate 14 = .ok (.return_, 1) := by decide +kernel
theorem d_DT_evaluate_15 : decode b_DT_evaluate 15 = .ok (.iconst 0, 1) := by decide +kernel
theorem d_DT_evaluate_16 : decode b_DT_evaluate 16 = .ok (.istore_n 3, 1) := by decide +kernel
theorem d_DT_evaluate_17 : decode b_DT_evaluate 17 = .ok (.aload_n 0, 1) := by decide +kernel
theorem d_DT_evaluate_18 : decode b_DT_evaluate 18 = .ok (.getfield 22, 3) := by decide +kernel
theorem d_DT_evaluate_21 : decode b_DT_evaluate 21 = .ok (.astore 4, 2) := by decide +kernel
theorem d_DT_evaluate_23 : decode b_DT_evaluate 23 = .ok (.iconst 0, 1) := by decide +kernel
theorem d_DT_evaluate_24 : decode b_DT_evaluate 24 = .ok (.istore 5, 2) := by decide +kernel
theorem d_DT_evaluate_26 : decode b_DT_evaluate 26 = .ok (.iload 5, 2) := by decide +kernel
theorem d_DT_evaluate_28 : decode b_DT_evaluate 28 = .ok (.iload_n 1, 1) := by decide +kernel
theorem d_DT_evaluate_29 : decode b_DT_evaluate 29 = .ok (.if_icmp .ge 68, 3) := by decide +kernel
theorem d_DT_evaluate_32 : decode b_DT_evaluate 32 = .ok (.aload_n 0, 1) := by decide +kernel
theorem d_DT_evaluate_33 : decode b_DT_evaluate 33 = .ok (.iload 5, 2) := by decide +kernel
theorem d_DT_evaluate_35 : decode b_DT_evaluate 35 = .ok (.iload_n 1, 1) := by decide +kernel
theorem d_DT_evaluate_36 : decode b_DT_evaluate 36 = .ok (.invokevirtual 40, 3) := by decide +kernel
theorem d_DT_evaluate_39 : decode b_DT_evaluate 39 = .ok (.istore 6, 2) := by decide +kernel
theorem d_DT_evaluate_41 : decode b_DT_evaluate 41 = .ok (.iload 6, 2) := by decide +kernel
theorem d_DT_evaluate_43 : decode b_DT_evaluate 43 = .ok (.ifCond .ge 4, 3) := by decide +kernel
theorem d_DT_evaluate_46 : decode b_DT_evaluate 46 = .ok (.return_, 1) := by decide +kernel
theorem d_DT_evaluate_47 : decode b_DT_evaluate 47 = .ok (.iload 6, 2) := by decide +kernel
theorem d_DT_evaluate_49 : decode b_DT_evaluate 49 = .ok (.iload 5, 2) := by decide +kernel
theorem d_DT_evaluate_51 : decode b_DT_evaluate 51 = .ok (.if_icmp .eq 21, 3) := by decide +kernel
theorem d_DT_evaluate_54 : decode b_DT_evaluate 54 = .ok (.aload_n 0, 1) := by decide +kernel
theorem d_DT_evaluate_55 : decode b_DT_evaluate 55 = .ok (.iload 6, 2) := by decide +kernel
theorem d_DT_evaluate_57 : decode b_DT_evaluate 57 = .ok (.iload 5, 2) := by decide +kernel
theorem d_DT_evaluate_59 : decode b_DT_evaluate 59 = .ok (.invokevirtual 44, 3) := by decide +kernel
theorem d_DT_evaluate_62 : decode b_DT_evaluate 62 = .ok (.iload_n 3, 1) := by decide +kernel
theorem d_DT_evaluate_63 : decode b_DT_evaluate 63 = .ok (.ifCond .ne 7, 3) := by decide +kernel
theorem d_DT_evaluate_66 : decode b_DT_evaluate 66 = .ok (.iconst 1, 1) := by decide +kernel
theorem d_DT_evaluate_67 : decode b_DT_evaluate 67 = .ok (.goto 4, 3) := by decide +kernel
theorem d_DT_evaluate_70 : decode b_DT_evaluate 70 = .ok (.iconst 0, 1) := by decide +kernel
theorem d_DT_evaluate_71 : decode b_DT_evaluate 71 = .ok (.istore_n 3, 1) := by decide +kernel
theorem d_DT_evaluate_72 : decode b_DT_evaluate 72 = .ok (.aload_n 0, 1) := by decide +kernel
theorem d_DT_evaluate_73 : decode b_DT_evaluate 73 = .ok (.iload 5, 2) := by decide +kernel
theorem d_DT_evaluate_75 : decode b_DT_evaluate 75 = .ok (.iload_n 1, 1) := by decide +kernel
theorem d_DT_evaluate_76 : decode b_DT_evaluate 76 = .ok (.aload 4, 2) := by decide +kernel
theorem d_DT_evaluate_78 : decode b_DT_evaluate 78 = .ok (.invokevirtual 48, 3) := by decide +kernel
theorem d_DT_evaluate_81 : decode b_DT_evaluate 81 = .ok (.aload_n 0, 1) := by decide +kernel
theorem d_DT_evaluate_82 : decode b_DT_evaluate 82 = .ok (.iload 5, 2) := by decide +kernel
theorem d_DT_evaluate_84 : decode b_DT_evaluate 84 = .ok (.iload 5, 2) := by decide +kernel
theorem d_DT_evaluate_86 : decode b_DT_evaluate 86 = .ok (.invokevirtual 33, 3) := by decide +kernel
theorem d_DT_evaluate_89 : decode b_DT_evaluate 89 = .ok (.astore 4, 2) := by decide +kernel
theorem d_DT_evaluate_91 : decode b_DT_evaluate 91 = .ok (.iinc 5 1, 3) := by decide +kernel
theorem d_DT_evaluate_94 : decode b_DT_evaluate 94 = .ok (.goto (-68), 3) := by decide +kernel
theorem d_DT_evaluate_97 : decode b_DT_evaluate 97 = .ok (.aload_n 2, 1) := by decide +kernel
theorem d_DT_evaluate_98 : decode b_DT_evaluate 98 = .ok (.aload 4, 2) := by decide +kernel
theorem d_DT_evaluate_100 : decode b_DT_evaluate 100 = .ok (.iload_n 3, 1) := by decide +kernel
theorem d_DT_evaluate_101 : decode b_DT_evaluate 101 = .ok (.ifCond .eq 9, 3) := by decide +kernel
theorem d_DT_evaluate_104 : decode b_DT_evaluate 104 = .ok (.ldc2_w 52, 3) := by decide +kernel
theorem d_DT_evaluate_107 : decode b_DT_evaluate 107 = .ok (.goto 4, 3) := by decide +kernel
theorem d_DT_evaluate_110 : decode b_DT_evaluate 110 = .ok (.lconst 1, 1) := by decide +kernel
theorem d_DT_evaluate_111 : decode b_DT_evaluate 111 = .ok (.invokevirtual 54, 3) := by decide +kernel
theorem d_DT_evaluate_114 : decode b_DT_evaluate 114 = .ok (.return_, 1) := by decide +kernel
theorem d_DT_findPivot_0 : decode b_DT_findPivot 0 = .ok (.iload_n 1, 1) := by decide +kernel
theorem d_DT_findPivot_1 : decode b_DT_findPivot 1 = .ok (.istore_n 3, 1) := by decide +kernel
theorem d_DT_findPivot_2 : decode b_DT_findPivot 2 = .ok (.iload_n 3, 1) := by decide +kernel
theorem d_DT_findPivot_3 : decode b_DT_findPivot 3 = .ok (.iload_n 2, 1) := by decide +kernel
theorem d_DT_findPivot_4 : decode b_DT_findPivot 4 = .ok (.if_icmp .ge 23, 3) := by decide +kernel
theorem d_DT_findPivot_7 : decode b_DT_findPivot 7 = .ok (.aload_n 0, 1) := by decide +kernel
theorem d_DT_findPivot_8 : decode b_DT_findPivot 8 = .ok (.iload_n 3, 1) := by decide +kernel
theorem d_DT_findPivot_9 : decode b_DT_findPivot 9 = .ok (.iload_n 1, 1) := by decide +kernel
theorem d_DT_findPivot_10 : decode b_DT_findPivot 10 = .ok (.invokevirtual 33, 3) := by decide +kernel
theorem d_DT_findPivot_13 : decode b_DT_findPivot 13 = .ok (.invokevirtual 58, 3) := by decide +kernel
theorem d_DT_findPivot_16 : decode b_DT_findPivot 16 = .ok (.ifCond .ne 5, 3) := by decide +kernel
theorem d_DT_findPivot_19 : decode b_DT_findPivot 19 = .ok (.iload_n 3, 1) := by decide +kernel
theorem d_DT_findPivot_20 : decode b_DT_findPivot 20 = .ok (.ireturn, 1) := by decide +kernel
theorem d_DT_findPivot_21 : decode b_DT_findPivot 21 = .ok (.iinc 3 1, 3) := by decide +kernel
theorem d_DT_findPivot_24 : decode b_DT_findPivot 24 = .ok (.goto (-22), 3) := by decide +kernel
theorem d_DT_findPivot_27 : decode b_DT_findPivot 27 = .ok (.iconst (-1), 1) := by decide +kernel
theorem d_DT_findPivot_28 : decode b_DT_findPivot 28 = .ok (.ireturn, 1) := by decide +kernel
theorem d_DT_exchangeRows_0 : decode b_DT_exchangeRows 0 = .ok (.iload_n 1, 1) := by decide +kernel
theorem d_DT_exchangeRows_1 : decode b_DT_exchangeRows 1 = .ok (.invokestatic 29, 3) := by decide +kernel
theorem d_DT_exchangeRows_4 : decode b_DT_exchangeRows 4 = .ok (.ifCond .eq 10, 3) := by decide +kernel
theorem d_DT_exchangeRows_7 : decode b_DT_exchangeRows 7 = .ok (.iload_n 2, 1) := by decide +kernel
theorem d_DT_exchangeRows_8 : decode b_DT_exchangeRows 8 = .ok (.invokestatic 29, 3) := by decide +kernel
theorem d_DT_exchangeRows_11 : decode b_DT_exchangeRows 11 = .ok (.ifCond .ne 4, 3) := by decide +kernel
theorem d_DT_exchangeRows_14 : decode b_DT_exchangeRows 14 = .ok (.return_, 1) := by decide +kernel
theorem d_DT_exchangeRows_15 : decode b_DT_exchangeRows 15 = .ok (.iconst 0, 1) := by decide +kernel
theorem d_DT_exchangeRows_16 : decode b_DT_exchangeRows 16 = .ok (.istore_n 3, 1) := by decide +kernel
theorem d_DT_exchangeRows_17 : decode b_DT_exchangeRows 17 = .ok (.iload_n 3, 1) := by decide +kernel
theorem d_DT_exchangeRows_18 : decode b_DT_exchangeRows 18 = .ok (.bipush 12, 2) := by decide +kernel
theorem d_DT_exchangeRows_20 : decode b_DT_exchangeRows 20 = .ok (.if_icmp .ge 57, 3) := by decide +kernel
theorem d_DT_exchangeRows_23 : decode b_DT_exchangeRows 23 = .ok (.iload_n 1, 1) := by decide +kernel
theorem d_DT_exchangeRows_24 : decode b_DT_exchangeRows 24 = .ok (.bipush 12, 2) := by decide +kernel
theorem d_DT_exchangeRows_26 : decode b_DT_exchangeRows 26 = .ok (.imul, 1) := by decide +kernel
theorem d_DT_exchangeRows_27 : decode b_DT_exchangeRows 27 = .ok (.iload_n 3, 1) := by decide +kernel
theorem d_DT_exchangeRows_28 : decode b_DT_exchangeRows 28 = .ok (.iadd, 1) := by decide +kernel
theorem d_DT_exchangeRows_29 : decode b_DT_exchangeRows 29 = .ok (.istore 4, 2) := by decide +kernel
theorem d_DT_exchangeRows_31 : decode b_DT_exchangeRows 31 = .ok (.iload_n 2, 1) := by decide +kernel
theorem d_DT_exchangeRows_32 : decode b_DT_exchangeRows 32 = .ok (.bipush 12, 2) := by decide +kernel
theorem d_DT_exchangeRows_34 : decode b_DT_exchangeRows 34 = .ok (.imul, 1) := by decide +kernel
theorem d_DT_exchangeRows_35 : decode b_DT_exchangeRows 35 = .ok (.iload_n 3, 1) := by decide +kernel
theorem d_DT_exchangeRows_36 : decode b_DT_exchangeRows 36 = .ok (.iadd, 1) := by decide +kernel
theorem d_DT_exchangeRows_37 : decode b_DT_exchangeRows 37 = .ok (.istore 5, 2) := by decide +kernel
theorem d_DT_exchangeRows_39 : decode b_DT_exchangeRows 39 = .ok (.aload_n 0, 1) := by decide +kernel
theorem d_DT_exchangeRows_40 : decode b_DT_exchangeRows 40 = .ok (.getfield 11, 3) := by decide +kernel
theorem d_DT_exchangeRows_43 : decode b_DT_exchangeRows 43 = .ok (.iload 4, 2) := by decide +kernel
theorem d_DT_exchangeRows_45 : decode b_DT_exchangeRows 45 = .ok (.aaload, 1) := by decide +kernel
theorem d_DT_exchangeRows_46 : decode b_DT_exchangeRows 46 = .ok (.astore 6, 2) := by decide +kernel
theorem d_DT_exchangeRows_48 : decode b_DT_exchangeRows 48 = .ok (.aload_n 0, 1) := by decide +kernel
theorem d_DT_exchangeRows_49 : decode b_DT_exchangeRows 49 = .ok (.getfield 11, 3) := by decide +kernel
theorem d_DT_exchangeRows_52 : decode b_DT_exchangeRows 52 = .ok (.iload 4, 2) := by decide +kernel
theorem d_DT_exchangeRows_54 : decode b_DT_exchangeRows 54 = .ok (.aload_n 0, 1) := by decide +kernel
theorem d_DT_exchangeRows_55 : decode b_DT_exchangeRows 55 = .ok (.getfield 11, 3) := by decide +kernel
theorem d_DT_exchangeRows_58 : decode b_DT_exchangeRows 58 = .ok (.iload 5, 2) := by decide +kernel
theorem d_DT_exchangeRows_60 : decode b_DT_exchangeRows 60 = .ok (.aaload, 1) := by decide +kernel
theorem d_DT_exchangeRows_61 : decode b_DT_exchangeRows 61 = .ok (.aastore, 1) := by decide +kernel
theorem d_DT_exchangeRows_62 : decode b_DT_exchangeRows 62 = .ok (.aload_n 0, 1) := by decide +kernel
theorem d_DT_exchangeRows_63 : decode b_DT_exchangeRows 63 = .ok (.getfield 11, 3) := by decide +kernel
theorem d_DT_exchangeRows_66 : decode b_DT_exchangeRows 66 = .ok (.iload 5, 2) := by decide +kernel
theorem d_DT_exchangeRows_68 : decode b_DT_exchangeRows 68 = .ok (.aload 6, 2) := by decide +kernel
theorem d_DT_exchangeRows_70 : decode b_DT_exchangeRows 70 = .ok (.aastore, 1) := by decide +kernel
theorem d_DT_exchangeRows_71 : decode b_DT_exchangeRows 71 = .ok (.iinc 3 1, 3) := by decide +kernel
theorem d_DT_exchangeRows_74 : decode b_DT_exchangeRows 74 = .ok (.goto (-57), 3) := by decide +kernel
theorem d_DT_exchangeRows_77 : decode b_DT_exchangeRows 77 = .ok (.return_, 1) := by decide +kernel
theorem d_DT_clearBelow_0 : decode b_DT_clearBelow 0 = .ok (.aload_n 0, 1) := by decide +kernel
theorem d_DT_clearBelow_1 : decode b_DT_clearBelow 1 = .ok (.iload_n 1, 1) := by decide +kernel
theorem d_DT_clearBelow_2 : decode b_DT_clearBelow 2 = .ok (.iload_n 1, 1) := by decide +kernel
theorem d_DT_clearBelow_3 : decode b_DT_clearBelow 3 = .ok (.invokevirtual 33, 3) := by decide +kernel
theorem d_DT_clearBelow_6 : decode b_DT_clearBelow 6 = .ok (.astore 4, 2) := by decide +kernel
theorem d_DT_clearBelow_8 : decode b_DT_clearBelow 8 = .ok (.iload_n 1, 1) := by decide +kernel
theorem d_DT_clearBelow_9 : decode b_DT_clearBelow 9 = .ok (.iconst 1, 1) := by decide +kernel
theorem d_DT_clearBelow_10 : decode b_DT_clearBelow 10 = .ok (.iadd, 1) := by decide +kernel
theorem d_DT_clearBelow_11 : decode b_DT_clearBelow 11 = .ok (.istore 5, 2) := by decide +kernel
theorem d_DT_clearBelow_13 : decode b_DT_clearBelow 13 = .ok (.iload 5, 2) := by decide +kernel
theorem d_DT_clearBelow_15 : decode b_DT_clearBelow 15 = .ok (.iload_n 2, 1) := by decide +kernel
theorem d_DT_clearBelow_16 : decode b_DT_clearBelow 16 = .ok (.if_icmp .ge 93, 3) := by decide +kernel
theorem d_DT_clearBelow_19 : decode b_DT_clearBelow 19 = .ok (.aload_n 0, 1) := by decide +kernel
theorem d_DT_clearBelow_20 : decode b_DT_clearBelow 20 = .ok (.iload 5, 2) := by decide +kernel
theorem d_DT_clearBelow_22 : decode b_DT_clearBelow 22 = .ok (.iload_n 1, 1) := by decide +kernel
theorem d_DT_clearBelow_23 : decode b_DT_clearBelow 23 = .ok (.invokevirtual 33, 3) := by decide +kernel
theorem d_DT_clearBelow_26 : decode b_DT_clearBelow 26 = .ok (.astore 6, 2) := by decide +kernel
theorem d_DT_clearBelow_28 : decode b_DT_clearBelow 28 = .ok (.iload_n 1, 1) := by decide +kernel
theorem d_DT_clearBelow_29 : decode b_DT_clearBelow 29 = .ok (.iconst 1, 1) := by decide +kernel
theorem d_DT_clearBelow_30 : decode b_DT_clearBelow 30 = .ok (.iadd, 1) := by decide +kernel
theorem d_DT_clearBelow_31 : decode b_DT_clearBelow 31 = .ok (.istore 7, 2) := by decide +kernel
theorem d_DT_clearBelow_33 : decode b_DT_clearBelow 33 = .ok (.iload 7, 2) := by decide +kernel
theorem d_DT_clearBelow_35 : decode b_DT_clearBelow 35 = .ok (.iload_n 2, 1) := by decide +kernel
theorem d_DT_clearBelow_36 : decode b_DT_clearBelow 36 = .ok (.if_icmp .ge 67, 3) := by decide +kernel
theorem d_DT_clearBelow_39 : decode b_DT_clearBelow 39 = .ok (.aload_n 0, 1) := by decide +kernel
theorem d_DT_clearBelow_40 : decode b_DT_clearBelow 40 = .ok (.iload 5, 2) := by decide +kernel
theorem d_DT_clearBelow_42 : decode b_DT_clearBelow 42 = .ok (.iload 7, 2) := by decide +kernel
theorem d_DT_clearBelow_44 : decode b_DT_clearBelow 44 = .ok (.invokevirtual 33, 3) := by decide +kernel
theorem d_DT_clearBelow_47 : decode b_DT_clearBelow 47 = .ok (.astore 8, 2) := by decide +kernel
theorem d_DT_clearBelow_49 : decode b_DT_clearBelow 49 = .ok (.aload_n 0, 1) := by decide +kernel
theorem d_DT_clearBelow_50 : decode b_DT_clearBelow 50 = .ok (.getfield 18, 3) := by decide +kernel
theorem d_DT_clearBelow_53 : decode b_DT_clearBelow 53 = .ok (.invokevirtual 37, 3) := by decide +kernel
theorem d_DT_clearBelow_56 : decode b_DT_clearBelow 56 = .ok (.aload_n 0, 1) := by decide +kernel
theorem d_DT_clearBelow_57 : decode b_DT_clearBelow 57 = .ok (.getfield 18, 3) := by decide +kernel
theorem d_DT_clearBelow_60 : decode b_DT_clearBelow 60 = .ok (.aload 4, 2) := by decide +kernel
theorem d_DT_clearBelow_62 : decode b_DT_clearBelow 62 = .ok (.aload 8, 2) := by decide +kernel
theorem d_DT_clearBelow_64 : decode b_DT_clearBelow 64 = .ok (.lconst 1, 1) := by decide +kernel
theorem d_DT_clearBelow_65 : decode b_DT_clearBelow 65 = .ok (.invokevirtual 62, 3) := by decide +kernel
theorem d_DT_clearBelow_68 : decode b_DT_clearBelow 68 = .ok (.aload_n 0, 1) := by decide +kernel
theorem d_DT_clearBelow_69 : decode b_DT_clearBelow 69 = .ok (.getfield 18, 3) := by decide +kernel
theorem d_DT_clearBelow_72 : decode b_DT_clearBelow 72 = .ok (.aload 6, 2) := by decide +kernel
theorem d_DT_clearBelow_74 : decode b_DT_clearBelow 74 = .ok (.aload_n 0, 1) := by decide +kernel
theorem d_DT_clearBelow_75 : decode b_DT_clearBelow 75 = .ok (.iload_n 1, 1) := by decide +kernel
theorem d_DT_clearBelow_76 : decode b_DT_clearBelow 76 = .ok (.iload 7, 2) := by decide +kernel
theorem d_DT_clearBelow_78 : decode b_DT_clearBelow 78 = .ok (.invokevirtual 33, 3) := by decide +kernel
theorem d_DT_clearBelow_81 : decode b_DT_clearBelow 81 = .ok (.ldc2_w 52, 3) := by decide +kernel
theorem d_DT_clearBelow_84 : decode b_DT_clearBelow 84 = .ok (.invokevirtual 62, 3) := by decide +kernel
theorem d_DT_clearBelow_87 : decode b_DT_clearBelow 87 = .ok (.aload 8, 2) := by decide +kernel
theorem d_DT_clearBelow_89 : decode b_DT_clearBelow 89 = .ok (.aload_n 0, 1) := by decide +kernel
theorem d_DT_clearBelow_90 : decode b_DT_clearBelow 90 = .ok (.getfield 18, 3) := by decide +kernel
theorem d_DT_clearBelow_93 : decode b_DT_clearBelow 93 = .ok (.aload_n 3, 1) := by decide +kernel
theorem d_DT_clearBelow_94 : decode b_DT_clearBelow 94 = .ok (.invokevirtual 66, 3) := by decide +kernel
theorem d_DT_clearBelow_97 : decode b_DT_clearBelow 97 = .ok (.iinc 7 1, 3) := by decide +kernel
theorem d_DT_clearBelow_100 : decode b_DT_clearBelow 100 = .ok (.goto (-67), 3) := by decide +kernel
theorem d_DT_clearBelow_103 : decode b_DT_clearBelow 103 = .ok (.iinc 5 1, 3) := by decide +kernel
theorem d_DT_clearBelow_106 : decode b_DT_clearBelow 106 = .ok (.goto (-93), 3) := by decide +kernel
theorem d_DT_clearBelow_109 : decode b_DT_clearBelow 109 = .ok (.return_, 1) := by decide +kernel
theorem d_DT_cell_0 : decode b_DT_cell 0 = .ok (.iload_n 1, 1) := by decide +kernel
theorem d_DT_cell_1 : decode b_DT_cell 1 = .ok (.invokestatic 29, 3) := by decide +kernel
theorem d_DT_cell_4 : decode b_DT_cell 4 = .ok (.ifCond .eq 24, 3) := by decide +kernel
theorem d_DT_cell_7 : decode b_DT_cell 7 = .ok (.iload_n 2, 1) := by decide +kernel
theorem d_DT_cell_8 : decode b_DT_cell 8 = .ok (.invokestatic 29, 3) := by decide +kernel
theorem d_DT_cell_11 : decode b_DT_cell 11 = .ok (.ifCond .eq 17, 3) := by decide +kernel
theorem d_DT_cell_14 : decode b_DT_cell 14 = .ok (.aload_n 0, 1) := by decide +kernel
theorem d_DT_cell_15 : decode b_DT_cell 15 = .ok (.getfield 11, 3) := by decide +kernel
theorem d_DT_cell_18 : decode b_DT_cell 18 = .ok (.iload_n 1, 1) := by decide +kernel
theorem d_DT_cell_19 : decode b_DT_cell 19 = .ok (.bipush 12, 2) := by decide +kernel
theorem d_DT_cell_21 : decode b_DT_cell 21 = .ok (.imul, 1) := by decide +kernel
theorem d_DT_cell_22 : decode b_DT_cell 22 = .ok (.iload_n 2, 1) := by decide +kernel
theorem d_DT_cell_23 : decode b_DT_cell 23 = .ok (.iadd, 1) := by decide +kernel
theorem d_DT_cell_24 : decode b_DT_cell 24 = .ok (.aaload, 1) := by decide +kernel
theorem d_DT_cell_25 : decode b_DT_cell 25 = .ok (.goto 7, 3) := by decide +kernel
theorem d_DT_cell_28 : decode b_DT_cell 28 = .ok (.aload_n 0, 1) := by decide +kernel
theorem d_DT_cell_29 : decode b_DT_cell 29 = .ok (.getfield 22, 3) := by decide +kernel
theorem d_DT_cell_32 : decode b_DT_cell 32 = .ok (.areturn, 1) := by decide +kernel
theorem d_DT_isInside_0 : decode b_DT_isInside 0 = .ok (.iload_n 0, 1) := by decide +kernel
theorem d_DT_isInside_1 : decode b_DT_isInside 1 = .ok (.ifCond .lt 13, 3) := by decide +kernel
theorem d_DT_isInside_4 : decode b_DT_isInside 4 = .ok (.iload_n 0, 1) := by decide +kernel
theorem d_DT_isInside_5 : decode b_DT_isInside 5 = .ok (.bipush 12, 2) := by decide +kernel
theorem d_DT_isInside_7 : decode b_DT_isInside 7 = .ok (.if_icmp .ge 7, 3) := by decide +kernel
theorem d_DT_isInside_10 : decode b_DT_isInside 10 = .ok (.iconst 1, 1) := by decide +kernel
theorem d_DT_isInside_11 : decode b_DT_isInside 11 = .ok (.goto 4, 3) := by decide +kernel
theorem d_DT_isInside_14 : decode b_DT_isInside 14 = .ok (.iconst 0, 1) := by decide +kernel
theorem d_DT_isInside_15 : decode b_DT_isInside 15 = .ok (.ireturn, 1) := by decide +kernel
theorem d_ET_init_0 : decode b_ET_init 0 = .ok (.aload_n 0, 1) := by decide +kernel
theorem d_ET_init_1 : decode b_ET_init 1 = .ok (.invokespecial 3, 3) := by decide +kernel
theorem d_ET_init_4 : decode b_ET_init 4 = .ok (.aload_n 0, 1) := by decide +kernel
theorem d_ET_init_5 : decode b_ET_init 5 = .ok (.bipush 12, 2) := by decide +kernel
theorem d_ET_init_7 : decode b_ET_init 7 = .ok (.bipush 33, 2) := by decide +kernel
theorem d_ET_init_9 : decode b_ET_init 9 = .ok (.multianewarray 9 2, 4) := by decide +kernel
theorem d_ET_init_13 : decode b_ET_init 13 = .ok (.putfield 11, 3) := by decide +kernel
theorem d_ET_init_16 : decode b_ET_init 16 = .ok (.aload_n 0, 1) := by decide +kernel
theorem d_ET_init_17 : decode b_ET_init 17 = .ok (.bipush 12, 2) := by decide +kernel
theorem d_ET_init_19 : decode b_ET_init 19 = .ok (.bipush 33, 2) := by decide +kernel
theorem d_ET_init_21 : decode b_ET_init 21 = .ok (.multianewarray 9 2, 4) := by decide +kernel
theorem d_ET_init_25 : decode b_ET_init 25 = .ok (.putfield 16, 3) := by decide +kernel
theorem d_ET_init_28 : decode b_ET_init 28 = .ok (.aload_n 0, 1) := by decide +kernel
theorem d_ET_init_29 : decode b_ET_init 29 = .ok (.iconst 0, 1) := by decide +kernel
theorem d_ET_init_30 : decode b_ET_init 30 = .ok (.putfield 19, 3) := by decide +kernel
theorem d_ET_init_33 : decode b_ET_init 33 = .ok (.aload_n 0, 1) := by decide +kernel
theorem d_ET_init_34 : decode b_ET_init 34 = .ok (.iconst 0, 1) := by decide +kernel
theorem d_ET_init_35 : decode b_ET_init 35 = .ok (.putfield 23, 3) := by decide +kernel
theorem d_ET_init_38 : decode b_ET_init 38 = .ok (.return_, 1) := by decide +kernel
theorem d_ET_read_0 : decode b_ET_read 0 = .ok (.aload_n 0, 1) := by decide +kernel
theorem d_ET_read_1 : decode b_ET_read 1 = .ok (.aload_n 1, 1) := by decide +kernel
theorem d_ET_read_2 : decode b_ET_read 2 = .ok (.invokevirtual 26, 3) := by decide +kernel
theorem d_ET_read_5 : decode b_ET_read 5 = .ok (.bipush 12, 2) := by decide +kernel
theorem d_ET_read_7 : decode b_ET_read 7 = .ok (.invokestatic 32, 3) := by decide +kernel
theorem d_ET_read_10 : decode b_ET_read 10 = .ok (.putfield 19, 3) := by decide +kernel
theorem d_ET_read_13 : decode b_ET_read 13 = .ok (.aload_n 0, 1) := by decide +kernel
theorem d_ET_read_14 : decode b_ET_read 14 = .ok (.aload_n 2, 1) := by decide +kernel
theorem d_ET_read_15 : decode b_ET_read 15 = .ok (.invokevirtual 38, 3) := by decide +kernel
theorem d_ET_read_18 : decode b_ET_read 18 = .ok (.bipush 33, 2) := by decide +kernel
theorem d_ET_read_20 : decode b_ET_read 20 = .ok (.invokestatic 32, 3) := by decide +kernel
theorem d_ET_read_23 : decode b_ET_read 23 = .ok (.putfield 23, 3) := by decide +kernel
theorem d_ET_read_26 : decode b_ET_read 26 = .ok (.iconst 0, 1) := by decide +kernel
theorem d_ET_read_27 : decode b_ET_read 27 = .ok (.istore_n 3, 1) := by decide +kernel
theorem d_ET_read_28 : decode b_ET_read 28 = .ok (.iload_n 3, 1) := by decide +kernel
theorem d_ET_read_29 : decode b_ET_read 29 = .ok (.aload_n 0, 1) := by decide +kernel
theorem d_ET_read_30 : decode b_ET_read 30 = .ok (.getfield 19, 3) := by decide +kernel
theorem d_ET_read_33 : decode b_ET_read 33 = .ok (.if_icmp .ge 121, 3) := by decide +kernel
theorem d_ET_read_36 : decode b_ET_read 36 = .ok (.aload_n 0, 1) := by decide +kernel
theorem d_ET_read_37 : decode b_ET_read 37 = .ok (.getfield 11, 3) := by decide +kernel
theorem d_ET_read_40 : decode b_ET_read 40 = .ok (.iload_n 3, 1) := by decide +kernel
theorem d_ET_read_41 : decode b_ET_read 41 = .ok (.aaload, 1) := by decide +kernel
theorem d_ET_read_42 : decode b_ET_read 42 = .ok (.iconst 0, 1) := by decide +kernel
theorem d_ET_read_43 : decode b_ET_read 43 = .ok (.invokestatic 41, 3) := by decide +kernel
theorem d_ET_read_46 : decode b_ET_read 46 = .ok (.aload_n 0, 1) := by decide +kernel
theorem d_ET_read_47 : decode b_ET_read 47 = .ok (.getfield 16, 3) := by decide +kernel
theorem d_ET_read_50 : decode b_ET_read 50 = .ok (.iload_n 3, 1) := by decide +kernel
theorem d_ET_read_51 : decode b_ET_read 51 = .ok (.aaload, 1) := by decide +kernel
theorem d_ET_read_52 : decode b_ET_read 52 = .ok (.iconst 0, 1) := by decide +kernel
theorem d_ET_read_53 : decode b_ET_read 53 = .ok (.invokestatic 41, 3) := by decide +kernel
theorem d_ET_read_56 : decode b_ET_read 56 = .ok (.aload_n 2, 1) := by decide +kernel
theorem d_ET_read_57 : decode b_ET_read 57 = .ok (.aload_n 1, 1) := by decide +kernel
theorem d_ET_read_58 : decode b_ET_read 58 = .ok (.iload_n 3, 1) := by decide +kernel
theorem d_ET_read_59 : decode b_ET_read 59 = .ok (.invokevirtual 47, 3) := by decide +kernel
theorem d_ET_read_62 : decode b_ET_read 62 = .ok (.invokevirtual 51, 3) := by decide +kernel
theorem d_ET_read_65 : decode b_ET_read 65 = .ok (.istore 4, 2) := by decide +kernel
theorem d_ET_read_67 : decode b_ET_read 67 = .ok (.aload_n 2, 1) := by decide +kernel
theorem d_ET_read_68 : decode b_ET_read 68 = .ok (.aload_n 1, 1) := by decide +kernel
theorem d_ET_read_69 : decode b_ET_read 69 = .ok (.iload_n 3, 1) := by decide +kernel
theorem d_ET_read_70 : decode b_ET_read 70 = .ok (.invokevirtual 54, 3) := by decide +kernel
theorem d_ET_read_73 : decode b_ET_read 73 = .ok (.invokevirtual 51, 3) := by decide +kernel
theorem d_ET_read_76 : decode b_ET_read 76 = .ok (.istore 5, 2) := by decide +kernel
theorem d_ET_read_78 : decode b_ET_read 78 = .ok (.aload_n 1, 1) := by decide +kernel
theorem d_ET_read_79 : decode b_ET_read 79 = .ok (.iload_n 3, 1) := by decide +kernel
theorem d_ET_read_80 : decode b_ET_read 80 = .ok (.invokevirtual 57, 3) := by decide +kernel
theorem d_ET_read_83 : decode b_ET_read 83 = .ok (.iconst 1, 1) := by decide +kernel
theorem d_ET_read_84 : decode b_ET_read 84 = .ok (.if_icmp .ne 7, 3) := by decide +kernel
theorem d_ET_read_87 : decode b_ET_read 87 = .ok (.iconst 1, 1) := by decide +kernel
theorem d_ET_read_88 : decode b_ET_read 88 = .ok (.goto 4, 3) := by decide +kernel
theorem d_ET_read_91 : decode b_ET_read 91 = .ok (.iconst 0, 1) := by decide +kernel
theorem d_ET_read_92 : decode b_ET_read 92 = .ok (.istore 6, 2) := by decide +kernel
theorem d_ET_read_94 : decode b_ET_read 94 = .ok (.aload_n 0, 1) := by decide +kernel
theorem d_ET_read_95 : decode b_ET_read 95 = .ok (.iload_n 3, 1) := by decide +kernel
theorem d_ET_read_96 : decode b_ET_read 96 = .ok (.iload 6, 2) := by decide +kernel
theorem d_ET_read_98 : decode b_ET_read 98 = .ok (.ifCond .eq 8, 3) := by decide +kernel
theorem d_ET_read_101 : decode b_ET_read 101 = .ok (.iload 4, 2) := by decide +kernel
theorem d_ET_read_103 : decode b_ET_read 103 = .ok (.goto 5, 3) := by decide +kernel
theorem d_ET_read_106 : decode b_ET_read 106 = .ok (.iload 5, 2) := by decide +kernel
theorem d_ET_read_108 : decode b_ET_read 108 = .ok (.iconst 0, 1) := by decide +kernel
theorem d_ET_read_109 : decode b_ET_read 109 = .ok (.iconst 1, 1) := by decide +kernel
theorem d_ET_read_110 : decode b_ET_read 110 = .ok (.invokevirtual 60, 3) := by decide +kernel
theorem d_ET_read_113 : decode b_ET_read 113 = .ok (.aload_n 0, 1) := by decide +kernel
theorem d_ET_read_114 : decode b_ET_read 114 = .ok (.iload_n 3, 1) := by decide +kernel
theorem d_ET_read_115 : decode b_ET_read 115 = .ok (.iload 6, 2) := by decide +kernel
theorem d_ET_read_117 : decode b_ET_read 117 = .ok (.ifCond .eq 8, 3) := by decide +kernel
theorem d_ET_read_120 : decode b_ET_read 120 = .ok (.iload 5, 2) := by decide +kernel
theorem d_ET_read_122 : decode b_ET_read 122 = .ok (.goto 5, 3) := by decide +kernel
theorem d_ET_read_125 : decode b_ET_read 125 = .ok (.iload 4, 2) := by decide +kernel
theorem d_ET_read_127 : decode b_ET_read 127 = .ok (.iconst (-1), 1) := by decide +kernel
theorem d_ET_read_128 : decode b_ET_read 128 = .ok (.iconst 0, 1) := by decide +kernel
theorem d_ET_read_129 : decode b_ET_read 129 = .ok (.invokevirtual 60, 3) := by decide +kernel
theorem d_ET_read_132 : decode b_ET_read 132 = .ok (.aload_n 0, 1) := by decide +kernel
theorem d_ET_read_133 : decode b_ET_read 133 = .ok (.iload_n 3, 1) := by decide +kernel
theorem d_ET_read_134 : decode b_ET_read 134 = .ok (.aload_n 2, 1) := by decide +kernel
theorem d_ET_read_135 : decode b_ET_read 135 = .ok (.aload_n 1, 1) := by decide +kernel
theorem d_ET_read_136 : decode b_ET_read 136 = .ok (.iload_n 3, 1) := by decide +kernel
theorem d_ET_read_137 : decode b_ET_read 137 = .ok (.invokevirtual 64, 3) := by decide +kernel
theorem d_ET_read_140 : decode b_ET_read 140 = .ok (.invokevirtual 51, 3) := by decide +kernel
theorem d_ET_read_143 : decode b_ET_read 143 = .ok (.iconst 1, 1) := by decide +kernel
theorem d_ET_read_144 : decode b_ET_read 144 = .ok (.iconst (-1), 1) := by decide +kernel
theorem d_ET_read_145 : decode b_ET_read 145 = .ok (.invokevirtual 60, 3) := by decide +kernel
theorem d_ET_read_148 : decode b_ET_read 148 = .ok (.iinc 3 1, 3) := by decide +kernel
theorem d_ET_read_151 : decode b_ET_read 151 = .ok (.goto (-123), 3) := by decide +kernel
theorem d_ET_read_154 : decode b_ET_read 154 = .ok (.return_, 1) := by decide +kernel
theorem d_ET_rows_0 : decode b_ET_rows 0 = .ok (.aload_n 0, 1) := by decide +kernel
theorem d_ET_rows_1 : decode b_ET_rows 1 = .ok (.getfield 19, 3) := by decide +kernel
theorem d_ET_rows_4 : decode b_ET_rows 4 = .ok (.ireturn, 1) := by decide +kernel
theorem d_ET_columns_0 : decode b_ET_columns 0 = .ok (.aload_n 0, 1) := by decide +kernel
theorem d_ET_columns_1 : decode b_ET_columns 1 = .ok (.getfield 23, 3) := by decide +kernel
theorem d_ET_columns_4 : decode b_ET_columns 4 = .ok (.ireturn, 1) := by decide +kernel
theorem d_ET_has_0 : decode b_ET_has 0 = .ok (.iload_n 1, 1) := by decide +kernel
theorem d_ET_has_1 : decode b_ET_has 1 = .ok (.ifCond .lt 27, 3) := by decide +kernel
theorem d_ET_has_4 : decode b_ET_has 4 = .ok (.iload_n 1, 1) := by decide +kernel
theorem d_ET_has_5 : decode b_ET_has 5 = .ok (.aload_n 0, 1) := by decide +kernel
theorem d_ET_has_6 : decode b_ET_has 6 = .ok (.getfield 19, 3) := by decide +kernel
theorem d_ET_has_9 : decode b_ET_has 9 = .ok (.if_icmp .ge 19, 3) := by decide +kernel
theorem d_ET_has_12 : decode b_ET_has 12 = .ok (.iload_n 2, 1) := by decide +kernel
theorem d_ET_has_13 : decode b_ET_has 13 = .ok (.ifCond .lt 15, 3) := by decide +kernel
theorem d_ET_has_16 : decode b_ET_has 16 = .ok (.iload_n 2, 1) := by decide +kernel
theorem d_ET_has_17 : decode b_ET_has 17 = .ok (.aload_n 0, 1) := by decide +kernel
theorem d_ET_has_18 : decode b_ET_has 18 = .ok (.getfield 23, 3) := by decide +kernel
theorem d_ET_has_21 : decode b_ET_has 21 = .ok (.if_icmp .ge 7, 3) := by decide +kernel
theorem d_ET_has_24 : decode b_ET_has 24 = .ok (.iconst 1, 1) := by decide +kernel
theorem d_ET_has_25 : decode b_ET_has 25 = .ok (.goto 4, 3) := by decide +kernel
theorem d_ET_has_28 : decode b_ET_has 28 = .ok (.iconst 0, 1) := by decide +kernel
theorem d_ET_has_29 : decode b_ET_has 29 = .ok (.ireturn, 1) := by decide +kernel
theorem d_ET_constantAt_0 : decode b_ET_constantAt 0 = .ok (.aload_n 0, 1) := by decide +kernel
theorem d_ET_constantAt_1 : decode b_ET_constantAt 1 = .ok (.iload_n 1, 1) := by decide +kernel
theorem d_ET_constantAt_2 : decode b_ET_constantAt 2 = .ok (.iload_n 2, 1) := by decide +kernel
theorem d_ET_constantAt_3 : decode b_ET_constantAt 3 = .ok (.invokevirtual 67, 3) := by decide +kernel
theorem d_ET_constantAt_6 : decode b_ET_constantAt 6 = .ok (.ifCond .eq 14, 3) := by decide +kernel
theorem d_ET_constantAt_9 : decode b_ET_constantAt 9 = .ok (.aload_n 0, 1) := by decide +kernel
theorem d_ET_constantAt_10 : decode b_ET_constantAt 10 = .ok (.getfield 11, 3) := by decide +kernel
theorem d_ET_constantAt_13 : decode b_ET_constantAt 13 = .ok (.iload_n 1, 1) := by decide +kernel
theorem d_ET_constantAt_14 : decode b_ET_constantAt 14 = .ok (.aaload, 1) := by decide +kernel
theorem d_ET_constantAt_15 : decode b_ET_constantAt 15 = .ok (.iload_n 2, 1) := by decide +kernel
theorem d_ET_constantAt_16 : decode b_ET_constantAt 16 = .ok (.iaload, 1) := by decide +kernel
theorem d_ET_constantAt_17 : decode b_ET_constantAt 17 = .ok (.goto 4, 3) := by decide +kernel
theorem d_ET_constantAt_20 : decode b_ET_constantAt 20 = .ok (.iconst 0, 1) := by decide +kernel
theorem d_ET_constantAt_21 : decode b_ET_constantAt 21 = .ok (.ireturn, 1) := by decide +kernel
theorem d_ET_slopeAt_0 : decode b_ET_slopeAt 0 = .ok (.aload_n 0, 1) := by decide +kernel
theorem d_ET_slopeAt_1 : decode b_ET_slopeAt 1 = .ok (.iload_n 1, 1) := by decide +kernel
theorem d_ET_slopeAt_2 : decode b_ET_slopeAt 2 = .ok (.iload_n 2, 1) := by decide +kernel
theorem d_ET_slopeAt_3 : decode b_ET_slopeAt 3 = .ok (.invokevirtual 67, 3) := by decide +kernel
theorem d_ET_slopeAt_6 : decode b_ET_slopeAt 6 = .ok (.ifCond .eq 14, 3) := by decide +kernel
theorem d_ET_slopeAt_9 : decode b_ET_slopeAt 9 = .ok (.aload_n 0, 1) := by decide +kernel
theorem d_ET_slopeAt_10 : decode b_ET_slopeAt 10 = .ok (.getfield 16, 3) := by decide +kernel
theorem d_ET_slopeAt_13 : decode b_ET_slopeAt 13 = .ok (.iload_n 1, 1) := by decide +kernel
theorem d_ET_slopeAt_14 : decode b_ET_slopeAt 14 = .ok (.aaload, 1) := by decide +kernel
theorem d_ET_slopeAt_15 : decode b_ET_slopeAt 15 = .ok (.iload_n 2, 1) := by decide +kernel
theorem d_ET_slopeAt_16 : decode b_ET_slopeAt 16 = .ok (.iaload, 1) := by decide +kernel
theorem d_ET_slopeAt_17 : decode b_ET_slopeAt 17 = .ok (.goto 4, 3) := by decide +kernel
theorem d_ET_slopeAt_20 : decode b_ET_slopeAt 20 = .ok (.iconst 0, 1) := by decide +kernel
theorem d_ET_slopeAt_21 : decode b_ET_slopeAt 21 = .ok (.ireturn, 1) := by decide +kernel
theorem d_ET_add_0 : decode b_ET_add 0 = .ok (.aload_n 0, 1) := by decide +kernel
theorem d_ET_add_1 : decode b_ET_add 1 = .ok (.iload_n 1, 1) := by decide +kernel
theorem d_ET_add_2 : decode b_ET_add 2 = .ok (.iload_n 2, 1) := by decide +kernel
theorem d_ET_add_3 : decode b_ET_add 3 = .ok (.invokevirtual 67, 3) := by decide +kernel
theorem d_ET_add_6 : decode b_ET_add 6 = .ok (.ifCond .eq 28, 3) := by decide +kernel
theorem d_ET_add_9 : decode b_ET_add 9 = .ok (.aload_n 0, 1) := by decide +kernel
theorem d_ET_add_10 : decode b_ET_add 10 = .ok (.getfield 11, 3) := by decide +kernel
theorem d_ET_add_13 : decode b_ET_add 13 = .ok (.iload_n 1, 1) := by decide +kernel
theorem d_ET_add_14 : decode b_ET_add 14 = .ok (.aaload, 1) := by decide +kernel
theorem d_ET_add_15 : decode b_ET_add 15 = .ok (.iload_n 2, 1) := by decide +kernel
theorem d_ET_add_16 : decode b_ET_add 16 = .ok (.dup2, 1) := by decide +kernel
theorem d_ET_add_17 : decode b_ET_add 17 = .ok (.iaload, 1) := by decide +kernel
theorem d_ET_add_18 : decode b_ET_add 18 = .ok (.iload_n 3, 1) := by decide +kernel
theorem d_ET_add_19 : decode b_ET_add 19 = .ok (.iadd, 1) := by decide +kernel
theorem d_ET_add_20 : decode b_ET_add 20 = .ok (.iastore, 1) := by decide +kernel
theorem d_ET_add_21 : decode b_ET_add 21 = .ok (.aload_n 0, 1) := by decide +kernel
theorem d_ET_add_22 : decode b_ET_add 22 = .ok (.getfield 16, 3) := by decide +kernel
theorem d_ET_add_25 : decode b_ET_add 25 = .ok (.iload_n 1, 1) := by decide +kernel
theorem d_ET_add_26 : decode b_ET_add 26 = .ok (.aaload, 1) := by decide +kernel
theorem d_ET_add_27 : decode b_ET_add 27 = .ok (.iload_n 2, 1) := by decide +kernel
theorem d_ET_add_28 : decode b_ET_add 28 = .ok (.dup2, 1) := by decide +kernel
theorem d_ET_add_29 : decode b_ET_add 29 = .ok (.iaload, 1) := by decide +kernel
theorem d_ET_add_30 : decode b_ET_add 30 = .ok (.iload 4, 2) := by decide +kernel
theorem d_ET_add_32 : decode b_ET_add 32 = .ok (.iadd, 1) := by decide +kernel
theorem d_ET_add_33 : decode b_ET_add 33 = .ok (.iastore, 1) := by decide +kernel
theorem d_ET_add_34 : decode b_ET_add 34 = .ok (.return_, 1) := by decide +kernel
theorem d_MT_init_0 : decode b_MT_init 0 = .ok (.aload_n 0, 1) := by decide +kernel
theorem d_MT_init_1 : decode b_MT_init 1 = .ok (.invokespecial 1, 3) := by decide +kernel
theorem d_MT_init_4 : decode b_MT_init 4 = .ok (.aload_n 0, 1) := by decide +kernel
theorem d_MT_init_5 : decode b_MT_init 5 = .ok (.new 7, 3) := by decide +kernel
theorem d_MT_init_8 : decode b_MT_init 8 = .ok (.dup, 1) := by decide +kernel
theorem d_MT_init_9 : decode b_MT_init 9 = .ok (.invokespecial 9, 3) := by decide +kernel
theorem d_MT_init_12 : decode b_MT_init 12 = .ok (.putfield 10, 3) := by decide +kernel
theorem d_MT_init_15 : decode b_MT_init 15 = .ok (.aload_n 0, 1) := by decide +kernel
theorem d_MT_init_16 : decode b_MT_init 16 = .ok (.new 16, 3) := by decide +kernel
theorem d_MT_init_19 : decode b_MT_init 19 = .ok (.dup, 1) := by decide +kernel
theorem d_MT_init_20 : decode b_MT_init 20 = .ok (.invokespecial 18, 3) := by decide +kernel
theorem d_MT_init_23 : decode b_MT_init 23 = .ok (.putfield 19, 3) := by decide +kernel
theorem d_MT_init_26 : decode b_MT_init 26 = .ok (.aload_n 0, 1) := by decide +kernel
theorem d_MT_init_27 : decode b_MT_init 27 = .ok (.iconst 0, 1) := by decide +kernel
theorem d_MT_init_28 : decode b_MT_init 28 = .ok (.putfield 23, 3) := by decide +kernel
theorem d_MT_init_31 : decode b_MT_init 31 = .ok (.aload_n 0, 1) := by decide +kernel
theorem d_MT_init_32 : decode b_MT_init 32 = .ok (.iconst 0, 1) := by decide +kernel
theorem d_MT_init_33 : decode b_MT_init 33 = .ok (.putfield 27, 3) := by decide +kernel
theorem d_MT_init_36 : decode b_MT_init 36 = .ok (.aload_n 0, 1) := by decide +kernel
theorem d_MT_init_37 : decode b_MT_init 37 = .ok (.iconst 0, 1) := by decide +kernel
theorem d_MT_init_38 : decode b_MT_init 38 = .ok (.putfield 30, 3) := by decide +kernel
theorem d_MT_init_41 : decode b_MT_init 41 = .ok (.return_, 1) := by decide +kernel
theorem d_MT_forget_0 : decode b_MT_forget 0 = .ok (.aload_n 0, 1) := by decide +kernel
theorem d_MT_forget_1 : decode b_MT_forget 1 = .ok (.iconst 0, 1) := by decide +kernel
theorem d_MT_forget_2 : decode b_MT_forget 2 = .ok (.putfield 30, 3) := by decide +kernel
theorem d_MT_forget_5 : decode b_MT_forget 5 = .ok (.return_, 1) := by decide +kernel
theorem d_MT_take_0 : decode b_MT_take 0 = .ok (.aload_n 0, 1) := by decide +kernel
theorem d_MT_take_1 : decode b_MT_take 1 = .ok (.getfield 30, 3) := by decide +kernel
theorem d_MT_take_4 : decode b_MT_take 4 = .ok (.ifCond .eq 24, 3) := by decide +kernel
theorem d_MT_take_7 : decode b_MT_take 7 = .ok (.iload_n 2, 1) := by decide +kernel
theorem d_MT_take_8 : decode b_MT_take 8 = .ok (.aload_n 0, 1) := by decide +kernel
theorem d_MT_take_9 : decode b_MT_take 9 = .ok (.getfield 23, 3) := by decide +kernel
theorem d_MT_take_12 : decode b_MT_take 12 = .ok (.if_icmp .ne 16, 3) := by decide +kernel
theorem d_MT_take_15 : decode b_MT_take 15 = .ok (.iload_n 3, 1) := by decide +kernel
theorem d_MT_take_16 : decode b_MT_take 16 = .ok (.aload_n 0, 1) := by decide +kernel
theorem d_MT_take_17 : decode b_MT_take 17 = .ok (.getfield 27, 3) := by decide +kernel
theorem d_MT_take_20 : decode b_MT_take 20 = .ok (.if_icmp .ne 8, 3) := by decide +kernel
theorem d_MT_take_23 : decode b_MT_take 23 = .ok (.aload_n 0, 1) := by decide +kernel
theorem d_MT_take_24 : decode b_MT_take 24 = .ok (.getfield 19, 3) := by decide +kernel
theorem d_MT_take_27 : decode b_MT_take 27 = .ok (.areturn, 1) := by decide +kernel
theorem d_MT_take_28 : decode b_MT_take 28 = .ok (.aload_n 0, 1) := by decide +kernel
theorem d_MT_take_29 : decode b_MT_take 29 = .ok (.iload_n 2, 1) := by decide +kernel
theorem d_MT_take_30 : decode b_MT_take 30 = .ok (.putfield 23, 3) := by decide +kernel
theorem d_MT_take_33 : decode b_MT_take 33 = .ok (.aload_n 0, 1) := by decide +kernel
theorem d_MT_take_34 : decode b_MT_take 34 = .ok (.iload_n 3, 1) := by decide +kernel
theorem d_MT_take_35 : decode b_MT_take 35 = .ok (.putfield 27, 3) := by decide +kernel
theorem d_MT_take_38 : decode b_MT_take 38 = .ok (.aload_n 0, 1) := by decide +kernel
theorem d_MT_take_39 : decode b_MT_take 39 = .ok (.iconst 1, 1) := by decide +kernel
theorem d_MT_take_40 : decode b_MT_take 40 = .ok (.putfield 30, 3) := by decide +kernel
theorem d_MT_take_43 : decode b_MT_take 43 = .ok (.aload_n 0, 1) := by decide +kernel
theorem d_MT_take_44 : decode b_MT_take 44 = .ok (.getfield 19, 3) := by decide +kernel
theorem d_MT_take_47 : decode b_MT_take 47 = .ok (.invokevirtual 34, 3) := by decide +kernel
theorem d_MT_take_50 : decode b_MT_take 50 = .ok (.iload_n 2, 1) := by decide +kernel
theorem d_MT_take_51 : decode b_MT_take 51 = .ok (.ifCond .ge 10, 3) := by decide +kernel
theorem d_MT_take_54 : decode b_MT_take 54 = .ok (.aload_n 1, 1) := by decide +kernel
theorem d_MT_take_55 : decode b_MT_take 55 = .ok (.invokevirtual 37, 3) := by decide +kernel
theorem d_MT_take_58 : decode b_MT_take 58 = .ok (.goto 9, 3) := by decide +kernel
theorem d_MT_take_61 : decode b_MT_take 61 = .ok (.aload_n 1, 1) := by decide +kernel
theorem d_MT_take_62 : decode b_MT_take 62 = .ok (.invokevirtual 37, 3) := by decide +kernel
theorem d_MT_take_65 : decode b_MT_take 65 = .ok (.iconst 1, 1) := by decide +kernel
theorem d_MT_take_66 : decode b_MT_take 66 = .ok (.isub, 1) := by decide +kernel
theorem d_MT_take_67 : decode b_MT_take 67 = .ok (.istore 4, 2) := by decide +kernel
theorem d_MT_take_69 : decode b_MT_take 69 = .ok (.iload_n 2, 1) := by decide +kernel
theorem d_MT_take_70 : decode b_MT_take 70 = .ok (.iconst (-1), 1) := by decide +kernel
theorem d_MT_take_71 : decode b_MT_take 71 = .ok (.if_icmp .lt 15, 3) := by decide +kernel
theorem d_MT_take_74 : decode b_MT_take 74 = .ok (.iload_n 2, 1) := by decide +kernel
theorem d_MT_take_75 : decode b_MT_take 75 = .ok (.aload_n 1, 1) := by decide +kernel
theorem d_MT_take_76 : decode b_MT_take 76 = .ok (.invokevirtual 37, 3) := by decide +kernel
theorem d_MT_take_79 : decode b_MT_take 79 = .ok (.if_icmp .ge 7, 3) := by decide +kernel
theorem d_MT_take_82 : decode b_MT_take 82 = .ok (.iconst 1, 1) := by decide +kernel
theorem d_MT_take_83 : decode b_MT_take 83 = .ok (.goto 4, 3) := by decide +kernel
theorem d_MT_take_86 : decode b_MT_take 86 = .ok (.iconst 0, 1) := by decide +kernel
theorem d_MT_take_87 : decode b_MT_take 87 = .ok (.istore 5, 2) := by decide +kernel
theorem d_MT_take_89 : decode b_MT_take 89 = .ok (.iload_n 3, 1) := by decide +kernel
theorem d_MT_take_90 : decode b_MT_take 90 = .ok (.ifCond .lt 15, 3) := by decide +kernel
theorem d_MT_take_93 : decode b_MT_take 93 = .ok (.iload_n 3, 1) := by decide +kernel
theorem d_MT_take_94 : decode b_MT_take 94 = .ok (.aload_n 1, 1) := by decide +kernel
theorem d_MT_take_95 : decode b_MT_take 95 = .ok (.invokevirtual 43, 3) := by decide +kernel
theorem d_MT_take_98 : decode b_MT_take 98 = .ok (.if_icmp .ge 7, 3) := by decide +kernel
theorem d_MT_take_101 : decode b_MT_take 101 = .ok (.iconst 1, 1) := by decide +kernel
theorem d_MT_take_102 : decode b_MT_take 102 = .ok (.goto 4, 3) := by decide +kernel
theorem d_MT_take_105 : decode b_MT_take 105 = .ok (.iconst 0, 1) := by decide +kernel
theorem d_MT_take_106 : decode b_MT_take 106 = .ok (.istore 6, 2) := by decide +kernel
theorem d_MT_take_108 : decode b_MT_take 108 = .ok (.iload 5, 2) := by decide +kernel
theorem d_MT_take_110 : decode b_MT_take 110 = .ok (.ifCond .eq 39, 3) := by decide +kernel
theorem d_MT_take_113 : decode b_MT_take 113 = .ok (.iload 6, 2) := by decide +kernel
theorem d_MT_take_115 : decode b_MT_take 115 = .ok (.ifCond .eq 34, 3) := by decide +kernel
theorem d_MT_take_118 : decode b_MT_take 118 = .ok (.iload 4, 2) := by decide +kernel
theorem d_MT_take_120 : decode b_MT_take 120 = .ok (.aload_n 1, 1) := by decide +kernel
theorem d_MT_take_121 : decode b_MT_take 121 = .ok (.invokevirtual 43, 3) := by decide +kernel
theorem d_MT_take_124 : decode b_MT_take 124 = .ok (.iconst 1, 1) := by decide +kernel
theorem d_MT_take_125 : decode b_MT_take 125 = .ok (.isub, 1) := by decide +kernel
theorem d_MT_take_126 : decode b_MT_take 126 = .ok (.if_icmp .ne 23, 3) := by decide +kernel
theorem d_MT_take_129 : decode b_MT_take 129 = .ok (.aload_n 0, 1) := by decide +kernel
theorem d_MT_take_130 : decode b_MT_take 130 = .ok (.aload_n 1, 1) := by decide +kernel
theorem d_MT_take_131 : decode b_MT_take 131 = .ok (.iload 4, 2) := by decide +kernel
theorem d_MT_take_133 : decode b_MT_take 133 = .ok (.invokevirtual 46, 3) := by decide +kernel
theorem d_MT_take_136 : decode b_MT_take 136 = .ok (.aload_n 0, 1) := by decide +kernel
theorem d_MT_take_137 : decode b_MT_take 137 = .ok (.getfield 10, 3) := by decide +kernel
theorem d_MT_take_140 : decode b_MT_take 140 = .ok (.iload 4, 2) := by decide +kernel
theorem d_MT_take_142 : decode b_MT_take 142 = .ok (.aload_n 0, 1) := by decide +kernel
theorem d_MT_take_143 : decode b_MT_take 143 = .ok (.getfield 19, 3) := by decide +kernel
theorem d_MT_take_146 : decode b_MT_take 146 = .ok (.invokevirtual 50, 3) := by decide +kernel
theorem d_MT_take_149 : decode b_MT_take 149 = .ok (.aload_n 0, 1) := by decide +kernel
theorem d_MT_take_150 : decode b_MT_take 150 = .ok (.getfield 19, 3) := by decide +kernel
theorem d_MT_take_153 : decode b_MT_take 153 = .ok (.areturn, 1) := by decide +kernel
theorem d_MT_fillCells_0 : decode b_MT_fillCells 0 = .ok (.iconst 0, 1) := by decide +kernel
theorem d_MT_fillCells_1 : decode b_MT_fillCells 1 = .ok (.istore_n 3, 1) := by decide +kernel
theorem d_MT_fillCells_2 : decode b_MT_fillCells 2 = .ok (.iload_n 3, 1) := by decide +kernel
theorem d_MT_fillCells_3 : decode b_MT_fillCells 3 = .ok (.iload_n 2, 1) := by decide +kernel
theorem d_MT_fillCells_4 : decode b_MT_fillCells 4 = .ok (.if_icmp .ge 94, 3) := by decide +kernel
theorem d_MT_fillCells_7 : decode b_MT_fillCells 7 = .ok (.aload_n 0, 1) := by decide +kernel
theorem d_MT_fillCells_8 : decode b_MT_fillCells 8 = .ok (.getfield 23, 3) := by decide +kernel
theorem d_MT_fillCells_11 : decode b_MT_fillCells 11 = .ok (.ifCond .lt 17, 3) := by decide +kernel
theorem d_MT_fillCells_14 : decode b_MT_fillCells 14 = .ok (.iload_n 3, 1) := by decide +kernel
theorem d_MT_fillCells_15 : decode b_MT_fillCells 15 = .ok (.aload_n 0, 1) := by decide +kernel
theorem d_MT_fillCells_16 : decode b_MT_fillCells 16 = .ok (.getfield 23, 3) := by decide +kernel
theorem d_MT_fillCells_19 : decode b_MT_fillCells 19 = .ok (.if_icmp .lt 9, 3) := by decide +kernel
theorem d_MT_fillCells_22 : decode b_MT_fillCells 22 = .ok (.iload_n 3, 1) := by decide +kernel
theorem d_MT_fillCells_23 : decode b_MT_fillCells 23 = .ok (.iconst 1, 1) := by decide +kernel
theorem d_MT_fillCells_24 : decode b_MT_fillCells 24 = .ok (.iadd, 1) := by decide +kernel
theorem d_MT_fillCells_25 : decode b_MT_fillCells 25 = .ok (.goto 4, 3) := by decide +kernel
theorem d_MT_fillCells_28 : decode b_MT_fillCells 28 = .ok (.iload_n 3, 1) := by decide +kernel
theorem d_MT_fillCells_29 : decode b_MT_fillCells 29 = .ok (.istore 4, 2) := by decide +kernel
theorem d_MT_fillCells_31 : decode b_MT_fillCells 31 = .ok (.iconst 0, 1) := by decide +kernel
theorem d_MT_fillCells_32 : decode b_MT_fillCells 32 = .ok (.istore 5, 2) := by decide +kernel
theorem d_MT_fillCells_34 : decode b_MT_fillCells 34 = .ok (.iload 5, 2) := by decide +kernel
theorem d_MT_fillCells_36 : decode b_MT_fillCells 36 = .ok (.iload_n 2, 1) := by decide +kernel
theorem d_MT_fillCells_37 : decode b_MT_fillCells 37 = .ok (.if_icmp .ge 55, 3) := by decide +kernel
theorem d_MT_fillCells_40 : decode b_MT_fillCells 40 = .ok (.iload 5, 2) := by decide +kernel
theorem d_MT_fillCells_42 : decode b_MT_fillCells 42 = .ok (.aload_n 0, 1) := by decide +kernel
theorem d_MT_fillCells_43 : decode b_MT_fillCells 43 = .ok (.getfield 27, 3) := by decide +kernel
theorem d_MT_fillCells_46 : decode b_MT_fillCells 46 = .ok (.if_icmp .lt 10, 3) := by decide +kernel
theorem d_MT_fillCells_49 : decode b_MT_fillCells 49 = .ok (.iload 5, 2) := by decide +kernel
theorem d_MT_fillCells_51 : decode b_MT_fillCells 51 = .ok (.iconst 1, 1) := by decide +kernel
theorem d_MT_fillCells_52 : decode b_MT_fillCells 52 = .ok (.iadd, 1) := by decide +kernel
theorem d_MT_fillCells_53 : decode b_MT_fillCells 53 = .ok (.goto 5, 3) := by decide +kernel
theorem d_MT_fillCells_56 : decode b_MT_fillCells 56 = .ok (.iload 5, 2) := by decide +kernel
theorem d_MT_fillCells_58 : decode b_MT_fillCells 58 = .ok (.istore 6, 2) := by decide +kernel
theorem d_MT_fillCells_60 : decode b_MT_fillCells 60 = .ok (.aload_n 0, 1) := by decide +kernel
theorem d_MT_fillCells_61 : decode b_MT_fillCells 61 = .ok (.getfield 10, 3) := by decide +kernel
theorem d_MT_fillCells_64 : decode b_MT_fillCells 64 = .ok (.iload_n 3, 1) := by decide +kernel
theorem d_MT_fillCells_65 : decode b_MT_fillCells 65 = .ok (.iload 5, 2) := by decide +kernel
theorem d_MT_fillCells_67 : decode b_MT_fillCells 67 = .ok (.aload_n 1, 1) := by decide +kernel
theorem d_MT_fillCells_68 : decode b_MT_fillCells 68 = .ok (.iload 4, 2) := by decide +kernel
theorem d_MT_fillCells_70 : decode b_MT_fillCells 70 = .ok (.iload 6, 2) := by decide +kernel
theorem d_MT_fillCells_72 : decode b_MT_fillCells 72 = .ok (.invokevirtual 54, 3) := by decide +kernel
theorem d_MT_fillCells_75 : decode b_MT_fillCells 75 = .ok (.aload_n 1, 1) := by decide +kernel
theorem d_MT_fillCells_76 : decode b_MT_fillCells 76 = .ok (.iload 4, 2) := by decide +kernel
theorem d_MT_fillCells_78 : decode b_MT_fillCells 78 = .ok (.iload 6, 2) := by decide +kernel
theorem d_MT_fillCells_80 : decode b_MT_fillCells 80 = .ok (.invokevirtual 58, 3) := by decide +kernel
theorem d_MT_fillCells_83 : decode b_MT_fillCells 83 = .ok (.invokevirtual 61, 3) := by decide +kernel
theorem d_MT_fillCells_86 : decode b_MT_fillCells 86 = .ok (.iinc 5 1, 3) := by decide +kernel
theorem d_MT_fillCells_89 : decode b_MT_fillCells 89 = .ok (.goto (-55), 3) := by decide +kernel
theorem d_MT_fillCells_92 : decode b_MT_fillCells 92 = .ok (.iinc 3 1, 3) := by decide +kernel
theorem d_MT_fillCells_95 : decode b_MT_fillCells 95 = .ok (.goto (-93), 3) := by decide +kernel
theorem d_MT_fillCells_98 : decode b_MT_fillCells 98 = .ok (.return_, 1) := by decide +kernel
theorem d_MR_init_0 : decode b_MR_init 0 = .ok (.aload_n 0, 1) := by decide +kernel
theorem d_MR_init_1 : decode b_MR_init 1 = .ok (.invokespecial 3, 3) := by decide +kernel
theorem d_MR_init_4 : decode b_MR_init 4 = .ok (.aload_n 0, 1) := by decide +kernel
theorem d_MR_init_5 : decode b_MR_init 5 = .ok (.bipush 12, 2) := by decide +kernel
theorem d_MR_init_7 : decode b_MR_init 7 = .ok (.bipush 33, 2) := by decide +kernel
theorem d_MR_init_9 : decode b_MR_init 9 = .ok (.multianewarray 9 2, 4) := by decide +kernel
theorem d_MR_init_13 : decode b_MR_init 13 = .ok (.putfield 11, 3) := by decide +kernel
theorem d_MR_init_16 : decode b_MR_init 16 = .ok (.return_, 1) := by decide +kernel
theorem d_MR_rankOf_0 : decode b_MR_rankOf 0 = .ok (.iload_n 3, 1) := by decide +kernel
theorem d_MR_rankOf_1 : decode b_MR_rankOf 1 = .ok (.iconst 2, 1) := by decide +kernel
theorem d_MR_rankOf_2 : decode b_MR_rankOf 2 = .ok (.if_icmp .lt 9, 3) := by decide +kernel
theorem d_MR_rankOf_5 : decode b_MR_rankOf 5 = .ok (.iload_n 3, 1) := by decide +kernel
theorem d_MR_rankOf_6 : decode b_MR_rankOf 6 = .ok (.bipush 97, 2) := by decide +kernel
theorem d_MR_rankOf_8 : decode b_MR_rankOf 8 = .ok (.if_icmp .le 5, 3) := by decide +kernel
theorem d_MR_rankOf_11 : decode b_MR_rankOf 11 = .ok (.iconst (-1), 1) := by decide +kernel
theorem d_MR_rankOf_12 : decode b_MR_rankOf 12 = .ok (.ireturn, 1) := by decide +kernel
theorem d_MR_rankOf_13 : decode b_MR_rankOf 13 = .ok (.aload_n 1, 1) := by decide +kernel
theorem d_MR_rankOf_14 : decode b_MR_rankOf 14 = .ok (.invokevirtual 16, 3) := by decide +kernel
theorem d_MR_rankOf_17 : decode b_MR_rankOf 17 = .ok (.bipush 12, 2) := by decide +kernel
theorem d_MR_rankOf_19 : decode b_MR_rankOf 19 = .ok (.invokestatic 22, 3) := by decide +kernel
theorem d_MR_rankOf_22 : decode b_MR_rankOf 22 = .ok (.istore 4, 2) := by decide +kernel
theorem d_MR_rankOf_24 : decode b_MR_rankOf 24 = .ok (.aload_n 1, 1) := by decide +kernel
theorem d_MR_rankOf_25 : decode b_MR_rankOf 25 = .ok (.invokevirtual 28, 3) := by decide +kernel
theorem d_MR_rankOf_28 : decode b_MR_rankOf 28 = .ok (.bipush 33, 2) := by decide +kernel
theorem d_MR_rankOf_30 : decode b_MR_rankOf 30 = .ok (.invokestatic 22, 3) := by decide +kernel
theorem d_MR_rankOf_33 : decode b_MR_rankOf 33 = .ok (.istore 5, 2) := by decide +kernel
theorem d_MR_rankOf_35 : decode b_MR_rankOf 35 = .ok (.iload_n 2, 1) := by decide +kernel
theorem d_MR_rankOf_36 : decode b_MR_rankOf 36 = .ok (.iload_n 3, 1) := by decide +kernel
theorem d_MR_rankOf_37 : decode b_MR_rankOf 37 = .ok (.invokestatic 31, 3) := by decide +kernel
theorem d_MR_rankOf_40 : decode b_MR_rankOf 40 = .ok (.istore 6, 2) := by decide +kernel
theorem d_MR_rankOf_42 : decode b_MR_rankOf 42 = .ok (.iconst 0, 1) := by decide +kernel
theorem d_MR_rankOf_43 : decode b_MR_rankOf 43 = .ok (.istore 7, 2) := by decide +kernel
theorem d_MR_rankOf_45 : decode b_MR_rankOf 45 = .ok (.iload 7, 2) := by decide +kernel
theorem d_MR_rankOf_47 : decode b_MR_rankOf 47 = .ok (.iload 4, 2) := by decide +kernel
theorem d_MR_rankOf_49 : decode b_MR_rankOf 49 = .ok (.if_icmp .ge 63, 3) := by decide +kernel
theorem d_MR_rankOf_52 : decode b_MR_rankOf 52 = .ok (.iconst 0, 1) := by decide +kernel
theorem d_MR_rankOf_53 : decode b_MR_rankOf 53 = .ok (.istore 8, 2) := by decide +kernel
theorem d_MR_rankOf_55 : decode b_MR_rankOf 55 = .ok (.iload 8, 2) := by decide +kernel
theorem d_MR_rankOf_57 : decode b_MR_rankOf 57 = .ok (.iload 5, 2) := by decide +kernel
theorem d_MR_rankOf_59 : decode b_MR_rankOf 59 = .ok (.if_icmp .ge 47, 3) := by decide +kernel
theorem d_MR_rankOf_62 : decode b_MR_rankOf 62 = .ok (.aload_n 1, 1) := by decide +kernel
theorem d_MR_rankOf_63 : decode b_MR_rankOf 63 = .ok (.iload 7, 2) := by decide +kernel
theorem d_MR_rankOf_65 : decode b_MR_rankOf 65 = .ok (.iload 8, 2) := by decide +kernel
theorem d_MR_rankOf_67 : decode b_MR_rankOf 67 = .ok (.invokevirtual 34, 3) := by decide +kernel
theorem d_MR_rankOf_70 : decode b_MR_rankOf 70 = .ok (.aload_n 1, 1) := by decide +kernel
theorem d_MR_rankOf_71 : decode b_MR_rankOf 71 = .ok (.iload 7, 2) := by decide +kernel
theorem d_MR_rankOf_73 : decode b_MR_rankOf 73 = .ok (.iload 8, 2) := by decide +kernel
theorem d_MR_rankOf_75 : decode b_MR_rankOf 75 = .ok (.invokevirtual 37, 3) := by decide +kernel
theorem d_MR_rankOf_78 : decode b_MR_rankOf 78 = .ok (.iload 6, 2) := by decide +kernel
theorem d_MR_rankOf_80 : decode b_MR_rankOf 80 = .ok (.imul, 1) := by decide +kernel
theorem d_MR_rankOf_81 : decode b_MR_rankOf 81 = .ok (.iadd, 1) := by decide +kernel
theorem d_MR_rankOf_82 : decode b_MR_rankOf 82 = .ok (.istore 9, 2) := by decide +kernel
theorem d_MR_rankOf_84 : decode b_MR_rankOf 84 = .ok (.aload_n 0, 1) := by decide +kernel
theorem d_MR_rankOf_85 : decode b_MR_rankOf 85 = .ok (.getfield 11, 3) := by decide +kernel
theorem d_MR_rankOf_88 : decode b_MR_rankOf 88 = .ok (.iload 7, 2) := by decide +kernel
theorem d_MR_rankOf_90 : decode b_MR_rankOf 90 = .ok (.aaload, 1) := by decide +kernel
theorem d_MR_rankOf_91 : decode b_MR_rankOf 91 = .ok (.iload 8, 2) := by decide +kernel
theorem d_MR_rankOf_93 : decode b_MR_rankOf 93 = .ok (.iload 9, 2) := by decide +kernel
theorem d_MR_rankOf_95 : decode b_MR_rankOf 95 = .ok (.iload_n 3, 1) := by decide +kernel
theorem d_MR_rankOf_96 : decode b_MR_rankOf 96 = .ok (.invokestatic 31, 3) := by decide +kernel
theorem d_MR_rankOf_99 : decode b_MR_rankOf 99 = .ok (.iastore, 1) := by decide +kernel
theorem d_MR_rankOf_100 : decode b_MR_rankOf 100 = .ok (.iinc 8 1, 3) := by decide +kernel
theorem d_MR_rankOf_103 : decode b_MR_rankOf 103 = .ok (.goto (-48), 3) := by decide +kernel
theorem d_MR_rankOf_106 : decode b_MR_rankOf 106 = .ok (.iinc 7 1, 3) := by decide +kernel
theorem d_MR_rankOf_109 : decode b_MR_rankOf 109 = .ok (.goto (-64), 3) := by decide +kernel
theorem d_MR_rankOf_112 : decode b_MR_rankOf 112 = .ok (.iconst 0, 1) := by decide +kernel
theorem d_MR_rankOf_113 : decode b_MR_rankOf 113 = .ok (.istore 7, 2) := by decide +kernel
theorem d_MR_rankOf_115 : decode b_MR_rankOf 115 = .ok (.iconst 0, 1) := by decide +kernel
theorem d_MR_rankOf_116 : decode b_MR_rankOf 116 = .ok (.istore 8, 2) := by decide +kernel
theorem d_MR_rankOf_118 : decode b_MR_rankOf 118 = .ok (.iload 8, 2) := by decide +kernel
theorem d_MR_rankOf_120 : decode b_MR_rankOf 120 = .ok (.iload 5, 2) := by decide +kernel
theorem d_MR_rankOf_122 : decode b_MR_rankOf 122 = .ok (.if_icmp .ge 55, 3) := by decide +kernel
theorem d_MR_rankOf_125 : decode b_MR_rankOf 125 = .ok (.iload 7, 2) := by decide +kernel
theorem d_MR_rankOf_127 : decode b_MR_rankOf 127 = .ok (.iload 4, 2) := by decide +kernel
theorem d_MR_rankOf_129 : decode b_MR_rankOf 129 = .ok (.if_icmp .ge 48, 3) := by decide +kernel
theorem d_MR_rankOf_132 : decode b_MR_rankOf 132 = .ok (.aload_n 0, 1) := by decide +kernel
theorem d_MR_rankOf_133 : decode b_MR_rankOf 133 = .ok (.iload 7, 2) := by decide +kernel
theorem d_MR_rankOf_135 : decode b_MR_rankOf 135 = .ok (.iload 4, 2) := by decide +kernel
theorem d_MR_rankOf_137 : decode b_MR_rankOf 137 = .ok (.iload 8, 2) := by decide +kernel
theorem d_MR_rankOf_139 : decode b_MR_rankOf 139 = .ok (.invokevirtual 40, 3) := by decide +kernel
theorem d_MR_rankOf_142 : decode b_MR_rankOf 142 = .ok (.istore 9, 2) := by decide +kernel
theorem d_MR_rankOf_144 : decode b_MR_rankOf 144 = .ok (.iload 9, 2) := by decide +kernel
theorem d_MR_rankOf_146 : decode b_MR_rankOf 146 = .ok (.ifCond .lt 25, 3) := by decide +kernel
theorem d_MR_rankOf_149 : decode b_MR_rankOf 149 = .ok (.aload_n 0, 1) := by decide +kernel
theorem d_MR_rankOf_150 : decode b_MR_rankOf 150 = .ok (.iload 7, 2) := by decide +kernel
theorem d_MR_rankOf_152 : decode b_MR_rankOf 152 = .ok (.iload 9, 2) := by decide +kernel
theorem d_MR_rankOf_154 : decode b_MR_rankOf 154 = .ok (.invokevirtual 44, 3) := by decide +kernel
theorem d_MR_rankOf_157 : decode b_MR_rankOf 157 = .ok (.aload_n 0, 1) := by decide +kernel
theorem d_MR_rankOf_158 : decode b_MR_rankOf 158 = .ok (.iload 7, 2) := by decide +kernel
theorem d_MR_rankOf_160 : decode b_MR_rankOf 160 = .ok (.iload 4, 2) := by decide +kernel
theorem d_MR_rankOf_162 : decode b_MR_rankOf 162 = .ok (.iload 8, 2) := by decide +kernel
theorem d_MR_rankOf_164 : decode b_MR_rankOf 164 = .ok (.iload_n 3, 1) := by decide +kernel
theorem d_MR_rankOf_165 : decode b_MR_rankOf 165 = .ok (.invokevirtual 48, 3) := by decide +kernel
theorem d_MR_rankOf_168 : decode b_MR_rankOf 168 = .ok (.iinc 7 1, 3) := by decide +kernel
theorem d_MR_rankOf_171 : decode b_MR_rankOf 171 = .ok (.iinc 8 1, 3) := by decide +kernel
theorem d_MR_rankOf_174 : decode b_MR_rankOf 174 = .ok (.goto (-56), 3) := by decide +kernel
theorem d_MR_rankOf_177 : decode b_MR_rankOf 177 = .ok (.iload 7, 2) := by decide +kernel
theorem d_MR_rankOf_179 : decode b_MR_rankOf 179 = .ok (.ireturn, 1) := by decide +kernel
theorem d_MR_findPivot_0 : decode b_MR_findPivot 0 = .ok (.iload_n 1, 1) := by decide +kernel
theorem d_MR_findPivot_1 : decode b_MR_findPivot 1 = .ok (.istore 4, 2) := by decide +kernel
theorem d_MR_findPivot_3 : decode b_MR_findPivot 3 = .ok (.iload 4, 2) := by decide +kernel
theorem d_MR_findPivot_5 : decode b_MR_findPivot 5 = .ok (.iload_n 2, 1) := by decide +kernel
theorem d_MR_findPivot_6 : decode b_MR_findPivot 6 = .ok (.if_icmp .ge 24, 3) := by decide +kernel
theorem d_MR_findPivot_9 : decode b_MR_findPivot 9 = .ok (.aload_n 0, 1) := by decide +kernel
theorem d_MR_findPivot_10 : decode b_MR_findPivot 10 = .ok (.getfield 11, 3) := by decide +kernel
theorem d_MR_findPivot_13 : decode b_MR_findPivot 13 = .ok (.iload 4, 2) := by decide +kernel
theorem d_MR_findPivot_15 : decode b_MR_findPivot 15 = .ok (.aaload, 1) := by decide +kernel
theorem d_MR_findPivot_16 : decode b_MR_findPivot 16 = .ok (.iload_n 3, 1) := by decide +kernel
theorem d_MR_findPivot_17 : decode b_MR_findPivot 17 = .ok (.iaload, 1) := by decide +kernel
theorem d_MR_findPivot_18 : decode b_MR_findPivot 18 = .ok (.ifCond .eq 6, 3) := by decide +kernel
theorem d_MR_findPivot_21 : decode b_MR_findPivot 21 = .ok (.iload 4, 2) := by decide +kernel
theorem d_MR_findPivot_23 : decode b_MR_findPivot 23 = .ok (.ireturn, 1) := by decide +kernel
theorem d_MR_findPivot_24 : decode b_MR_findPivot 24 = .ok (.iinc 4 1, 3) := by decide +kernel
theorem d_MR_findPivot_27 : decode b_MR_findPivot 27 = .ok (.goto (-24), 3) := by decide +kernel
theorem d_MR_findPivot_30 : decode b_MR_findPivot 30 = .ok (.iconst (-1), 1) := by decide +kernel
theorem d_MR_findPivot_31 : decode b_MR_findPivot 31 = .ok (.ireturn, 1) := by decide +kernel
theorem d_MR_exchangeRows_0 : decode b_MR_exchangeRows 0 = .ok (.aload_n 0, 1) := by decide +kernel
theorem d_MR_exchangeRows_1 : decode b_MR_exchangeRows 1 = .ok (.getfield 11, 3) := by decide +kernel
theorem d_MR_exchangeRows_4 : decode b_MR_exchangeRows 4 = .ok (.iload_n 1, 1) := by decide +kernel
theorem d_MR_exchangeRows_5 : decode b_MR_exchangeRows 5 = .ok (.aaload, 1) := by decide +kernel
theorem d_MR_exchangeRows_6 : decode b_MR_exchangeRows 6 = .ok (.astore_n 3, 1) := by decide +kernel
theorem d_MR_exchangeRows_7 : decode b_MR_exchangeRows 7 = .ok (.aload_n 0, 1) := by decide +kernel
theorem d_MR_exchangeRows_8 : decode b_MR_exchangeRows 8 = .ok (.getfield 11, 3) := by decide +kernel
theorem d_MR_exchangeRows_11 : decode b_MR_exchangeRows 11 = .ok (.iload_n 1, 1) := by decide +kernel
theorem d_MR_exchangeRows_12 : decode b_MR_exchangeRows 12 = .ok (.aload_n 0, 1) := by decide +kernel
theorem d_MR_exchangeRows_13 : decode b_MR_exchangeRows 13 = .ok (.getfield 11, 3) := by decide +kernel
theorem d_MR_exchangeRows_16 : decode b_MR_exchangeRows 16 = .ok (.iload_n 2, 1) := by decide +kernel
theorem d_MR_exchangeRows_17 : decode b_MR_exchangeRows 17 = .ok (.aaload, 1) := by decide +kernel
theorem d_MR_exchangeRows_18 : decode b_MR_exchangeRows 18 = .ok (.aastore, 1) := by decide +kernel
theorem d_MR_exchangeRows_19 : decode b_MR_exchangeRows 19 = .ok (.aload_n 0, 1) := by decide +kernel
theorem d_MR_exchangeRows_20 : decode b_MR_exchangeRows 20 = .ok (.getfield 11, 3) := by decide +kernel
theorem d_MR_exchangeRows_23 : decode b_MR_exchangeRows 23 = .ok (.iload_n 2, 1) := by decide +kernel
theorem d_MR_exchangeRows_24 : decode b_MR_exchangeRows 24 = .ok (.aload_n 3, 1) := by decide +kernel
theorem d_MR_exchangeRows_25 : decode b_MR_exchangeRows 25 = .ok (.aastore, 1) := by decide +kernel
theorem d_MR_exchangeRows_26 : decode b_MR_exchangeRows 26 = .ok (.return_, 1) := by decide +kernel
theorem d_MR_clearBelow_0 : decode b_MR_clearBelow 0 = .ok (.aload_n 0, 1) := by decide +kernel
theorem d_MR_clearBelow_1 : decode b_MR_clearBelow 1 = .ok (.getfield 11, 3) := by decide +kernel
theorem d_MR_clearBelow_4 : decode b_MR_clearBelow 4 = .ok (.iload_n 1, 1) := by decide +kernel
theorem d_MR_clearBelow_5 : decode b_MR_clearBelow 5 = .ok (.aaload, 1) := by decide +kernel
theorem d_MR_clearBelow_6 : decode b_MR_clearBelow 6 = .ok (.astore 5, 2) := by decide +kernel
theorem d_MR_clearBelow_8 : decode b_MR_clearBelow 8 = .ok (.iload_n 1, 1) := by decide +kernel
theorem d_MR_clearBelow_9 : decode b_MR_clearBelow 9 = .ok (.iconst 1, 1) := by decide +kernel
theorem d_MR_clearBelow_10 : decode b_MR_clearBelow 10 = .ok (.iadd, 1) := by decide +kernel
theorem d_MR_clearBelow_11 : decode b_MR_clearBelow 11 = .ok (.istore 6, 2) := by decide +kernel
theorem d_MR_clearBelow_13 : decode b_MR_clearBelow 13 = .ok (.iload 6, 2) := by decide +kernel
theorem d_MR_clearBelow_15 : decode b_MR_clearBelow 15 = .ok (.iload_n 2, 1) := by decide +kernel
theorem d_MR_clearBelow_16 : decode b_MR_clearBelow 16 = .ok (.if_icmp .ge 74, 3) := by decide +kernel
theorem d_MR_clearBelow_19 : decode b_MR_clearBelow 19 = .ok (.aload_n 0, 1) := by decide +kernel
theorem d_MR_clearBelow_20 : decode b_MR_clearBelow 20 = .ok (.getfield 11, 3) := by decide +kernel
theorem d_MR_clearBelow_23 : decode b_MR_clearBelow 23 = .ok (.iload 6, 2) := by decide +kernel
theorem d_MR_clearBelow_25 : decode b_MR_clearBelow 25 = .ok (.aaload, 1) := by decide +kernel
theorem d_MR_clearBelow_26 : decode b_MR_clearBelow 26 = .ok (.astore 7, 2) := by decide +kernel
theorem d_MR_clearBelow_28 : decode b_MR_clearBelow 28 = .ok (.aload 7, 2) := by decide +kernel
theorem d_MR_clearBelow_30 : decode b_MR_clearBelow 30 = .ok (.iload_n 3, 1) := by decide +kernel
theorem d_MR_clearBelow_31 : decode b_MR_clearBelow 31 = .ok (.iaload, 1) := by decide +kernel
theorem d_MR_clearBelow_32 : decode b_MR_clearBelow 32 = .ok (.istore 8, 2) := by decide +kernel
theorem d_MR_clearBelow_34 : decode b_MR_clearBelow 34 = .ok (.iload_n 3, 1) := by decide +kernel
theorem d_MR_clearBelow_35 : decode b_MR_clearBelow 35 = .ok (.istore 9, 2) := by decide +kernel
theorem d_MR_clearBelow_37 : decode b_MR_clearBelow 37 = .ok (.iload 8, 2) := by decide +kernel
theorem d_MR_clearBelow_39 : decode b_MR_clearBelow 39 = .ok (.ifCond .eq 45, 3) := by decide +kernel
theorem d_MR_clearBelow_42 : decode b_MR_clearBelow 42 = .ok (.iload 9, 2) := by decide +kernel
theorem d_MR_clearBelow_44 : decode b_MR_clearBelow 44 = .ok (.bipush 33, 2) := by decide +kernel
theorem d_MR_clearBelow_46 : decode b_MR_clearBelow 46 = .ok (.if_icmp .ge 38, 3) := by decide +kernel
theorem d_MR_clearBelow_49 : decode b_MR_clearBelow 49 = .ok (.aload 7, 2) := by decide +kernel
theorem d_MR_clearBelow_51 : decode b_MR_clearBelow 51 = .ok (.iload 9, 2) := by decide +kernel
theorem d_MR_clearBelow_53 : decode b_MR_clearBelow 53 = .ok (.aload 7, 2) := by decide +kernel
theorem d_MR_clearBelow_55 : decode b_MR_clearBelow 55 = .ok (.iload 9, 2) := by decide +kernel
theorem d_MR_clearBelow_57 : decode b_MR_clearBelow 57 = .ok (.iaload, 1) := by decide +kernel
theorem d_MR_clearBelow_58 : decode b_MR_clearBelow 58 = .ok (.aload 5, 2) := by decide +kernel
theorem d_MR_clearBelow_60 : decode b_MR_clearBelow 60 = .ok (.iload_n 3, 1) := by decide +kernel
theorem d_MR_clearBelow_61 : decode b_MR_clearBelow 61 = .ok (.iaload, 1) := by decide +kernel
theorem d_MR_clearBelow_62 : decode b_MR_clearBelow 62 = .ok (.imul, 1) := by decide +kernel
theorem d_MR_clearBelow_63 : decode b_MR_clearBelow 63 = .ok (.aload 5, 2) := by decide +kernel
theorem d_MR_clearBelow_65 : decode b_MR_clearBelow 65 = .ok (.iload 9, 2) := by decide +kernel
theorem d_MR_clearBelow_67 : decode b_MR_clearBelow 67 = .ok (.iaload, 1) := by decide +kernel
theorem d_MR_clearBelow_68 : decode b_MR_clearBelow 68 = .ok (.iload 8, 2) := by decide +kernel
theorem d_MR_clearBelow_70 : decode b_MR_clearBelow 70 = .ok (.imul, 1) := by decide +kernel
theorem d_MR_clearBelow_71 : decode b_MR_clearBelow 71 = .ok (.isub, 1) := by decide +kernel
theorem d_MR_clearBelow_72 : decode b_MR_clearBelow 72 = .ok (.iload 4, 2) := by decide +kernel
theorem d_MR_clearBelow_74 : decode b_MR_clearBelow 74 = .ok (.invokestatic 31, 3) := by decide +kernel
theorem d_MR_clearBelow_77 : decode b_MR_clearBelow 77 = .ok (.iastore, 1) := by decide +kernel
theorem d_MR_clearBelow_78 : decode b_MR_clearBelow 78 = .ok (.iinc 9 1, 3) := by decide +kernel
theorem d_MR_clearBelow_81 : decode b_MR_clearBelow 81 = .ok (.goto (-44), 3) := by decide +kernel
theorem d_MR_clearBelow_84 : decode b_MR_clearBelow 84 = .ok (.iinc 6 1, 3) := by decide +kernel
theorem d_MR_clearBelow_87 : decode b_MR_clearBelow 87 = .ok (.goto (-74), 3) := by decide +kernel
theorem d_MR_clearBelow_90 : decode b_MR_clearBelow 90 = .ok (.return_, 1) := by decide +kernel
