theorem d_PO_init_0 : decode b_PO_init 0 = .ok (.aload_n 0, 1) := by decide +kernel
theorem d_PO_init_1 : decode b_PO_init 1 = .ok (.invokespecial 3, 3) := by decide +kernel
theorem d_PO_init_4 : decode b_PO_init 4 = .ok (.aload_n 0, 1) := by decide +kernel
theorem d_PO_init_5 : decode b_PO_init 5 = .ok (.bipush 25, 2) := by decide +kernel
theorem d_PO_init_7 : decode b_PO_init 7 = .ok (.newarray .long, 2) := by decide +kernel
theorem d_PO_init_9 : decode b_PO_init 9 = .ok (.putfield 9, 3) := by decide +kernel
theorem d_PO_init_12 : decode b_PO_init 12 = .ok (.aload_n 0, 1) := by decide +kernel
theorem d_PO_init_13 : decode b_PO_init 13 = .ok (.iconst (-1), 1) := by decide +kernel
theorem d_PO_init_14 : decode b_PO_init 14 = .ok (.putfield 15, 3) := by decide +kernel
theorem d_PO_init_17 : decode b_PO_init 17 = .ok (.return_, 1) := by decide +kernel
theorem d_PO_degree_0 : decode b_PO_degree 0 = .ok (.aload_n 0, 1) := by decide +kernel
theorem d_PO_degree_1 : decode b_PO_degree 1 = .ok (.getfield 15, 3) := by decide +kernel
theorem d_PO_degree_4 : decode b_PO_degree 4 = .ok (.ireturn, 1) := by decide +kernel
theorem d_PO_isZero_0 : decode b_PO_isZero 0 = .ok (.aload_n 0, 1) := by decide +kernel
theorem d_PO_isZero_1 : decode b_PO_isZero 1 = .ok (.getfield 15, 3) := by decide +kernel
theorem d_PO_isZero_4 : decode b_PO_isZero 4 = .ok (.ifCond .ge 7, 3) := by decide +kernel
theorem d_PO_isZero_7 : decode b_PO_isZero 7 = .ok (.iconst 1, 1) := by decide +kernel
theorem d_PO_isZero_8 : decode b_PO_isZero 8 = .ok (.goto 4, 3) := by decide +kernel
theorem d_PO_isZero_11 : decode b_PO_isZero 11 = .ok (.iconst 0, 1) := by decide +kernel
theorem d_PO_isZero_12 : decode b_PO_isZero 12 = .ok (.ireturn, 1) := by decide +kernel
theorem d_PO_coefficient_0 : decode b_PO_coefficient 0 = .ok (.iload_n 1, 1) := by decide +kernel
theorem d_PO_coefficient_1 : decode b_PO_coefficient 1 = .ok (.ifCond .lt 18, 3) := by decide +kernel
theorem d_PO_coefficient_4 : decode b_PO_coefficient 4 = .ok (.iload_n 1, 1) := by decide +kernel
theorem d_PO_coefficient_5 : decode b_PO_coefficient 5 = .ok (.bipush 25, 2) := by decide +kernel
theorem d_PO_coefficient_7 : decode b_PO_coefficient 7 = .ok (.if_icmp .ge 12, 3) := by decide +kernel
theorem d_PO_coefficient_10 : decode b_PO_coefficient 10 = .ok (.aload_n 0, 1) := by decide +kernel
theorem d_PO_coefficient_11 : decode b_PO_coefficient 11 = .ok (.getfield 9, 3) := by decide +kernel
theorem d_PO_coefficient_14 : decode b_PO_coefficient 14 = .ok (.iload_n 1, 1) := by decide +kernel
theorem d_PO_coefficient_15 : decode b_PO_coefficient 15 = .ok (.laload, 1) := by decide +kernel
theorem d_PO_coefficient_16 : decode b_PO_coefficient 16 = .ok (.goto 4, 3) := by decide +kernel
theorem d_PO_coefficient_19 : decode b_PO_coefficient 19 = .ok (.lconst 0, 1) := by decide +kernel
theorem d_PO_coefficient_20 : decode b_PO_coefficient 20 = .ok (.lreturn, 1) := by decide +kernel
theorem d_PO_valueAt_0 : decode b_PO_valueAt 0 = .ok (.lconst 0, 1) := by decide +kernel
theorem d_PO_valueAt_1 : decode b_PO_valueAt 1 = .ok (.lstore_n 2, 1) := by decide +kernel
theorem d_PO_valueAt_2 : decode b_PO_valueAt 2 = .ok (.aload_n 0, 1) := by decide +kernel
theorem d_PO_valueAt_3 : decode b_PO_valueAt 3 = .ok (.getfield 15, 3) := by decide +kernel
theorem d_PO_valueAt_6 : decode b_PO_valueAt 6 = .ok (.istore 4, 2) := by decide +kernel
theorem d_PO_valueAt_8 : decode b_PO_valueAt 8 = .ok (.iload 4, 2) := by decide +kernel
theorem d_PO_valueAt_10 : decode b_PO_valueAt 10 = .ok (.ifCond .lt 21, 3) := by decide +kernel
theorem d_PO_valueAt_13 : decode b_PO_valueAt 13 = .ok (.lload_n 2, 1) := by decide +kernel
theorem d_PO_valueAt_14 : decode b_PO_valueAt 14 = .ok (.iload_n 1, 1) := by decide +kernel
theorem d_PO_valueAt_15 : decode b_PO_valueAt 15 = .ok (.i2l, 1) := by decide +kernel
theorem d_PO_valueAt_16 : decode b_PO_valueAt 16 = .ok (.lmul, 1) := by decide +kernel
theorem d_PO_valueAt_17 : decode b_PO_valueAt 17 = .ok (.aload_n 0, 1) := by decide +kernel
theorem d_PO_valueAt_18 : decode b_PO_valueAt 18 = .ok (.iload 4, 2) := by decide +kernel
theorem d_PO_valueAt_20 : decode b_PO_valueAt 20 = .ok (.invokevirtual 19, 3) := by decide +kernel
theorem d_PO_valueAt_23 : decode b_PO_valueAt 23 = .ok (.ladd, 1) := by decide +kernel
theorem d_PO_valueAt_24 : decode b_PO_valueAt 24 = .ok (.lstore_n 2, 1) := by decide +kernel
theorem d_PO_valueAt_25 : decode b_PO_valueAt 25 = .ok (.iinc 4 (-1), 3) := by decide +kernel
theorem d_PO_valueAt_28 : decode b_PO_valueAt 28 = .ok (.goto (-20), 3) := by decide +kernel
theorem d_PO_valueAt_31 : decode b_PO_valueAt 31 = .ok (.lload_n 2, 1) := by decide +kernel
theorem d_PO_valueAt_32 : decode b_PO_valueAt 32 = .ok (.lreturn, 1) := by decide +kernel
theorem d_PO_setZero_0 : decode b_PO_setZero 0 = .ok (.iconst 0, 1) := by decide +kernel
theorem d_PO_setZero_1 : decode b_PO_setZero 1 = .ok (.istore_n 1, 1) := by decide +kernel
theorem d_PO_setZero_2 : decode b_PO_setZero 2 = .ok (.iload_n 1, 1) := by decide +kernel
theorem d_PO_setZero_3 : decode b_PO_setZero 3 = .ok (.aload_n 0, 1) := by decide +kernel
theorem d_PO_setZero_4 : decode b_PO_setZero 4 = .ok (.getfield 15, 3) := by decide +kernel
theorem d_PO_setZero_7 : decode b_PO_setZero 7 = .ok (.if_icmp .gt 22, 3) := by decide +kernel
theorem d_PO_setZero_10 : decode b_PO_setZero 10 = .ok (.iload_n 1, 1) := by decide +kernel
theorem d_PO_setZero_11 : decode b_PO_setZero 11 = .ok (.bipush 25, 2) := by decide +kernel
theorem d_PO_setZero_13 : decode b_PO_setZero 13 = .ok (.if_icmp .ge 16, 3) := by decide +kernel
theorem d_PO_setZero_16 : decode b_PO_setZero 16 = .ok (.aload_n 0, 1) := by decide +kernel
theorem d_PO_setZero_17 : decode b_PO_setZero 17 = .ok (.getfield 9, 3) := by decide +kernel
theorem d_PO_setZero_20 : decode b_PO_setZero 20 = .ok (.iload_n 1, 1) := by decide +kernel
theorem d_PO_setZero_21 : decode b_PO_setZero 21 = .ok (.lconst 0, 1) := by decide +kernel
theorem d_PO_setZero_22 : decode b_PO_setZero 22 = .ok (.lastore, 1) := by decide +kernel
theorem d_PO_setZero_23 : decode b_PO_setZero 23 = .ok (.iinc 1 1, 3) := by decide +kernel
theorem d_PO_setZero_26 : decode b_PO_setZero 26 = .ok (.goto (-24), 3) := by decide +kernel
theorem d_PO_setZero_29 : decode b_PO_setZero 29 = .ok (.aload_n 0, 1) := by decide +kernel
theorem d_PO_setZero_30 : decode b_PO_setZero 30 = .ok (.iconst (-1), 1) := by decide +kernel
theorem d_PO_setZero_31 : decode b_PO_setZero 31 = .ok (.putfield 15, 3) := by decide +kernel
theorem d_PO_setZero_34 : decode b_PO_setZero 34 = .ok (.return_, 1) := by decide +kernel
theorem d_PO_setLinear_0 : decode b_PO_setLinear 0 = .ok (.aload_n 0, 1) := by decide +kernel
theorem d_PO_setLinear_1 : decode b_PO_setLinear 1 = .ok (.invokevirtual 23, 3) := by decide +kernel
theorem d_PO_setLinear_4 : decode b_PO_setLinear 4 = .ok (.aload_n 0, 1) := by decide +kernel
theorem d_PO_setLinear_5 : decode b_PO_setLinear 5 = .ok (.getfield 9, 3) := by decide +kernel
theorem d_PO_setLinear_8 : decode b_PO_setLinear 8 = .ok (.iconst 0, 1) := by decide +kernel
theorem d_PO_setLinear_9 : decode b_PO_setLinear 9 = .ok (.lload_n 1, 1) := by decide +kernel
theorem d_PO_setLinear_10 : decode b_PO_setLinear 10 = .ok (.lastore, 1) := by decide +kernel
theorem d_PO_setLinear_11 : decode b_PO_setLinear 11 = .ok (.aload_n 0, 1) := by decide +kernel
theorem d_PO_setLinear_12 : decode b_PO_setLinear 12 = .ok (.getfield 9, 3) := by decide +kernel
theorem d_PO_setLinear_15 : decode b_PO_setLinear 15 = .ok (.iconst 1, 1) := by decide +kernel
theorem d_PO_setLinear_16 : decode b_PO_setLinear 16 = .ok (.lload_n 3, 1) := by decide +kernel
theorem d_PO_setLinear_17 : decode b_PO_setLinear 17 = .ok (.lastore, 1) := by decide +kernel
theorem d_PO_setLinear_18 : decode b_PO_setLinear 18 = .ok (.aload_n 0, 1) := by decide +kernel
theorem d_PO_setLinear_19 : decode b_PO_setLinear 19 = .ok (.iconst 1, 1) := by decide +kernel
theorem d_PO_setLinear_20 : decode b_PO_setLinear 20 = .ok (.invokevirtual 26, 3) := by decide +kernel
theorem d_PO_setLinear_23 : decode b_PO_setLinear 23 = .ok (.return_, 1) := by decide +kernel
theorem d_PO_setMultiple_0 : decode b_PO_setMultiple 0 = .ok (.aload_n 0, 1) := by decide +kernel
theorem d_PO_setMultiple_1 : decode b_PO_setMultiple 1 = .ok (.invokevirtual 23, 3) := by decide +kernel
theorem d_PO_setMultiple_4 : decode b_PO_setMultiple 4 = .ok (.aload_n 0, 1) := by decide +kernel
theorem d_PO_setMultiple_5 : decode b_PO_setMultiple 5 = .ok (.aload_n 1, 1) := by decide +kernel
theorem d_PO_setMultiple_6 : decode b_PO_setMultiple 6 = .ok (.iconst 0, 1) := by decide +kernel
theorem d_PO_setMultiple_7 : decode b_PO_setMultiple 7 = .ok (.lload_n 2, 1) := by decide +kernel
theorem d_PO_setMultiple_8 : decode b_PO_setMultiple 8 = .ok (.invokevirtual 30, 3) := by decide +kernel
theorem d_PO_setMultiple_11 : decode b_PO_setMultiple 11 = .ok (.aload_n 0, 1) := by decide +kernel
theorem d_PO_setMultiple_12 : decode b_PO_setMultiple 12 = .ok (.aload_n 0, 1) := by decide +kernel
theorem d_PO_setMultiple_13 : decode b_PO_setMultiple 13 = .ok (.getfield 15, 3) := by decide +kernel
theorem d_PO_setMultiple_16 : decode b_PO_setMultiple 16 = .ok (.invokevirtual 26, 3) := by decide +kernel
theorem d_PO_setMultiple_19 : decode b_PO_setMultiple 19 = .ok (.return_, 1) := by decide +kernel
theorem d_PO_addProduct_0 : decode b_PO_addProduct 0 = .ok (.iconst 0, 1) := by decide +kernel
theorem d_PO_addProduct_1 : decode b_PO_addProduct 1 = .ok (.istore 5, 2) := by decide +kernel
theorem d_PO_addProduct_3 : decode b_PO_addProduct 3 = .ok (.iload 5, 2) := by decide +kernel
theorem d_PO_addProduct_5 : decode b_PO_addProduct 5 = .ok (.aload_n 1, 1) := by decide +kernel
theorem d_PO_addProduct_6 : decode b_PO_addProduct 6 = .ok (.getfield 15, 3) := by decide +kernel
theorem d_PO_addProduct_9 : decode b_PO_addProduct 9 = .ok (.if_icmp .gt 24, 3) := by decide +kernel
theorem d_PO_addProduct_12 : decode b_PO_addProduct 12 = .ok (.aload_n 0, 1) := by decide +kernel
theorem d_PO_addProduct_13 : decode b_PO_addProduct 13 = .ok (.aload_n 2, 1) := by decide +kernel
theorem d_PO_addProduct_14 : decode b_PO_addProduct 14 = .ok (.iload 5, 2) := by decide +kernel
theorem d_PO_addProduct_16 : decode b_PO_addProduct 16 = .ok (.lload_n 3, 1) := by decide +kernel
theorem d_PO_addProduct_17 : decode b_PO_addProduct 17 = .ok (.aload_n 1, 1) := by decide +kernel
theorem d_PO_addProduct_18 : decode b_PO_addProduct 18 = .ok (.iload 5, 2) := by decide +kernel
theorem d_PO_addProduct_20 : decode b_PO_addProduct 20 = .ok (.invokevirtual 19, 3) := by decide +kernel
theorem d_PO_addProduct_23 : decode b_PO_addProduct 23 = .ok (.lmul, 1) := by decide +kernel
theorem d_PO_addProduct_24 : decode b_PO_addProduct 24 = .ok (.invokevirtual 30, 3) := by decide +kernel
theorem d_PO_addProduct_27 : decode b_PO_addProduct 27 = .ok (.iinc 5 1, 3) := by decide +kernel
theorem d_PO_addProduct_30 : decode b_PO_addProduct 30 = .ok (.goto (-27), 3) := by decide +kernel
theorem d_PO_addProduct_33 : decode b_PO_addProduct 33 = .ok (.aload_n 0, 1) := by decide +kernel
theorem d_PO_addProduct_34 : decode b_PO_addProduct 34 = .ok (.aload_n 0, 1) := by decide +kernel
theorem d_PO_addProduct_35 : decode b_PO_addProduct 35 = .ok (.getfield 15, 3) := by decide +kernel
theorem d_PO_addProduct_38 : decode b_PO_addProduct 38 = .ok (.invokevirtual 26, 3) := by decide +kernel
theorem d_PO_addProduct_41 : decode b_PO_addProduct 41 = .ok (.return_, 1) := by decide +kernel
theorem d_PO_setQuotient_0 : decode b_PO_setQuotient 0 = .ok (.aload_n 0, 1) := by decide +kernel
theorem d_PO_setQuotient_1 : decode b_PO_setQuotient 1 = .ok (.invokevirtual 23, 3) := by decide +kernel
theorem d_PO_setQuotient_4 : decode b_PO_setQuotient 4 = .ok (.aload_n 2, 1) := by decide +kernel
theorem d_PO_setQuotient_5 : decode b_PO_setQuotient 5 = .ok (.aload_n 2, 1) := by decide +kernel
theorem d_PO_setQuotient_6 : decode b_PO_setQuotient 6 = .ok (.getfield 15, 3) := by decide +kernel
theorem d_PO_setQuotient_9 : decode b_PO_setQuotient 9 = .ok (.invokevirtual 19, 3) := by decide +kernel
theorem d_PO_setQuotient_12 : decode b_PO_setQuotient 12 = .ok (.lstore_n 3, 1) := by decide +kernel
theorem d_PO_setQuotient_13 : decode b_PO_setQuotient 13 = .ok (.lload_n 3, 1) := by decide +kernel
theorem d_PO_setQuotient_14 : decode b_PO_setQuotient 14 = .ok (.lconst 0, 1) := by decide +kernel
theorem d_PO_setQuotient_15 : decode b_PO_setQuotient 15 = .ok (.lcmp, 1) := by decide +kernel
theorem d_PO_setQuotient_16 : decode b_PO_setQuotient 16 = .ok (.ifCond .ne 4, 3) := by decide +kernel
theorem d_PO_setQuotient_19 : decode b_PO_setQuotient 19 = .ok (.return_, 1) := by decide +kernel
theorem d_PO_setQuotient_20 : decode b_PO_setQuotient 20 = .ok (.aload_n 1, 1) := by decide +kernel
theorem d_PO_setQuotient_21 : decode b_PO_setQuotient 21 = .ok (.getfield 15, 3) := by decide +kernel
theorem d_PO_setQuotient_24 : decode b_PO_setQuotient 24 = .ok (.aload_n 2, 1) := by decide +kernel
theorem d_PO_setQuotient_25 : decode b_PO_setQuotient 25 = .ok (.getfield 15, 3) := by decide +kernel
theorem d_PO_setQuotient_28 : decode b_PO_setQuotient 28 = .ok (.isub, 1) := by decide +kernel
theorem d_PO_setQuotient_29 : decode b_PO_setQuotient 29 = .ok (.istore 5, 2) := by decide +kernel
theorem d_PO_setQuotient_31 : decode b_PO_setQuotient 31 = .ok (.iload 5, 2) := by decide +kernel
theorem d_PO_setQuotient_33 : decode b_PO_setQuotient 33 = .ok (.istore 6, 2) := by decide +kernel
theorem d_PO_setQuotient_35 : decode b_PO_setQuotient 35 = .ok (.iload 6, 2) := by decide +kernel
theorem d_PO_setQuotient_37 : decode b_PO_setQuotient 37 = .ok (.ifCond .lt 50, 3) := by decide +kernel
theorem d_PO_setQuotient_40 : decode b_PO_setQuotient 40 = .ok (.aload_n 1, 1) := by decide +kernel
theorem d_PO_setQuotient_41 : decode b_PO_setQuotient 41 = .ok (.iload 6, 2) := by decide +kernel
theorem d_PO_setQuotient_43 : decode b_PO_setQuotient 43 = .ok (.aload_n 2, 1) := by decide +kernel
theorem d_PO_setQuotient_44 : decode b_PO_setQuotient 44 = .ok (.getfield 15, 3) := by decide +kernel
theorem d_PO_setQuotient_47 : decode b_PO_setQuotient 47 = .ok (.iadd, 1) := by decide +kernel
theorem d_PO_setQuotient_48 : decode b_PO_setQuotient 48 = .ok (.invokevirtual 19, 3) := by decide +kernel
theorem d_PO_setQuotient_51 : decode b_PO_setQuotient 51 = .ok (.lload_n 3, 1) := by decide +kernel
theorem d_PO_setQuotient_52 : decode b_PO_setQuotient 52 = .ok (.ldiv, 1) := by decide +kernel
theorem d_PO_setQuotient_53 : decode b_PO_setQuotient 53 = .ok (.lstore 7, 2) := by decide +kernel
theorem d_PO_setQuotient_55 : decode b_PO_setQuotient 55 = .ok (.aload_n 1, 1) := by decide +kernel
theorem d_PO_setQuotient_56 : decode b_PO_setQuotient 56 = .ok (.aload_n 2, 1) := by decide +kernel
theorem d_PO_setQuotient_57 : decode b_PO_setQuotient 57 = .ok (.iload 6, 2) := by decide +kernel
theorem d_PO_setQuotient_59 : decode b_PO_setQuotient 59 = .ok (.lload 7, 2) := by decide +kernel
theorem d_PO_setQuotient_61 : decode b_PO_setQuotient 61 = .ok (.lneg, 1) := by decide +kernel
theorem d_PO_setQuotient_62 : decode b_PO_setQuotient 62 = .ok (.invokevirtual 30, 3) := by decide +kernel
theorem d_PO_setQuotient_65 : decode b_PO_setQuotient 65 = .ok (.iload 6, 2) := by decide +kernel
theorem d_PO_setQuotient_67 : decode b_PO_setQuotient 67 = .ok (.bipush 25, 2) := by decide +kernel
theorem d_PO_setQuotient_69 : decode b_PO_setQuotient 69 = .ok (.if_icmp .ge 12, 3) := by decide +kernel
theorem d_PO_setQuotient_72 : decode b_PO_setQuotient 72 = .ok (.aload_n 0, 1) := by decide +kernel
theorem d_PO_setQuotient_73 : decode b_PO_setQuotient 73 = .ok (.getfield 9, 3) := by decide +kernel
theorem d_PO_setQuotient_76 : decode b_PO_setQuotient 76 = .ok (.iload 6, 2) := by decide +kernel
theorem d_PO_setQuotient_78 : decode b_PO_setQuotient 78 = .ok (.lload 7, 2) := by decide +kernel
theorem d_PO_setQuotient_80 : decode b_PO_setQuotient 80 = .ok (.lastore, 1) := by decide +kernel
theorem d_PO_setQuotient_81 : decode b_PO_setQuotient 81 = .ok (.iinc 6 (-1), 3) := by decide +kernel
theorem d_PO_setQuotient_84 : decode b_PO_setQuotient 84 = .ok (.goto (-49), 3) := by decide +kernel
theorem d_PO_setQuotient_87 : decode b_PO_setQuotient 87 = .ok (.aload_n 0, 1) := by decide +kernel
theorem d_PO_setQuotient_88 : decode b_PO_setQuotient 88 = .ok (.iload 5, 2) := by decide +kernel
theorem d_PO_setQuotient_90 : decode b_PO_setQuotient 90 = .ok (.invokevirtual 26, 3) := by decide +kernel
theorem d_PO_setQuotient_93 : decode b_PO_setQuotient 93 = .ok (.return_, 1) := by decide +kernel
theorem d_PO_setNormalFormOf_0 : decode b_PO_setNormalFormOf 0 = .ok (.iconst 0, 1) := by decide +kernel
theorem d_PO_setNormalFormOf_1 : decode b_PO_setNormalFormOf 1 = .ok (.istore_n 2, 1) := by decide +kernel
theorem d_PO_setNormalFormOf_2 : decode b_PO_setNormalFormOf 2 = .ok (.iload_n 2, 1) := by decide +kernel
theorem d_PO_setNormalFormOf_3 : decode b_PO_setNormalFormOf 3 = .ok (.aload_n 1, 1) := by decide +kernel
theorem d_PO_setNormalFormOf_4 : decode b_PO_setNormalFormOf 4 = .ok (.getfield 15, 3) := by decide +kernel
theorem d_PO_setNormalFormOf_7 : decode b_PO_setNormalFormOf 7 = .ok (.if_icmp .ge 19, 3) := by decide +kernel
theorem d_PO_setNormalFormOf_10 : decode b_PO_setNormalFormOf 10 = .ok (.aload_n 1, 1) := by decide +kernel
theorem d_PO_setNormalFormOf_11 : decode b_PO_setNormalFormOf 11 = .ok (.iload_n 2, 1) := by decide +kernel
theorem d_PO_setNormalFormOf_12 : decode b_PO_setNormalFormOf 12 = .ok (.invokevirtual 19, 3) := by decide +kernel
theorem d_PO_setNormalFormOf_15 : decode b_PO_setNormalFormOf 15 = .ok (.lconst 0, 1) := by decide +kernel
theorem d_PO_setNormalFormOf_16 : decode b_PO_setNormalFormOf 16 = .ok (.lcmp, 1) := by decide +kernel
theorem d_PO_setNormalFormOf_17 : decode b_PO_setNormalFormOf 17 = .ok (.ifCond .ne 9, 3) := by decide +kernel
theorem d_PO_setNormalFormOf_20 : decode b_PO_setNormalFormOf 20 = .ok (.iinc 2 1, 3) := by decide +kernel
theorem d_PO_setNormalFormOf_23 : decode b_PO_setNormalFormOf 23 = .ok (.goto (-21), 3) := by decide +kernel
theorem d_PO_setNormalFormOf_26 : decode b_PO_setNormalFormOf 26 = .ok (.aload_n 0, 1) := by decide +kernel
theorem d_PO_setNormalFormOf_27 : decode b_PO_setNormalFormOf 27 = .ok (.invokevirtual 23, 3) := by decide +kernel
theorem d_PO_setNormalFormOf_30 : decode b_PO_setNormalFormOf 30 = .ok (.aload_n 0, 1) := by decide +kernel
theorem d_PO_setNormalFormOf_31 : decode b_PO_setNormalFormOf 31 = .ok (.aload_n 1, 1) := by decide +kernel
theorem d_PO_setNormalFormOf_32 : decode b_PO_setNormalFormOf 32 = .ok (.iload_n 2, 1) := by decide +kernel
theorem d_PO_setNormalFormOf_33 : decode b_PO_setNormalFormOf 33 = .ok (.ineg, 1) := by decide +kernel
theorem d_PO_setNormalFormOf_34 : decode b_PO_setNormalFormOf 34 = .ok (.aload_n 1, 1) := by decide +kernel
theorem d_PO_setNormalFormOf_35 : decode b_PO_setNormalFormOf 35 = .ok (.iload_n 2, 1) := by decide +kernel
theorem d_PO_setNormalFormOf_36 : decode b_PO_setNormalFormOf 36 = .ok (.invokevirtual 19, 3) := by decide +kernel
theorem d_PO_setNormalFormOf_39 : decode b_PO_setNormalFormOf 39 = .ok (.lconst 0, 1) := by decide +kernel
theorem d_PO_setNormalFormOf_40 : decode b_PO_setNormalFormOf 40 = .ok (.lcmp, 1) := by decide +kernel
theorem d_PO_setNormalFormOf_41 : decode b_PO_setNormalFormOf 41 = .ok (.ifCond .ge 9, 3) := by decide +kernel
theorem d_PO_setNormalFormOf_44 : decode b_PO_setNormalFormOf 44 = .ok (.ldc2_w 34, 3) := by decide +kernel
theorem d_PO_setNormalFormOf_47 : decode b_PO_setNormalFormOf 47 = .ok (.goto 4, 3) := by decide +kernel
theorem d_PO_setNormalFormOf_50 : decode b_PO_setNormalFormOf 50 = .ok (.lconst 1, 1) := by decide +kernel
theorem d_PO_setNormalFormOf_51 : decode b_PO_setNormalFormOf 51 = .ok (.invokevirtual 30, 3) := by decide +kernel
theorem d_PO_setNormalFormOf_54 : decode b_PO_setNormalFormOf 54 = .ok (.aload_n 0, 1) := by decide +kernel
theorem d_PO_setNormalFormOf_55 : decode b_PO_setNormalFormOf 55 = .ok (.aload_n 0, 1) := by decide +kernel
theorem d_PO_setNormalFormOf_56 : decode b_PO_setNormalFormOf 56 = .ok (.getfield 15, 3) := by decide +kernel
theorem d_PO_setNormalFormOf_59 : decode b_PO_setNormalFormOf 59 = .ok (.invokevirtual 26, 3) := by decide +kernel
theorem d_PO_setNormalFormOf_62 : decode b_PO_setNormalFormOf 62 = .ok (.return_, 1) := by decide +kernel
theorem d_PO_addShifted_0 : decode b_PO_addShifted 0 = .ok (.lload_n 3, 1) := by decide +kernel
theorem d_PO_addShifted_1 : decode b_PO_addShifted 1 = .ok (.lconst 0, 1) := by decide +kernel
theorem d_PO_addShifted_2 : decode b_PO_addShifted 2 = .ok (.lcmp, 1) := by decide +kernel
theorem d_PO_addShifted_3 : decode b_PO_addShifted 3 = .ok (.ifCond .eq 10, 3) := by decide +kernel
theorem d_PO_addShifted_6 : decode b_PO_addShifted 6 = .ok (.aload_n 1, 1) := by decide +kernel
theorem d_PO_addShifted_7 : decode b_PO_addShifted 7 = .ok (.getfield 15, 3) := by decide +kernel
theorem d_PO_addShifted_10 : decode b_PO_addShifted 10 = .ok (.ifCond .ge 4, 3) := by decide +kernel
theorem d_PO_addShifted_13 : decode b_PO_addShifted 13 = .ok (.return_, 1) := by decide +kernel
theorem d_PO_addShifted_14 : decode b_PO_addShifted 14 = .ok (.iload_n 2, 1) := by decide +kernel
theorem d_PO_addShifted_15 : decode b_PO_addShifted 15 = .ok (.ifCond .ge 8, 3) := by decide +kernel
theorem d_PO_addShifted_18 : decode b_PO_addShifted 18 = .ok (.iload_n 2, 1) := by decide +kernel
theorem d_PO_addShifted_19 : decode b_PO_addShifted 19 = .ok (.ineg, 1) := by decide +kernel
theorem d_PO_addShifted_20 : decode b_PO_addShifted 20 = .ok (.goto 4, 3) := by decide +kernel
theorem d_PO_addShifted_23 : decode b_PO_addShifted 23 = .ok (.iconst 0, 1) := by decide +kernel
theorem d_PO_addShifted_24 : decode b_PO_addShifted 24 = .ok (.istore 5, 2) := by decide +kernel
theorem d_PO_addShifted_26 : decode b_PO_addShifted 26 = .ok (.bipush 24, 2) := by decide +kernel
theorem d_PO_addShifted_28 : decode b_PO_addShifted 28 = .ok (.iload_n 2, 1) := by decide +kernel
theorem d_PO_addShifted_29 : decode b_PO_addShifted 29 = .ok (.isub, 1) := by decide +kernel
theorem d_PO_addShifted_30 : decode b_PO_addShifted 30 = .ok (.istore 6, 2) := by decide +kernel
theorem d_PO_addShifted_32 : decode b_PO_addShifted 32 = .ok (.aload_n 1, 1) := by decide +kernel
theorem d_PO_addShifted_33 : decode b_PO_addShifted 33 = .ok (.getfield 15, 3) := by decide +kernel
theorem d_PO_addShifted_36 : decode b_PO_addShifted 36 = .ok (.iload 6, 2) := by decide +kernel
theorem d_PO_addShifted_38 : decode b_PO_addShifted 38 = .ok (.if_icmp .ge 10, 3) := by decide +kernel
theorem d_PO_addShifted_41 : decode b_PO_addShifted 41 = .ok (.aload_n 1, 1) := by decide +kernel
theorem d_PO_addShifted_42 : decode b_PO_addShifted 42 = .ok (.getfield 15, 3) := by decide +kernel
theorem d_PO_addShifted_45 : decode b_PO_addShifted 45 = .ok (.goto 5, 3) := by decide +kernel
theorem d_PO_addShifted_48 : decode b_PO_addShifted 48 = .ok (.iload 6, 2) := by decide +kernel
theorem d_PO_addShifted_50 : decode b_PO_addShifted 50 = .ok (.istore 7, 2) := by decide +kernel
theorem d_PO_addShifted_52 : decode b_PO_addShifted 52 = .ok (.iload 5, 2) := by decide +kernel
theorem d_PO_addShifted_54 : decode b_PO_addShifted 54 = .ok (.istore 8, 2) := by decide +kernel
theorem d_PO_addShifted_56 : decode b_PO_addShifted 56 = .ok (.iload 8, 2) := by decide +kernel
theorem d_PO_addShifted_58 : decode b_PO_addShifted 58 = .ok (.iload 7, 2) := by decide +kernel
theorem d_PO_addShifted_60 : decode b_PO_addShifted 60 = .ok (.if_icmp .gt 30, 3) := by decide +kernel
theorem d_PO_addShifted_63 : decode b_PO_addShifted 63 = .ok (.aload_n 0, 1) := by decide +kernel
theorem d_PO_addShifted_64 : decode b_PO_addShifted 64 = .ok (.getfield 9, 3) := by decide +kernel
theorem d_PO_addShifted_67 : decode b_PO_addShifted 67 = .ok (.iload 8, 2) := by decide +kernel
theorem d_PO_addShifted_69 : decode b_PO_addShifted 69 = .ok (.iload_n 2, 1) := by decide +kernel
theorem d_PO_addShifted_70 : decode b_PO_addShifted 70 = .ok (.iadd, 1) := by decide +kernel
theorem d_PO_addShifted_71 : decode b_PO_addShifted 71 = .ok (.dup2, 1) := by decide +kernel
theorem d_PO_addShifted_72 : decode b_PO_addShifted 72 = .ok (.laload, 1) := by decide +kernel
theorem d_PO_addShifted_73 : decode b_PO_addShifted 73 = .ok (.lload_n 3, 1) := by decide +kernel
theorem d_PO_addShifted_74 : decode b_PO_addShifted 74 = .ok (.aload_n 1, 1) := by decide +kernel
theorem d_PO_addShifted_75 : decode b_PO_addShifted 75 = .ok (.getfield 9, 3) := by decide +kernel
theorem d_PO_addShifted_78 : decode b_PO_addShifted 78 = .ok (.iload 8, 2) := by decide +kernel
theorem d_PO_addShifted_80 : decode b_PO_addShifted 80 = .ok (.laload, 1) := by decide +kernel
theorem d_PO_addShifted_81 : decode b_PO_addShifted 81 = .ok (.lmul, 1) := by decide +kernel
theorem d_PO_addShifted_82 : decode b_PO_addShifted 82 = .ok (.ladd, 1) := by decide +kernel
theorem d_PO_addShifted_83 : decode b_PO_addShifted 83 = .ok (.lastore, 1) := by decide +kernel
theorem d_PO_addShifted_84 : decode b_PO_addShifted 84 = .ok (.iinc 8 1, 3) := by decide +kernel
theorem d_PO_addShifted_87 : decode b_PO_addShifted 87 = .ok (.goto (-31), 3) := by decide +kernel
theorem d_PO_addShifted_90 : decode b_PO_addShifted 90 = .ok (.aload_n 0, 1) := by decide +kernel
theorem d_PO_addShifted_91 : decode b_PO_addShifted 91 = .ok (.iload 7, 2) := by decide +kernel
theorem d_PO_addShifted_93 : decode b_PO_addShifted 93 = .ok (.iload_n 2, 1) := by decide +kernel
theorem d_PO_addShifted_94 : decode b_PO_addShifted 94 = .ok (.iadd, 1) := by decide +kernel
theorem d_PO_addShifted_95 : decode b_PO_addShifted 95 = .ok (.aload_n 0, 1) := by decide +kernel
theorem d_PO_addShifted_96 : decode b_PO_addShifted 96 = .ok (.getfield 15, 3) := by decide +kernel
theorem d_PO_addShifted_99 : decode b_PO_addShifted 99 = .ok (.if_icmp .le 10, 3) := by decide +kernel
theorem d_PO_addShifted_102 : decode b_PO_addShifted 102 = .ok (.iload 7, 2) := by decide +kernel
theorem d_PO_addShifted_104 : decode b_PO_addShifted 104 = .ok (.iload_n 2, 1) := by decide +kernel
theorem d_PO_addShifted_105 : decode b_PO_addShifted 105 = .ok (.iadd, 1) := by decide +kernel
theorem d_PO_addShifted_106 : decode b_PO_addShifted 106 = .ok (.goto 7, 3) := by decide +kernel
theorem d_PO_addShifted_109 : decode b_PO_addShifted 109 = .ok (.aload_n 0, 1) := by decide +kernel
theorem d_PO_addShifted_110 : decode b_PO_addShifted 110 = .ok (.getfield 15, 3) := by decide +kernel
theorem d_PO_addShifted_113 : decode b_PO_addShifted 113 = .ok (.putfield 15, 3) := by decide +kernel
theorem d_PO_addShifted_116 : decode b_PO_addShifted 116 = .ok (.return_, 1) := by decide +kernel
theorem d_PO_lowerDegree_0 : decode b_PO_lowerDegree 0 = .ok (.iload_n 1, 1) := by decide +kernel
theorem d_PO_lowerDegree_1 : decode b_PO_lowerDegree 1 = .ok (.bipush 25, 2) := by decide +kernel
theorem d_PO_lowerDegree_3 : decode b_PO_lowerDegree 3 = .ok (.if_icmp .ge 7, 3) := by decide +kernel
theorem d_PO_lowerDegree_6 : decode b_PO_lowerDegree 6 = .ok (.iload_n 1, 1) := by decide +kernel
theorem d_PO_lowerDegree_7 : decode b_PO_lowerDegree 7 = .ok (.goto 5, 3) := by decide +kernel
theorem d_PO_lowerDegree_10 : decode b_PO_lowerDegree 10 = .ok (.bipush 24, 2) := by decide +kernel
theorem d_PO_lowerDegree_12 : decode b_PO_lowerDegree 12 = .ok (.istore_n 2, 1) := by decide +kernel
theorem d_PO_lowerDegree_13 : decode b_PO_lowerDegree 13 = .ok (.iload_n 2, 1) := by decide +kernel
theorem d_PO_lowerDegree_14 : decode b_PO_lowerDegree 14 = .ok (.ifCond .lt 20, 3) := by decide +kernel
theorem d_PO_lowerDegree_17 : decode b_PO_lowerDegree 17 = .ok (.aload_n 0, 1) := by decide +kernel
theorem d_PO_lowerDegree_18 : decode b_PO_lowerDegree 18 = .ok (.getfield 9, 3) := by decide +kernel
theorem d_PO_lowerDegree_21 : decode b_PO_lowerDegree 21 = .ok (.iload_n 2, 1) := by decide +kernel
theorem d_PO_lowerDegree_22 : decode b_PO_lowerDegree 22 = .ok (.laload, 1) := by decide +kernel
theorem d_PO_lowerDegree_23 : decode b_PO_lowerDegree 23 = .ok (.lconst 0, 1) := by decide +kernel
theorem d_PO_lowerDegree_24 : decode b_PO_lowerDegree 24 = .ok (.lcmp, 1) := by decide +kernel
theorem d_PO_lowerDegree_25 : decode b_PO_lowerDegree 25 = .ok (.ifCond .ne 9, 3) := by decide +kernel
theorem d_PO_lowerDegree_28 : decode b_PO_lowerDegree 28 = .ok (.iinc 2 (-1), 3) := by decide +kernel
theorem d_PO_lowerDegree_31 : decode b_PO_lowerDegree 31 = .ok (.goto (-18), 3) := by decide +kernel
theorem d_PO_lowerDegree_34 : decode b_PO_lowerDegree 34 = .ok (.aload_n 0, 1) := by decide +kernel
theorem d_PO_lowerDegree_35 : decode b_PO_lowerDegree 35 = .ok (.iload_n 2, 1) := by decide +kernel
theorem d_PO_lowerDegree_36 : decode b_PO_lowerDegree 36 = .ok (.ifCond .lt 7, 3) := by decide +kernel
theorem d_PO_lowerDegree_39 : decode b_PO_lowerDegree 39 = .ok (.iload_n 2, 1) := by decide +kernel
theorem d_PO_lowerDegree_40 : decode b_PO_lowerDegree 40 = .ok (.goto 4, 3) := by decide +kernel
theorem d_PO_lowerDegree_43 : decode b_PO_lowerDegree 43 = .ok (.iconst (-1), 1) := by decide +kernel
theorem d_PO_lowerDegree_44 : decode b_PO_lowerDegree 44 = .ok (.putfield 15, 3) := by decide +kernel
theorem d_PO_lowerDegree_47 : decode b_PO_lowerDegree 47 = .ok (.return_, 1) := by decide +kernel
theorem d_JM_floorMod_0 : decode b_JM_floorMod 0 = .ok (.iload_n 0, 1) := by decide +kernel
theorem d_JM_floorMod_1 : decode b_JM_floorMod 1 = .ok (.iload_n 1, 1) := by decide +kernel
theorem d_JM_floorMod_2 : decode b_JM_floorMod 2 = .ok (.irem, 1) := by decide +kernel
theorem d_JM_floorMod_3 : decode b_JM_floorMod 3 = .ok (.istore_n 2, 1) := by decide +kernel
theorem d_JM_floorMod_4 : decode b_JM_floorMod 4 = .ok (.iload_n 0, 1) := by decide +kernel
theorem d_JM_floorMod_5 : decode b_JM_floorMod 5 = .ok (.iload_n 1, 1) := by decide +kernel
theorem d_JM_floorMod_6 : decode b_JM_floorMod 6 = .ok (.ixor, 1) := by decide +kernel
theorem d_JM_floorMod_7 : decode b_JM_floorMod 7 = .ok (.ifCond .ge 11, 3) := by decide +kernel
theorem d_JM_floorMod_10 : decode b_JM_floorMod 10 = .ok (.iload_n 2, 1) := by decide +kernel
theorem d_JM_floorMod_11 : decode b_JM_floorMod 11 = .ok (.ifCond .eq 7, 3) := by decide +kernel
theorem d_JM_floorMod_14 : decode b_JM_floorMod 14 = .ok (.iload_n 2, 1) := by decide +kernel
theorem d_JM_floorMod_15 : decode b_JM_floorMod 15 = .ok (.iload_n 1, 1) := by decide +kernel
theorem d_JM_floorMod_16 : decode b_JM_floorMod 16 = .ok (.iadd, 1) := by decide +kernel
theorem d_JM_floorMod_17 : decode b_JM_floorMod 17 = .ok (.ireturn, 1) := by decide +kernel
theorem d_JM_floorMod_18 : decode b_JM_floorMod 18 = .ok (.iload_n 2, 1) := by decide +kernel
theorem d_JM_floorMod_19 : decode b_JM_floorMod 19 = .ok (.ireturn, 1) := by decide +kernel
theorem d_JM_max_0 : decode b_JM_max 0 = .ok (.iload_n 0, 1) := by decide +kernel
theorem d_JM_max_1 : decode b_JM_max 1 = .ok (.iload_n 1, 1) := by decide +kernel
theorem d_JM_max_2 : decode b_JM_max 2 = .ok (.if_icmp .lt 7, 3) := by decide +kernel
theorem d_JM_max_5 : decode b_JM_max 5 = .ok (.iload_n 0, 1) := by decide +kernel
theorem d_JM_max_6 : decode b_JM_max 6 = .ok (.goto 4, 3) := by decide +kernel
theorem d_JM_max_9 : decode b_JM_max 9 = .ok (.iload_n 1, 1) := by decide +kernel
theorem d_JM_max_10 : decode b_JM_max 10 = .ok (.ireturn, 1) := by decide +kernel
theorem d_JM_min_0 : decode b_JM_min 0 = .ok (.iload_n 0, 1) := by decide +kernel
theorem d_JM_min_1 : decode b_JM_min 1 = .ok (.iload_n 1, 1) := by decide +kernel
theorem d_JM_min_2 : decode b_JM_min 2 = .ok (.if_icmp .gt 7, 3) := by decide +kernel
theorem d_JM_min_5 : decode b_JM_min 5 = .ok (.iload_n 0, 1) := by decide +kernel
theorem d_JM_min_6 : decode b_JM_min 6 = .ok (.goto 4, 3) := by decide +kernel
theorem d_JM_min_9 : decode b_JM_min 9 = .ok (.iload_n 1, 1) := by decide +kernel
theorem d_JM_min_10 : decode b_JM_min 10 = .ok (.ireturn, 1) := by decide +kernel
theorem d_JA_fill_0 : decode b_JA_fill 0 = .ok (.iconst 0, 1) := by decide +kernel
theorem d_JA_fill_1 : decode b_JA_fill 1 = .ok (.istore_n 2, 1) := by decide +kernel
theorem d_JA_fill_2 : decode b_JA_fill 2 = .ok (.aload_n 0, 1) := by decide +kernel
theorem d_JA_fill_3 : decode b_JA_fill 3 = .ok (.arraylength, 1) := by decide +kernel
theorem d_JA_fill_4 : decode b_JA_fill 4 = .ok (.istore_n 3, 1) := by decide +kernel
theorem d_JA_fill_5 : decode b_JA_fill 5 = .ok (.iload_n 2, 1) := by decide +kernel
theorem d_JA_fill_6 : decode b_JA_fill 6 = .ok (.iload_n 3, 1) := by decide +kernel
theorem d_JA_fill_7 : decode b_JA_fill 7 = .ok (.if_icmp .ge 13, 3) := by decide +kernel
theorem d_JA_fill_10 : decode b_JA_fill 10 = .ok (.aload_n 0, 1) := by decide +kernel
theorem d_JA_fill_11 : decode b_JA_fill 11 = .ok (.iload_n 2, 1) := by decide +kernel
theorem d_JA_fill_12 : decode b_JA_fill 12 = .ok (.iload_n 1, 1) := by decide +kernel
theorem d_JA_fill_13 : decode b_JA_fill 13 = .ok (.iastore, 1) := by decide +kernel
theorem d_JA_fill_14 : decode b_JA_fill 14 = .ok (.iinc 2 1, 3) := by decide +kernel
theorem d_JA_fill_17 : decode b_JA_fill 17 = .ok (.goto (-12), 3) := by decide +kernel
theorem d_JA_fill_20 : decode b_JA_fill 20 = .ok (.return_, 1) := by decide +kernel
