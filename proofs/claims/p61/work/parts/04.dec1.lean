theorem dX1_init_0 : decode cX1_init 0 = .ok (.aload_n 0, 1) := by decide +kernel
theorem dX1_init_1 : decode cX1_init 1 = .ok (.invokespecial 3, 3) := by decide +kernel
theorem dX1_init_4 : decode cX1_init 4 = .ok (.aload_n 0, 1) := by decide +kernel
theorem dX1_init_5 : decode cX1_init 5 = .ok (.new 9, 3) := by decide +kernel
theorem dX1_init_8 : decode cX1_init 8 = .ok (.dup, 1) := by decide +kernel
theorem dX1_init_9 : decode cX1_init 9 = .ok (.bipush 10, 2) := by decide +kernel
theorem dX1_init_11 : decode cX1_init 11 = .ok (.invokespecial 11, 3) := by decide +kernel
theorem dX1_init_14 : decode cX1_init 14 = .ok (.putfield 14, 3) := by decide +kernel
theorem dX1_init_17 : decode cX1_init 17 = .ok (.aload_n 0, 1) := by decide +kernel
theorem dX1_init_18 : decode cX1_init 18 = .ok (.new 9, 3) := by decide +kernel
theorem dX1_init_21 : decode cX1_init 21 = .ok (.dup, 1) := by decide +kernel
theorem dX1_init_22 : decode cX1_init 22 = .ok (.bipush 10, 2) := by decide +kernel
theorem dX1_init_24 : decode cX1_init 24 = .ok (.invokespecial 11, 3) := by decide +kernel
theorem dX1_init_27 : decode cX1_init 27 = .ok (.putfield 20, 3) := by decide +kernel
theorem dX1_init_30 : decode cX1_init 30 = .ok (.aload_n 0, 1) := by decide +kernel
theorem dX1_init_31 : decode cX1_init 31 = .ok (.new 9, 3) := by decide +kernel
theorem dX1_init_34 : decode cX1_init 34 = .ok (.dup, 1) := by decide +kernel
theorem dX1_init_35 : decode cX1_init 35 = .ok (.bipush 10, 2) := by decide +kernel
theorem dX1_init_37 : decode cX1_init 37 = .ok (.invokespecial 11, 3) := by decide +kernel
theorem dX1_init_40 : decode cX1_init 40 = .ok (.putfield 23, 3) := by decide +kernel
theorem dX1_init_43 : decode cX1_init 43 = .ok (.aload_n 0, 1) := by decide +kernel
theorem dX1_init_44 : decode cX1_init 44 = .ok (.new 9, 3) := by decide +kernel
theorem dX1_init_47 : decode cX1_init 47 = .ok (.dup, 1) := by decide +kernel
theorem dX1_init_48 : decode cX1_init 48 = .ok (.bipush 10, 2) := by decide +kernel
theorem dX1_init_50 : decode cX1_init 50 = .ok (.invokespecial 11, 3) := by decide +kernel
theorem dX1_init_53 : decode cX1_init 53 = .ok (.putfield 26, 3) := by decide +kernel
theorem dX1_init_56 : decode cX1_init 56 = .ok (.aload_n 0, 1) := by decide +kernel
theorem dX1_init_57 : decode cX1_init 57 = .ok (.new 9, 3) := by decide +kernel
theorem dX1_init_60 : decode cX1_init 60 = .ok (.dup, 1) := by decide +kernel
theorem dX1_init_61 : decode cX1_init 61 = .ok (.bipush 10, 2) := by decide +kernel
theorem dX1_init_63 : decode cX1_init 63 = .ok (.invokespecial 11, 3) := by decide +kernel
theorem dX1_init_66 : decode cX1_init 66 = .ok (.putfield 29, 3) := by decide +kernel
theorem dX1_init_69 : decode cX1_init 69 = .ok (.return_, 1) := by decide +kernel
theorem dX1_add_0 : decode cX1_add 0 = .ok (.aload_n 0, 1) := by decide +kernel
theorem dX1_add_1 : decode cX1_add 1 = .ok (.getfield 32, 3) := by decide +kernel
theorem dX1_add_4 : decode cX1_add 4 = .ok (.istore 4, 2) := by decide +kernel
theorem dX1_add_6 : decode cX1_add 6 = .ok (.aload_n 0, 1) := by decide +kernel
theorem dX1_add_7 : decode cX1_add 7 = .ok (.dup, 1) := by decide +kernel
theorem dX1_add_8 : decode cX1_add 8 = .ok (.getfield 32, 3) := by decide +kernel
theorem dX1_add_11 : decode cX1_add 11 = .ok (.iconst 1, 1) := by decide +kernel
theorem dX1_add_12 : decode cX1_add 12 = .ok (.iadd, 1) := by decide +kernel
theorem dX1_add_13 : decode cX1_add 13 = .ok (.putfield 32, 3) := by decide +kernel
theorem dX1_add_16 : decode cX1_add 16 = .ok (.aload_n 0, 1) := by decide +kernel
theorem dX1_add_17 : decode cX1_add 17 = .ok (.getfield 14, 3) := by decide +kernel
theorem dX1_add_20 : decode cX1_add 20 = .ok (.iload 4, 2) := by decide +kernel
theorem dX1_add_22 : decode cX1_add 22 = .ok (.invokevirtual 36, 3) := by decide +kernel
theorem dX1_add_25 : decode cX1_add 25 = .ok (.aload_n 0, 1) := by decide +kernel
theorem dX1_add_26 : decode cX1_add 26 = .ok (.getfield 20, 3) := by decide +kernel
theorem dX1_add_29 : decode cX1_add 29 = .ok (.iload_n 1, 1) := by decide +kernel
theorem dX1_add_30 : decode cX1_add 30 = .ok (.invokevirtual 36, 3) := by decide +kernel
theorem dX1_add_33 : decode cX1_add 33 = .ok (.aload_n 0, 1) := by decide +kernel
theorem dX1_add_34 : decode cX1_add 34 = .ok (.getfield 23, 3) := by decide +kernel
theorem dX1_add_37 : decode cX1_add 37 = .ok (.iload_n 2, 1) := by decide +kernel
theorem dX1_add_38 : decode cX1_add 38 = .ok (.invokevirtual 36, 3) := by decide +kernel
theorem dX1_add_41 : decode cX1_add 41 = .ok (.aload_n 0, 1) := by decide +kernel
theorem dX1_add_42 : decode cX1_add 42 = .ok (.getfield 26, 3) := by decide +kernel
theorem dX1_add_45 : decode cX1_add 45 = .ok (.iload_n 3, 1) := by decide +kernel
theorem dX1_add_46 : decode cX1_add 46 = .ok (.invokevirtual 36, 3) := by decide +kernel
theorem dX1_add_49 : decode cX1_add 49 = .ok (.aload_n 0, 1) := by decide +kernel
theorem dX1_add_50 : decode cX1_add 50 = .ok (.getfield 29, 3) := by decide +kernel
theorem dX1_add_53 : decode cX1_add 53 = .ok (.iload_n 1, 1) := by decide +kernel
theorem dX1_add_54 : decode cX1_add 54 = .ok (.iload_n 3, 1) := by decide +kernel
theorem dX1_add_55 : decode cX1_add 55 = .ok (.imul, 1) := by decide +kernel
theorem dX1_add_56 : decode cX1_add 56 = .ok (.invokevirtual 36, 3) := by decide +kernel
theorem dX1_add_59 : decode cX1_add 59 = .ok (.iload 4, 2) := by decide +kernel
theorem dX1_add_61 : decode cX1_add 61 = .ok (.ireturn, 1) := by decide +kernel
theorem dX1_weightOf_0 : decode cX1_weightOf 0 = .ok (.iconst 0, 1) := by decide +kernel
theorem dX1_weightOf_1 : decode cX1_weightOf 1 = .ok (.istore_n 2, 1) := by decide +kernel
theorem dX1_weightOf_2 : decode cX1_weightOf 2 = .ok (.iconst 0, 1) := by decide +kernel
theorem dX1_weightOf_3 : decode cX1_weightOf 3 = .ok (.istore_n 3, 1) := by decide +kernel
theorem dX1_weightOf_4 : decode cX1_weightOf 4 = .ok (.iload_n 3, 1) := by decide +kernel
theorem dX1_weightOf_5 : decode cX1_weightOf 5 = .ok (.aload_n 0, 1) := by decide +kernel
theorem dX1_weightOf_6 : decode cX1_weightOf 6 = .ok (.getfield 14, 3) := by decide +kernel
theorem dX1_weightOf_9 : decode cX1_weightOf 9 = .ok (.invokevirtual 39, 3) := by decide +kernel
theorem dX1_weightOf_12 : decode cX1_weightOf 12 = .ok (.if_icmp .ge 28, 3) := by decide +kernel
theorem dX1_weightOf_15 : decode cX1_weightOf 15 = .ok (.iload_n 1, 1) := by decide +kernel
theorem dX1_weightOf_16 : decode cX1_weightOf 16 = .ok (.iconst 1, 1) := by decide +kernel
theorem dX1_weightOf_17 : decode cX1_weightOf 17 = .ok (.iload_n 3, 1) := by decide +kernel
theorem dX1_weightOf_18 : decode cX1_weightOf 18 = .ok (.ishl, 1) := by decide +kernel
theorem dX1_weightOf_19 : decode cX1_weightOf 19 = .ok (.iand, 1) := by decide +kernel
theorem dX1_weightOf_20 : decode cX1_weightOf 20 = .ok (.ifCond .eq 14, 3) := by decide +kernel
theorem dX1_weightOf_23 : decode cX1_weightOf 23 = .ok (.iload_n 2, 1) := by decide +kernel
theorem dX1_weightOf_24 : decode cX1_weightOf 24 = .ok (.aload_n 0, 1) := by decide +kernel
theorem dX1_weightOf_25 : decode cX1_weightOf 25 = .ok (.getfield 20, 3) := by decide +kernel
theorem dX1_weightOf_28 : decode cX1_weightOf 28 = .ok (.iload_n 3, 1) := by decide +kernel
theorem dX1_weightOf_29 : decode cX1_weightOf 29 = .ok (.invokevirtual 43, 3) := by decide +kernel
theorem dX1_weightOf_32 : decode cX1_weightOf 32 = .ok (.iadd, 1) := by decide +kernel
theorem dX1_weightOf_33 : decode cX1_weightOf 33 = .ok (.istore_n 2, 1) := by decide +kernel
theorem dX1_weightOf_34 : decode cX1_weightOf 34 = .ok (.iinc 3 1, 3) := by decide +kernel
theorem dX1_weightOf_37 : decode cX1_weightOf 37 = .ok (.goto (-33), 3) := by decide +kernel
theorem dX1_weightOf_40 : decode cX1_weightOf 40 = .ok (.iload_n 2, 1) := by decide +kernel
theorem dX1_weightOf_41 : decode cX1_weightOf 41 = .ok (.ireturn, 1) := by decide +kernel
theorem dX1_removeSet_0 : decode cX1_removeSet 0 = .ok (.aload_n 0, 1) := by decide +kernel
theorem dX1_removeSet_1 : decode cX1_removeSet 1 = .ok (.getfield 14, 3) := by decide +kernel
theorem dX1_removeSet_4 : decode cX1_removeSet 4 = .ok (.invokevirtual 39, 3) := by decide +kernel
theorem dX1_removeSet_7 : decode cX1_removeSet 7 = .ok (.iconst 1, 1) := by decide +kernel
theorem dX1_removeSet_8 : decode cX1_removeSet 8 = .ok (.isub, 1) := by decide +kernel
theorem dX1_removeSet_9 : decode cX1_removeSet 9 = .ok (.istore_n 2, 1) := by decide +kernel
theorem dX1_removeSet_10 : decode cX1_removeSet 10 = .ok (.iload_n 2, 1) := by decide +kernel
theorem dX1_removeSet_11 : decode cX1_removeSet 11 = .ok (.ifCond .lt 22, 3) := by decide +kernel
theorem dX1_removeSet_14 : decode cX1_removeSet 14 = .ok (.iload_n 1, 1) := by decide +kernel
theorem dX1_removeSet_15 : decode cX1_removeSet 15 = .ok (.iconst 1, 1) := by decide +kernel
theorem dX1_removeSet_16 : decode cX1_removeSet 16 = .ok (.iload_n 2, 1) := by decide +kernel
theorem dX1_removeSet_17 : decode cX1_removeSet 17 = .ok (.ishl, 1) := by decide +kernel
theorem dX1_removeSet_18 : decode cX1_removeSet 18 = .ok (.iand, 1) := by decide +kernel
theorem dX1_removeSet_19 : decode cX1_removeSet 19 = .ok (.ifCond .eq 8, 3) := by decide +kernel
theorem dX1_removeSet_22 : decode cX1_removeSet 22 = .ok (.aload_n 0, 1) := by decide +kernel
theorem dX1_removeSet_23 : decode cX1_removeSet 23 = .ok (.iload_n 2, 1) := by decide +kernel
theorem dX1_removeSet_24 : decode cX1_removeSet 24 = .ok (.invokevirtual 47, 3) := by decide +kernel
theorem dX1_removeSet_27 : decode cX1_removeSet 27 = .ok (.iinc 2 (-1), 3) := by decide +kernel
theorem dX1_removeSet_30 : decode cX1_removeSet 30 = .ok (.goto (-20), 3) := by decide +kernel
theorem dX1_removeSet_33 : decode cX1_removeSet 33 = .ok (.return_, 1) := by decide +kernel
theorem dX1_removeAt_0 : decode cX1_removeAt 0 = .ok (.aload_n 0, 1) := by decide +kernel
theorem dX1_removeAt_1 : decode cX1_removeAt 1 = .ok (.getfield 14, 3) := by decide +kernel
theorem dX1_removeAt_4 : decode cX1_removeAt 4 = .ok (.iload_n 1, 1) := by decide +kernel
theorem dX1_removeAt_5 : decode cX1_removeAt 5 = .ok (.invokevirtual 50, 3) := by decide +kernel
theorem dX1_removeAt_8 : decode cX1_removeAt 8 = .ok (.aload_n 0, 1) := by decide +kernel
theorem dX1_removeAt_9 : decode cX1_removeAt 9 = .ok (.getfield 20, 3) := by decide +kernel
theorem dX1_removeAt_12 : decode cX1_removeAt 12 = .ok (.iload_n 1, 1) := by decide +kernel
theorem dX1_removeAt_13 : decode cX1_removeAt 13 = .ok (.invokevirtual 50, 3) := by decide +kernel
theorem dX1_removeAt_16 : decode cX1_removeAt 16 = .ok (.aload_n 0, 1) := by decide +kernel
theorem dX1_removeAt_17 : decode cX1_removeAt 17 = .ok (.getfield 23, 3) := by decide +kernel
theorem dX1_removeAt_20 : decode cX1_removeAt 20 = .ok (.iload_n 1, 1) := by decide +kernel
theorem dX1_removeAt_21 : decode cX1_removeAt 21 = .ok (.invokevirtual 50, 3) := by decide +kernel
theorem dX1_removeAt_24 : decode cX1_removeAt 24 = .ok (.aload_n 0, 1) := by decide +kernel
theorem dX1_removeAt_25 : decode cX1_removeAt 25 = .ok (.getfield 26, 3) := by decide +kernel
theorem dX1_removeAt_28 : decode cX1_removeAt 28 = .ok (.iload_n 1, 1) := by decide +kernel
theorem dX1_removeAt_29 : decode cX1_removeAt 29 = .ok (.invokevirtual 50, 3) := by decide +kernel
theorem dX1_removeAt_32 : decode cX1_removeAt 32 = .ok (.aload_n 0, 1) := by decide +kernel
theorem dX1_removeAt_33 : decode cX1_removeAt 33 = .ok (.getfield 29, 3) := by decide +kernel
theorem dX1_removeAt_36 : decode cX1_removeAt 36 = .ok (.iload_n 1, 1) := by decide +kernel
theorem dX1_removeAt_37 : decode cX1_removeAt 37 = .ok (.invokevirtual 50, 3) := by decide +kernel
theorem dX1_removeAt_40 : decode cX1_removeAt 40 = .ok (.return_, 1) := by decide +kernel
theorem dX1_copyFrom_0 : decode cX1_copyFrom 0 = .ok (.aload_n 0, 1) := by decide +kernel
theorem dX1_copyFrom_1 : decode cX1_copyFrom 1 = .ok (.getfield 14, 3) := by decide +kernel
theorem dX1_copyFrom_4 : decode cX1_copyFrom 4 = .ok (.aload_n 1, 1) := by decide +kernel
theorem dX1_copyFrom_5 : decode cX1_copyFrom 5 = .ok (.getfield 14, 3) := by decide +kernel
theorem dX1_copyFrom_8 : decode cX1_copyFrom 8 = .ok (.invokevirtual 54, 3) := by decide +kernel
theorem dX1_copyFrom_11 : decode cX1_copyFrom 11 = .ok (.aload_n 0, 1) := by decide +kernel
theorem dX1_copyFrom_12 : decode cX1_copyFrom 12 = .ok (.getfield 20, 3) := by decide +kernel
theorem dX1_copyFrom_15 : decode cX1_copyFrom 15 = .ok (.aload_n 1, 1) := by decide +kernel
theorem dX1_copyFrom_16 : decode cX1_copyFrom 16 = .ok (.getfield 20, 3) := by decide +kernel
theorem dX1_copyFrom_19 : decode cX1_copyFrom 19 = .ok (.invokevirtual 54, 3) := by decide +kernel
theorem dX1_copyFrom_22 : decode cX1_copyFrom 22 = .ok (.aload_n 0, 1) := by decide +kernel
theorem dX1_copyFrom_23 : decode cX1_copyFrom 23 = .ok (.getfield 23, 3) := by decide +kernel
theorem dX1_copyFrom_26 : decode cX1_copyFrom 26 = .ok (.aload_n 1, 1) := by decide +kernel
theorem dX1_copyFrom_27 : decode cX1_copyFrom 27 = .ok (.getfield 23, 3) := by decide +kernel
theorem dX1_copyFrom_30 : decode cX1_copyFrom 30 = .ok (.invokevirtual 54, 3) := by decide +kernel
theorem dX1_copyFrom_33 : decode cX1_copyFrom 33 = .ok (.aload_n 0, 1) := by decide +kernel
theorem dX1_copyFrom_34 : decode cX1_copyFrom 34 = .ok (.getfield 26, 3) := by decide +kernel
theorem dX1_copyFrom_37 : decode cX1_copyFrom 37 = .ok (.aload_n 1, 1) := by decide +kernel
theorem dX1_copyFrom_38 : decode cX1_copyFrom 38 = .ok (.getfield 26, 3) := by decide +kernel
theorem dX1_copyFrom_41 : decode cX1_copyFrom 41 = .ok (.invokevirtual 54, 3) := by decide +kernel
theorem dX1_copyFrom_44 : decode cX1_copyFrom 44 = .ok (.aload_n 0, 1) := by decide +kernel
theorem dX1_copyFrom_45 : decode cX1_copyFrom 45 = .ok (.getfield 29, 3) := by decide +kernel
theorem dX1_copyFrom_48 : decode cX1_copyFrom 48 = .ok (.aload_n 1, 1) := by decide +kernel
theorem dX1_copyFrom_49 : decode cX1_copyFrom 49 = .ok (.getfield 29, 3) := by decide +kernel
theorem dX1_copyFrom_52 : decode cX1_copyFrom 52 = .ok (.invokevirtual 54, 3) := by decide +kernel
theorem dX1_copyFrom_55 : decode cX1_copyFrom 55 = .ok (.aload_n 0, 1) := by decide +kernel
theorem dX1_copyFrom_56 : decode cX1_copyFrom 56 = .ok (.aload_n 1, 1) := by decide +kernel
theorem dX1_copyFrom_57 : decode cX1_copyFrom 57 = .ok (.getfield 32, 3) := by decide +kernel
theorem dX1_copyFrom_60 : decode cX1_copyFrom 60 = .ok (.putfield 32, 3) := by decide +kernel
theorem dX1_copyFrom_63 : decode cX1_copyFrom 63 = .ok (.return_, 1) := by decide +kernel
theorem dX2_init_0 : decode cX2_init 0 = .ok (.aload_n 0, 1) := by decide +kernel
theorem dX2_init_1 : decode cX2_init 1 = .ok (.invokespecial 3, 3) := by decide +kernel
theorem dX2_init_4 : decode cX2_init 4 = .ok (.aload_n 0, 1) := by decide +kernel
theorem dX2_init_5 : decode cX2_init 5 = .ok (.sipush 1024, 3) := by decide +kernel
theorem dX2_init_8 : decode cX2_init 8 = .ok (.newarray .int, 2) := by decide +kernel
theorem dX2_init_10 : decode cX2_init 10 = .ok (.putfield 9, 3) := by decide +kernel
theorem dX2_init_13 : decode cX2_init 13 = .ok (.aload_n 0, 1) := by decide +kernel
theorem dX2_init_14 : decode cX2_init 14 = .ok (.sipush 1024, 3) := by decide +kernel
theorem dX2_init_17 : decode cX2_init 17 = .ok (.newarray .int, 2) := by decide +kernel
theorem dX2_init_19 : decode cX2_init 19 = .ok (.putfield 15, 3) := by decide +kernel
theorem dX2_init_22 : decode cX2_init 22 = .ok (.aload_n 0, 1) := by decide +kernel
theorem dX2_init_23 : decode cX2_init 23 = .ok (.sipush 1024, 3) := by decide +kernel
theorem dX2_init_26 : decode cX2_init 26 = .ok (.newarray .int, 2) := by decide +kernel
theorem dX2_init_28 : decode cX2_init 28 = .ok (.putfield 18, 3) := by decide +kernel
theorem dX2_init_31 : decode cX2_init 31 = .ok (.return_, 1) := by decide +kernel
theorem dX2_bestSet_0 : decode cX2_bestSet 0 = .ok (.aload_n 0, 1) := by decide +kernel
theorem dX2_bestSet_1 : decode cX2_bestSet 1 = .ok (.aload_n 1, 1) := by decide +kernel
theorem dX2_bestSet_2 : decode cX2_bestSet 2 = .ok (.invokevirtual 21, 3) := by decide +kernel
theorem dX2_bestSet_5 : decode cX2_bestSet 5 = .ok (.iconst 0, 1) := by decide +kernel
theorem dX2_bestSet_6 : decode cX2_bestSet 6 = .ok (.istore 4, 2) := by decide +kernel
theorem dX2_bestSet_8 : decode cX2_bestSet 8 = .ok (.iconst 1, 1) := by decide +kernel
theorem dX2_bestSet_9 : decode cX2_bestSet 9 = .ok (.istore 5, 2) := by decide +kernel
theorem dX2_bestSet_11 : decode cX2_bestSet 11 = .ok (.iload 5, 2) := by decide +kernel
theorem dX2_bestSet_13 : decode cX2_bestSet 13 = .ok (.iconst 1, 1) := by decide +kernel
theorem dX2_bestSet_14 : decode cX2_bestSet 14 = .ok (.aload_n 1, 1) := by decide +kernel
theorem dX2_bestSet_15 : decode cX2_bestSet 15 = .ok (.getfield 25, 3) := by decide +kernel
theorem dX2_bestSet_18 : decode cX2_bestSet 18 = .ok (.invokevirtual 31, 3) := by decide +kernel
theorem dX2_bestSet_21 : decode cX2_bestSet 21 = .ok (.ishl, 1) := by decide +kernel
theorem dX2_bestSet_22 : decode cX2_bestSet 22 = .ok (.if_icmp .ge 71, 3) := by decide +kernel
theorem dX2_bestSet_25 : decode cX2_bestSet 25 = .ok (.aload_n 0, 1) := by decide +kernel
theorem dX2_bestSet_26 : decode cX2_bestSet 26 = .ok (.getfield 9, 3) := by decide +kernel
theorem dX2_bestSet_29 : decode cX2_bestSet 29 = .ok (.iload 5, 2) := by decide +kernel
theorem dX2_bestSet_31 : decode cX2_bestSet 31 = .ok (.iaload, 1) := by decide +kernel
theorem dX2_bestSet_32 : decode cX2_bestSet 32 = .ok (.iload_n 2, 1) := by decide +kernel
theorem dX2_bestSet_33 : decode cX2_bestSet 33 = .ok (.if_icmp .lt 26, 3) := by decide +kernel
theorem dX2_bestSet_36 : decode cX2_bestSet 36 = .ok (.aload_n 0, 1) := by decide +kernel
theorem dX2_bestSet_37 : decode cX2_bestSet 37 = .ok (.getfield 15, 3) := by decide +kernel
theorem dX2_bestSet_40 : decode cX2_bestSet 40 = .ok (.iload 5, 2) := by decide +kernel
theorem dX2_bestSet_42 : decode cX2_bestSet 42 = .ok (.iaload, 1) := by decide +kernel
theorem dX2_bestSet_43 : decode cX2_bestSet 43 = .ok (.iload_n 3, 1) := by decide +kernel
theorem dX2_bestSet_44 : decode cX2_bestSet 44 = .ok (.aload_n 0, 1) := by decide +kernel
theorem dX2_bestSet_45 : decode cX2_bestSet 45 = .ok (.getfield 9, 3) := by decide +kernel
theorem dX2_bestSet_48 : decode cX2_bestSet 48 = .ok (.iload 5, 2) := by decide +kernel
theorem dX2_bestSet_50 : decode cX2_bestSet 50 = .ok (.iaload, 1) := by decide +kernel
theorem dX2_bestSet_51 : decode cX2_bestSet 51 = .ok (.imul, 1) := by decide +kernel
theorem dX2_bestSet_52 : decode cX2_bestSet 52 = .ok (.if_icmp .lt 7, 3) := by decide +kernel
theorem dX2_bestSet_55 : decode cX2_bestSet 55 = .ok (.iconst 1, 1) := by decide +kernel
theorem dX2_bestSet_56 : decode cX2_bestSet 56 = .ok (.goto 4, 3) := by decide +kernel
theorem dX2_bestSet_59 : decode cX2_bestSet 59 = .ok (.iconst 0, 1) := by decide +kernel
theorem dX2_bestSet_60 : decode cX2_bestSet 60 = .ok (.istore 6, 2) := by decide +kernel
theorem dX2_bestSet_62 : decode cX2_bestSet 62 = .ok (.iload 6, 2) := by decide +kernel
theorem dX2_bestSet_64 : decode cX2_bestSet 64 = .ok (.ifCond .eq 23, 3) := by decide +kernel
theorem dX2_bestSet_67 : decode cX2_bestSet 67 = .ok (.iload 4, 2) := by decide +kernel
theorem dX2_bestSet_69 : decode cX2_bestSet 69 = .ok (.ifCond .eq 14, 3) := by decide +kernel
theorem dX2_bestSet_72 : decode cX2_bestSet 72 = .ok (.aload_n 0, 1) := by decide +kernel
theorem dX2_bestSet_73 : decode cX2_bestSet 73 = .ok (.iload 5, 2) := by decide +kernel
theorem dX2_bestSet_75 : decode cX2_bestSet 75 = .ok (.iload 4, 2) := by decide +kernel
theorem dX2_bestSet_77 : decode cX2_bestSet 77 = .ok (.invokevirtual 37, 3) := by decide +kernel
theorem dX2_bestSet_80 : decode cX2_bestSet 80 = .ok (.ifCond .eq 7, 3) := by decide +kernel
theorem dX2_bestSet_83 : decode cX2_bestSet 83 = .ok (.iload 5, 2) := by decide +kernel
theorem dX2_bestSet_85 : decode cX2_bestSet 85 = .ok (.istore 4, 2) := by decide +kernel
theorem dX2_bestSet_87 : decode cX2_bestSet 87 = .ok (.iinc 5 1, 3) := by decide +kernel
theorem dX2_bestSet_90 : decode cX2_bestSet 90 = .ok (.goto (-79), 3) := by decide +kernel
theorem dX2_bestSet_93 : decode cX2_bestSet 93 = .ok (.iload 4, 2) := by decide +kernel
theorem dX2_bestSet_95 : decode cX2_bestSet 95 = .ok (.ireturn, 1) := by decide +kernel
theorem dX2_valueByAllSets_0 : decode cX2_valueByAllSets 0 = .ok (.aload_n 0, 1) := by decide +kernel
theorem dX2_valueByAllSets_1 : decode cX2_valueByAllSets 1 = .ok (.aload_n 1, 1) := by decide +kernel
theorem dX2_valueByAllSets_2 : decode cX2_valueByAllSets 2 = .ok (.iload_n 2, 1) := by decide +kernel
theorem dX2_valueByAllSets_3 : decode cX2_valueByAllSets 3 = .ok (.iload_n 3, 1) := by decide +kernel
theorem dX2_valueByAllSets_4 : decode cX2_valueByAllSets 4 = .ok (.invokevirtual 41, 3) := by decide +kernel
theorem dX2_valueByAllSets_7 : decode cX2_valueByAllSets 7 = .ok (.istore 4, 2) := by decide +kernel
theorem dX2_valueByAllSets_9 : decode cX2_valueByAllSets 9 = .ok (.iload 4, 2) := by decide +kernel
theorem dX2_valueByAllSets_11 : decode cX2_valueByAllSets 11 = .ok (.ifCond .ne 7, 3) := by decide +kernel
theorem dX2_valueByAllSets_14 : decode cX2_valueByAllSets 14 = .ok (.iconst (-1), 1) := by decide +kernel
theorem dX2_valueByAllSets_15 : decode cX2_valueByAllSets 15 = .ok (.goto 10, 3) := by decide +kernel
theorem dX2_valueByAllSets_18 : decode cX2_valueByAllSets 18 = .ok (.aload_n 0, 1) := by decide +kernel
theorem dX2_valueByAllSets_19 : decode cX2_valueByAllSets 19 = .ok (.getfield 18, 3) := by decide +kernel
theorem dX2_valueByAllSets_22 : decode cX2_valueByAllSets 22 = .ok (.iload 4, 2) := by decide +kernel
theorem dX2_valueByAllSets_24 : decode cX2_valueByAllSets 24 = .ok (.iaload, 1) := by decide +kernel
theorem dX2_valueByAllSets_25 : decode cX2_valueByAllSets 25 = .ok (.ireturn, 1) := by decide +kernel
theorem dX2_addUpSets_0 : decode cX2_addUpSets 0 = .ok (.iconst 0, 1) := by decide +kernel
theorem dX2_addUpSets_1 : decode cX2_addUpSets 1 = .ok (.istore_n 2, 1) := by decide +kernel
theorem dX2_addUpSets_2 : decode cX2_addUpSets 2 = .ok (.iload_n 2, 1) := by decide +kernel
theorem dX2_addUpSets_3 : decode cX2_addUpSets 3 = .ok (.aload_n 1, 1) := by decide +kernel
theorem dX2_addUpSets_4 : decode cX2_addUpSets 4 = .ok (.getfield 25, 3) := by decide +kernel
theorem dX2_addUpSets_7 : decode cX2_addUpSets 7 = .ok (.invokevirtual 31, 3) := by decide +kernel
theorem dX2_addUpSets_10 : decode cX2_addUpSets 10 = .ok (.if_icmp .ge 120, 3) := by decide +kernel
theorem dX2_addUpSets_13 : decode cX2_addUpSets 13 = .ok (.aload_n 1, 1) := by decide +kernel
theorem dX2_addUpSets_14 : decode cX2_addUpSets 14 = .ok (.getfield 45, 3) := by decide +kernel
theorem dX2_addUpSets_17 : decode cX2_addUpSets 17 = .ok (.iload_n 2, 1) := by decide +kernel
theorem dX2_addUpSets_18 : decode cX2_addUpSets 18 = .ok (.invokevirtual 47, 3) := by decide +kernel
theorem dX2_addUpSets_21 : decode cX2_addUpSets 21 = .ok (.istore_n 3, 1) := by decide +kernel
theorem dX2_addUpSets_22 : decode cX2_addUpSets 22 = .ok (.iload_n 3, 1) := by decide +kernel
theorem dX2_addUpSets_23 : decode cX2_addUpSets 23 = .ok (.aload_n 1, 1) := by decide +kernel
theorem dX2_addUpSets_24 : decode cX2_addUpSets 24 = .ok (.getfield 51, 3) := by decide +kernel
theorem dX2_addUpSets_27 : decode cX2_addUpSets 27 = .ok (.iload_n 2, 1) := by decide +kernel
theorem dX2_addUpSets_28 : decode cX2_addUpSets 28 = .ok (.invokevirtual 47, 3) := by decide +kernel
theorem dX2_addUpSets_31 : decode cX2_addUpSets 31 = .ok (.imul, 1) := by decide +kernel
theorem dX2_addUpSets_32 : decode cX2_addUpSets 32 = .ok (.istore 4, 2) := by decide +kernel
theorem dX2_addUpSets_34 : decode cX2_addUpSets 34 = .ok (.aload_n 1, 1) := by decide +kernel
theorem dX2_addUpSets_35 : decode cX2_addUpSets 35 = .ok (.getfield 54, 3) := by decide +kernel
theorem dX2_addUpSets_38 : decode cX2_addUpSets 38 = .ok (.iload_n 2, 1) := by decide +kernel
theorem dX2_addUpSets_39 : decode cX2_addUpSets 39 = .ok (.invokevirtual 47, 3) := by decide +kernel
theorem dX2_addUpSets_42 : decode cX2_addUpSets 42 = .ok (.istore 5, 2) := by decide +kernel
theorem dX2_addUpSets_44 : decode cX2_addUpSets 44 = .ok (.iconst 1, 1) := by decide +kernel
theorem dX2_addUpSets_45 : decode cX2_addUpSets 45 = .ok (.iload_n 2, 1) := by decide +kernel
theorem dX2_addUpSets_46 : decode cX2_addUpSets 46 = .ok (.ishl, 1) := by decide +kernel
theorem dX2_addUpSets_47 : decode cX2_addUpSets 47 = .ok (.istore 6, 2) := by decide +kernel
theorem dX2_addUpSets_49 : decode cX2_addUpSets 49 = .ok (.iconst 0, 1) := by decide +kernel
theorem dX2_addUpSets_50 : decode cX2_addUpSets 50 = .ok (.istore 7, 2) := by decide +kernel
theorem dX2_addUpSets_52 : decode cX2_addUpSets 52 = .ok (.iload 7, 2) := by decide +kernel
theorem dX2_addUpSets_54 : decode cX2_addUpSets 54 = .ok (.iload 6, 2) := by decide +kernel
theorem dX2_addUpSets_56 : decode cX2_addUpSets 56 = .ok (.if_icmp .ge 68, 3) := by decide +kernel
theorem dX2_addUpSets_59 : decode cX2_addUpSets 59 = .ok (.aload_n 0, 1) := by decide +kernel
theorem dX2_addUpSets_60 : decode cX2_addUpSets 60 = .ok (.getfield 9, 3) := by decide +kernel
theorem dX2_addUpSets_63 : decode cX2_addUpSets 63 = .ok (.iload 6, 2) := by decide +kernel
theorem dX2_addUpSets_65 : decode cX2_addUpSets 65 = .ok (.iload 7, 2) := by decide +kernel
theorem dX2_addUpSets_67 : decode cX2_addUpSets 67 = .ok (.iadd, 1) := by decide +kernel
theorem dX2_addUpSets_68 : decode cX2_addUpSets 68 = .ok (.aload_n 0, 1) := by decide +kernel
theorem dX2_addUpSets_69 : decode cX2_addUpSets 69 = .ok (.getfield 9, 3) := by decide +kernel
theorem dX2_addUpSets_72 : decode cX2_addUpSets 72 = .ok (.iload 7, 2) := by decide +kernel
theorem dX2_addUpSets_74 : decode cX2_addUpSets 74 = .ok (.iaload, 1) := by decide +kernel
theorem dX2_addUpSets_75 : decode cX2_addUpSets 75 = .ok (.iload_n 3, 1) := by decide +kernel
theorem dX2_addUpSets_76 : decode cX2_addUpSets 76 = .ok (.iadd, 1) := by decide +kernel
theorem dX2_addUpSets_77 : decode cX2_addUpSets 77 = .ok (.iastore, 1) := by decide +kernel
theorem dX2_addUpSets_78 : decode cX2_addUpSets 78 = .ok (.aload_n 0, 1) := by decide +kernel
theorem dX2_addUpSets_79 : decode cX2_addUpSets 79 = .ok (.getfield 15, 3) := by decide +kernel
theorem dX2_addUpSets_82 : decode cX2_addUpSets 82 = .ok (.iload 6, 2) := by decide +kernel
theorem dX2_addUpSets_84 : decode cX2_addUpSets 84 = .ok (.iload 7, 2) := by decide +kernel
theorem dX2_addUpSets_86 : decode cX2_addUpSets 86 = .ok (.iadd, 1) := by decide +kernel
theorem dX2_addUpSets_87 : decode cX2_addUpSets 87 = .ok (.aload_n 0, 1) := by decide +kernel
theorem dX2_addUpSets_88 : decode cX2_addUpSets 88 = .ok (.getfield 15, 3) := by decide +kernel
theorem dX2_addUpSets_91 : decode cX2_addUpSets 91 = .ok (.iload 7, 2) := by decide +kernel
theorem dX2_addUpSets_93 : decode cX2_addUpSets 93 = .ok (.iaload, 1) := by decide +kernel
theorem dX2_addUpSets_94 : decode cX2_addUpSets 94 = .ok (.iload 4, 2) := by decide +kernel
theorem dX2_addUpSets_96 : decode cX2_addUpSets 96 = .ok (.iadd, 1) := by decide +kernel
theorem dX2_addUpSets_97 : decode cX2_addUpSets 97 = .ok (.iastore, 1) := by decide +kernel
theorem dX2_addUpSets_98 : decode cX2_addUpSets 98 = .ok (.aload_n 0, 1) := by decide +kernel
theorem dX2_addUpSets_99 : decode cX2_addUpSets 99 = .ok (.getfield 18, 3) := by decide +kernel
theorem dX2_addUpSets_102 : decode cX2_addUpSets 102 = .ok (.iload 6, 2) := by decide +kernel
theorem dX2_addUpSets_104 : decode cX2_addUpSets 104 = .ok (.iload 7, 2) := by decide +kernel
theorem dX2_addUpSets_106 : decode cX2_addUpSets 106 = .ok (.iadd, 1) := by decide +kernel
theorem dX2_addUpSets_107 : decode cX2_addUpSets 107 = .ok (.aload_n 0, 1) := by decide +kernel
theorem dX2_addUpSets_108 : decode cX2_addUpSets 108 = .ok (.getfield 18, 3) := by decide +kernel
theorem dX2_addUpSets_111 : decode cX2_addUpSets 111 = .ok (.iload 7, 2) := by decide +kernel
theorem dX2_addUpSets_113 : decode cX2_addUpSets 113 = .ok (.iaload, 1) := by decide +kernel
theorem dX2_addUpSets_114 : decode cX2_addUpSets 114 = .ok (.iload 5, 2) := by decide +kernel
theorem dX2_addUpSets_116 : decode cX2_addUpSets 116 = .ok (.iadd, 1) := by decide +kernel
theorem dX2_addUpSets_117 : decode cX2_addUpSets 117 = .ok (.iastore, 1) := by decide +kernel
theorem dX2_addUpSets_118 : decode cX2_addUpSets 118 = .ok (.iinc 7 1, 3) := by decide +kernel
theorem dX2_addUpSets_121 : decode cX2_addUpSets 121 = .ok (.goto (-69), 3) := by decide +kernel
theorem dX2_addUpSets_124 : decode cX2_addUpSets 124 = .ok (.iinc 2 1, 3) := by decide +kernel
theorem dX2_addUpSets_127 : decode cX2_addUpSets 127 = .ok (.goto (-125), 3) := by decide +kernel
theorem dX2_addUpSets_130 : decode cX2_addUpSets 130 = .ok (.return_, 1) := by decide +kernel
theorem dX2_isBetter_0 : decode cX2_isBetter 0 = .ok (.aload_n 0, 1) := by decide +kernel
theorem dX2_isBetter_1 : decode cX2_isBetter 1 = .ok (.getfield 18, 3) := by decide +kernel
theorem dX2_isBetter_4 : decode cX2_isBetter 4 = .ok (.iload_n 1, 1) := by decide +kernel
theorem dX2_isBetter_5 : decode cX2_isBetter 5 = .ok (.iaload, 1) := by decide +kernel
theorem dX2_isBetter_6 : decode cX2_isBetter 6 = .ok (.aload_n 0, 1) := by decide +kernel
theorem dX2_isBetter_7 : decode cX2_isBetter 7 = .ok (.getfield 18, 3) := by decide +kernel
theorem dX2_isBetter_10 : decode cX2_isBetter 10 = .ok (.iload_n 2, 1) := by decide +kernel
theorem dX2_isBetter_11 : decode cX2_isBetter 11 = .ok (.iaload, 1) := by decide +kernel
theorem dX2_isBetter_12 : decode cX2_isBetter 12 = .ok (.if_icmp .eq 24, 3) := by decide +kernel
theorem dX2_isBetter_15 : decode cX2_isBetter 15 = .ok (.aload_n 0, 1) := by decide +kernel
theorem dX2_isBetter_16 : decode cX2_isBetter 16 = .ok (.getfield 18, 3) := by decide +kernel
theorem dX2_isBetter_19 : decode cX2_isBetter 19 = .ok (.iload_n 1, 1) := by decide +kernel
theorem dX2_isBetter_20 : decode cX2_isBetter 20 = .ok (.iaload, 1) := by decide +kernel
theorem dX2_isBetter_21 : decode cX2_isBetter 21 = .ok (.aload_n 0, 1) := by decide +kernel
theorem dX2_isBetter_22 : decode cX2_isBetter 22 = .ok (.getfield 18, 3) := by decide +kernel
theorem dX2_isBetter_25 : decode cX2_isBetter 25 = .ok (.iload_n 2, 1) := by decide +kernel
theorem dX2_isBetter_26 : decode cX2_isBetter 26 = .ok (.iaload, 1) := by decide +kernel
theorem dX2_isBetter_27 : decode cX2_isBetter 27 = .ok (.if_icmp .ge 7, 3) := by decide +kernel
theorem dX2_isBetter_30 : decode cX2_isBetter 30 = .ok (.iconst 1, 1) := by decide +kernel
theorem dX2_isBetter_31 : decode cX2_isBetter 31 = .ok (.goto 4, 3) := by decide +kernel
theorem dX2_isBetter_34 : decode cX2_isBetter 34 = .ok (.iconst 0, 1) := by decide +kernel
theorem dX2_isBetter_35 : decode cX2_isBetter 35 = .ok (.ireturn, 1) := by decide +kernel
theorem dX2_isBetter_36 : decode cX2_isBetter 36 = .ok (.aload_n 0, 1) := by decide +kernel
theorem dX2_isBetter_37 : decode cX2_isBetter 37 = .ok (.getfield 9, 3) := by decide +kernel
theorem dX2_isBetter_40 : decode cX2_isBetter 40 = .ok (.iload_n 1, 1) := by decide +kernel
theorem dX2_isBetter_41 : decode cX2_isBetter 41 = .ok (.iaload, 1) := by decide +kernel
theorem dX2_isBetter_42 : decode cX2_isBetter 42 = .ok (.aload_n 0, 1) := by decide +kernel
theorem dX2_isBetter_43 : decode cX2_isBetter 43 = .ok (.getfield 9, 3) := by decide +kernel
theorem dX2_isBetter_46 : decode cX2_isBetter 46 = .ok (.iload_n 2, 1) := by decide +kernel
theorem dX2_isBetter_47 : decode cX2_isBetter 47 = .ok (.iaload, 1) := by decide +kernel
theorem dX2_isBetter_48 : decode cX2_isBetter 48 = .ok (.if_icmp .eq 24, 3) := by decide +kernel
theorem dX2_isBetter_51 : decode cX2_isBetter 51 = .ok (.aload_n 0, 1) := by decide +kernel
theorem dX2_isBetter_52 : decode cX2_isBetter 52 = .ok (.getfield 9, 3) := by decide +kernel
theorem dX2_isBetter_55 : decode cX2_isBetter 55 = .ok (.iload_n 1, 1) := by decide +kernel
theorem dX2_isBetter_56 : decode cX2_isBetter 56 = .ok (.iaload, 1) := by decide +kernel
theorem dX2_isBetter_57 : decode cX2_isBetter 57 = .ok (.aload_n 0, 1) := by decide +kernel
theorem dX2_isBetter_58 : decode cX2_isBetter 58 = .ok (.getfield 9, 3) := by decide +kernel
theorem dX2_isBetter_61 : decode cX2_isBetter 61 = .ok (.iload_n 2, 1) := by decide +kernel
theorem dX2_isBetter_62 : decode cX2_isBetter 62 = .ok (.iaload, 1) := by decide +kernel
theorem dX2_isBetter_63 : decode cX2_isBetter 63 = .ok (.if_icmp .ge 7, 3) := by decide +kernel
theorem dX2_isBetter_66 : decode cX2_isBetter 66 = .ok (.iconst 1, 1) := by decide +kernel
theorem dX2_isBetter_67 : decode cX2_isBetter 67 = .ok (.goto 4, 3) := by decide +kernel
theorem dX2_isBetter_70 : decode cX2_isBetter 70 = .ok (.iconst 0, 1) := by decide +kernel
theorem dX2_isBetter_71 : decode cX2_isBetter 71 = .ok (.ireturn, 1) := by decide +kernel
theorem dX2_isBetter_72 : decode cX2_isBetter 72 = .ok (.iload_n 1, 1) := by decide +kernel
theorem dX2_isBetter_73 : decode cX2_isBetter 73 = .ok (.iload_n 2, 1) := by decide +kernel
theorem dX2_isBetter_74 : decode cX2_isBetter 74 = .ok (.ixor, 1) := by decide +kernel
theorem dX2_isBetter_75 : decode cX2_isBetter 75 = .ok (.istore_n 3, 1) := by decide +kernel
theorem dX2_isBetter_76 : decode cX2_isBetter 76 = .ok (.iload_n 1, 1) := by decide +kernel
theorem dX2_isBetter_77 : decode cX2_isBetter 77 = .ok (.iload_n 3, 1) := by decide +kernel
theorem dX2_isBetter_78 : decode cX2_isBetter 78 = .ok (.iand, 1) := by decide +kernel
theorem dX2_isBetter_79 : decode cX2_isBetter 79 = .ok (.iload_n 3, 1) := by decide +kernel
theorem dX2_isBetter_80 : decode cX2_isBetter 80 = .ok (.ineg, 1) := by decide +kernel
theorem dX2_isBetter_81 : decode cX2_isBetter 81 = .ok (.iand, 1) := by decide +kernel
theorem dX2_isBetter_82 : decode cX2_isBetter 82 = .ok (.ifCond .eq 7, 3) := by decide +kernel
theorem dX2_isBetter_85 : decode cX2_isBetter 85 = .ok (.iconst 1, 1) := by decide +kernel
theorem dX2_isBetter_86 : decode cX2_isBetter 86 = .ok (.goto 4, 3) := by decide +kernel
theorem dX2_isBetter_89 : decode cX2_isBetter 89 = .ok (.iconst 0, 1) := by decide +kernel
theorem dX2_isBetter_90 : decode cX2_isBetter 90 = .ok (.ireturn, 1) := by decide +kernel
theorem dX2_valueBySearch_0 : decode cX2_valueBySearch 0 = .ok (.aload_n 0, 1) := by decide +kernel
theorem dX2_valueBySearch_1 : decode cX2_valueBySearch 1 = .ok (.iload_n 2, 1) := by decide +kernel
theorem dX2_valueBySearch_2 : decode cX2_valueBySearch 2 = .ok (.putfield 56, 3) := by decide +kernel
theorem dX2_valueBySearch_5 : decode cX2_valueBySearch 5 = .ok (.aload_n 0, 1) := by decide +kernel
theorem dX2_valueBySearch_6 : decode cX2_valueBySearch 6 = .ok (.iload_n 3, 1) := by decide +kernel
theorem dX2_valueBySearch_7 : decode cX2_valueBySearch 7 = .ok (.putfield 60, 3) := by decide +kernel
theorem dX2_valueBySearch_10 : decode cX2_valueBySearch 10 = .ok (.aload_n 0, 1) := by decide +kernel
theorem dX2_valueBySearch_11 : decode cX2_valueBySearch 11 = .ok (.ldc 63, 2) := by decide +kernel
theorem dX2_valueBySearch_13 : decode cX2_valueBySearch 13 = .ok (.putfield 64, 3) := by decide +kernel
theorem dX2_valueBySearch_16 : decode cX2_valueBySearch 16 = .ok (.aload_n 0, 1) := by decide +kernel
theorem dX2_valueBySearch_17 : decode cX2_valueBySearch 17 = .ok (.aload_n 1, 1) := by decide +kernel
theorem dX2_valueBySearch_18 : decode cX2_valueBySearch 18 = .ok (.iconst 0, 1) := by decide +kernel
theorem dX2_valueBySearch_19 : decode cX2_valueBySearch 19 = .ok (.iconst 0, 1) := by decide +kernel
theorem dX2_valueBySearch_20 : decode cX2_valueBySearch 20 = .ok (.iconst 0, 1) := by decide +kernel
theorem dX2_valueBySearch_21 : decode cX2_valueBySearch 21 = .ok (.iconst 0, 1) := by decide +kernel
theorem dX2_valueBySearch_22 : decode cX2_valueBySearch 22 = .ok (.invokestatic 67, 3) := by decide +kernel
theorem dX2_valueBySearch_25 : decode cX2_valueBySearch 25 = .ok (.aload_n 0, 1) := by decide +kernel
theorem dX2_valueBySearch_26 : decode cX2_valueBySearch 26 = .ok (.getfield 64, 3) := by decide +kernel
theorem dX2_valueBySearch_29 : decode cX2_valueBySearch 29 = .ok (.ldc 63, 2) := by decide +kernel
theorem dX2_valueBySearch_31 : decode cX2_valueBySearch 31 = .ok (.if_icmp .ne 7, 3) := by decide +kernel
theorem dX2_valueBySearch_34 : decode cX2_valueBySearch 34 = .ok (.iconst (-1), 1) := by decide +kernel
theorem dX2_valueBySearch_35 : decode cX2_valueBySearch 35 = .ok (.goto 7, 3) := by decide +kernel
theorem dX2_valueBySearch_38 : decode cX2_valueBySearch 38 = .ok (.aload_n 0, 1) := by decide +kernel
theorem dX2_valueBySearch_39 : decode cX2_valueBySearch 39 = .ok (.getfield 64, 3) := by decide +kernel
theorem dX2_valueBySearch_42 : decode cX2_valueBySearch 42 = .ok (.ireturn, 1) := by decide +kernel
theorem dX2_search_0 : decode cX2_search 0 = .ok (.iload 5, 2) := by decide +kernel
theorem dX2_search_2 : decode cX2_search 2 = .ok (.aload_n 0, 1) := by decide +kernel
theorem dX2_search_3 : decode cX2_search 3 = .ok (.getfield 64, 3) := by decide +kernel
theorem dX2_search_6 : decode cX2_search 6 = .ok (.if_icmp .lt 4, 3) := by decide +kernel
theorem dX2_search_9 : decode cX2_search 9 = .ok (.return_, 1) := by decide +kernel
theorem dX2_search_10 : decode cX2_search 10 = .ok (.iload_n 3, 1) := by decide +kernel
theorem dX2_search_11 : decode cX2_search 11 = .ok (.aload_n 0, 1) := by decide +kernel
theorem dX2_search_12 : decode cX2_search 12 = .ok (.getfield 56, 3) := by decide +kernel
theorem dX2_search_15 : decode cX2_search 15 = .ok (.if_icmp .lt 21, 3) := by decide +kernel
theorem dX2_search_18 : decode cX2_search 18 = .ok (.iload 4, 2) := by decide +kernel
theorem dX2_search_20 : decode cX2_search 20 = .ok (.aload_n 0, 1) := by decide +kernel
theorem dX2_search_21 : decode cX2_search 21 = .ok (.getfield 60, 3) := by decide +kernel
theorem dX2_search_24 : decode cX2_search 24 = .ok (.iload_n 3, 1) := by decide +kernel
theorem dX2_search_25 : decode cX2_search 25 = .ok (.imul, 1) := by decide +kernel
theorem dX2_search_26 : decode cX2_search 26 = .ok (.if_icmp .lt 10, 3) := by decide +kernel
theorem dX2_search_29 : decode cX2_search 29 = .ok (.aload_n 0, 1) := by decide +kernel
theorem dX2_search_30 : decode cX2_search 30 = .ok (.iload 5, 2) := by decide +kernel
theorem dX2_search_32 : decode cX2_search 32 = .ok (.putfield 64, 3) := by decide +kernel
theorem dX2_search_35 : decode cX2_search 35 = .ok (.return_, 1) := by decide +kernel
theorem dX2_search_36 : decode cX2_search 36 = .ok (.iload_n 2, 1) := by decide +kernel
theorem dX2_search_37 : decode cX2_search 37 = .ok (.aload_n 1, 1) := by decide +kernel
theorem dX2_search_38 : decode cX2_search 38 = .ok (.getfield 25, 3) := by decide +kernel
theorem dX2_search_41 : decode cX2_search 41 = .ok (.invokevirtual 31, 3) := by decide +kernel
theorem dX2_search_44 : decode cX2_search 44 = .ok (.if_icmp .lt 4, 3) := by decide +kernel
theorem dX2_search_47 : decode cX2_search 47 = .ok (.return_, 1) := by decide +kernel
theorem dX2_search_48 : decode cX2_search 48 = .ok (.aload_n 1, 1) := by decide +kernel
theorem dX2_search_49 : decode cX2_search 49 = .ok (.getfield 45, 3) := by decide +kernel
theorem dX2_search_52 : decode cX2_search 52 = .ok (.iload_n 2, 1) := by decide +kernel
theorem dX2_search_53 : decode cX2_search 53 = .ok (.invokevirtual 47, 3) := by decide +kernel
theorem dX2_search_56 : decode cX2_search 56 = .ok (.istore 6, 2) := by decide +kernel
theorem dX2_search_58 : decode cX2_search 58 = .ok (.aload_n 0, 1) := by decide +kernel
theorem dX2_search_59 : decode cX2_search 59 = .ok (.aload_n 1, 1) := by decide +kernel
theorem dX2_search_60 : decode cX2_search 60 = .ok (.iload_n 2, 1) := by decide +kernel
theorem dX2_search_61 : decode cX2_search 61 = .ok (.iconst 1, 1) := by decide +kernel
theorem dX2_search_62 : decode cX2_search 62 = .ok (.iadd, 1) := by decide +kernel
theorem dX2_search_63 : decode cX2_search 63 = .ok (.iload_n 3, 1) := by decide +kernel
theorem dX2_search_64 : decode cX2_search 64 = .ok (.iload 6, 2) := by decide +kernel
theorem dX2_search_66 : decode cX2_search 66 = .ok (.iadd, 1) := by decide +kernel
theorem dX2_search_67 : decode cX2_search 67 = .ok (.iload 4, 2) := by decide +kernel
theorem dX2_search_69 : decode cX2_search 69 = .ok (.iload 6, 2) := by decide +kernel
theorem dX2_search_71 : decode cX2_search 71 = .ok (.aload_n 1, 1) := by decide +kernel
theorem dX2_search_72 : decode cX2_search 72 = .ok (.getfield 51, 3) := by decide +kernel
theorem dX2_search_75 : decode cX2_search 75 = .ok (.iload_n 2, 1) := by decide +kernel
theorem dX2_search_76 : decode cX2_search 76 = .ok (.invokevirtual 47, 3) := by decide +kernel
theorem dX2_search_79 : decode cX2_search 79 = .ok (.imul, 1) := by decide +kernel
theorem dX2_search_80 : decode cX2_search 80 = .ok (.iadd, 1) := by decide +kernel
theorem dX2_search_81 : decode cX2_search 81 = .ok (.iload 5, 2) := by decide +kernel
theorem dX2_search_83 : decode cX2_search 83 = .ok (.aload_n 1, 1) := by decide +kernel
theorem dX2_search_84 : decode cX2_search 84 = .ok (.getfield 54, 3) := by decide +kernel
theorem dX2_search_87 : decode cX2_search 87 = .ok (.iload_n 2, 1) := by decide +kernel
theorem dX2_search_88 : decode cX2_search 88 = .ok (.invokevirtual 47, 3) := by decide +kernel
theorem dX2_search_91 : decode cX2_search 91 = .ok (.iadd, 1) := by decide +kernel
theorem dX2_search_92 : decode cX2_search 92 = .ok (.invokestatic 67, 3) := by decide +kernel
theorem dX2_search_95 : decode cX2_search 95 = .ok (.aload_n 0, 1) := by decide +kernel
theorem dX2_search_96 : decode cX2_search 96 = .ok (.aload_n 1, 1) := by decide +kernel
theorem dX2_search_97 : decode cX2_search 97 = .ok (.iload_n 2, 1) := by decide +kernel
theorem dX2_search_98 : decode cX2_search 98 = .ok (.iconst 1, 1) := by decide +kernel
theorem dX2_search_99 : decode cX2_search 99 = .ok (.iadd, 1) := by decide +kernel
theorem dX2_search_100 : decode cX2_search 100 = .ok (.iload_n 3, 1) := by decide +kernel
theorem dX2_search_101 : decode cX2_search 101 = .ok (.iload 4, 2) := by decide +kernel
theorem dX2_search_103 : decode cX2_search 103 = .ok (.iload 5, 2) := by decide +kernel
theorem dX2_search_105 : decode cX2_search 105 = .ok (.invokestatic 67, 3) := by decide +kernel
theorem dX2_search_108 : decode cX2_search 108 = .ok (.return_, 1) := by decide +kernel
theorem dX4_init_0 : decode cX4_init 0 = .ok (.aload_n 0, 1) := by decide +kernel
theorem dX4_init_1 : decode cX4_init 1 = .ok (.invokespecial 3, 3) := by decide +kernel
theorem dX4_init_4 : decode cX4_init 4 = .ok (.aload_n 0, 1) := by decide +kernel
theorem dX4_init_5 : decode cX4_init 5 = .ok (.bipush 8, 2) := by decide +kernel
theorem dX4_init_7 : decode cX4_init 7 = .ok (.anewarray 9, 3) := by decide +kernel
theorem dX4_init_10 : decode cX4_init 10 = .ok (.putfield 11, 3) := by decide +kernel
theorem dX4_init_13 : decode cX4_init 13 = .ok (.iconst 0, 1) := by decide +kernel
theorem dX4_init_14 : decode cX4_init 14 = .ok (.istore_n 1, 1) := by decide +kernel
theorem dX4_init_15 : decode cX4_init 15 = .ok (.iload_n 1, 1) := by decide +kernel
theorem dX4_init_16 : decode cX4_init 16 = .ok (.aload_n 0, 1) := by decide +kernel
theorem dX4_init_17 : decode cX4_init 17 = .ok (.getfield 11, 3) := by decide +kernel
theorem dX4_init_20 : decode cX4_init 20 = .ok (.arraylength, 1) := by decide +kernel
theorem dX4_init_21 : decode cX4_init 21 = .ok (.if_icmp .ge 22, 3) := by decide +kernel
theorem dX4_init_24 : decode cX4_init 24 = .ok (.aload_n 0, 1) := by decide +kernel
theorem dX4_init_25 : decode cX4_init 25 = .ok (.getfield 11, 3) := by decide +kernel
theorem dX4_init_28 : decode cX4_init 28 = .ok (.iload_n 1, 1) := by decide +kernel
theorem dX4_init_29 : decode cX4_init 29 = .ok (.new 9, 3) := by decide +kernel
theorem dX4_init_32 : decode cX4_init 32 = .ok (.dup, 1) := by decide +kernel
theorem dX4_init_33 : decode cX4_init 33 = .ok (.invokespecial 17, 3) := by decide +kernel
theorem dX4_init_36 : decode cX4_init 36 = .ok (.aastore, 1) := by decide +kernel
theorem dX4_init_37 : decode cX4_init 37 = .ok (.iinc 1 1, 3) := by decide +kernel
theorem dX4_init_40 : decode cX4_init 40 = .ok (.goto (-25), 3) := by decide +kernel
theorem dX4_init_43 : decode cX4_init 43 = .ok (.return_, 1) := by decide +kernel
theorem dX4_count_0 : decode cX4_count 0 = .ok (.aload_n 0, 1) := by decide +kernel
theorem dX4_count_1 : decode cX4_count 1 = .ok (.getfield 18, 3) := by decide +kernel
theorem dX4_count_4 : decode cX4_count 4 = .ok (.ireturn, 1) := by decide +kernel
theorem dX4_record_0 : decode cX4_record 0 = .ok (.aload_n 0, 1) := by decide +kernel
theorem dX4_record_1 : decode cX4_record 1 = .ok (.getfield 11, 3) := by decide +kernel
theorem dX4_record_4 : decode cX4_record 4 = .ok (.aload_n 0, 1) := by decide +kernel
theorem dX4_record_5 : decode cX4_record 5 = .ok (.getfield 22, 3) := by decide +kernel
theorem dX4_record_8 : decode cX4_record 8 = .ok (.aaload, 1) := by decide +kernel
theorem dX4_record_9 : decode cX4_record 9 = .ok (.astore_n 2, 1) := by decide +kernel
theorem dX4_record_10 : decode cX4_record 10 = .ok (.aload_n 2, 1) := by decide +kernel
theorem dX4_record_11 : decode cX4_record 11 = .ok (.ifnull 8, 3) := by decide +kernel
theorem dX4_record_14 : decode cX4_record 14 = .ok (.aload_n 2, 1) := by decide +kernel
theorem dX4_record_15 : decode cX4_record 15 = .ok (.aload_n 1, 1) := by decide +kernel
theorem dX4_record_16 : decode cX4_record 16 = .ok (.invokevirtual 25, 3) := by decide +kernel
theorem dX4_record_19 : decode cX4_record 19 = .ok (.aload_n 0, 1) := by decide +kernel
theorem dX4_record_20 : decode cX4_record 20 = .ok (.aload_n 0, 1) := by decide +kernel
theorem dX4_record_21 : decode cX4_record 21 = .ok (.getfield 22, 3) := by decide +kernel
theorem dX4_record_24 : decode cX4_record 24 = .ok (.iconst 1, 1) := by decide +kernel
theorem dX4_record_25 : decode cX4_record 25 = .ok (.iadd, 1) := by decide +kernel
theorem dX4_record_26 : decode cX4_record 26 = .ok (.aload_n 0, 1) := by decide +kernel
theorem dX4_record_27 : decode cX4_record 27 = .ok (.getfield 11, 3) := by decide +kernel
theorem dX4_record_30 : decode cX4_record 30 = .ok (.arraylength, 1) := by decide +kernel
theorem dX4_record_31 : decode cX4_record 31 = .ok (.if_icmp .ge 12, 3) := by decide +kernel
theorem dX4_record_34 : decode cX4_record 34 = .ok (.aload_n 0, 1) := by decide +kernel
theorem dX4_record_35 : decode cX4_record 35 = .ok (.getfield 22, 3) := by decide +kernel
theorem dX4_record_38 : decode cX4_record 38 = .ok (.iconst 1, 1) := by decide +kernel
theorem dX4_record_39 : decode cX4_record 39 = .ok (.iadd, 1) := by decide +kernel
theorem dX4_record_40 : decode cX4_record 40 = .ok (.goto 4, 3) := by decide +kernel
theorem dX4_record_43 : decode cX4_record 43 = .ok (.iconst 0, 1) := by decide +kernel
theorem dX4_record_44 : decode cX4_record 44 = .ok (.putfield 22, 3) := by decide +kernel
theorem dX4_record_47 : decode cX4_record 47 = .ok (.aload_n 0, 1) := by decide +kernel
theorem dX4_record_48 : decode cX4_record 48 = .ok (.aload_n 0, 1) := by decide +kernel
theorem dX4_record_49 : decode cX4_record 49 = .ok (.getfield 18, 3) := by decide +kernel
theorem dX4_record_52 : decode cX4_record 52 = .ok (.iconst 1, 1) := by decide +kernel
theorem dX4_record_53 : decode cX4_record 53 = .ok (.iadd, 1) := by decide +kernel
theorem dX4_record_54 : decode cX4_record 54 = .ok (.aload_n 0, 1) := by decide +kernel
theorem dX4_record_55 : decode cX4_record 55 = .ok (.getfield 11, 3) := by decide +kernel
theorem dX4_record_58 : decode cX4_record 58 = .ok (.arraylength, 1) := by decide +kernel
theorem dX4_record_59 : decode cX4_record 59 = .ok (.invokestatic 29, 3) := by decide +kernel
theorem dX4_record_62 : decode cX4_record 62 = .ok (.putfield 18, 3) := by decide +kernel
theorem dX4_record_65 : decode cX4_record 65 = .ok (.return_, 1) := by decide +kernel
theorem dX4_takeBack_0 : decode cX4_takeBack 0 = .ok (.aload_n 0, 1) := by decide +kernel
theorem dX4_takeBack_1 : decode cX4_takeBack 1 = .ok (.getfield 18, 3) := by decide +kernel
theorem dX4_takeBack_4 : decode cX4_takeBack 4 = .ok (.ifCond .ne 4, 3) := by decide +kernel
theorem dX4_takeBack_7 : decode cX4_takeBack 7 = .ok (.return_, 1) := by decide +kernel
theorem dX4_takeBack_8 : decode cX4_takeBack 8 = .ok (.aload_n 0, 1) := by decide +kernel
theorem dX4_takeBack_9 : decode cX4_takeBack 9 = .ok (.aload_n 0, 1) := by decide +kernel
theorem dX4_takeBack_10 : decode cX4_takeBack 10 = .ok (.getfield 22, 3) := by decide +kernel
theorem dX4_takeBack_13 : decode cX4_takeBack 13 = .ok (.ifCond .le 12, 3) := by decide +kernel
theorem dX4_takeBack_16 : decode cX4_takeBack 16 = .ok (.aload_n 0, 1) := by decide +kernel
theorem dX4_takeBack_17 : decode cX4_takeBack 17 = .ok (.getfield 22, 3) := by decide +kernel
theorem dX4_takeBack_20 : decode cX4_takeBack 20 = .ok (.iconst 1, 1) := by decide +kernel
theorem dX4_takeBack_21 : decode cX4_takeBack 21 = .ok (.isub, 1) := by decide +kernel
theorem dX4_takeBack_22 : decode cX4_takeBack 22 = .ok (.goto 10, 3) := by decide +kernel
theorem dX4_takeBack_25 : decode cX4_takeBack 25 = .ok (.aload_n 0, 1) := by decide +kernel
theorem dX4_takeBack_26 : decode cX4_takeBack 26 = .ok (.getfield 11, 3) := by decide +kernel
theorem dX4_takeBack_29 : decode cX4_takeBack 29 = .ok (.arraylength, 1) := by decide +kernel
theorem dX4_takeBack_30 : decode cX4_takeBack 30 = .ok (.iconst 1, 1) := by decide +kernel
theorem dX4_takeBack_31 : decode cX4_takeBack 31 = .ok (.isub, 1) := by decide +kernel
theorem dX4_takeBack_32 : decode cX4_takeBack 32 = .ok (.putfield 22, 3) := by decide +kernel
theorem dX4_takeBack_35 : decode cX4_takeBack 35 = .ok (.aload_n 0, 1) := by decide +kernel
theorem dX4_takeBack_36 : decode cX4_takeBack 36 = .ok (.dup, 1) := by decide +kernel
theorem dX4_takeBack_37 : decode cX4_takeBack 37 = .ok (.getfield 18, 3) := by decide +kernel
theorem dX4_takeBack_40 : decode cX4_takeBack 40 = .ok (.iconst 1, 1) := by decide +kernel
theorem dX4_takeBack_41 : decode cX4_takeBack 41 = .ok (.isub, 1) := by decide +kernel
theorem dX4_takeBack_42 : decode cX4_takeBack 42 = .ok (.putfield 18, 3) := by decide +kernel
theorem dX4_takeBack_45 : decode cX4_takeBack 45 = .ok (.aload_n 0, 1) := by decide +kernel
theorem dX4_takeBack_46 : decode cX4_takeBack 46 = .ok (.getfield 11, 3) := by decide +kernel
theorem dX4_takeBack_49 : decode cX4_takeBack 49 = .ok (.aload_n 0, 1) := by decide +kernel
theorem dX4_takeBack_50 : decode cX4_takeBack 50 = .ok (.getfield 22, 3) := by decide +kernel
theorem dX4_takeBack_53 : decode cX4_takeBack 53 = .ok (.aaload, 1) := by decide +kernel
theorem dX4_takeBack_54 : decode cX4_takeBack 54 = .ok (.astore_n 2, 1) := by decide +kernel
theorem dX4_takeBack_55 : decode cX4_takeBack 55 = .ok (.aload_n 2, 1) := by decide +kernel
theorem dX4_takeBack_56 : decode cX4_takeBack 56 = .ok (.ifnull 8, 3) := by decide +kernel
theorem dX4_takeBack_59 : decode cX4_takeBack 59 = .ok (.aload_n 1, 1) := by decide +kernel
theorem dX4_takeBack_60 : decode cX4_takeBack 60 = .ok (.aload_n 2, 1) := by decide +kernel
theorem dX4_takeBack_61 : decode cX4_takeBack 61 = .ok (.invokevirtual 25, 3) := by decide +kernel
theorem dX4_takeBack_64 : decode cX4_takeBack 64 = .ok (.return_, 1) := by decide +kernel
theorem dX4_forget_0 : decode cX4_forget 0 = .ok (.aload_n 0, 1) := by decide +kernel
theorem dX4_forget_1 : decode cX4_forget 1 = .ok (.iconst 0, 1) := by decide +kernel
theorem dX4_forget_2 : decode cX4_forget 2 = .ok (.putfield 18, 3) := by decide +kernel
theorem dX4_forget_5 : decode cX4_forget 5 = .ok (.return_, 1) := by decide +kernel
theorem dX5_init_0 : decode cX5_init 0 = .ok (.aload_n 0, 1) := by decide +kernel
theorem dX5_init_1 : decode cX5_init 1 = .ok (.invokespecial 3, 3) := by decide +kernel
theorem dX5_init_4 : decode cX5_init 4 = .ok (.aload_n 0, 1) := by decide +kernel
theorem dX5_init_5 : decode cX5_init 5 = .ok (.new 9, 3) := by decide +kernel
theorem dX5_init_8 : decode cX5_init 8 = .ok (.dup, 1) := by decide +kernel
theorem dX5_init_9 : decode cX5_init 9 = .ok (.bipush 8, 2) := by decide +kernel
theorem dX5_init_11 : decode cX5_init 11 = .ok (.invokespecial 11, 3) := by decide +kernel
theorem dX5_init_14 : decode cX5_init 14 = .ok (.putfield 14, 3) := by decide +kernel
theorem dX5_init_17 : decode cX5_init 17 = .ok (.aload_n 0, 1) := by decide +kernel
theorem dX5_init_18 : decode cX5_init 18 = .ok (.new 9, 3) := by decide +kernel
theorem dX5_init_21 : decode cX5_init 21 = .ok (.dup, 1) := by decide +kernel
theorem dX5_init_22 : decode cX5_init 22 = .ok (.bipush 8, 2) := by decide +kernel
theorem dX5_init_24 : decode cX5_init 24 = .ok (.invokespecial 11, 3) := by decide +kernel
theorem dX5_init_27 : decode cX5_init 27 = .ok (.putfield 20, 3) := by decide +kernel
theorem dX5_init_30 : decode cX5_init 30 = .ok (.aload_n 0, 1) := by decide +kernel
theorem dX5_init_31 : decode cX5_init 31 = .ok (.new 9, 3) := by decide +kernel
theorem dX5_init_34 : decode cX5_init 34 = .ok (.dup, 1) := by decide +kernel
theorem dX5_init_35 : decode cX5_init 35 = .ok (.bipush 8, 2) := by decide +kernel
theorem dX5_init_37 : decode cX5_init 37 = .ok (.invokespecial 11, 3) := by decide +kernel
theorem dX5_init_40 : decode cX5_init 40 = .ok (.putfield 23, 3) := by decide +kernel
theorem dX5_init_43 : decode cX5_init 43 = .ok (.aload_n 0, 1) := by decide +kernel
theorem dX5_init_44 : decode cX5_init 44 = .ok (.new 9, 3) := by decide +kernel
theorem dX5_init_47 : decode cX5_init 47 = .ok (.dup, 1) := by decide +kernel
theorem dX5_init_48 : decode cX5_init 48 = .ok (.bipush 8, 2) := by decide +kernel
theorem dX5_init_50 : decode cX5_init 50 = .ok (.invokespecial 11, 3) := by decide +kernel
theorem dX5_init_53 : decode cX5_init 53 = .ok (.putfield 26, 3) := by decide +kernel
theorem dX5_init_56 : decode cX5_init 56 = .ok (.return_, 1) := by decide +kernel
theorem dX5_refusalOfOpening_0 : decode cX5_refusalOfOpening 0 = .ok (.iload_n 1, 1) := by decide +kernel
theorem dX5_refusalOfOpening_1 : decode cX5_refusalOfOpening 1 = .ok (.iconst 1, 1) := by decide +kernel
theorem dX5_refusalOfOpening_2 : decode cX5_refusalOfOpening 2 = .ok (.bipush 40, 2) := by decide +kernel
theorem dX5_refusalOfOpening_4 : decode cX5_refusalOfOpening 4 = .ok (.invokestatic 29, 3) := by decide +kernel
theorem dX5_refusalOfOpening_7 : decode cX5_refusalOfOpening 7 = .ok (.ifCond .eq 13, 3) := by decide +kernel
theorem dX5_refusalOfOpening_10 : decode cX5_refusalOfOpening 10 = .ok (.iload_n 2, 1) := by decide +kernel
theorem dX5_refusalOfOpening_11 : decode cX5_refusalOfOpening 11 = .ok (.iconst 1, 1) := by decide +kernel
theorem dX5_refusalOfOpening_12 : decode cX5_refusalOfOpening 12 = .ok (.bipush 9, 2) := by decide +kernel
theorem dX5_refusalOfOpening_14 : decode cX5_refusalOfOpening 14 = .ok (.invokestatic 29, 3) := by decide +kernel
theorem dX5_refusalOfOpening_17 : decode cX5_refusalOfOpening 17 = .ok (.ifCond .ne 7, 3) := by decide +kernel
theorem dX5_refusalOfOpening_20 : decode cX5_refusalOfOpening 20 = .ok (.getstatic 33, 3) := by decide +kernel
theorem dX5_refusalOfOpening_23 : decode cX5_refusalOfOpening 23 = .ok (.areturn, 1) := by decide +kernel
theorem dX5_refusalOfOpening_24 : decode cX5_refusalOfOpening 24 = .ok (.aload_n 0, 1) := by decide +kernel
theorem dX5_refusalOfOpening_25 : decode cX5_refusalOfOpening 25 = .ok (.getfield 14, 3) := by decide +kernel
theorem dX5_refusalOfOpening_28 : decode cX5_refusalOfOpening 28 = .ok (.invokevirtual 39, 3) := by decide +kernel
theorem dX5_refusalOfOpening_31 : decode cX5_refusalOfOpening 31 = .ok (.ifCond .eq 9, 3) := by decide +kernel
theorem dX5_refusalOfOpening_34 : decode cX5_refusalOfOpening 34 = .ok (.getstatic 43, 3) := by decide +kernel
theorem dX5_refusalOfOpening_37 : decode cX5_refusalOfOpening 37 = .ok (.goto 6, 3) := by decide +kernel
theorem dX5_refusalOfOpening_40 : decode cX5_refusalOfOpening 40 = .ok (.getstatic 46, 3) := by decide +kernel
theorem dX5_refusalOfOpening_43 : decode cX5_refusalOfOpening 43 = .ok (.areturn, 1) := by decide +kernel
theorem dX5_open_0 : decode cX5_open 0 = .ok (.aload_n 0, 1) := by decide +kernel
theorem dX5_open_1 : decode cX5_open 1 = .ok (.getfield 49, 3) := by decide +kernel
theorem dX5_open_4 : decode cX5_open 4 = .ok (.istore_n 3, 1) := by decide +kernel
theorem dX5_open_5 : decode cX5_open 5 = .ok (.aload_n 0, 1) := by decide +kernel
theorem dX5_open_6 : decode cX5_open 6 = .ok (.dup, 1) := by decide +kernel
theorem dX5_open_7 : decode cX5_open 7 = .ok (.getfield 49, 3) := by decide +kernel
theorem dX5_open_10 : decode cX5_open 10 = .ok (.iconst 1, 1) := by decide +kernel
theorem dX5_open_11 : decode cX5_open 11 = .ok (.iadd, 1) := by decide +kernel
theorem dX5_open_12 : decode cX5_open 12 = .ok (.putfield 49, 3) := by decide +kernel
theorem dX5_open_15 : decode cX5_open 15 = .ok (.aload_n 0, 1) := by decide +kernel
theorem dX5_open_16 : decode cX5_open 16 = .ok (.getfield 14, 3) := by decide +kernel
theorem dX5_open_19 : decode cX5_open 19 = .ok (.iload_n 3, 1) := by decide +kernel
theorem dX5_open_20 : decode cX5_open 20 = .ok (.invokevirtual 53, 3) := by decide +kernel
theorem dX5_open_23 : decode cX5_open 23 = .ok (.aload_n 0, 1) := by decide +kernel
theorem dX5_open_24 : decode cX5_open 24 = .ok (.getfield 20, 3) := by decide +kernel
theorem dX5_open_27 : decode cX5_open 27 = .ok (.iload_n 1, 1) := by decide +kernel
theorem dX5_open_28 : decode cX5_open 28 = .ok (.invokevirtual 53, 3) := by decide +kernel
theorem dX5_open_31 : decode cX5_open 31 = .ok (.aload_n 0, 1) := by decide +kernel
theorem dX5_open_32 : decode cX5_open 32 = .ok (.getfield 23, 3) := by decide +kernel
theorem dX5_open_35 : decode cX5_open 35 = .ok (.iload_n 2, 1) := by decide +kernel
theorem dX5_open_36 : decode cX5_open 36 = .ok (.invokevirtual 53, 3) := by decide +kernel
theorem dX5_open_39 : decode cX5_open 39 = .ok (.aload_n 0, 1) := by decide +kernel
theorem dX5_open_40 : decode cX5_open 40 = .ok (.getfield 26, 3) := by decide +kernel
theorem dX5_open_43 : decode cX5_open 43 = .ok (.iload_n 1, 1) := by decide +kernel
theorem dX5_open_44 : decode cX5_open 44 = .ok (.iload_n 2, 1) := by decide +kernel
theorem dX5_open_45 : decode cX5_open 45 = .ok (.imul, 1) := by decide +kernel
theorem dX5_open_46 : decode cX5_open 46 = .ok (.invokevirtual 53, 3) := by decide +kernel
theorem dX5_open_49 : decode cX5_open 49 = .ok (.iload_n 3, 1) := by decide +kernel
theorem dX5_open_50 : decode cX5_open 50 = .ok (.ireturn, 1) := by decide +kernel
theorem dX5_close_0 : decode cX5_close 0 = .ok (.aload_n 0, 1) := by decide +kernel
theorem dX5_close_1 : decode cX5_close 1 = .ok (.getfield 14, 3) := by decide +kernel
theorem dX5_close_4 : decode cX5_close 4 = .ok (.iload_n 1, 1) := by decide +kernel
theorem dX5_close_5 : decode cX5_close 5 = .ok (.invokevirtual 56, 3) := by decide +kernel
theorem dX5_close_8 : decode cX5_close 8 = .ok (.aload_n 0, 1) := by decide +kernel
theorem dX5_close_9 : decode cX5_close 9 = .ok (.getfield 20, 3) := by decide +kernel
theorem dX5_close_12 : decode cX5_close 12 = .ok (.iload_n 1, 1) := by decide +kernel
theorem dX5_close_13 : decode cX5_close 13 = .ok (.invokevirtual 56, 3) := by decide +kernel
theorem dX5_close_16 : decode cX5_close 16 = .ok (.aload_n 0, 1) := by decide +kernel
theorem dX5_close_17 : decode cX5_close 17 = .ok (.getfield 23, 3) := by decide +kernel
theorem dX5_close_20 : decode cX5_close 20 = .ok (.iload_n 1, 1) := by decide +kernel
theorem dX5_close_21 : decode cX5_close 21 = .ok (.invokevirtual 56, 3) := by decide +kernel
theorem dX5_close_24 : decode cX5_close 24 = .ok (.aload_n 0, 1) := by decide +kernel
theorem dX5_close_25 : decode cX5_close 25 = .ok (.getfield 26, 3) := by decide +kernel
theorem dX5_close_28 : decode cX5_close 28 = .ok (.iload_n 1, 1) := by decide +kernel
theorem dX5_close_29 : decode cX5_close 29 = .ok (.invokevirtual 56, 3) := by decide +kernel
theorem dX5_close_32 : decode cX5_close 32 = .ok (.aload_n 0, 1) := by decide +kernel
theorem dX5_close_33 : decode cX5_close 33 = .ok (.getfield 14, 3) := by decide +kernel
theorem dX5_close_36 : decode cX5_close 36 = .ok (.invokevirtual 59, 3) := by decide +kernel
theorem dX5_close_39 : decode cX5_close 39 = .ok (.ireturn, 1) := by decide +kernel
theorem dX5_breakAt_0 : decode cX5_breakAt 0 = .ok (.iconst 3, 1) := by decide +kernel
theorem dX5_breakAt_1 : decode cX5_breakAt 1 = .ok (.aload_n 0, 1) := by decide +kernel
theorem dX5_breakAt_2 : decode cX5_breakAt 2 = .ok (.getfield 23, 3) := by decide +kernel
theorem dX5_breakAt_5 : decode cX5_breakAt 5 = .ok (.iload_n 1, 1) := by decide +kernel
theorem dX5_breakAt_6 : decode cX5_breakAt 6 = .ok (.invokevirtual 63, 3) := by decide +kernel
theorem dX5_breakAt_9 : decode cX5_breakAt 9 = .ok (.iadd, 1) := by decide +kernel
theorem dX5_breakAt_10 : decode cX5_breakAt 10 = .ok (.ireturn, 1) := by decide +kernel
theorem dX5_piecesAt_0 : decode cX5_piecesAt 0 = .ok (.aload_n 0, 1) := by decide +kernel
theorem dX5_piecesAt_1 : decode cX5_piecesAt 1 = .ok (.iload_n 1, 1) := by decide +kernel
theorem dX5_piecesAt_2 : decode cX5_piecesAt 2 = .ok (.invokevirtual 67, 3) := by decide +kernel
theorem dX5_piecesAt_5 : decode cX5_piecesAt 5 = .ok (.istore_n 2, 1) := by decide +kernel
theorem dX5_piecesAt_6 : decode cX5_piecesAt 6 = .ok (.iload_n 2, 1) := by decide +kernel
theorem dX5_piecesAt_7 : decode cX5_piecesAt 7 = .ok (.iconst 1, 1) := by decide +kernel
theorem dX5_piecesAt_8 : decode cX5_piecesAt 8 = .ok (.if_icmp .ge 7, 3) := by decide +kernel
theorem dX5_piecesAt_11 : decode cX5_piecesAt 11 = .ok (.iconst 0, 1) := by decide +kernel
theorem dX5_piecesAt_12 : decode cX5_piecesAt 12 = .ok (.goto 17, 3) := by decide +kernel
theorem dX5_piecesAt_15 : decode cX5_piecesAt 15 = .ok (.aload_n 0, 1) := by decide +kernel
theorem dX5_piecesAt_16 : decode cX5_piecesAt 16 = .ok (.getfield 20, 3) := by decide +kernel
theorem dX5_piecesAt_19 : decode cX5_piecesAt 19 = .ok (.iload_n 1, 1) := by decide +kernel
theorem dX5_piecesAt_20 : decode cX5_piecesAt 20 = .ok (.invokevirtual 63, 3) := by decide +kernel
theorem dX5_piecesAt_23 : decode cX5_piecesAt 23 = .ok (.iload_n 2, 1) := by decide +kernel
theorem dX5_piecesAt_24 : decode cX5_piecesAt 24 = .ok (.iadd, 1) := by decide +kernel
theorem dX5_piecesAt_25 : decode cX5_piecesAt 25 = .ok (.iconst 1, 1) := by decide +kernel
theorem dX5_piecesAt_26 : decode cX5_piecesAt 26 = .ok (.isub, 1) := by decide +kernel
theorem dX5_piecesAt_27 : decode cX5_piecesAt 27 = .ok (.iload_n 2, 1) := by decide +kernel
theorem dX5_piecesAt_28 : decode cX5_piecesAt 28 = .ok (.idiv, 1) := by decide +kernel
theorem dX5_piecesAt_29 : decode cX5_piecesAt 29 = .ok (.ireturn, 1) := by decide +kernel
theorem dX5_countKinds_0 : decode cX5_countKinds 0 = .ok (.iconst 0, 1) := by decide +kernel
theorem dX5_countKinds_1 : decode cX5_countKinds 1 = .ok (.istore_n 1, 1) := by decide +kernel
theorem dX5_countKinds_2 : decode cX5_countKinds 2 = .ok (.iconst 0, 1) := by decide +kernel
theorem dX5_countKinds_3 : decode cX5_countKinds 3 = .ok (.istore_n 2, 1) := by decide +kernel
theorem dX5_countKinds_4 : decode cX5_countKinds 4 = .ok (.iload_n 2, 1) := by decide +kernel
theorem dX5_countKinds_5 : decode cX5_countKinds 5 = .ok (.aload_n 0, 1) := by decide +kernel
theorem dX5_countKinds_6 : decode cX5_countKinds 6 = .ok (.getfield 14, 3) := by decide +kernel
theorem dX5_countKinds_9 : decode cX5_countKinds 9 = .ok (.invokevirtual 59, 3) := by decide +kernel
theorem dX5_countKinds_12 : decode cX5_countKinds 12 = .ok (.if_icmp .ge 20, 3) := by decide +kernel
theorem dX5_countKinds_15 : decode cX5_countKinds 15 = .ok (.aload_n 0, 1) := by decide +kernel
theorem dX5_countKinds_16 : decode cX5_countKinds 16 = .ok (.iload_n 2, 1) := by decide +kernel
theorem dX5_countKinds_17 : decode cX5_countKinds 17 = .ok (.invokevirtual 70, 3) := by decide +kernel
theorem dX5_countKinds_20 : decode cX5_countKinds 20 = .ok (.ifCond .eq 6, 3) := by decide +kernel
theorem dX5_countKinds_23 : decode cX5_countKinds 23 = .ok (.iinc 1 1, 3) := by decide +kernel
theorem dX5_countKinds_26 : decode cX5_countKinds 26 = .ok (.iinc 2 1, 3) := by decide +kernel
theorem dX5_countKinds_29 : decode cX5_countKinds 29 = .ok (.goto (-25), 3) := by decide +kernel
theorem dX5_countKinds_32 : decode cX5_countKinds 32 = .ok (.iload_n 1, 1) := by decide +kernel
theorem dX5_countKinds_33 : decode cX5_countKinds 33 = .ok (.ireturn, 1) := by decide +kernel
theorem dX5_isFirstOfKind_0 : decode cX5_isFirstOfKind 0 = .ok (.iconst 0, 1) := by decide +kernel
theorem dX5_isFirstOfKind_1 : decode cX5_isFirstOfKind 1 = .ok (.istore_n 2, 1) := by decide +kernel
theorem dX5_isFirstOfKind_2 : decode cX5_isFirstOfKind 2 = .ok (.iload_n 2, 1) := by decide +kernel
theorem dX5_isFirstOfKind_3 : decode cX5_isFirstOfKind 3 = .ok (.iload_n 1, 1) := by decide +kernel
theorem dX5_isFirstOfKind_4 : decode cX5_isFirstOfKind 4 = .ok (.if_icmp .ge 49, 3) := by decide +kernel
theorem dX5_isFirstOfKind_7 : decode cX5_isFirstOfKind 7 = .ok (.aload_n 0, 1) := by decide +kernel
theorem dX5_isFirstOfKind_8 : decode cX5_isFirstOfKind 8 = .ok (.getfield 20, 3) := by decide +kernel
theorem dX5_isFirstOfKind_11 : decode cX5_isFirstOfKind 11 = .ok (.iload_n 2, 1) := by decide +kernel
theorem dX5_isFirstOfKind_12 : decode cX5_isFirstOfKind 12 = .ok (.invokevirtual 63, 3) := by decide +kernel
theorem dX5_isFirstOfKind_15 : decode cX5_isFirstOfKind 15 = .ok (.aload_n 0, 1) := by decide +kernel
theorem dX5_isFirstOfKind_16 : decode cX5_isFirstOfKind 16 = .ok (.getfield 20, 3) := by decide +kernel
theorem dX5_isFirstOfKind_19 : decode cX5_isFirstOfKind 19 = .ok (.iload_n 1, 1) := by decide +kernel
theorem dX5_isFirstOfKind_20 : decode cX5_isFirstOfKind 20 = .ok (.invokevirtual 63, 3) := by decide +kernel
theorem dX5_isFirstOfKind_23 : decode cX5_isFirstOfKind 23 = .ok (.if_icmp .ne 24, 3) := by decide +kernel
theorem dX5_isFirstOfKind_26 : decode cX5_isFirstOfKind 26 = .ok (.aload_n 0, 1) := by decide +kernel
theorem dX5_isFirstOfKind_27 : decode cX5_isFirstOfKind 27 = .ok (.getfield 23, 3) := by decide +kernel
theorem dX5_isFirstOfKind_30 : decode cX5_isFirstOfKind 30 = .ok (.iload_n 2, 1) := by decide +kernel
theorem dX5_isFirstOfKind_31 : decode cX5_isFirstOfKind 31 = .ok (.invokevirtual 63, 3) := by decide +kernel
theorem dX5_isFirstOfKind_34 : decode cX5_isFirstOfKind 34 = .ok (.aload_n 0, 1) := by decide +kernel
theorem dX5_isFirstOfKind_35 : decode cX5_isFirstOfKind 35 = .ok (.getfield 23, 3) := by decide +kernel
theorem dX5_isFirstOfKind_38 : decode cX5_isFirstOfKind 38 = .ok (.iload_n 1, 1) := by decide +kernel
theorem dX5_isFirstOfKind_39 : decode cX5_isFirstOfKind 39 = .ok (.invokevirtual 63, 3) := by decide +kernel
theorem dX5_isFirstOfKind_42 : decode cX5_isFirstOfKind 42 = .ok (.if_icmp .ne 5, 3) := by decide +kernel
theorem dX5_isFirstOfKind_45 : decode cX5_isFirstOfKind 45 = .ok (.iconst 0, 1) := by decide +kernel
theorem dX5_isFirstOfKind_46 : decode cX5_isFirstOfKind 46 = .ok (.ireturn, 1) := by decide +kernel
theorem dX5_isFirstOfKind_47 : decode cX5_isFirstOfKind 47 = .ok (.iinc 2 1, 3) := by decide +kernel
theorem dX5_isFirstOfKind_50 : decode cX5_isFirstOfKind 50 = .ok (.goto (-48), 3) := by decide +kernel
theorem dX5_isFirstOfKind_53 : decode cX5_isFirstOfKind 53 = .ok (.iconst 1, 1) := by decide +kernel
theorem dX5_isFirstOfKind_54 : decode cX5_isFirstOfKind 54 = .ok (.ireturn, 1) := by decide +kernel
theorem dX5_putKeys_0 : decode cX5_putKeys 0 = .ok (.aload_n 1, 1) := by decide +kernel
theorem dX5_putKeys_1 : decode cX5_putKeys 1 = .ok (.invokevirtual 74, 3) := by decide +kernel
theorem dX5_putKeys_4 : decode cX5_putKeys 4 = .ok (.iconst 0, 1) := by decide +kernel
theorem dX5_putKeys_5 : decode cX5_putKeys 5 = .ok (.istore_n 2, 1) := by decide +kernel
theorem dX5_putKeys_6 : decode cX5_putKeys 6 = .ok (.iload_n 2, 1) := by decide +kernel
theorem dX5_putKeys_7 : decode cX5_putKeys 7 = .ok (.aload_n 0, 1) := by decide +kernel
theorem dX5_putKeys_8 : decode cX5_putKeys 8 = .ok (.getfield 14, 3) := by decide +kernel
theorem dX5_putKeys_11 : decode cX5_putKeys 11 = .ok (.invokevirtual 59, 3) := by decide +kernel
theorem dX5_putKeys_14 : decode cX5_putKeys 14 = .ok (.if_icmp .ge 22, 3) := by decide +kernel
theorem dX5_putKeys_17 : decode cX5_putKeys 17 = .ok (.aload_n 1, 1) := by decide +kernel
theorem dX5_putKeys_18 : decode cX5_putKeys 18 = .ok (.aload_n 0, 1) := by decide +kernel
theorem dX5_putKeys_19 : decode cX5_putKeys 19 = .ok (.getfield 26, 3) := by decide +kernel
theorem dX5_putKeys_22 : decode cX5_putKeys 22 = .ok (.iload_n 2, 1) := by decide +kernel
theorem dX5_putKeys_23 : decode cX5_putKeys 23 = .ok (.invokevirtual 63, 3) := by decide +kernel
theorem dX5_putKeys_26 : decode cX5_putKeys 26 = .ok (.ineg, 1) := by decide +kernel
theorem dX5_putKeys_27 : decode cX5_putKeys 27 = .ok (.invokevirtual 53, 3) := by decide +kernel
theorem dX5_putKeys_30 : decode cX5_putKeys 30 = .ok (.iinc 2 1, 3) := by decide +kernel
theorem dX5_putKeys_33 : decode cX5_putKeys 33 = .ok (.goto (-27), 3) := by decide +kernel
theorem dX5_putKeys_36 : decode cX5_putKeys 36 = .ok (.return_, 1) := by decide +kernel
theorem dX5_copyFrom_0 : decode cX5_copyFrom 0 = .ok (.aload_n 0, 1) := by decide +kernel
theorem dX5_copyFrom_1 : decode cX5_copyFrom 1 = .ok (.getfield 14, 3) := by decide +kernel
theorem dX5_copyFrom_4 : decode cX5_copyFrom 4 = .ok (.aload_n 1, 1) := by decide +kernel
theorem dX5_copyFrom_5 : decode cX5_copyFrom 5 = .ok (.getfield 14, 3) := by decide +kernel
theorem dX5_copyFrom_8 : decode cX5_copyFrom 8 = .ok (.invokevirtual 77, 3) := by decide +kernel
theorem dX5_copyFrom_11 : decode cX5_copyFrom 11 = .ok (.aload_n 0, 1) := by decide +kernel
theorem dX5_copyFrom_12 : decode cX5_copyFrom 12 = .ok (.getfield 20, 3) := by decide +kernel
theorem dX5_copyFrom_15 : decode cX5_copyFrom 15 = .ok (.aload_n 1, 1) := by decide +kernel
theorem dX5_copyFrom_16 : decode cX5_copyFrom 16 = .ok (.getfield 20, 3) := by decide +kernel
theorem dX5_copyFrom_19 : decode cX5_copyFrom 19 = .ok (.invokevirtual 77, 3) := by decide +kernel
theorem dX5_copyFrom_22 : decode cX5_copyFrom 22 = .ok (.aload_n 0, 1) := by decide +kernel
theorem dX5_copyFrom_23 : decode cX5_copyFrom 23 = .ok (.getfield 23, 3) := by decide +kernel
theorem dX5_copyFrom_26 : decode cX5_copyFrom 26 = .ok (.aload_n 1, 1) := by decide +kernel
theorem dX5_copyFrom_27 : decode cX5_copyFrom 27 = .ok (.getfield 23, 3) := by decide +kernel
theorem dX5_copyFrom_30 : decode cX5_copyFrom 30 = .ok (.invokevirtual 77, 3) := by decide +kernel
theorem dX5_copyFrom_33 : decode cX5_copyFrom 33 = .ok (.aload_n 0, 1) := by decide +kernel
theorem dX5_copyFrom_34 : decode cX5_copyFrom 34 = .ok (.getfield 26, 3) := by decide +kernel
theorem dX5_copyFrom_37 : decode cX5_copyFrom 37 = .ok (.aload_n 1, 1) := by decide +kernel
theorem dX5_copyFrom_38 : decode cX5_copyFrom 38 = .ok (.getfield 26, 3) := by decide +kernel
theorem dX5_copyFrom_41 : decode cX5_copyFrom 41 = .ok (.invokevirtual 77, 3) := by decide +kernel
theorem dX5_copyFrom_44 : decode cX5_copyFrom 44 = .ok (.aload_n 0, 1) := by decide +kernel
theorem dX5_copyFrom_45 : decode cX5_copyFrom 45 = .ok (.aload_n 1, 1) := by decide +kernel
theorem dX5_copyFrom_46 : decode cX5_copyFrom 46 = .ok (.getfield 49, 3) := by decide +kernel
theorem dX5_copyFrom_49 : decode cX5_copyFrom 49 = .ok (.putfield 49, 3) := by decide +kernel
theorem dX5_copyFrom_52 : decode cX5_copyFrom 52 = .ok (.return_, 1) := by decide +kernel
theorem dX7_init_0 : decode cX7_init 0 = .ok (.aload_n 0, 1) := by decide +kernel
theorem dX7_init_1 : decode cX7_init 1 = .ok (.invokespecial 3, 3) := by decide +kernel
theorem dX7_init_4 : decode cX7_init 4 = .ok (.aload_n 0, 1) := by decide +kernel
theorem dX7_init_5 : decode cX7_init 5 = .ok (.iload_n 1, 1) := by decide +kernel
theorem dX7_init_6 : decode cX7_init 6 = .ok (.iconst 0, 1) := by decide +kernel
theorem dX7_init_7 : decode cX7_init 7 = .ok (.invokestatic 9, 3) := by decide +kernel
theorem dX7_init_10 : decode cX7_init 10 = .ok (.newarray .int, 2) := by decide +kernel
theorem dX7_init_12 : decode cX7_init 12 = .ok (.putfield 15, 3) := by decide +kernel
theorem dX7_init_15 : decode cX7_init 15 = .ok (.return_, 1) := by decide +kernel
theorem dX7_size_0 : decode cX7_size 0 = .ok (.aload_n 0, 1) := by decide +kernel
theorem dX7_size_1 : decode cX7_size 1 = .ok (.getfield 21, 3) := by decide +kernel
theorem dX7_size_4 : decode cX7_size 4 = .ok (.ireturn, 1) := by decide +kernel
theorem dX7_isFull_0 : decode cX7_isFull 0 = .ok (.aload_n 0, 1) := by decide +kernel
theorem dX7_isFull_1 : decode cX7_isFull 1 = .ok (.getfield 21, 3) := by decide +kernel
theorem dX7_isFull_4 : decode cX7_isFull 4 = .ok (.aload_n 0, 1) := by decide +kernel
theorem dX7_isFull_5 : decode cX7_isFull 5 = .ok (.getfield 15, 3) := by decide +kernel
theorem dX7_isFull_8 : decode cX7_isFull 8 = .ok (.arraylength, 1) := by decide +kernel
theorem dX7_isFull_9 : decode cX7_isFull 9 = .ok (.if_icmp .lt 7, 3) := by decide +kernel
theorem dX7_isFull_12 : decode cX7_isFull 12 = .ok (.iconst 1, 1) := by decide +kernel
theorem dX7_isFull_13 : decode cX7_isFull 13 = .ok (.goto 4, 3) := by decide +kernel
theorem dX7_isFull_16 : decode cX7_isFull 16 = .ok (.iconst 0, 1) := by decide +kernel
theorem dX7_isFull_17 : decode cX7_isFull 17 = .ok (.ireturn, 1) := by decide +kernel
theorem dX7_has_0 : decode cX7_has 0 = .ok (.iload_n 1, 1) := by decide +kernel
theorem dX7_has_1 : decode cX7_has 1 = .ok (.ifCond .lt 15, 3) := by decide +kernel
theorem dX7_has_4 : decode cX7_has 4 = .ok (.iload_n 1, 1) := by decide +kernel
theorem dX7_has_5 : decode cX7_has 5 = .ok (.aload_n 0, 1) := by decide +kernel
theorem dX7_has_6 : decode cX7_has 6 = .ok (.getfield 21, 3) := by decide +kernel
theorem dX7_has_9 : decode cX7_has 9 = .ok (.if_icmp .ge 7, 3) := by decide +kernel
theorem dX7_has_12 : decode cX7_has 12 = .ok (.iconst 1, 1) := by decide +kernel
theorem dX7_has_13 : decode cX7_has 13 = .ok (.goto 4, 3) := by decide +kernel
theorem dX7_has_16 : decode cX7_has 16 = .ok (.iconst 0, 1) := by decide +kernel
theorem dX7_has_17 : decode cX7_has 17 = .ok (.ireturn, 1) := by decide +kernel
theorem dX7_hasPair_0 : decode cX7_hasPair 0 = .ok (.iload_n 1, 1) := by decide +kernel
theorem dX7_hasPair_1 : decode cX7_hasPair 1 = .ok (.ifCond .lt 17, 3) := by decide +kernel
theorem dX7_hasPair_4 : decode cX7_hasPair 4 = .ok (.iload_n 1, 1) := by decide +kernel
theorem dX7_hasPair_5 : decode cX7_hasPair 5 = .ok (.aload_n 0, 1) := by decide +kernel
theorem dX7_hasPair_6 : decode cX7_hasPair 6 = .ok (.getfield 21, 3) := by decide +kernel
theorem dX7_hasPair_9 : decode cX7_hasPair 9 = .ok (.iconst 1, 1) := by decide +kernel
theorem dX7_hasPair_10 : decode cX7_hasPair 10 = .ok (.isub, 1) := by decide +kernel
theorem dX7_hasPair_11 : decode cX7_hasPair 11 = .ok (.if_icmp .ge 7, 3) := by decide +kernel
theorem dX7_hasPair_14 : decode cX7_hasPair 14 = .ok (.iconst 1, 1) := by decide +kernel
theorem dX7_hasPair_15 : decode cX7_hasPair 15 = .ok (.goto 4, 3) := by decide +kernel
theorem dX7_hasPair_18 : decode cX7_hasPair 18 = .ok (.iconst 0, 1) := by decide +kernel
theorem dX7_hasPair_19 : decode cX7_hasPair 19 = .ok (.ireturn, 1) := by decide +kernel
theorem dX7_get_0 : decode cX7_get 0 = .ok (.iload_n 1, 1) := by decide +kernel
theorem dX7_get_1 : decode cX7_get 1 = .ok (.ifCond .lt 20, 3) := by decide +kernel
theorem dX7_get_4 : decode cX7_get 4 = .ok (.iload_n 1, 1) := by decide +kernel
theorem dX7_get_5 : decode cX7_get 5 = .ok (.aload_n 0, 1) := by decide +kernel
theorem dX7_get_6 : decode cX7_get 6 = .ok (.getfield 21, 3) := by decide +kernel
theorem dX7_get_9 : decode cX7_get 9 = .ok (.if_icmp .ge 12, 3) := by decide +kernel
theorem dX7_get_12 : decode cX7_get 12 = .ok (.aload_n 0, 1) := by decide +kernel
theorem dX7_get_13 : decode cX7_get 13 = .ok (.getfield 15, 3) := by decide +kernel
theorem dX7_get_16 : decode cX7_get 16 = .ok (.iload_n 1, 1) := by decide +kernel
theorem dX7_get_17 : decode cX7_get 17 = .ok (.iaload, 1) := by decide +kernel
theorem dX7_get_18 : decode cX7_get 18 = .ok (.goto 4, 3) := by decide +kernel
theorem dX7_get_21 : decode cX7_get 21 = .ok (.iconst 0, 1) := by decide +kernel
theorem dX7_get_22 : decode cX7_get 22 = .ok (.ireturn, 1) := by decide +kernel
theorem dX7_put_0 : decode cX7_put 0 = .ok (.iload_n 1, 1) := by decide +kernel
theorem dX7_put_1 : decode cX7_put 1 = .ok (.ifCond .lt 18, 3) := by decide +kernel
theorem dX7_put_4 : decode cX7_put 4 = .ok (.iload_n 1, 1) := by decide +kernel
theorem dX7_put_5 : decode cX7_put 5 = .ok (.aload_n 0, 1) := by decide +kernel
theorem dX7_put_6 : decode cX7_put 6 = .ok (.getfield 21, 3) := by decide +kernel
theorem dX7_put_9 : decode cX7_put 9 = .ok (.if_icmp .ge 10, 3) := by decide +kernel
theorem dX7_put_12 : decode cX7_put 12 = .ok (.aload_n 0, 1) := by decide +kernel
theorem dX7_put_13 : decode cX7_put 13 = .ok (.getfield 15, 3) := by decide +kernel
theorem dX7_put_16 : decode cX7_put 16 = .ok (.iload_n 1, 1) := by decide +kernel
theorem dX7_put_17 : decode cX7_put 17 = .ok (.iload_n 2, 1) := by decide +kernel
theorem dX7_put_18 : decode cX7_put 18 = .ok (.iastore, 1) := by decide +kernel
theorem dX7_put_19 : decode cX7_put 19 = .ok (.return_, 1) := by decide +kernel
theorem dX7_add_0 : decode cX7_add 0 = .ok (.aload_n 0, 1) := by decide +kernel
theorem dX7_add_1 : decode cX7_add 1 = .ok (.getfield 21, 3) := by decide +kernel
theorem dX7_add_4 : decode cX7_add 4 = .ok (.aload_n 0, 1) := by decide +kernel
theorem dX7_add_5 : decode cX7_add 5 = .ok (.getfield 15, 3) := by decide +kernel
theorem dX7_add_8 : decode cX7_add 8 = .ok (.arraylength, 1) := by decide +kernel
theorem dX7_add_9 : decode cX7_add 9 = .ok (.if_icmp .ge 23, 3) := by decide +kernel
theorem dX7_add_12 : decode cX7_add 12 = .ok (.aload_n 0, 1) := by decide +kernel
theorem dX7_add_13 : decode cX7_add 13 = .ok (.getfield 15, 3) := by decide +kernel
theorem dX7_add_16 : decode cX7_add 16 = .ok (.aload_n 0, 1) := by decide +kernel
theorem dX7_add_17 : decode cX7_add 17 = .ok (.getfield 21, 3) := by decide +kernel
theorem dX7_add_20 : decode cX7_add 20 = .ok (.iload_n 1, 1) := by decide +kernel
theorem dX7_add_21 : decode cX7_add 21 = .ok (.iastore, 1) := by decide +kernel
theorem dX7_add_22 : decode cX7_add 22 = .ok (.aload_n 0, 1) := by decide +kernel
theorem dX7_add_23 : decode cX7_add 23 = .ok (.dup, 1) := by decide +kernel
theorem dX7_add_24 : decode cX7_add 24 = .ok (.getfield 21, 3) := by decide +kernel
theorem dX7_add_27 : decode cX7_add 27 = .ok (.iconst 1, 1) := by decide +kernel
theorem dX7_add_28 : decode cX7_add 28 = .ok (.iadd, 1) := by decide +kernel
theorem dX7_add_29 : decode cX7_add 29 = .ok (.putfield 21, 3) := by decide +kernel
theorem dX7_add_32 : decode cX7_add 32 = .ok (.return_, 1) := by decide +kernel
theorem dX7_removeAt_0 : decode cX7_removeAt 0 = .ok (.iload_n 1, 1) := by decide +kernel
theorem dX7_removeAt_1 : decode cX7_removeAt 1 = .ok (.ifCond .lt 11, 3) := by decide +kernel
theorem dX7_removeAt_4 : decode cX7_removeAt 4 = .ok (.iload_n 1, 1) := by decide +kernel
theorem dX7_removeAt_5 : decode cX7_removeAt 5 = .ok (.aload_n 0, 1) := by decide +kernel
theorem dX7_removeAt_6 : decode cX7_removeAt 6 = .ok (.getfield 21, 3) := by decide +kernel
theorem dX7_removeAt_9 : decode cX7_removeAt 9 = .ok (.if_icmp .lt 4, 3) := by decide +kernel
theorem dX7_removeAt_12 : decode cX7_removeAt 12 = .ok (.return_, 1) := by decide +kernel
theorem dX7_removeAt_13 : decode cX7_removeAt 13 = .ok (.iload_n 1, 1) := by decide +kernel
theorem dX7_removeAt_14 : decode cX7_removeAt 14 = .ok (.iconst 1, 1) := by decide +kernel
theorem dX7_removeAt_15 : decode cX7_removeAt 15 = .ok (.iadd, 1) := by decide +kernel
theorem dX7_removeAt_16 : decode cX7_removeAt 16 = .ok (.istore_n 2, 1) := by decide +kernel
theorem dX7_removeAt_17 : decode cX7_removeAt 17 = .ok (.iload_n 2, 1) := by decide +kernel
theorem dX7_removeAt_18 : decode cX7_removeAt 18 = .ok (.aload_n 0, 1) := by decide +kernel
theorem dX7_removeAt_19 : decode cX7_removeAt 19 = .ok (.getfield 21, 3) := by decide +kernel
theorem dX7_removeAt_22 : decode cX7_removeAt 22 = .ok (.if_icmp .ge 23, 3) := by decide +kernel
theorem dX7_removeAt_25 : decode cX7_removeAt 25 = .ok (.aload_n 0, 1) := by decide +kernel
theorem dX7_removeAt_26 : decode cX7_removeAt 26 = .ok (.getfield 15, 3) := by decide +kernel
theorem dX7_removeAt_29 : decode cX7_removeAt 29 = .ok (.iload_n 2, 1) := by decide +kernel
theorem dX7_removeAt_30 : decode cX7_removeAt 30 = .ok (.iconst 1, 1) := by decide +kernel
theorem dX7_removeAt_31 : decode cX7_removeAt 31 = .ok (.isub, 1) := by decide +kernel
theorem dX7_removeAt_32 : decode cX7_removeAt 32 = .ok (.aload_n 0, 1) := by decide +kernel
theorem dX7_removeAt_33 : decode cX7_removeAt 33 = .ok (.getfield 15, 3) := by decide +kernel
theorem dX7_removeAt_36 : decode cX7_removeAt 36 = .ok (.iload_n 2, 1) := by decide +kernel
theorem dX7_removeAt_37 : decode cX7_removeAt 37 = .ok (.iaload, 1) := by decide +kernel
theorem dX7_removeAt_38 : decode cX7_removeAt 38 = .ok (.iastore, 1) := by decide +kernel
theorem dX7_removeAt_39 : decode cX7_removeAt 39 = .ok (.iinc 2 1, 3) := by decide +kernel
theorem dX7_removeAt_42 : decode cX7_removeAt 42 = .ok (.goto (-25), 3) := by decide +kernel
theorem dX7_removeAt_45 : decode cX7_removeAt 45 = .ok (.aload_n 0, 1) := by decide +kernel
theorem dX7_removeAt_46 : decode cX7_removeAt 46 = .ok (.dup, 1) := by decide +kernel
theorem dX7_removeAt_47 : decode cX7_removeAt 47 = .ok (.getfield 21, 3) := by decide +kernel
theorem dX7_removeAt_50 : decode cX7_removeAt 50 = .ok (.iconst 1, 1) := by decide +kernel
theorem dX7_removeAt_51 : decode cX7_removeAt 51 = .ok (.isub, 1) := by decide +kernel
theorem dX7_removeAt_52 : decode cX7_removeAt 52 = .ok (.putfield 21, 3) := by decide +kernel
theorem dX7_removeAt_55 : decode cX7_removeAt 55 = .ok (.return_, 1) := by decide +kernel
theorem dX7_clear_0 : decode cX7_clear 0 = .ok (.aload_n 0, 1) := by decide +kernel
theorem dX7_clear_1 : decode cX7_clear 1 = .ok (.iconst 0, 1) := by decide +kernel
theorem dX7_clear_2 : decode cX7_clear 2 = .ok (.putfield 21, 3) := by decide +kernel
theorem dX7_clear_5 : decode cX7_clear 5 = .ok (.return_, 1) := by decide +kernel
theorem dX7_copyFrom_0 : decode cX7_copyFrom 0 = .ok (.aload_n 0, 1) := by decide +kernel
theorem dX7_copyFrom_1 : decode cX7_copyFrom 1 = .ok (.aload_n 1, 1) := by decide +kernel
theorem dX7_copyFrom_2 : decode cX7_copyFrom 2 = .ok (.getfield 21, 3) := by decide +kernel
theorem dX7_copyFrom_5 : decode cX7_copyFrom 5 = .ok (.aload_n 0, 1) := by decide +kernel
theorem dX7_copyFrom_6 : decode cX7_copyFrom 6 = .ok (.getfield 15, 3) := by decide +kernel
theorem dX7_copyFrom_9 : decode cX7_copyFrom 9 = .ok (.arraylength, 1) := by decide +kernel
theorem dX7_copyFrom_10 : decode cX7_copyFrom 10 = .ok (.invokestatic 25, 3) := by decide +kernel
theorem dX7_copyFrom_13 : decode cX7_copyFrom 13 = .ok (.putfield 21, 3) := by decide +kernel
theorem dX7_copyFrom_16 : decode cX7_copyFrom 16 = .ok (.aload_n 1, 1) := by decide +kernel
theorem dX7_copyFrom_17 : decode cX7_copyFrom 17 = .ok (.getfield 15, 3) := by decide +kernel
theorem dX7_copyFrom_20 : decode cX7_copyFrom 20 = .ok (.iconst 0, 1) := by decide +kernel
theorem dX7_copyFrom_21 : decode cX7_copyFrom 21 = .ok (.aload_n 0, 1) := by decide +kernel
theorem dX7_copyFrom_22 : decode cX7_copyFrom 22 = .ok (.getfield 15, 3) := by decide +kernel
theorem dX7_copyFrom_25 : decode cX7_copyFrom 25 = .ok (.iconst 0, 1) := by decide +kernel
theorem dX7_copyFrom_26 : decode cX7_copyFrom 26 = .ok (.aload_n 0, 1) := by decide +kernel
theorem dX7_copyFrom_27 : decode cX7_copyFrom 27 = .ok (.getfield 21, 3) := by decide +kernel
theorem dX7_copyFrom_30 : decode cX7_copyFrom 30 = .ok (.invokestatic 28, 3) := by decide +kernel
theorem dX7_copyFrom_33 : decode cX7_copyFrom 33 = .ok (.return_, 1) := by decide +kernel
theorem dX7_find_0 : decode cX7_find 0 = .ok (.iconst 0, 1) := by decide +kernel
theorem dX7_find_1 : decode cX7_find 1 = .ok (.istore_n 2, 1) := by decide +kernel
theorem dX7_find_2 : decode cX7_find 2 = .ok (.iload_n 2, 1) := by decide +kernel
theorem dX7_find_3 : decode cX7_find 3 = .ok (.aload_n 0, 1) := by decide +kernel
theorem dX7_find_4 : decode cX7_find 4 = .ok (.getfield 21, 3) := by decide +kernel
theorem dX7_find_7 : decode cX7_find 7 = .ok (.if_icmp .ge 21, 3) := by decide +kernel
theorem dX7_find_10 : decode cX7_find 10 = .ok (.aload_n 0, 1) := by decide +kernel
theorem dX7_find_11 : decode cX7_find 11 = .ok (.getfield 15, 3) := by decide +kernel
theorem dX7_find_14 : decode cX7_find 14 = .ok (.iload_n 2, 1) := by decide +kernel
theorem dX7_find_15 : decode cX7_find 15 = .ok (.iaload, 1) := by decide +kernel
theorem dX7_find_16 : decode cX7_find 16 = .ok (.iload_n 1, 1) := by decide +kernel
theorem dX7_find_17 : decode cX7_find 17 = .ok (.if_icmp .ne 5, 3) := by decide +kernel
theorem dX7_find_20 : decode cX7_find 20 = .ok (.iload_n 2, 1) := by decide +kernel
theorem dX7_find_21 : decode cX7_find 21 = .ok (.ireturn, 1) := by decide +kernel
theorem dX7_find_22 : decode cX7_find 22 = .ok (.iinc 2 1, 3) := by decide +kernel
theorem dX7_find_25 : decode cX7_find 25 = .ok (.goto (-23), 3) := by decide +kernel
theorem dX7_find_28 : decode cX7_find 28 = .ok (.iconst (-1), 1) := by decide +kernel
theorem dX7_find_29 : decode cX7_find 29 = .ok (.ireturn, 1) := by decide +kernel
theorem dX7_sum_0 : decode cX7_sum 0 = .ok (.iconst 0, 1) := by decide +kernel
theorem dX7_sum_1 : decode cX7_sum 1 = .ok (.istore_n 1, 1) := by decide +kernel
theorem dX7_sum_2 : decode cX7_sum 2 = .ok (.iconst 0, 1) := by decide +kernel
theorem dX7_sum_3 : decode cX7_sum 3 = .ok (.istore_n 2, 1) := by decide +kernel
theorem dX7_sum_4 : decode cX7_sum 4 = .ok (.iload_n 2, 1) := by decide +kernel
theorem dX7_sum_5 : decode cX7_sum 5 = .ok (.aload_n 0, 1) := by decide +kernel
theorem dX7_sum_6 : decode cX7_sum 6 = .ok (.getfield 21, 3) := by decide +kernel
theorem dX7_sum_9 : decode cX7_sum 9 = .ok (.if_icmp .ge 18, 3) := by decide +kernel
theorem dX7_sum_12 : decode cX7_sum 12 = .ok (.iload_n 1, 1) := by decide +kernel
theorem dX7_sum_13 : decode cX7_sum 13 = .ok (.aload_n 0, 1) := by decide +kernel
theorem dX7_sum_14 : decode cX7_sum 14 = .ok (.getfield 15, 3) := by decide +kernel
theorem dX7_sum_17 : decode cX7_sum 17 = .ok (.iload_n 2, 1) := by decide +kernel
theorem dX7_sum_18 : decode cX7_sum 18 = .ok (.iaload, 1) := by decide +kernel
theorem dX7_sum_19 : decode cX7_sum 19 = .ok (.iadd, 1) := by decide +kernel
theorem dX7_sum_20 : decode cX7_sum 20 = .ok (.istore_n 1, 1) := by decide +kernel
theorem dX7_sum_21 : decode cX7_sum 21 = .ok (.iinc 2 1, 3) := by decide +kernel
theorem dX7_sum_24 : decode cX7_sum 24 = .ok (.goto (-20), 3) := by decide +kernel
theorem dX7_sum_27 : decode cX7_sum 27 = .ok (.iload_n 1, 1) := by decide +kernel
theorem dX7_sum_28 : decode cX7_sum 28 = .ok (.ireturn, 1) := by decide +kernel
theorem dX7_positionOfLargest_0 : decode cX7_positionOfLargest 0 = .ok (.iconst 0, 1) := by decide +kernel
theorem dX7_positionOfLargest_1 : decode cX7_positionOfLargest 1 = .ok (.istore_n 1, 1) := by decide +kernel
theorem dX7_positionOfLargest_2 : decode cX7_positionOfLargest 2 = .ok (.iconst 1, 1) := by decide +kernel
theorem dX7_positionOfLargest_3 : decode cX7_positionOfLargest 3 = .ok (.istore_n 2, 1) := by decide +kernel
theorem dX7_positionOfLargest_4 : decode cX7_positionOfLargest 4 = .ok (.iload_n 2, 1) := by decide +kernel
theorem dX7_positionOfLargest_5 : decode cX7_positionOfLargest 5 = .ok (.aload_n 0, 1) := by decide +kernel
theorem dX7_positionOfLargest_6 : decode cX7_positionOfLargest 6 = .ok (.getfield 21, 3) := by decide +kernel
theorem dX7_positionOfLargest_9 : decode cX7_positionOfLargest 9 = .ok (.if_icmp .ge 26, 3) := by decide +kernel
theorem dX7_positionOfLargest_12 : decode cX7_positionOfLargest 12 = .ok (.aload_n 0, 1) := by decide +kernel
theorem dX7_positionOfLargest_13 : decode cX7_positionOfLargest 13 = .ok (.getfield 15, 3) := by decide +kernel
theorem dX7_positionOfLargest_16 : decode cX7_positionOfLargest 16 = .ok (.iload_n 2, 1) := by decide +kernel
theorem dX7_positionOfLargest_17 : decode cX7_positionOfLargest 17 = .ok (.iaload, 1) := by decide +kernel
theorem dX7_positionOfLargest_18 : decode cX7_positionOfLargest 18 = .ok (.aload_n 0, 1) := by decide +kernel
theorem dX7_positionOfLargest_19 : decode cX7_positionOfLargest 19 = .ok (.getfield 15, 3) := by decide +kernel
theorem dX7_positionOfLargest_22 : decode cX7_positionOfLargest 22 = .ok (.iload_n 1, 1) := by decide +kernel
theorem dX7_positionOfLargest_23 : decode cX7_positionOfLargest 23 = .ok (.iaload, 1) := by decide +kernel
theorem dX7_positionOfLargest_24 : decode cX7_positionOfLargest 24 = .ok (.if_icmp .le 5, 3) := by decide +kernel
theorem dX7_positionOfLargest_27 : decode cX7_positionOfLargest 27 = .ok (.iload_n 2, 1) := by decide +kernel
theorem dX7_positionOfLargest_28 : decode cX7_positionOfLargest 28 = .ok (.istore_n 1, 1) := by decide +kernel
theorem dX7_positionOfLargest_29 : decode cX7_positionOfLargest 29 = .ok (.iinc 2 1, 3) := by decide +kernel
theorem dX7_positionOfLargest_32 : decode cX7_positionOfLargest 32 = .ok (.goto (-28), 3) := by decide +kernel
theorem dX7_positionOfLargest_35 : decode cX7_positionOfLargest 35 = .ok (.iload_n 1, 1) := by decide +kernel
theorem dX7_positionOfLargest_36 : decode cX7_positionOfLargest 36 = .ok (.ireturn, 1) := by decide +kernel
theorem dX7_findRank_0 : decode cX7_findRank 0 = .ok (.iconst 0, 1) := by decide +kernel
theorem dX7_findRank_1 : decode cX7_findRank 1 = .ok (.istore_n 2, 1) := by decide +kernel
theorem dX7_findRank_2 : decode cX7_findRank 2 = .ok (.iload_n 2, 1) := by decide +kernel
theorem dX7_findRank_3 : decode cX7_findRank 3 = .ok (.aload_n 0, 1) := by decide +kernel
theorem dX7_findRank_4 : decode cX7_findRank 4 = .ok (.getfield 21, 3) := by decide +kernel
theorem dX7_findRank_7 : decode cX7_findRank 7 = .ok (.if_icmp .ge 20, 3) := by decide +kernel
theorem dX7_findRank_10 : decode cX7_findRank 10 = .ok (.aload_n 0, 1) := by decide +kernel
theorem dX7_findRank_11 : decode cX7_findRank 11 = .ok (.iload_n 2, 1) := by decide +kernel
theorem dX7_findRank_12 : decode cX7_findRank 12 = .ok (.invokevirtual 34, 3) := by decide +kernel
theorem dX7_findRank_15 : decode cX7_findRank 15 = .ok (.iload_n 1, 1) := by decide +kernel
theorem dX7_findRank_16 : decode cX7_findRank 16 = .ok (.if_icmp .ne 5, 3) := by decide +kernel
theorem dX7_findRank_19 : decode cX7_findRank 19 = .ok (.iload_n 2, 1) := by decide +kernel
theorem dX7_findRank_20 : decode cX7_findRank 20 = .ok (.ireturn, 1) := by decide +kernel
theorem dX7_findRank_21 : decode cX7_findRank 21 = .ok (.iinc 2 1, 3) := by decide +kernel
theorem dX7_findRank_24 : decode cX7_findRank 24 = .ok (.goto (-22), 3) := by decide +kernel
theorem dX7_findRank_27 : decode cX7_findRank 27 = .ok (.iconst (-1), 1) := by decide +kernel
theorem dX7_findRank_28 : decode cX7_findRank 28 = .ok (.ireturn, 1) := by decide +kernel
theorem dX7_countAhead_0 : decode cX7_countAhead 0 = .ok (.aload_n 0, 1) := by decide +kernel
theorem dX7_countAhead_1 : decode cX7_countAhead 1 = .ok (.iload_n 1, 1) := by decide +kernel
theorem dX7_countAhead_2 : decode cX7_countAhead 2 = .ok (.invokevirtual 38, 3) := by decide +kernel
theorem dX7_countAhead_5 : decode cX7_countAhead 5 = .ok (.istore_n 2, 1) := by decide +kernel
theorem dX7_countAhead_6 : decode cX7_countAhead 6 = .ok (.iconst 0, 1) := by decide +kernel
theorem dX7_countAhead_7 : decode cX7_countAhead 7 = .ok (.istore_n 3, 1) := by decide +kernel
theorem dX7_countAhead_8 : decode cX7_countAhead 8 = .ok (.iconst 0, 1) := by decide +kernel
theorem dX7_countAhead_9 : decode cX7_countAhead 9 = .ok (.istore 4, 2) := by decide +kernel
theorem dX7_countAhead_11 : decode cX7_countAhead 11 = .ok (.iload 4, 2) := by decide +kernel
theorem dX7_countAhead_13 : decode cX7_countAhead 13 = .ok (.aload_n 0, 1) := by decide +kernel
theorem dX7_countAhead_14 : decode cX7_countAhead 14 = .ok (.getfield 21, 3) := by decide +kernel
theorem dX7_countAhead_17 : decode cX7_countAhead 17 = .ok (.if_icmp .ge 40, 3) := by decide +kernel
theorem dX7_countAhead_20 : decode cX7_countAhead 20 = .ok (.aload_n 0, 1) := by decide +kernel
theorem dX7_countAhead_21 : decode cX7_countAhead 21 = .ok (.getfield 15, 3) := by decide +kernel
theorem dX7_countAhead_24 : decode cX7_countAhead 24 = .ok (.iload 4, 2) := by decide +kernel
theorem dX7_countAhead_26 : decode cX7_countAhead 26 = .ok (.iaload, 1) := by decide +kernel
theorem dX7_countAhead_27 : decode cX7_countAhead 27 = .ok (.iload_n 2, 1) := by decide +kernel
theorem dX7_countAhead_28 : decode cX7_countAhead 28 = .ok (.if_icmp .lt 20, 3) := by decide +kernel
theorem dX7_countAhead_31 : decode cX7_countAhead 31 = .ok (.aload_n 0, 1) := by decide +kernel
theorem dX7_countAhead_32 : decode cX7_countAhead 32 = .ok (.getfield 15, 3) := by decide +kernel
theorem dX7_countAhead_35 : decode cX7_countAhead 35 = .ok (.iload 4, 2) := by decide +kernel
theorem dX7_countAhead_37 : decode cX7_countAhead 37 = .ok (.iaload, 1) := by decide +kernel
theorem dX7_countAhead_38 : decode cX7_countAhead 38 = .ok (.iload_n 2, 1) := by decide +kernel
theorem dX7_countAhead_39 : decode cX7_countAhead 39 = .ok (.if_icmp .ne 12, 3) := by decide +kernel
theorem dX7_countAhead_42 : decode cX7_countAhead 42 = .ok (.iload 4, 2) := by decide +kernel
theorem dX7_countAhead_44 : decode cX7_countAhead 44 = .ok (.iload_n 1, 1) := by decide +kernel
theorem dX7_countAhead_45 : decode cX7_countAhead 45 = .ok (.if_icmp .ge 6, 3) := by decide +kernel
theorem dX7_countAhead_48 : decode cX7_countAhead 48 = .ok (.iinc 3 1, 3) := by decide +kernel
theorem dX7_countAhead_51 : decode cX7_countAhead 51 = .ok (.iinc 4 1, 3) := by decide +kernel
theorem dX7_countAhead_54 : decode cX7_countAhead 54 = .ok (.goto (-43), 3) := by decide +kernel
theorem dX7_countAhead_57 : decode cX7_countAhead 57 = .ok (.iload_n 3, 1) := by decide +kernel
theorem dX7_countAhead_58 : decode cX7_countAhead 58 = .ok (.ireturn, 1) := by decide +kernel
theorem dX8_init_0 : decode cX8_init 0 = .ok (.aload_n 0, 1) := by decide +kernel
theorem dX8_init_1 : decode cX8_init 1 = .ok (.invokespecial 3, 3) := by decide +kernel
theorem dX8_init_4 : decode cX8_init 4 = .ok (.aload_n 0, 1) := by decide +kernel
theorem dX8_init_5 : decode cX8_init 5 = .ok (.new 9, 3) := by decide +kernel
theorem dX8_init_8 : decode cX8_init 8 = .ok (.dup, 1) := by decide +kernel
theorem dX8_init_9 : decode cX8_init 9 = .ok (.invokespecial 11, 3) := by decide +kernel
theorem dX8_init_12 : decode cX8_init 12 = .ok (.putfield 12, 3) := by decide +kernel
theorem dX8_init_15 : decode cX8_init 15 = .ok (.aload_n 0, 1) := by decide +kernel
theorem dX8_init_16 : decode cX8_init 16 = .ok (.bipush 60, 2) := by decide +kernel
theorem dX8_init_18 : decode cX8_init 18 = .ok (.anewarray 18, 3) := by decide +kernel
theorem dX8_init_21 : decode cX8_init 21 = .ok (.putfield 20, 3) := by decide +kernel
theorem dX8_init_24 : decode cX8_init 24 = .ok (.aload_n 0, 1) := by decide +kernel
theorem dX8_init_25 : decode cX8_init 25 = .ok (.sipush 180, 3) := by decide +kernel
theorem dX8_init_28 : decode cX8_init 28 = .ok (.newarray .int, 2) := by decide +kernel
theorem dX8_init_30 : decode cX8_init 30 = .ok (.putfield 24, 3) := by decide +kernel
theorem dX8_init_33 : decode cX8_init 33 = .ok (.return_, 1) := by decide +kernel
theorem dX8_isFull_0 : decode cX8_isFull 0 = .ok (.aload_n 0, 1) := by decide +kernel
theorem dX8_isFull_1 : decode cX8_isFull 1 = .ok (.getfield 12, 3) := by decide +kernel
theorem dX8_isFull_4 : decode cX8_isFull 4 = .ok (.invokevirtual 28, 3) := by decide +kernel
theorem dX8_isFull_7 : decode cX8_isFull 7 = .ok (.bipush 60, 2) := by decide +kernel
theorem dX8_isFull_9 : decode cX8_isFull 9 = .ok (.if_icmp .lt 7, 3) := by decide +kernel
theorem dX8_isFull_12 : decode cX8_isFull 12 = .ok (.iconst 1, 1) := by decide +kernel
theorem dX8_isFull_13 : decode cX8_isFull 13 = .ok (.goto 4, 3) := by decide +kernel
theorem dX8_isFull_16 : decode cX8_isFull 16 = .ok (.iconst 0, 1) := by decide +kernel
theorem dX8_isFull_17 : decode cX8_isFull 17 = .ok (.ireturn, 1) := by decide +kernel
theorem dX8_append_0 : decode cX8_append 0 = .ok (.aload_n 0, 1) := by decide +kernel
theorem dX8_append_1 : decode cX8_append 1 = .ok (.getfield 12, 3) := by decide +kernel
theorem dX8_append_4 : decode cX8_append 4 = .ok (.iload_n 1, 1) := by decide +kernel
theorem dX8_append_5 : decode cX8_append 5 = .ok (.invokevirtual 32, 3) := by decide +kernel
theorem dX8_append_8 : decode cX8_append 8 = .ok (.pop, 1) := by decide +kernel
theorem dX8_append_9 : decode cX8_append 9 = .ok (.aload_n 0, 1) := by decide +kernel
theorem dX8_append_10 : decode cX8_append 10 = .ok (.getfield 12, 3) := by decide +kernel
theorem dX8_append_13 : decode cX8_append 13 = .ok (.invokevirtual 28, 3) := by decide +kernel
theorem dX8_append_16 : decode cX8_append 16 = .ok (.ireturn, 1) := by decide +kernel
theorem dX8_empty_0 : decode cX8_empty 0 = .ok (.aload_n 0, 1) := by decide +kernel
theorem dX8_empty_1 : decode cX8_empty 1 = .ok (.getfield 12, 3) := by decide +kernel
theorem dX8_empty_4 : decode cX8_empty 4 = .ok (.iconst 0, 1) := by decide +kernel
theorem dX8_empty_5 : decode cX8_empty 5 = .ok (.invokevirtual 36, 3) := by decide +kernel
theorem dX8_empty_8 : decode cX8_empty 8 = .ok (.return_, 1) := by decide +kernel
theorem dX8_count_0 : decode cX8_count 0 = .ok (.aload_n 0, 1) := by decide +kernel
theorem dX8_count_1 : decode cX8_count 1 = .ok (.getfield 40, 3) := by decide +kernel
theorem dX8_count_4 : decode cX8_count 4 = .ok (.ireturn, 1) := by decide +kernel
theorem dX8_commandAt_0 : decode cX8_commandAt 0 = .ok (.iload_n 1, 1) := by decide +kernel
theorem dX8_commandAt_1 : decode cX8_commandAt 1 = .ok (.ifCond .lt 21, 3) := by decide +kernel
theorem dX8_commandAt_4 : decode cX8_commandAt 4 = .ok (.iload_n 1, 1) := by decide +kernel
theorem dX8_commandAt_5 : decode cX8_commandAt 5 = .ok (.aload_n 0, 1) := by decide +kernel
theorem dX8_commandAt_6 : decode cX8_commandAt 6 = .ok (.getfield 20, 3) := by decide +kernel
theorem dX8_commandAt_9 : decode cX8_commandAt 9 = .ok (.arraylength, 1) := by decide +kernel
theorem dX8_commandAt_10 : decode cX8_commandAt 10 = .ok (.if_icmp .ge 12, 3) := by decide +kernel
theorem dX8_commandAt_13 : decode cX8_commandAt 13 = .ok (.aload_n 0, 1) := by decide +kernel
theorem dX8_commandAt_14 : decode cX8_commandAt 14 = .ok (.getfield 20, 3) := by decide +kernel
theorem dX8_commandAt_17 : decode cX8_commandAt 17 = .ok (.iload_n 1, 1) := by decide +kernel
theorem dX8_commandAt_18 : decode cX8_commandAt 18 = .ok (.aaload, 1) := by decide +kernel
theorem dX8_commandAt_19 : decode cX8_commandAt 19 = .ok (.goto 4, 3) := by decide +kernel
theorem dX8_commandAt_22 : decode cX8_commandAt 22 = .ok (.aconst_null, 1) := by decide +kernel
theorem dX8_commandAt_23 : decode cX8_commandAt 23 = .ok (.areturn, 1) := by decide +kernel
theorem dX8_numberAt_0 : decode cX8_numberAt 0 = .ok (.iload_n 1, 1) := by decide +kernel
theorem dX8_numberAt_1 : decode cX8_numberAt 1 = .ok (.iconst 3, 1) := by decide +kernel
theorem dX8_numberAt_2 : decode cX8_numberAt 2 = .ok (.imul, 1) := by decide +kernel
theorem dX8_numberAt_3 : decode cX8_numberAt 3 = .ok (.iload_n 2, 1) := by decide +kernel
theorem dX8_numberAt_4 : decode cX8_numberAt 4 = .ok (.iadd, 1) := by decide +kernel
theorem dX8_numberAt_5 : decode cX8_numberAt 5 = .ok (.istore_n 3, 1) := by decide +kernel
theorem dX8_numberAt_6 : decode cX8_numberAt 6 = .ok (.iload_n 3, 1) := by decide +kernel
theorem dX8_numberAt_7 : decode cX8_numberAt 7 = .ok (.ifCond .lt 21, 3) := by decide +kernel
theorem dX8_numberAt_10 : decode cX8_numberAt 10 = .ok (.iload_n 3, 1) := by decide +kernel
theorem dX8_numberAt_11 : decode cX8_numberAt 11 = .ok (.aload_n 0, 1) := by decide +kernel
theorem dX8_numberAt_12 : decode cX8_numberAt 12 = .ok (.getfield 24, 3) := by decide +kernel
theorem dX8_numberAt_15 : decode cX8_numberAt 15 = .ok (.arraylength, 1) := by decide +kernel
theorem dX8_numberAt_16 : decode cX8_numberAt 16 = .ok (.if_icmp .ge 12, 3) := by decide +kernel
theorem dX8_numberAt_19 : decode cX8_numberAt 19 = .ok (.aload_n 0, 1) := by decide +kernel
theorem dX8_numberAt_20 : decode cX8_numberAt 20 = .ok (.getfield 24, 3) := by decide +kernel
theorem dX8_numberAt_23 : decode cX8_numberAt 23 = .ok (.iload_n 3, 1) := by decide +kernel
theorem dX8_numberAt_24 : decode cX8_numberAt 24 = .ok (.iaload, 1) := by decide +kernel
theorem dX8_numberAt_25 : decode cX8_numberAt 25 = .ok (.goto 4, 3) := by decide +kernel
theorem dX8_numberAt_28 : decode cX8_numberAt 28 = .ok (.iconst 0, 1) := by decide +kernel
theorem dX8_numberAt_29 : decode cX8_numberAt 29 = .ok (.ireturn, 1) := by decide +kernel
theorem dX8_readForm_0 : decode cX8_readForm 0 = .ok (.aload_n 0, 1) := by decide +kernel
theorem dX8_readForm_1 : decode cX8_readForm 1 = .ok (.iconst 0, 1) := by decide +kernel
theorem dX8_readForm_2 : decode cX8_readForm 2 = .ok (.putfield 44, 3) := by decide +kernel
theorem dX8_readForm_5 : decode cX8_readForm 5 = .ok (.aload_n 0, 1) := by decide +kernel
theorem dX8_readForm_6 : decode cX8_readForm 6 = .ok (.iconst 0, 1) := by decide +kernel
theorem dX8_readForm_7 : decode cX8_readForm 7 = .ok (.putfield 40, 3) := by decide +kernel
theorem dX8_readForm_10 : decode cX8_readForm 10 = .ok (.aload_n 0, 1) := by decide +kernel
theorem dX8_readForm_11 : decode cX8_readForm 11 = .ok (.getfield 40, 3) := by decide +kernel
theorem dX8_readForm_14 : decode cX8_readForm 14 = .ok (.aload_n 0, 1) := by decide +kernel
theorem dX8_readForm_15 : decode cX8_readForm 15 = .ok (.getfield 20, 3) := by decide +kernel
theorem dX8_readForm_18 : decode cX8_readForm 18 = .ok (.arraylength, 1) := by decide +kernel
theorem dX8_readForm_19 : decode cX8_readForm 19 = .ok (.if_icmp .ge 55, 3) := by decide +kernel
theorem dX8_readForm_22 : decode cX8_readForm 22 = .ok (.aload_n 0, 1) := by decide +kernel
theorem dX8_readForm_23 : decode cX8_readForm 23 = .ok (.invokevirtual 47, 3) := by decide +kernel
theorem dX8_readForm_26 : decode cX8_readForm 26 = .ok (.ifCond .ne 8, 3) := by decide +kernel
theorem dX8_readForm_29 : decode cX8_readForm 29 = .ok (.aload_n 0, 1) := by decide +kernel
theorem dX8_readForm_30 : decode cX8_readForm 30 = .ok (.getfield 44, 3) := by decide +kernel
theorem dX8_readForm_33 : decode cX8_readForm 33 = .ok (.ireturn, 1) := by decide +kernel
theorem dX8_readForm_34 : decode cX8_readForm 34 = .ok (.aload_n 0, 1) := by decide +kernel
theorem dX8_readForm_35 : decode cX8_readForm 35 = .ok (.dup, 1) := by decide +kernel
theorem dX8_readForm_36 : decode cX8_readForm 36 = .ok (.getfield 40, 3) := by decide +kernel
theorem dX8_readForm_39 : decode cX8_readForm 39 = .ok (.iconst 1, 1) := by decide +kernel
theorem dX8_readForm_40 : decode cX8_readForm 40 = .ok (.iadd, 1) := by decide +kernel
theorem dX8_readForm_41 : decode cX8_readForm 41 = .ok (.putfield 40, 3) := by decide +kernel
theorem dX8_readForm_44 : decode cX8_readForm 44 = .ok (.aload_n 0, 1) := by decide +kernel
theorem dX8_readForm_45 : decode cX8_readForm 45 = .ok (.getfield 44, 3) := by decide +kernel
theorem dX8_readForm_48 : decode cX8_readForm 48 = .ok (.aload_n 0, 1) := by decide +kernel
theorem dX8_readForm_49 : decode cX8_readForm 49 = .ok (.getfield 12, 3) := by decide +kernel
theorem dX8_readForm_52 : decode cX8_readForm 52 = .ok (.invokevirtual 28, 3) := by decide +kernel
theorem dX8_readForm_55 : decode cX8_readForm 55 = .ok (.if_icmp .ne 5, 3) := by decide +kernel
theorem dX8_readForm_58 : decode cX8_readForm 58 = .ok (.iconst (-1), 1) := by decide +kernel
theorem dX8_readForm_59 : decode cX8_readForm 59 = .ok (.ireturn, 1) := by decide +kernel
theorem dX8_readForm_60 : decode cX8_readForm 60 = .ok (.aload_n 0, 1) := by decide +kernel
theorem dX8_readForm_61 : decode cX8_readForm 61 = .ok (.bipush 59, 2) := by decide +kernel
theorem dX8_readForm_63 : decode cX8_readForm 63 = .ok (.invokevirtual 51, 3) := by decide +kernel
theorem dX8_readForm_66 : decode cX8_readForm 66 = .ok (.ifCond .ne (-56), 3) := by decide +kernel
theorem dX8_readForm_69 : decode cX8_readForm 69 = .ok (.aload_n 0, 1) := by decide +kernel
theorem dX8_readForm_70 : decode cX8_readForm 70 = .ok (.getfield 44, 3) := by decide +kernel
theorem dX8_readForm_73 : decode cX8_readForm 73 = .ok (.ireturn, 1) := by decide +kernel
theorem dX8_readForm_74 : decode cX8_readForm 74 = .ok (.aload_n 0, 1) := by decide +kernel
theorem dX8_readForm_75 : decode cX8_readForm 75 = .ok (.getfield 44, 3) := by decide +kernel
theorem dX8_readForm_78 : decode cX8_readForm 78 = .ok (.ireturn, 1) := by decide +kernel
theorem dX8_readCommand_0 : decode cX8_readCommand 0 = .ok (.aload_n 0, 1) := by decide +kernel
theorem dX8_readCommand_1 : decode cX8_readCommand 1 = .ok (.invokevirtual 55, 3) := by decide +kernel
theorem dX8_readCommand_4 : decode cX8_readCommand 4 = .ok (.astore_n 1, 1) := by decide +kernel
theorem dX8_readCommand_5 : decode cX8_readCommand 5 = .ok (.aload_n 1, 1) := by decide +kernel
theorem dX8_readCommand_6 : decode cX8_readCommand 6 = .ok (.ifnonnull 5, 3) := by decide +kernel
theorem dX8_readCommand_9 : decode cX8_readCommand 9 = .ok (.iconst 0, 1) := by decide +kernel
theorem dX8_readCommand_10 : decode cX8_readCommand 10 = .ok (.ireturn, 1) := by decide +kernel
theorem dX8_readCommand_11 : decode cX8_readCommand 11 = .ok (.aload_n 0, 1) := by decide +kernel
theorem dX8_readCommand_12 : decode cX8_readCommand 12 = .ok (.getfield 20, 3) := by decide +kernel
theorem dX8_readCommand_15 : decode cX8_readCommand 15 = .ok (.aload_n 0, 1) := by decide +kernel
theorem dX8_readCommand_16 : decode cX8_readCommand 16 = .ok (.getfield 40, 3) := by decide +kernel
theorem dX8_readCommand_19 : decode cX8_readCommand 19 = .ok (.aload_n 1, 1) := by decide +kernel
theorem dX8_readCommand_20 : decode cX8_readCommand 20 = .ok (.aastore, 1) := by decide +kernel
theorem dX8_readCommand_21 : decode cX8_readCommand 21 = .ok (.iconst 0, 1) := by decide +kernel
theorem dX8_readCommand_22 : decode cX8_readCommand 22 = .ok (.istore_n 2, 1) := by decide +kernel
theorem dX8_readCommand_23 : decode cX8_readCommand 23 = .ok (.iload_n 2, 1) := by decide +kernel
theorem dX8_readCommand_24 : decode cX8_readCommand 24 = .ok (.aload_n 1, 1) := by decide +kernel
theorem dX8_readCommand_25 : decode cX8_readCommand 25 = .ok (.getfield 59, 3) := by decide +kernel
theorem dX8_readCommand_28 : decode cX8_readCommand 28 = .ok (.if_icmp .ge 45, 3) := by decide +kernel
theorem dX8_readCommand_31 : decode cX8_readCommand 31 = .ok (.iload_n 2, 1) := by decide +kernel
theorem dX8_readCommand_32 : decode cX8_readCommand 32 = .ok (.ifCond .le 14, 3) := by decide +kernel
theorem dX8_readCommand_35 : decode cX8_readCommand 35 = .ok (.aload_n 0, 1) := by decide +kernel
theorem dX8_readCommand_36 : decode cX8_readCommand 36 = .ok (.bipush 32, 2) := by decide +kernel
theorem dX8_readCommand_38 : decode cX8_readCommand 38 = .ok (.invokevirtual 51, 3) := by decide +kernel
theorem dX8_readCommand_41 : decode cX8_readCommand 41 = .ok (.ifCond .ne 5, 3) := by decide +kernel
theorem dX8_readCommand_44 : decode cX8_readCommand 44 = .ok (.iconst 0, 1) := by decide +kernel
theorem dX8_readCommand_45 : decode cX8_readCommand 45 = .ok (.ireturn, 1) := by decide +kernel
theorem dX8_readCommand_46 : decode cX8_readCommand 46 = .ok (.aload_n 0, 1) := by decide +kernel
theorem dX8_readCommand_47 : decode cX8_readCommand 47 = .ok (.aload_n 0, 1) := by decide +kernel
theorem dX8_readCommand_48 : decode cX8_readCommand 48 = .ok (.getfield 40, 3) := by decide +kernel
theorem dX8_readCommand_51 : decode cX8_readCommand 51 = .ok (.iconst 3, 1) := by decide +kernel
theorem dX8_readCommand_52 : decode cX8_readCommand 52 = .ok (.imul, 1) := by decide +kernel
theorem dX8_readCommand_53 : decode cX8_readCommand 53 = .ok (.iload_n 2, 1) := by decide +kernel
theorem dX8_readCommand_54 : decode cX8_readCommand 54 = .ok (.iadd, 1) := by decide +kernel
theorem dX8_readCommand_55 : decode cX8_readCommand 55 = .ok (.aload_n 1, 1) := by decide +kernel
theorem dX8_readCommand_56 : decode cX8_readCommand 56 = .ok (.getfield 61, 3) := by decide +kernel
theorem dX8_readCommand_59 : decode cX8_readCommand 59 = .ok (.invokevirtual 64, 3) := by decide +kernel
theorem dX8_readCommand_62 : decode cX8_readCommand 62 = .ok (.ifCond .ne 5, 3) := by decide +kernel
theorem dX8_readCommand_65 : decode cX8_readCommand 65 = .ok (.iconst 0, 1) := by decide +kernel
theorem dX8_readCommand_66 : decode cX8_readCommand 66 = .ok (.ireturn, 1) := by decide +kernel
theorem dX8_readCommand_67 : decode cX8_readCommand 67 = .ok (.iinc 2 1, 3) := by decide +kernel
theorem dX8_readCommand_70 : decode cX8_readCommand 70 = .ok (.goto (-47), 3) := by decide +kernel
theorem dX8_readCommand_73 : decode cX8_readCommand 73 = .ok (.iconst 1, 1) := by decide +kernel
theorem dX8_readCommand_74 : decode cX8_readCommand 74 = .ok (.ireturn, 1) := by decide +kernel
theorem dX8_readWord_0 : decode cX8_readWord 0 = .ok (.iconst 0, 1) := by decide +kernel
theorem dX8_readWord_1 : decode cX8_readWord 1 = .ok (.istore_n 1, 1) := by decide +kernel
theorem dX8_readWord_2 : decode cX8_readWord 2 = .ok (.iconst 0, 1) := by decide +kernel
theorem dX8_readWord_3 : decode cX8_readWord 3 = .ok (.istore_n 2, 1) := by decide +kernel
theorem dX8_readWord_4 : decode cX8_readWord 4 = .ok (.iload_n 2, 1) := by decide +kernel
theorem dX8_readWord_5 : decode cX8_readWord 5 = .ok (.getstatic 68, 3) := by decide +kernel
theorem dX8_readWord_8 : decode cX8_readWord 8 = .ok (.arraylength, 1) := by decide +kernel
theorem dX8_readWord_9 : decode cX8_readWord 9 = .ok (.if_icmp .ge 57, 3) := by decide +kernel
theorem dX8_readWord_12 : decode cX8_readWord 12 = .ok (.getstatic 68, 3) := by decide +kernel
theorem dX8_readWord_15 : decode cX8_readWord 15 = .ok (.iload_n 2, 1) := by decide +kernel
theorem dX8_readWord_16 : decode cX8_readWord 16 = .ok (.aaload, 1) := by decide +kernel
theorem dX8_readWord_17 : decode cX8_readWord 17 = .ok (.astore_n 3, 1) := by decide +kernel
theorem dX8_readWord_18 : decode cX8_readWord 18 = .ok (.aload_n 0, 1) := by decide +kernel
theorem dX8_readWord_19 : decode cX8_readWord 19 = .ok (.aload_n 3, 1) := by decide +kernel
theorem dX8_readWord_20 : decode cX8_readWord 20 = .ok (.getfield 71, 3) := by decide +kernel
theorem dX8_readWord_23 : decode cX8_readWord 23 = .ok (.invokevirtual 75, 3) := by decide +kernel
theorem dX8_readWord_26 : decode cX8_readWord 26 = .ok (.istore 4, 2) := by decide +kernel
theorem dX8_readWord_28 : decode cX8_readWord 28 = .ok (.iload 4, 2) := by decide +kernel
theorem dX8_readWord_30 : decode cX8_readWord 30 = .ok (.aload_n 3, 1) := by decide +kernel
theorem dX8_readWord_31 : decode cX8_readWord 31 = .ok (.getfield 71, 3) := by decide +kernel
theorem dX8_readWord_34 : decode cX8_readWord 34 = .ok (.invokevirtual 79, 3) := by decide +kernel
theorem dX8_readWord_37 : decode cX8_readWord 37 = .ok (.if_icmp .ne 16, 3) := by decide +kernel
theorem dX8_readWord_40 : decode cX8_readWord 40 = .ok (.aload_n 0, 1) := by decide +kernel
theorem dX8_readWord_41 : decode cX8_readWord 41 = .ok (.dup, 1) := by decide +kernel
theorem dX8_readWord_42 : decode cX8_readWord 42 = .ok (.getfield 44, 3) := by decide +kernel
theorem dX8_readWord_45 : decode cX8_readWord 45 = .ok (.iload 4, 2) := by decide +kernel
theorem dX8_readWord_47 : decode cX8_readWord 47 = .ok (.iadd, 1) := by decide +kernel
theorem dX8_readWord_48 : decode cX8_readWord 48 = .ok (.putfield 44, 3) := by decide +kernel
theorem dX8_readWord_51 : decode cX8_readWord 51 = .ok (.aload_n 3, 1) := by decide +kernel
theorem dX8_readWord_52 : decode cX8_readWord 52 = .ok (.areturn, 1) := by decide +kernel
theorem dX8_readWord_53 : decode cX8_readWord 53 = .ok (.iload_n 1, 1) := by decide +kernel
theorem dX8_readWord_54 : decode cX8_readWord 54 = .ok (.iload 4, 2) := by decide +kernel
theorem dX8_readWord_56 : decode cX8_readWord 56 = .ok (.invokestatic 82, 3) := by decide +kernel
theorem dX8_readWord_59 : decode cX8_readWord 59 = .ok (.istore_n 1, 1) := by decide +kernel
theorem dX8_readWord_60 : decode cX8_readWord 60 = .ok (.iinc 2 1, 3) := by decide +kernel
theorem dX8_readWord_63 : decode cX8_readWord 63 = .ok (.goto (-59), 3) := by decide +kernel
theorem dX8_readWord_66 : decode cX8_readWord 66 = .ok (.aload_n 0, 1) := by decide +kernel
theorem dX8_readWord_67 : decode cX8_readWord 67 = .ok (.dup, 1) := by decide +kernel
theorem dX8_readWord_68 : decode cX8_readWord 68 = .ok (.getfield 44, 3) := by decide +kernel
theorem dX8_readWord_71 : decode cX8_readWord 71 = .ok (.iload_n 1, 1) := by decide +kernel
theorem dX8_readWord_72 : decode cX8_readWord 72 = .ok (.iadd, 1) := by decide +kernel
theorem dX8_readWord_73 : decode cX8_readWord 73 = .ok (.putfield 44, 3) := by decide +kernel
theorem dX8_readWord_76 : decode cX8_readWord 76 = .ok (.aconst_null, 1) := by decide +kernel
theorem dX8_readWord_77 : decode cX8_readWord 77 = .ok (.areturn, 1) := by decide +kernel
theorem dX8_countSameSigns_0 : decode cX8_countSameSigns 0 = .ok (.iconst 0, 1) := by decide +kernel
theorem dX8_countSameSigns_1 : decode cX8_countSameSigns 1 = .ok (.istore_n 2, 1) := by decide +kernel
theorem dX8_countSameSigns_2 : decode cX8_countSameSigns 2 = .ok (.iload_n 2, 1) := by decide +kernel
theorem dX8_countSameSigns_3 : decode cX8_countSameSigns 3 = .ok (.aload_n 1, 1) := by decide +kernel
theorem dX8_countSameSigns_4 : decode cX8_countSameSigns 4 = .ok (.invokevirtual 79, 3) := by decide +kernel
theorem dX8_countSameSigns_7 : decode cX8_countSameSigns 7 = .ok (.if_icmp .ge 27, 3) := by decide +kernel
theorem dX8_countSameSigns_10 : decode cX8_countSameSigns 10 = .ok (.aload_n 0, 1) := by decide +kernel
theorem dX8_countSameSigns_11 : decode cX8_countSameSigns 11 = .ok (.aload_n 0, 1) := by decide +kernel
theorem dX8_countSameSigns_12 : decode cX8_countSameSigns 12 = .ok (.getfield 44, 3) := by decide +kernel
theorem dX8_countSameSigns_15 : decode cX8_countSameSigns 15 = .ok (.iload_n 2, 1) := by decide +kernel
theorem dX8_countSameSigns_16 : decode cX8_countSameSigns 16 = .ok (.iadd, 1) := by decide +kernel
theorem dX8_countSameSigns_17 : decode cX8_countSameSigns 17 = .ok (.aload_n 1, 1) := by decide +kernel
theorem dX8_countSameSigns_18 : decode cX8_countSameSigns 18 = .ok (.iload_n 2, 1) := by decide +kernel
theorem dX8_countSameSigns_19 : decode cX8_countSameSigns 19 = .ok (.invokevirtual 88, 3) := by decide +kernel
theorem dX8_countSameSigns_22 : decode cX8_countSameSigns 22 = .ok (.invokevirtual 92, 3) := by decide +kernel
theorem dX8_countSameSigns_25 : decode cX8_countSameSigns 25 = .ok (.ifCond .eq 9, 3) := by decide +kernel
theorem dX8_countSameSigns_28 : decode cX8_countSameSigns 28 = .ok (.iinc 2 1, 3) := by decide +kernel
theorem dX8_countSameSigns_31 : decode cX8_countSameSigns 31 = .ok (.goto (-29), 3) := by decide +kernel
theorem dX8_countSameSigns_34 : decode cX8_countSameSigns 34 = .ok (.iload_n 2, 1) := by decide +kernel
theorem dX8_countSameSigns_35 : decode cX8_countSameSigns 35 = .ok (.ireturn, 1) := by decide +kernel
theorem dX8_readNumber_0 : decode cX8_readNumber 0 = .ok (.iconst 0, 1) := by decide +kernel
theorem dX8_readNumber_1 : decode cX8_readNumber 1 = .ok (.istore_n 3, 1) := by decide +kernel
theorem dX8_readNumber_2 : decode cX8_readNumber 2 = .ok (.iconst 0, 1) := by decide +kernel
theorem dX8_readNumber_3 : decode cX8_readNumber 3 = .ok (.istore 4, 2) := by decide +kernel
theorem dX8_readNumber_5 : decode cX8_readNumber 5 = .ok (.iload 4, 2) := by decide +kernel
theorem dX8_readNumber_7 : decode cX8_readNumber 7 = .ok (.iload_n 2, 1) := by decide +kernel
theorem dX8_readNumber_8 : decode cX8_readNumber 8 = .ok (.if_icmp .ge 50, 3) := by decide +kernel
theorem dX8_readNumber_11 : decode cX8_readNumber 11 = .ok (.aload_n 0, 1) := by decide +kernel
theorem dX8_readNumber_12 : decode cX8_readNumber 12 = .ok (.aload_n 0, 1) := by decide +kernel
theorem dX8_readNumber_13 : decode cX8_readNumber 13 = .ok (.getfield 44, 3) := by decide +kernel
theorem dX8_readNumber_16 : decode cX8_readNumber 16 = .ok (.invokevirtual 96, 3) := by decide +kernel
theorem dX8_readNumber_19 : decode cX8_readNumber 19 = .ok (.ifCond .eq 39, 3) := by decide +kernel
theorem dX8_readNumber_22 : decode cX8_readNumber 22 = .ok (.iload_n 3, 1) := by decide +kernel
theorem dX8_readNumber_23 : decode cX8_readNumber 23 = .ok (.bipush 10, 2) := by decide +kernel
theorem dX8_readNumber_25 : decode cX8_readNumber 25 = .ok (.imul, 1) := by decide +kernel
theorem dX8_readNumber_26 : decode cX8_readNumber 26 = .ok (.aload_n 0, 1) := by decide +kernel
theorem dX8_readNumber_27 : decode cX8_readNumber 27 = .ok (.getfield 12, 3) := by decide +kernel
theorem dX8_readNumber_30 : decode cX8_readNumber 30 = .ok (.aload_n 0, 1) := by decide +kernel
theorem dX8_readNumber_31 : decode cX8_readNumber 31 = .ok (.getfield 44, 3) := by decide +kernel
theorem dX8_readNumber_34 : decode cX8_readNumber 34 = .ok (.invokevirtual 100, 3) := by decide +kernel
theorem dX8_readNumber_37 : decode cX8_readNumber 37 = .ok (.bipush 48, 2) := by decide +kernel
theorem dX8_readNumber_39 : decode cX8_readNumber 39 = .ok (.isub, 1) := by decide +kernel
theorem dX8_readNumber_40 : decode cX8_readNumber 40 = .ok (.iadd, 1) := by decide +kernel
theorem dX8_readNumber_41 : decode cX8_readNumber 41 = .ok (.istore_n 3, 1) := by decide +kernel
theorem dX8_readNumber_42 : decode cX8_readNumber 42 = .ok (.aload_n 0, 1) := by decide +kernel
theorem dX8_readNumber_43 : decode cX8_readNumber 43 = .ok (.dup, 1) := by decide +kernel
theorem dX8_readNumber_44 : decode cX8_readNumber 44 = .ok (.getfield 44, 3) := by decide +kernel
theorem dX8_readNumber_47 : decode cX8_readNumber 47 = .ok (.iconst 1, 1) := by decide +kernel
theorem dX8_readNumber_48 : decode cX8_readNumber 48 = .ok (.iadd, 1) := by decide +kernel
theorem dX8_readNumber_49 : decode cX8_readNumber 49 = .ok (.putfield 44, 3) := by decide +kernel
theorem dX8_readNumber_52 : decode cX8_readNumber 52 = .ok (.iinc 4 1, 3) := by decide +kernel
theorem dX8_readNumber_55 : decode cX8_readNumber 55 = .ok (.goto (-50), 3) := by decide +kernel
theorem dX8_readNumber_58 : decode cX8_readNumber 58 = .ok (.iload 4, 2) := by decide +kernel
theorem dX8_readNumber_60 : decode cX8_readNumber 60 = .ok (.ifCond .eq 12, 3) := by decide +kernel
theorem dX8_readNumber_63 : decode cX8_readNumber 63 = .ok (.iload_n 1, 1) := by decide +kernel
theorem dX8_readNumber_64 : decode cX8_readNumber 64 = .ok (.aload_n 0, 1) := by decide +kernel
theorem dX8_readNumber_65 : decode cX8_readNumber 65 = .ok (.getfield 24, 3) := by decide +kernel
theorem dX8_readNumber_68 : decode cX8_readNumber 68 = .ok (.arraylength, 1) := by decide +kernel
theorem dX8_readNumber_69 : decode cX8_readNumber 69 = .ok (.if_icmp .lt 5, 3) := by decide +kernel
theorem dX8_readNumber_72 : decode cX8_readNumber 72 = .ok (.iconst 0, 1) := by decide +kernel
theorem dX8_readNumber_73 : decode cX8_readNumber 73 = .ok (.ireturn, 1) := by decide +kernel
theorem dX8_readNumber_74 : decode cX8_readNumber 74 = .ok (.aload_n 0, 1) := by decide +kernel
theorem dX8_readNumber_75 : decode cX8_readNumber 75 = .ok (.getfield 24, 3) := by decide +kernel
theorem dX8_readNumber_78 : decode cX8_readNumber 78 = .ok (.iload_n 1, 1) := by decide +kernel
theorem dX8_readNumber_79 : decode cX8_readNumber 79 = .ok (.iload_n 3, 1) := by decide +kernel
theorem dX8_readNumber_80 : decode cX8_readNumber 80 = .ok (.iastore, 1) := by decide +kernel
theorem dX8_readNumber_81 : decode cX8_readNumber 81 = .ok (.iconst 1, 1) := by decide +kernel
theorem dX8_readNumber_82 : decode cX8_readNumber 82 = .ok (.ireturn, 1) := by decide +kernel
theorem dX8_readSign_0 : decode cX8_readSign 0 = .ok (.aload_n 0, 1) := by decide +kernel
theorem dX8_readSign_1 : decode cX8_readSign 1 = .ok (.aload_n 0, 1) := by decide +kernel
theorem dX8_readSign_2 : decode cX8_readSign 2 = .ok (.getfield 44, 3) := by decide +kernel
theorem dX8_readSign_5 : decode cX8_readSign 5 = .ok (.iload_n 1, 1) := by decide +kernel
theorem dX8_readSign_6 : decode cX8_readSign 6 = .ok (.invokevirtual 92, 3) := by decide +kernel
theorem dX8_readSign_9 : decode cX8_readSign 9 = .ok (.ifCond .ne 5, 3) := by decide +kernel
theorem dX8_readSign_12 : decode cX8_readSign 12 = .ok (.iconst 0, 1) := by decide +kernel
theorem dX8_readSign_13 : decode cX8_readSign 13 = .ok (.ireturn, 1) := by decide +kernel
theorem dX8_readSign_14 : decode cX8_readSign 14 = .ok (.aload_n 0, 1) := by decide +kernel
theorem dX8_readSign_15 : decode cX8_readSign 15 = .ok (.dup, 1) := by decide +kernel
theorem dX8_readSign_16 : decode cX8_readSign 16 = .ok (.getfield 44, 3) := by decide +kernel
theorem dX8_readSign_19 : decode cX8_readSign 19 = .ok (.iconst 1, 1) := by decide +kernel
theorem dX8_readSign_20 : decode cX8_readSign 20 = .ok (.iadd, 1) := by decide +kernel
theorem dX8_readSign_21 : decode cX8_readSign 21 = .ok (.putfield 44, 3) := by decide +kernel
theorem dX8_readSign_24 : decode cX8_readSign 24 = .ok (.iconst 1, 1) := by decide +kernel
theorem dX8_readSign_25 : decode cX8_readSign 25 = .ok (.ireturn, 1) := by decide +kernel
theorem dX8_isSign_0 : decode cX8_isSign 0 = .ok (.iload_n 1, 1) := by decide +kernel
theorem dX8_isSign_1 : decode cX8_isSign 1 = .ok (.aload_n 0, 1) := by decide +kernel
theorem dX8_isSign_2 : decode cX8_isSign 2 = .ok (.getfield 12, 3) := by decide +kernel
theorem dX8_isSign_5 : decode cX8_isSign 5 = .ok (.invokevirtual 28, 3) := by decide +kernel
theorem dX8_isSign_8 : decode cX8_isSign 8 = .ok (.if_icmp .ge 19, 3) := by decide +kernel
theorem dX8_isSign_11 : decode cX8_isSign 11 = .ok (.aload_n 0, 1) := by decide +kernel
theorem dX8_isSign_12 : decode cX8_isSign 12 = .ok (.getfield 12, 3) := by decide +kernel
theorem dX8_isSign_15 : decode cX8_isSign 15 = .ok (.iload_n 1, 1) := by decide +kernel
theorem dX8_isSign_16 : decode cX8_isSign 16 = .ok (.invokevirtual 100, 3) := by decide +kernel
theorem dX8_isSign_19 : decode cX8_isSign 19 = .ok (.iload_n 2, 1) := by decide +kernel
theorem dX8_isSign_20 : decode cX8_isSign 20 = .ok (.if_icmp .ne 7, 3) := by decide +kernel
theorem dX8_isSign_23 : decode cX8_isSign 23 = .ok (.iconst 1, 1) := by decide +kernel
theorem dX8_isSign_24 : decode cX8_isSign 24 = .ok (.goto 4, 3) := by decide +kernel
theorem dX8_isSign_27 : decode cX8_isSign 27 = .ok (.iconst 0, 1) := by decide +kernel
theorem dX8_isSign_28 : decode cX8_isSign 28 = .ok (.ireturn, 1) := by decide +kernel
theorem dX8_isDigit_0 : decode cX8_isDigit 0 = .ok (.iload_n 1, 1) := by decide +kernel
theorem dX8_isDigit_1 : decode cX8_isDigit 1 = .ok (.aload_n 0, 1) := by decide +kernel
theorem dX8_isDigit_2 : decode cX8_isDigit 2 = .ok (.getfield 12, 3) := by decide +kernel
theorem dX8_isDigit_5 : decode cX8_isDigit 5 = .ok (.invokevirtual 28, 3) := by decide +kernel
theorem dX8_isDigit_8 : decode cX8_isDigit 8 = .ok (.if_icmp .ge 33, 3) := by decide +kernel
theorem dX8_isDigit_11 : decode cX8_isDigit 11 = .ok (.aload_n 0, 1) := by decide +kernel
theorem dX8_isDigit_12 : decode cX8_isDigit 12 = .ok (.getfield 12, 3) := by decide +kernel
theorem dX8_isDigit_15 : decode cX8_isDigit 15 = .ok (.iload_n 1, 1) := by decide +kernel
theorem dX8_isDigit_16 : decode cX8_isDigit 16 = .ok (.invokevirtual 100, 3) := by decide +kernel
theorem dX8_isDigit_19 : decode cX8_isDigit 19 = .ok (.bipush 48, 2) := by decide +kernel
theorem dX8_isDigit_21 : decode cX8_isDigit 21 = .ok (.if_icmp .lt 20, 3) := by decide +kernel
theorem dX8_isDigit_24 : decode cX8_isDigit 24 = .ok (.aload_n 0, 1) := by decide +kernel
theorem dX8_isDigit_25 : decode cX8_isDigit 25 = .ok (.getfield 12, 3) := by decide +kernel
theorem dX8_isDigit_28 : decode cX8_isDigit 28 = .ok (.iload_n 1, 1) := by decide +kernel
theorem dX8_isDigit_29 : decode cX8_isDigit 29 = .ok (.invokevirtual 100, 3) := by decide +kernel
theorem dX8_isDigit_32 : decode cX8_isDigit 32 = .ok (.bipush 57, 2) := by decide +kernel
theorem dX8_isDigit_34 : decode cX8_isDigit 34 = .ok (.if_icmp .gt 7, 3) := by decide +kernel
theorem dX8_isDigit_37 : decode cX8_isDigit 37 = .ok (.iconst 1, 1) := by decide +kernel
theorem dX8_isDigit_38 : decode cX8_isDigit 38 = .ok (.goto 4, 3) := by decide +kernel
theorem dX8_isDigit_41 : decode cX8_isDigit 41 = .ok (.iconst 0, 1) := by decide +kernel
theorem dX8_isDigit_42 : decode cX8_isDigit 42 = .ok (.ireturn, 1) := by decide +kernel
theorem dX9_init_0 : decode cX9_init 0 = .ok (.aload_n 0, 1) := by decide +kernel
theorem dX9_init_1 : decode cX9_init 1 = .ok (.invokespecial 3, 3) := by decide +kernel
theorem dX9_init_4 : decode cX9_init 4 = .ok (.aload_n 0, 1) := by decide +kernel
theorem dX9_init_5 : decode cX9_init 5 = .ok (.sipush 144, 3) := by decide +kernel
theorem dX9_init_8 : decode cX9_init 8 = .ok (.newarray .int, 2) := by decide +kernel
theorem dX9_init_10 : decode cX9_init 10 = .ok (.putfield 9, 3) := by decide +kernel
theorem dX9_init_13 : decode cX9_init 13 = .ok (.aload_n 0, 1) := by decide +kernel
theorem dX9_init_14 : decode cX9_init 14 = .ok (.sipush 144, 3) := by decide +kernel
theorem dX9_init_17 : decode cX9_init 17 = .ok (.newarray .int, 2) := by decide +kernel
theorem dX9_init_19 : decode cX9_init 19 = .ok (.putfield 15, 3) := by decide +kernel
theorem dX9_init_22 : decode cX9_init 22 = .ok (.return_, 1) := by decide +kernel
theorem dX9_costByTable_0 : decode cX9_costByTable 0 = .ok (.aload_n 1, 1) := by decide +kernel
theorem dX9_costByTable_1 : decode cX9_costByTable 1 = .ok (.invokevirtual 18, 3) := by decide +kernel
theorem dX9_costByTable_4 : decode cX9_costByTable 4 = .ok (.istore_n 2, 1) := by decide +kernel
theorem dX9_costByTable_5 : decode cX9_costByTable 5 = .ok (.iload_n 2, 1) := by decide +kernel
theorem dX9_costByTable_6 : decode cX9_costByTable 6 = .ok (.iconst 1, 1) := by decide +kernel
theorem dX9_costByTable_7 : decode cX9_costByTable 7 = .ok (.isub, 1) := by decide +kernel
theorem dX9_costByTable_8 : decode cX9_costByTable 8 = .ok (.istore_n 3, 1) := by decide +kernel
theorem dX9_costByTable_9 : decode cX9_costByTable 9 = .ok (.iload_n 3, 1) := by decide +kernel
theorem dX9_costByTable_10 : decode cX9_costByTable 10 = .ok (.ifCond .lt 82, 3) := by decide +kernel
theorem dX9_costByTable_13 : decode cX9_costByTable 13 = .ok (.aload_n 1, 1) := by decide +kernel
theorem dX9_costByTable_14 : decode cX9_costByTable 14 = .ok (.iload_n 3, 1) := by decide +kernel
theorem dX9_costByTable_15 : decode cX9_costByTable 15 = .ok (.invokevirtual 24, 3) := by decide +kernel
theorem dX9_costByTable_18 : decode cX9_costByTable 18 = .ok (.istore 4, 2) := by decide +kernel
theorem dX9_costByTable_20 : decode cX9_costByTable 20 = .ok (.aload_n 0, 1) := by decide +kernel
theorem dX9_costByTable_21 : decode cX9_costByTable 21 = .ok (.getfield 9, 3) := by decide +kernel
theorem dX9_costByTable_24 : decode cX9_costByTable 24 = .ok (.iload_n 3, 1) := by decide +kernel
theorem dX9_costByTable_25 : decode cX9_costByTable 25 = .ok (.iload_n 3, 1) := by decide +kernel
theorem dX9_costByTable_26 : decode cX9_costByTable 26 = .ok (.invokestatic 28, 3) := by decide +kernel
theorem dX9_costByTable_29 : decode cX9_costByTable 29 = .ok (.iconst 0, 1) := by decide +kernel
theorem dX9_costByTable_30 : decode cX9_costByTable 30 = .ok (.iastore, 1) := by decide +kernel
theorem dX9_costByTable_31 : decode cX9_costByTable 31 = .ok (.iload_n 3, 1) := by decide +kernel
theorem dX9_costByTable_32 : decode cX9_costByTable 32 = .ok (.iconst 1, 1) := by decide +kernel
theorem dX9_costByTable_33 : decode cX9_costByTable 33 = .ok (.iadd, 1) := by decide +kernel
theorem dX9_costByTable_34 : decode cX9_costByTable 34 = .ok (.istore 5, 2) := by decide +kernel
theorem dX9_costByTable_36 : decode cX9_costByTable 36 = .ok (.iload 5, 2) := by decide +kernel
theorem dX9_costByTable_38 : decode cX9_costByTable 38 = .ok (.iload_n 2, 1) := by decide +kernel
theorem dX9_costByTable_39 : decode cX9_costByTable 39 = .ok (.if_icmp .ge 47, 3) := by decide +kernel
theorem dX9_costByTable_42 : decode cX9_costByTable 42 = .ok (.iload 4, 2) := by decide +kernel
theorem dX9_costByTable_44 : decode cX9_costByTable 44 = .ok (.aload_n 1, 1) := by decide +kernel
theorem dX9_costByTable_45 : decode cX9_costByTable 45 = .ok (.iload 5, 2) := by decide +kernel
theorem dX9_costByTable_47 : decode cX9_costByTable 47 = .ok (.invokevirtual 24, 3) := by decide +kernel
theorem dX9_costByTable_50 : decode cX9_costByTable 50 = .ok (.iadd, 1) := by decide +kernel
theorem dX9_costByTable_51 : decode cX9_costByTable 51 = .ok (.istore 4, 2) := by decide +kernel
theorem dX9_costByTable_53 : decode cX9_costByTable 53 = .ok (.aload_n 0, 1) := by decide +kernel
theorem dX9_costByTable_54 : decode cX9_costByTable 54 = .ok (.getfield 9, 3) := by decide +kernel
theorem dX9_costByTable_57 : decode cX9_costByTable 57 = .ok (.iload_n 3, 1) := by decide +kernel
theorem dX9_costByTable_58 : decode cX9_costByTable 58 = .ok (.iload 5, 2) := by decide +kernel
theorem dX9_costByTable_60 : decode cX9_costByTable 60 = .ok (.invokestatic 28, 3) := by decide +kernel
theorem dX9_costByTable_63 : decode cX9_costByTable 63 = .ok (.aload_n 0, 1) := by decide +kernel
theorem dX9_costByTable_64 : decode cX9_costByTable 64 = .ok (.iload_n 3, 1) := by decide +kernel
theorem dX9_costByTable_65 : decode cX9_costByTable 65 = .ok (.iload 5, 2) := by decide +kernel
theorem dX9_costByTable_67 : decode cX9_costByTable 67 = .ok (.invokevirtual 32, 3) := by decide +kernel
theorem dX9_costByTable_70 : decode cX9_costByTable 70 = .ok (.iload 4, 2) := by decide +kernel
theorem dX9_costByTable_72 : decode cX9_costByTable 72 = .ok (.iload_n 3, 1) := by decide +kernel
theorem dX9_costByTable_73 : decode cX9_costByTable 73 = .ok (.iload 5, 2) := by decide +kernel
theorem dX9_costByTable_75 : decode cX9_costByTable 75 = .ok (.invokestatic 35, 3) := by decide +kernel
theorem dX9_costByTable_78 : decode cX9_costByTable 78 = .ok (.iadd, 1) := by decide +kernel
theorem dX9_costByTable_79 : decode cX9_costByTable 79 = .ok (.iastore, 1) := by decide +kernel
theorem dX9_costByTable_80 : decode cX9_costByTable 80 = .ok (.iinc 5 1, 3) := by decide +kernel
theorem dX9_costByTable_83 : decode cX9_costByTable 83 = .ok (.goto (-47), 3) := by decide +kernel
theorem dX9_costByTable_86 : decode cX9_costByTable 86 = .ok (.iinc 3 (-1), 3) := by decide +kernel
theorem dX9_costByTable_89 : decode cX9_costByTable 89 = .ok (.goto (-80), 3) := by decide +kernel
theorem dX9_costByTable_92 : decode cX9_costByTable 92 = .ok (.iload_n 2, 1) := by decide +kernel
theorem dX9_costByTable_93 : decode cX9_costByTable 93 = .ok (.iconst 2, 1) := by decide +kernel
theorem dX9_costByTable_94 : decode cX9_costByTable 94 = .ok (.if_icmp .ge 7, 3) := by decide +kernel
theorem dX9_costByTable_97 : decode cX9_costByTable 97 = .ok (.iconst 0, 1) := by decide +kernel
theorem dX9_costByTable_98 : decode cX9_costByTable 98 = .ok (.goto 15, 3) := by decide +kernel
theorem dX9_costByTable_101 : decode cX9_costByTable 101 = .ok (.aload_n 0, 1) := by decide +kernel
theorem dX9_costByTable_102 : decode cX9_costByTable 102 = .ok (.getfield 9, 3) := by decide +kernel
theorem dX9_costByTable_105 : decode cX9_costByTable 105 = .ok (.iconst 0, 1) := by decide +kernel
theorem dX9_costByTable_106 : decode cX9_costByTable 106 = .ok (.iload_n 2, 1) := by decide +kernel
theorem dX9_costByTable_107 : decode cX9_costByTable 107 = .ok (.iconst 1, 1) := by decide +kernel
theorem dX9_costByTable_108 : decode cX9_costByTable 108 = .ok (.isub, 1) := by decide +kernel
theorem dX9_costByTable_109 : decode cX9_costByTable 109 = .ok (.invokestatic 28, 3) := by decide +kernel
theorem dX9_costByTable_112 : decode cX9_costByTable 112 = .ok (.iaload, 1) := by decide +kernel
theorem dX9_costByTable_113 : decode cX9_costByTable 113 = .ok (.ireturn, 1) := by decide +kernel
theorem dX9_leastOfTable_0 : decode cX9_leastOfTable 0 = .ok (.ldc 39, 2) := by decide +kernel
theorem dX9_leastOfTable_2 : decode cX9_leastOfTable 2 = .ok (.istore_n 3, 1) := by decide +kernel
theorem dX9_leastOfTable_3 : decode cX9_leastOfTable 3 = .ok (.iload_n 1, 1) := by decide +kernel
theorem dX9_leastOfTable_4 : decode cX9_leastOfTable 4 = .ok (.istore 4, 2) := by decide +kernel
theorem dX9_leastOfTable_6 : decode cX9_leastOfTable 6 = .ok (.iload 4, 2) := by decide +kernel
theorem dX9_leastOfTable_8 : decode cX9_leastOfTable 8 = .ok (.iload_n 2, 1) := by decide +kernel
theorem dX9_leastOfTable_9 : decode cX9_leastOfTable 9 = .ok (.if_icmp .ge 39, 3) := by decide +kernel
theorem dX9_leastOfTable_12 : decode cX9_leastOfTable 12 = .ok (.iload_n 3, 1) := by decide +kernel
theorem dX9_leastOfTable_13 : decode cX9_leastOfTable 13 = .ok (.aload_n 0, 1) := by decide +kernel
theorem dX9_leastOfTable_14 : decode cX9_leastOfTable 14 = .ok (.getfield 9, 3) := by decide +kernel
theorem dX9_leastOfTable_17 : decode cX9_leastOfTable 17 = .ok (.iload_n 1, 1) := by decide +kernel
theorem dX9_leastOfTable_18 : decode cX9_leastOfTable 18 = .ok (.iload 4, 2) := by decide +kernel
theorem dX9_leastOfTable_20 : decode cX9_leastOfTable 20 = .ok (.invokestatic 28, 3) := by decide +kernel
theorem dX9_leastOfTable_23 : decode cX9_leastOfTable 23 = .ok (.iaload, 1) := by decide +kernel
theorem dX9_leastOfTable_24 : decode cX9_leastOfTable 24 = .ok (.aload_n 0, 1) := by decide +kernel
theorem dX9_leastOfTable_25 : decode cX9_leastOfTable 25 = .ok (.getfield 9, 3) := by decide +kernel
theorem dX9_leastOfTable_28 : decode cX9_leastOfTable 28 = .ok (.iload 4, 2) := by decide +kernel
theorem dX9_leastOfTable_30 : decode cX9_leastOfTable 30 = .ok (.iconst 1, 1) := by decide +kernel
theorem dX9_leastOfTable_31 : decode cX9_leastOfTable 31 = .ok (.iadd, 1) := by decide +kernel
theorem dX9_leastOfTable_32 : decode cX9_leastOfTable 32 = .ok (.iload_n 2, 1) := by decide +kernel
theorem dX9_leastOfTable_33 : decode cX9_leastOfTable 33 = .ok (.invokestatic 28, 3) := by decide +kernel
theorem dX9_leastOfTable_36 : decode cX9_leastOfTable 36 = .ok (.iaload, 1) := by decide +kernel
theorem dX9_leastOfTable_37 : decode cX9_leastOfTable 37 = .ok (.iadd, 1) := by decide +kernel
theorem dX9_leastOfTable_38 : decode cX9_leastOfTable 38 = .ok (.invokestatic 40, 3) := by decide +kernel
theorem dX9_leastOfTable_41 : decode cX9_leastOfTable 41 = .ok (.istore_n 3, 1) := by decide +kernel
theorem dX9_leastOfTable_42 : decode cX9_leastOfTable 42 = .ok (.iinc 4 1, 3) := by decide +kernel
theorem dX9_leastOfTable_45 : decode cX9_leastOfTable 45 = .ok (.goto (-39), 3) := by decide +kernel
theorem dX9_leastOfTable_48 : decode cX9_leastOfTable 48 = .ok (.iload_n 3, 1) := by decide +kernel
theorem dX9_leastOfTable_49 : decode cX9_leastOfTable 49 = .ok (.ireturn, 1) := by decide +kernel
theorem dX9_costByMemory_0 : decode cX9_costByMemory 0 = .ok (.iconst 0, 1) := by decide +kernel
theorem dX9_costByMemory_1 : decode cX9_costByMemory 1 = .ok (.istore_n 2, 1) := by decide +kernel
theorem dX9_costByMemory_2 : decode cX9_costByMemory 2 = .ok (.iload_n 2, 1) := by decide +kernel
theorem dX9_costByMemory_3 : decode cX9_costByMemory 3 = .ok (.aload_n 0, 1) := by decide +kernel
theorem dX9_costByMemory_4 : decode cX9_costByMemory 4 = .ok (.getfield 15, 3) := by decide +kernel
theorem dX9_costByMemory_7 : decode cX9_costByMemory 7 = .ok (.arraylength, 1) := by decide +kernel
theorem dX9_costByMemory_8 : decode cX9_costByMemory 8 = .ok (.if_icmp .ge 16, 3) := by decide +kernel
theorem dX9_costByMemory_11 : decode cX9_costByMemory 11 = .ok (.aload_n 0, 1) := by decide +kernel
theorem dX9_costByMemory_12 : decode cX9_costByMemory 12 = .ok (.getfield 15, 3) := by decide +kernel
theorem dX9_costByMemory_15 : decode cX9_costByMemory 15 = .ok (.iload_n 2, 1) := by decide +kernel
theorem dX9_costByMemory_16 : decode cX9_costByMemory 16 = .ok (.iconst (-1), 1) := by decide +kernel
theorem dX9_costByMemory_17 : decode cX9_costByMemory 17 = .ok (.iastore, 1) := by decide +kernel
theorem dX9_costByMemory_18 : decode cX9_costByMemory 18 = .ok (.iinc 2 1, 3) := by decide +kernel
theorem dX9_costByMemory_21 : decode cX9_costByMemory 21 = .ok (.goto (-19), 3) := by decide +kernel
theorem dX9_costByMemory_24 : decode cX9_costByMemory 24 = .ok (.aload_n 0, 1) := by decide +kernel
theorem dX9_costByMemory_25 : decode cX9_costByMemory 25 = .ok (.getfield 15, 3) := by decide +kernel
theorem dX9_costByMemory_28 : decode cX9_costByMemory 28 = .ok (.aload_n 1, 1) := by decide +kernel
theorem dX9_costByMemory_29 : decode cX9_costByMemory 29 = .ok (.iconst 0, 1) := by decide +kernel
theorem dX9_costByMemory_30 : decode cX9_costByMemory 30 = .ok (.aload_n 1, 1) := by decide +kernel
theorem dX9_costByMemory_31 : decode cX9_costByMemory 31 = .ok (.invokevirtual 18, 3) := by decide +kernel
theorem dX9_costByMemory_34 : decode cX9_costByMemory 34 = .ok (.iconst 1, 1) := by decide +kernel
theorem dX9_costByMemory_35 : decode cX9_costByMemory 35 = .ok (.isub, 1) := by decide +kernel
theorem dX9_costByMemory_36 : decode cX9_costByMemory 36 = .ok (.invokestatic 45, 3) := by decide +kernel
theorem dX9_costByMemory_39 : decode cX9_costByMemory 39 = .ok (.ireturn, 1) := by decide +kernel
theorem dX9_divide_0 : decode cX9_divide 0 = .ok (.iload_n 2, 1) := by decide +kernel
theorem dX9_divide_1 : decode cX9_divide 1 = .ok (.iload_n 3, 1) := by decide +kernel
theorem dX9_divide_2 : decode cX9_divide 2 = .ok (.if_icmp .lt 5, 3) := by decide +kernel
theorem dX9_divide_5 : decode cX9_divide 5 = .ok (.iconst 0, 1) := by decide +kernel
theorem dX9_divide_6 : decode cX9_divide 6 = .ok (.ireturn, 1) := by decide +kernel
theorem dX9_divide_7 : decode cX9_divide 7 = .ok (.aload_n 0, 1) := by decide +kernel
theorem dX9_divide_8 : decode cX9_divide 8 = .ok (.iload_n 2, 1) := by decide +kernel
theorem dX9_divide_9 : decode cX9_divide 9 = .ok (.iload_n 3, 1) := by decide +kernel
theorem dX9_divide_10 : decode cX9_divide 10 = .ok (.invokestatic 28, 3) := by decide +kernel
theorem dX9_divide_13 : decode cX9_divide 13 = .ok (.iaload, 1) := by decide +kernel
theorem dX9_divide_14 : decode cX9_divide 14 = .ok (.iconst (-1), 1) := by decide +kernel
theorem dX9_divide_15 : decode cX9_divide 15 = .ok (.if_icmp .eq 11, 3) := by decide +kernel
theorem dX9_divide_18 : decode cX9_divide 18 = .ok (.aload_n 0, 1) := by decide +kernel
theorem dX9_divide_19 : decode cX9_divide 19 = .ok (.iload_n 2, 1) := by decide +kernel
theorem dX9_divide_20 : decode cX9_divide 20 = .ok (.iload_n 3, 1) := by decide +kernel
theorem dX9_divide_21 : decode cX9_divide 21 = .ok (.invokestatic 28, 3) := by decide +kernel
theorem dX9_divide_24 : decode cX9_divide 24 = .ok (.iaload, 1) := by decide +kernel
theorem dX9_divide_25 : decode cX9_divide 25 = .ok (.ireturn, 1) := by decide +kernel
theorem dX9_divide_26 : decode cX9_divide 26 = .ok (.ldc 39, 2) := by decide +kernel
theorem dX9_divide_28 : decode cX9_divide 28 = .ok (.istore 4, 2) := by decide +kernel
theorem dX9_divide_30 : decode cX9_divide 30 = .ok (.aload_n 1, 1) := by decide +kernel
theorem dX9_divide_31 : decode cX9_divide 31 = .ok (.iload_n 3, 1) := by decide +kernel
theorem dX9_divide_32 : decode cX9_divide 32 = .ok (.invokevirtual 24, 3) := by decide +kernel
theorem dX9_divide_35 : decode cX9_divide 35 = .ok (.istore 5, 2) := by decide +kernel
theorem dX9_divide_37 : decode cX9_divide 37 = .ok (.iload_n 2, 1) := by decide +kernel
theorem dX9_divide_38 : decode cX9_divide 38 = .ok (.istore 6, 2) := by decide +kernel
theorem dX9_divide_40 : decode cX9_divide 40 = .ok (.iload 6, 2) := by decide +kernel
theorem dX9_divide_42 : decode cX9_divide 42 = .ok (.iload_n 3, 1) := by decide +kernel
theorem dX9_divide_43 : decode cX9_divide 43 = .ok (.if_icmp .ge 50, 3) := by decide +kernel
theorem dX9_divide_46 : decode cX9_divide 46 = .ok (.aload_n 0, 1) := by decide +kernel
theorem dX9_divide_47 : decode cX9_divide 47 = .ok (.aload_n 1, 1) := by decide +kernel
theorem dX9_divide_48 : decode cX9_divide 48 = .ok (.iload_n 2, 1) := by decide +kernel
theorem dX9_divide_49 : decode cX9_divide 49 = .ok (.iload 6, 2) := by decide +kernel
theorem dX9_divide_51 : decode cX9_divide 51 = .ok (.invokestatic 45, 3) := by decide +kernel
theorem dX9_divide_54 : decode cX9_divide 54 = .ok (.aload_n 0, 1) := by decide +kernel
theorem dX9_divide_55 : decode cX9_divide 55 = .ok (.aload_n 1, 1) := by decide +kernel
theorem dX9_divide_56 : decode cX9_divide 56 = .ok (.iload 6, 2) := by decide +kernel
theorem dX9_divide_58 : decode cX9_divide 58 = .ok (.iconst 1, 1) := by decide +kernel
theorem dX9_divide_59 : decode cX9_divide 59 = .ok (.iadd, 1) := by decide +kernel
theorem dX9_divide_60 : decode cX9_divide 60 = .ok (.iload_n 3, 1) := by decide +kernel
theorem dX9_divide_61 : decode cX9_divide 61 = .ok (.invokestatic 45, 3) := by decide +kernel
theorem dX9_divide_64 : decode cX9_divide 64 = .ok (.iadd, 1) := by decide +kernel
theorem dX9_divide_65 : decode cX9_divide 65 = .ok (.istore 7, 2) := by decide +kernel
theorem dX9_divide_67 : decode cX9_divide 67 = .ok (.iload 4, 2) := by decide +kernel
theorem dX9_divide_69 : decode cX9_divide 69 = .ok (.iload 7, 2) := by decide +kernel
theorem dX9_divide_71 : decode cX9_divide 71 = .ok (.invokestatic 40, 3) := by decide +kernel
theorem dX9_divide_74 : decode cX9_divide 74 = .ok (.istore 4, 2) := by decide +kernel
theorem dX9_divide_76 : decode cX9_divide 76 = .ok (.iload 5, 2) := by decide +kernel
theorem dX9_divide_78 : decode cX9_divide 78 = .ok (.aload_n 1, 1) := by decide +kernel
theorem dX9_divide_79 : decode cX9_divide 79 = .ok (.iload 6, 2) := by decide +kernel
theorem dX9_divide_81 : decode cX9_divide 81 = .ok (.invokevirtual 24, 3) := by decide +kernel
theorem dX9_divide_84 : decode cX9_divide 84 = .ok (.iadd, 1) := by decide +kernel
theorem dX9_divide_85 : decode cX9_divide 85 = .ok (.istore 5, 2) := by decide +kernel
theorem dX9_divide_87 : decode cX9_divide 87 = .ok (.iinc 6 1, 3) := by decide +kernel
theorem dX9_divide_90 : decode cX9_divide 90 = .ok (.goto (-50), 3) := by decide +kernel
theorem dX9_divide_93 : decode cX9_divide 93 = .ok (.aload_n 0, 1) := by decide +kernel
theorem dX9_divide_94 : decode cX9_divide 94 = .ok (.iload_n 2, 1) := by decide +kernel
theorem dX9_divide_95 : decode cX9_divide 95 = .ok (.iload_n 3, 1) := by decide +kernel
theorem dX9_divide_96 : decode cX9_divide 96 = .ok (.invokestatic 28, 3) := by decide +kernel
theorem dX9_divide_99 : decode cX9_divide 99 = .ok (.iload 4, 2) := by decide +kernel
theorem dX9_divide_101 : decode cX9_divide 101 = .ok (.iload 5, 2) := by decide +kernel
theorem dX9_divide_103 : decode cX9_divide 103 = .ok (.iload_n 2, 1) := by decide +kernel
theorem dX9_divide_104 : decode cX9_divide 104 = .ok (.iload_n 3, 1) := by decide +kernel
theorem dX9_divide_105 : decode cX9_divide 105 = .ok (.invokestatic 35, 3) := by decide +kernel
theorem dX9_divide_108 : decode cX9_divide 108 = .ok (.iadd, 1) := by decide +kernel
theorem dX9_divide_109 : decode cX9_divide 109 = .ok (.iastore, 1) := by decide +kernel
theorem dX9_divide_110 : decode cX9_divide 110 = .ok (.aload_n 0, 1) := by decide +kernel
theorem dX9_divide_111 : decode cX9_divide 111 = .ok (.iload_n 2, 1) := by decide +kernel
theorem dX9_divide_112 : decode cX9_divide 112 = .ok (.iload_n 3, 1) := by decide +kernel
theorem dX9_divide_113 : decode cX9_divide 113 = .ok (.invokestatic 28, 3) := by decide +kernel
theorem dX9_divide_116 : decode cX9_divide 116 = .ok (.iaload, 1) := by decide +kernel
theorem dX9_divide_117 : decode cX9_divide 117 = .ok (.ireturn, 1) := by decide +kernel
theorem dX9_lastSplice_0 : decode cX9_lastSplice 0 = .ok (.iload_n 0, 1) := by decide +kernel
theorem dX9_lastSplice_1 : decode cX9_lastSplice 1 = .ok (.iload_n 2, 1) := by decide +kernel
theorem dX9_lastSplice_2 : decode cX9_lastSplice 2 = .ok (.iload_n 1, 1) := by decide +kernel
theorem dX9_lastSplice_3 : decode cX9_lastSplice 3 = .ok (.isub, 1) := by decide +kernel
theorem dX9_lastSplice_4 : decode cX9_lastSplice 4 = .ok (.iconst 1, 1) := by decide +kernel
theorem dX9_lastSplice_5 : decode cX9_lastSplice 5 = .ok (.isub, 1) := by decide +kernel
theorem dX9_lastSplice_6 : decode cX9_lastSplice 6 = .ok (.isub, 1) := by decide +kernel
theorem dX9_lastSplice_7 : decode cX9_lastSplice 7 = .ok (.ireturn, 1) := by decide +kernel
theorem dX9_cell_0 : decode cX9_cell 0 = .ok (.iload_n 0, 1) := by decide +kernel
theorem dX9_cell_1 : decode cX9_cell 1 = .ok (.bipush 12, 2) := by decide +kernel
theorem dX9_cell_3 : decode cX9_cell 3 = .ok (.imul, 1) := by decide +kernel
theorem dX9_cell_4 : decode cX9_cell 4 = .ok (.iload_n 1, 1) := by decide +kernel
theorem dX9_cell_5 : decode cX9_cell 5 = .ok (.iadd, 1) := by decide +kernel
theorem dX9_cell_6 : decode cX9_cell 6 = .ok (.ireturn, 1) := by decide +kernel
theorem dX10_init_0 : decode cX10_init 0 = .ok (.aload_n 0, 1) := by decide +kernel
theorem dX10_init_1 : decode cX10_init 1 = .ok (.invokespecial 3, 3) := by decide +kernel
theorem dX10_init_4 : decode cX10_init 4 = .ok (.aload_n 0, 1) := by decide +kernel
theorem dX10_init_5 : decode cX10_init 5 = .ok (.new 9, 3) := by decide +kernel
theorem dX10_init_8 : decode cX10_init 8 = .ok (.dup, 1) := by decide +kernel
theorem dX10_init_9 : decode cX10_init 9 = .ok (.invokespecial 11, 3) := by decide +kernel
theorem dX10_init_12 : decode cX10_init 12 = .ok (.putfield 12, 3) := by decide +kernel
theorem dX10_init_15 : decode cX10_init 15 = .ok (.aload_n 0, 1) := by decide +kernel
theorem dX10_init_16 : decode cX10_init 16 = .ok (.new 18, 3) := by decide +kernel
theorem dX10_init_19 : decode cX10_init 19 = .ok (.dup, 1) := by decide +kernel
theorem dX10_init_20 : decode cX10_init 20 = .ok (.invokespecial 20, 3) := by decide +kernel
theorem dX10_init_23 : decode cX10_init 23 = .ok (.putfield 21, 3) := by decide +kernel
theorem dX10_init_26 : decode cX10_init 26 = .ok (.aload_n 0, 1) := by decide +kernel
theorem dX10_init_27 : decode cX10_init 27 = .ok (.new 25, 3) := by decide +kernel
theorem dX10_init_30 : decode cX10_init 30 = .ok (.dup, 1) := by decide +kernel
theorem dX10_init_31 : decode cX10_init 31 = .ok (.bipush 12, 2) := by decide +kernel
theorem dX10_init_33 : decode cX10_init 33 = .ok (.invokespecial 27, 3) := by decide +kernel
theorem dX10_init_36 : decode cX10_init 36 = .ok (.putfield 30, 3) := by decide +kernel
theorem dX10_init_39 : decode cX10_init 39 = .ok (.aload_n 0, 1) := by decide +kernel
theorem dX10_init_40 : decode cX10_init 40 = .ok (.iconst 1, 1) := by decide +kernel
theorem dX10_init_41 : decode cX10_init 41 = .ok (.putfield 34, 3) := by decide +kernel
theorem dX10_init_44 : decode cX10_init 44 = .ok (.aload_n 0, 1) := by decide +kernel
theorem dX10_init_45 : decode cX10_init 45 = .ok (.sipush 1000, 3) := by decide +kernel
theorem dX10_init_48 : decode cX10_init 48 = .ok (.putfield 38, 3) := by decide +kernel
theorem dX10_init_51 : decode cX10_init 51 = .ok (.return_, 1) := by decide +kernel
theorem dX10_refusalOfBuying_0 : decode cX10_refusalOfBuying 0 = .ok (.iload_n 1, 1) := by decide +kernel
theorem dX10_refusalOfBuying_1 : decode cX10_refusalOfBuying 1 = .ok (.iconst 1, 1) := by decide +kernel
theorem dX10_refusalOfBuying_2 : decode cX10_refusalOfBuying 2 = .ok (.bipush 50, 2) := by decide +kernel
theorem dX10_refusalOfBuying_4 : decode cX10_refusalOfBuying 4 = .ok (.invokestatic 41, 3) := by decide +kernel
theorem dX10_refusalOfBuying_7 : decode cX10_refusalOfBuying 7 = .ok (.ifCond .eq 24, 3) := by decide +kernel
theorem dX10_refusalOfBuying_10 : decode cX10_refusalOfBuying 10 = .ok (.iload_n 2, 1) := by decide +kernel
theorem dX10_refusalOfBuying_11 : decode cX10_refusalOfBuying 11 = .ok (.bipush 10, 2) := by decide +kernel
theorem dX10_refusalOfBuying_13 : decode cX10_refusalOfBuying 13 = .ok (.bipush 60, 2) := by decide +kernel
theorem dX10_refusalOfBuying_15 : decode cX10_refusalOfBuying 15 = .ok (.invokestatic 41, 3) := by decide +kernel
theorem dX10_refusalOfBuying_18 : decode cX10_refusalOfBuying 18 = .ok (.ifCond .eq 13, 3) := by decide +kernel
theorem dX10_refusalOfBuying_21 : decode cX10_refusalOfBuying 21 = .ok (.iload_n 3, 1) := by decide +kernel
theorem dX10_refusalOfBuying_22 : decode cX10_refusalOfBuying 22 = .ok (.iconst 1, 1) := by decide +kernel
theorem dX10_refusalOfBuying_23 : decode cX10_refusalOfBuying 23 = .ok (.bipush 20, 2) := by decide +kernel
theorem dX10_refusalOfBuying_25 : decode cX10_refusalOfBuying 25 = .ok (.invokestatic 41, 3) := by decide +kernel
theorem dX10_refusalOfBuying_28 : decode cX10_refusalOfBuying 28 = .ok (.ifCond .ne 7, 3) := by decide +kernel
theorem dX10_refusalOfBuying_31 : decode cX10_refusalOfBuying 31 = .ok (.getstatic 45, 3) := by decide +kernel
theorem dX10_refusalOfBuying_34 : decode cX10_refusalOfBuying 34 = .ok (.areturn, 1) := by decide +kernel
theorem dX10_refusalOfBuying_35 : decode cX10_refusalOfBuying 35 = .ok (.aload_n 0, 1) := by decide +kernel
theorem dX10_refusalOfBuying_36 : decode cX10_refusalOfBuying 36 = .ok (.getfield 12, 3) := by decide +kernel
theorem dX10_refusalOfBuying_39 : decode cX10_refusalOfBuying 39 = .ok (.getfield 51, 3) := by decide +kernel
theorem dX10_refusalOfBuying_42 : decode cX10_refusalOfBuying 42 = .ok (.invokevirtual 54, 3) := by decide +kernel
theorem dX10_refusalOfBuying_45 : decode cX10_refusalOfBuying 45 = .ok (.ifCond .eq 7, 3) := by decide +kernel
theorem dX10_refusalOfBuying_48 : decode cX10_refusalOfBuying 48 = .ok (.getstatic 58, 3) := by decide +kernel
theorem dX10_refusalOfBuying_51 : decode cX10_refusalOfBuying 51 = .ok (.areturn, 1) := by decide +kernel
theorem dX10_refusalOfBuying_52 : decode cX10_refusalOfBuying 52 = .ok (.aload_n 0, 1) := by decide +kernel
theorem dX10_refusalOfBuying_53 : decode cX10_refusalOfBuying 53 = .ok (.getfield 38, 3) := by decide +kernel
theorem dX10_refusalOfBuying_56 : decode cX10_refusalOfBuying 56 = .ok (.iload_n 1, 1) := by decide +kernel
theorem dX10_refusalOfBuying_57 : decode cX10_refusalOfBuying 57 = .ok (.iload_n 3, 1) := by decide +kernel
theorem dX10_refusalOfBuying_58 : decode cX10_refusalOfBuying 58 = .ok (.imul, 1) := by decide +kernel
theorem dX10_refusalOfBuying_59 : decode cX10_refusalOfBuying 59 = .ok (.if_icmp .ge 9, 3) := by decide +kernel
theorem dX10_refusalOfBuying_62 : decode cX10_refusalOfBuying 62 = .ok (.getstatic 61, 3) := by decide +kernel
theorem dX10_refusalOfBuying_65 : decode cX10_refusalOfBuying 65 = .ok (.goto 6, 3) := by decide +kernel
theorem dX10_refusalOfBuying_68 : decode cX10_refusalOfBuying 68 = .ok (.getstatic 64, 3) := by decide +kernel
theorem dX10_refusalOfBuying_71 : decode cX10_refusalOfBuying 71 = .ok (.areturn, 1) := by decide +kernel
theorem dX10_takeBale_0 : decode cX10_takeBale 0 = .ok (.aload_n 0, 1) := by decide +kernel
theorem dX10_takeBale_1 : decode cX10_takeBale 1 = .ok (.dup, 1) := by decide +kernel
theorem dX10_takeBale_2 : decode cX10_takeBale 2 = .ok (.getfield 38, 3) := by decide +kernel
theorem dX10_takeBale_5 : decode cX10_takeBale 5 = .ok (.iload_n 1, 1) := by decide +kernel
theorem dX10_takeBale_6 : decode cX10_takeBale 6 = .ok (.iload_n 3, 1) := by decide +kernel
theorem dX10_takeBale_7 : decode cX10_takeBale 7 = .ok (.imul, 1) := by decide +kernel
theorem dX10_takeBale_8 : decode cX10_takeBale 8 = .ok (.isub, 1) := by decide +kernel
theorem dX10_takeBale_9 : decode cX10_takeBale 9 = .ok (.putfield 38, 3) := by decide +kernel
theorem dX10_takeBale_12 : decode cX10_takeBale 12 = .ok (.aload_n 0, 1) := by decide +kernel
theorem dX10_takeBale_13 : decode cX10_takeBale 13 = .ok (.dup, 1) := by decide +kernel
theorem dX10_takeBale_14 : decode cX10_takeBale 14 = .ok (.getfield 67, 3) := by decide +kernel
theorem dX10_takeBale_17 : decode cX10_takeBale 17 = .ok (.iload_n 1, 1) := by decide +kernel
theorem dX10_takeBale_18 : decode cX10_takeBale 18 = .ok (.iload_n 3, 1) := by decide +kernel
theorem dX10_takeBale_19 : decode cX10_takeBale 19 = .ok (.imul, 1) := by decide +kernel
theorem dX10_takeBale_20 : decode cX10_takeBale 20 = .ok (.iadd, 1) := by decide +kernel
theorem dX10_takeBale_21 : decode cX10_takeBale 21 = .ok (.putfield 67, 3) := by decide +kernel
theorem dX10_takeBale_24 : decode cX10_takeBale 24 = .ok (.aload_n 0, 1) := by decide +kernel
theorem dX10_takeBale_25 : decode cX10_takeBale 25 = .ok (.getfield 12, 3) := by decide +kernel
theorem dX10_takeBale_28 : decode cX10_takeBale 28 = .ok (.iload_n 1, 1) := by decide +kernel
theorem dX10_takeBale_29 : decode cX10_takeBale 29 = .ok (.iload_n 2, 1) := by decide +kernel
theorem dX10_takeBale_30 : decode cX10_takeBale 30 = .ok (.iload_n 3, 1) := by decide +kernel
theorem dX10_takeBale_31 : decode cX10_takeBale 31 = .ok (.invokevirtual 70, 3) := by decide +kernel
theorem dX10_takeBale_34 : decode cX10_takeBale 34 = .ok (.ireturn, 1) := by decide +kernel
theorem dX10_useBales_0 : decode cX10_useBales 0 = .ok (.aload_n 0, 1) := by decide +kernel
theorem dX10_useBales_1 : decode cX10_useBales 1 = .ok (.dup, 1) := by decide +kernel
theorem dX10_useBales_2 : decode cX10_useBales 2 = .ok (.getfield 74, 3) := by decide +kernel
theorem dX10_useBales_5 : decode cX10_useBales 5 = .ok (.aload_n 0, 1) := by decide +kernel
theorem dX10_useBales_6 : decode cX10_useBales 6 = .ok (.getfield 12, 3) := by decide +kernel
theorem dX10_useBales_9 : decode cX10_useBales 9 = .ok (.iload_n 1, 1) := by decide +kernel
theorem dX10_useBales_10 : decode cX10_useBales 10 = .ok (.invokevirtual 77, 3) := by decide +kernel
theorem dX10_useBales_13 : decode cX10_useBales 13 = .ok (.iadd, 1) := by decide +kernel
theorem dX10_useBales_14 : decode cX10_useBales 14 = .ok (.putfield 74, 3) := by decide +kernel
theorem dX10_useBales_17 : decode cX10_useBales 17 = .ok (.aload_n 0, 1) := by decide +kernel
theorem dX10_useBales_18 : decode cX10_useBales 18 = .ok (.getfield 12, 3) := by decide +kernel
theorem dX10_useBales_21 : decode cX10_useBales 21 = .ok (.iload_n 1, 1) := by decide +kernel
theorem dX10_useBales_22 : decode cX10_useBales 22 = .ok (.invokevirtual 81, 3) := by decide +kernel
theorem dX10_useBales_25 : decode cX10_useBales 25 = .ok (.aload_n 0, 1) := by decide +kernel
theorem dX10_useBales_26 : decode cX10_useBales 26 = .ok (.getfield 74, 3) := by decide +kernel
theorem dX10_useBales_29 : decode cX10_useBales 29 = .ok (.ireturn, 1) := by decide +kernel
theorem dX10_changeMachines_0 : decode cX10_changeMachines 0 = .ok (.aload_n 0, 1) := by decide +kernel
theorem dX10_changeMachines_1 : decode cX10_changeMachines 1 = .ok (.getfield 34, 3) := by decide +kernel
theorem dX10_changeMachines_4 : decode cX10_changeMachines 4 = .ok (.istore_n 2, 1) := by decide +kernel
theorem dX10_changeMachines_5 : decode cX10_changeMachines 5 = .ok (.aload_n 0, 1) := by decide +kernel
theorem dX10_changeMachines_6 : decode cX10_changeMachines 6 = .ok (.iload_n 1, 1) := by decide +kernel
theorem dX10_changeMachines_7 : decode cX10_changeMachines 7 = .ok (.putfield 34, 3) := by decide +kernel
theorem dX10_changeMachines_10 : decode cX10_changeMachines 10 = .ok (.iload_n 2, 1) := by decide +kernel
theorem dX10_changeMachines_11 : decode cX10_changeMachines 11 = .ok (.ireturn, 1) := by decide +kernel
theorem dX10_refusalOfSpinning_0 : decode cX10_refusalOfSpinning 0 = .ok (.aload_n 0, 1) := by decide +kernel
theorem dX10_refusalOfSpinning_1 : decode cX10_refusalOfSpinning 1 = .ok (.getfield 21, 3) := by decide +kernel
theorem dX10_refusalOfSpinning_4 : decode cX10_refusalOfSpinning 4 = .ok (.getfield 84, 3) := by decide +kernel
theorem dX10_refusalOfSpinning_7 : decode cX10_refusalOfSpinning 7 = .ok (.iload_n 1, 1) := by decide +kernel
theorem dX10_refusalOfSpinning_8 : decode cX10_refusalOfSpinning 8 = .ok (.invokevirtual 85, 3) := by decide +kernel
theorem dX10_refusalOfSpinning_11 : decode cX10_refusalOfSpinning 11 = .ok (.ifCond .ne 7, 3) := by decide +kernel
theorem dX10_refusalOfSpinning_14 : decode cX10_refusalOfSpinning 14 = .ok (.getstatic 89, 3) := by decide +kernel
theorem dX10_refusalOfSpinning_17 : decode cX10_refusalOfSpinning 17 = .ok (.areturn, 1) := by decide +kernel
theorem dX10_refusalOfSpinning_18 : decode cX10_refusalOfSpinning 18 = .ok (.aload_n 0, 1) := by decide +kernel
theorem dX10_refusalOfSpinning_19 : decode cX10_refusalOfSpinning 19 = .ok (.getfield 74, 3) := by decide +kernel
theorem dX10_refusalOfSpinning_22 : decode cX10_refusalOfSpinning 22 = .ok (.aload_n 0, 1) := by decide +kernel
theorem dX10_refusalOfSpinning_23 : decode cX10_refusalOfSpinning 23 = .ok (.getfield 21, 3) := by decide +kernel
theorem dX10_refusalOfSpinning_26 : decode cX10_refusalOfSpinning 26 = .ok (.getfield 92, 3) := by decide +kernel
theorem dX10_refusalOfSpinning_29 : decode cX10_refusalOfSpinning 29 = .ok (.iload_n 1, 1) := by decide +kernel
theorem dX10_refusalOfSpinning_30 : decode cX10_refusalOfSpinning 30 = .ok (.invokevirtual 95, 3) := by decide +kernel
theorem dX10_refusalOfSpinning_33 : decode cX10_refusalOfSpinning 33 = .ok (.if_icmp .ge 7, 3) := by decide +kernel
