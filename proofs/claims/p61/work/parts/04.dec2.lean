theorem dX10_refusalOfSpinning_36 : decode cX10_refusalOfSpinning 36 = .ok (.getstatic 61, 3) := by decide +kernel
theorem dX10_refusalOfSpinning_39 : decode cX10_refusalOfSpinning 39 = .ok (.areturn, 1) := by decide +kernel
theorem dX10_refusalOfSpinning_40 : decode cX10_refusalOfSpinning 40 = .ok (.aload_n 0, 1) := by decide +kernel
theorem dX10_refusalOfSpinning_41 : decode cX10_refusalOfSpinning 41 = .ok (.getfield 30, 3) := by decide +kernel
theorem dX10_refusalOfSpinning_44 : decode cX10_refusalOfSpinning 44 = .ok (.invokevirtual 98, 3) := by decide +kernel
theorem dX10_refusalOfSpinning_47 : decode cX10_refusalOfSpinning 47 = .ok (.aload_n 0, 1) := by decide +kernel
theorem dX10_refusalOfSpinning_48 : decode cX10_refusalOfSpinning 48 = .ok (.getfield 21, 3) := by decide +kernel
theorem dX10_refusalOfSpinning_51 : decode cX10_refusalOfSpinning 51 = .ok (.iload_n 1, 1) := by decide +kernel
theorem dX10_refusalOfSpinning_52 : decode cX10_refusalOfSpinning 52 = .ok (.invokevirtual 102, 3) := by decide +kernel
theorem dX10_refusalOfSpinning_55 : decode cX10_refusalOfSpinning 55 = .ok (.iadd, 1) := by decide +kernel
theorem dX10_refusalOfSpinning_56 : decode cX10_refusalOfSpinning 56 = .ok (.bipush 12, 2) := by decide +kernel
theorem dX10_refusalOfSpinning_58 : decode cX10_refusalOfSpinning 58 = .ok (.if_icmp .le 9, 3) := by decide +kernel
theorem dX10_refusalOfSpinning_61 : decode cX10_refusalOfSpinning 61 = .ok (.getstatic 58, 3) := by decide +kernel
theorem dX10_refusalOfSpinning_64 : decode cX10_refusalOfSpinning 64 = .ok (.goto 6, 3) := by decide +kernel
theorem dX10_refusalOfSpinning_67 : decode cX10_refusalOfSpinning 67 = .ok (.getstatic 64, 3) := by decide +kernel
theorem dX10_refusalOfSpinning_70 : decode cX10_refusalOfSpinning 70 = .ok (.areturn, 1) := by decide +kernel
theorem dX10_spinAt_0 : decode cX10_spinAt 0 = .ok (.aload_n 0, 1) := by decide +kernel
theorem dX10_spinAt_1 : decode cX10_spinAt 1 = .ok (.getfield 21, 3) := by decide +kernel
theorem dX10_spinAt_4 : decode cX10_spinAt 4 = .ok (.getfield 92, 3) := by decide +kernel
theorem dX10_spinAt_7 : decode cX10_spinAt 7 = .ok (.iload_n 1, 1) := by decide +kernel
theorem dX10_spinAt_8 : decode cX10_spinAt 8 = .ok (.invokevirtual 95, 3) := by decide +kernel
theorem dX10_spinAt_11 : decode cX10_spinAt 11 = .ok (.istore_n 2, 1) := by decide +kernel
theorem dX10_spinAt_12 : decode cX10_spinAt 12 = .ok (.aload_n 0, 1) := by decide +kernel
theorem dX10_spinAt_13 : decode cX10_spinAt 13 = .ok (.getfield 21, 3) := by decide +kernel
theorem dX10_spinAt_16 : decode cX10_spinAt 16 = .ok (.iload_n 1, 1) := by decide +kernel
theorem dX10_spinAt_17 : decode cX10_spinAt 17 = .ok (.invokevirtual 105, 3) := by decide +kernel
theorem dX10_spinAt_20 : decode cX10_spinAt 20 = .ok (.istore_n 3, 1) := by decide +kernel
theorem dX10_spinAt_21 : decode cX10_spinAt 21 = .ok (.aload_n 0, 1) := by decide +kernel
theorem dX10_spinAt_22 : decode cX10_spinAt 22 = .ok (.getfield 21, 3) := by decide +kernel
theorem dX10_spinAt_25 : decode cX10_spinAt 25 = .ok (.iload_n 1, 1) := by decide +kernel
theorem dX10_spinAt_26 : decode cX10_spinAt 26 = .ok (.invokevirtual 102, 3) := by decide +kernel
theorem dX10_spinAt_29 : decode cX10_spinAt 29 = .ok (.istore 4, 2) := by decide +kernel
theorem dX10_spinAt_31 : decode cX10_spinAt 31 = .ok (.iconst 0, 1) := by decide +kernel
theorem dX10_spinAt_32 : decode cX10_spinAt 32 = .ok (.istore 5, 2) := by decide +kernel
theorem dX10_spinAt_34 : decode cX10_spinAt 34 = .ok (.iload 5, 2) := by decide +kernel
theorem dX10_spinAt_36 : decode cX10_spinAt 36 = .ok (.iload 4, 2) := by decide +kernel
theorem dX10_spinAt_38 : decode cX10_spinAt 38 = .ok (.if_icmp .ge 26, 3) := by decide +kernel
theorem dX10_spinAt_41 : decode cX10_spinAt 41 = .ok (.aload_n 0, 1) := by decide +kernel
theorem dX10_spinAt_42 : decode cX10_spinAt 42 = .ok (.getfield 30, 3) := by decide +kernel
theorem dX10_spinAt_45 : decode cX10_spinAt 45 = .ok (.iload_n 3, 1) := by decide +kernel
theorem dX10_spinAt_46 : decode cX10_spinAt 46 = .ok (.iload_n 2, 1) := by decide +kernel
theorem dX10_spinAt_47 : decode cX10_spinAt 47 = .ok (.iload 5, 2) := by decide +kernel
theorem dX10_spinAt_49 : decode cX10_spinAt 49 = .ok (.iload_n 3, 1) := by decide +kernel
theorem dX10_spinAt_50 : decode cX10_spinAt 50 = .ok (.imul, 1) := by decide +kernel
theorem dX10_spinAt_51 : decode cX10_spinAt 51 = .ok (.isub, 1) := by decide +kernel
theorem dX10_spinAt_52 : decode cX10_spinAt 52 = .ok (.invokestatic 108, 3) := by decide +kernel
theorem dX10_spinAt_55 : decode cX10_spinAt 55 = .ok (.invokevirtual 114, 3) := by decide +kernel
theorem dX10_spinAt_58 : decode cX10_spinAt 58 = .ok (.iinc 5 1, 3) := by decide +kernel
theorem dX10_spinAt_61 : decode cX10_spinAt 61 = .ok (.goto (-27), 3) := by decide +kernel
theorem dX10_spinAt_64 : decode cX10_spinAt 64 = .ok (.aload_n 0, 1) := by decide +kernel
theorem dX10_spinAt_65 : decode cX10_spinAt 65 = .ok (.dup, 1) := by decide +kernel
theorem dX10_spinAt_66 : decode cX10_spinAt 66 = .ok (.getfield 74, 3) := by decide +kernel
theorem dX10_spinAt_69 : decode cX10_spinAt 69 = .ok (.iload_n 2, 1) := by decide +kernel
theorem dX10_spinAt_70 : decode cX10_spinAt 70 = .ok (.isub, 1) := by decide +kernel
theorem dX10_spinAt_71 : decode cX10_spinAt 71 = .ok (.putfield 74, 3) := by decide +kernel
theorem dX10_spinAt_74 : decode cX10_spinAt 74 = .ok (.aload_n 0, 1) := by decide +kernel
theorem dX10_spinAt_75 : decode cX10_spinAt 75 = .ok (.dup, 1) := by decide +kernel
theorem dX10_spinAt_76 : decode cX10_spinAt 76 = .ok (.getfield 116, 3) := by decide +kernel
theorem dX10_spinAt_79 : decode cX10_spinAt 79 = .ok (.iload_n 2, 1) := by decide +kernel
theorem dX10_spinAt_80 : decode cX10_spinAt 80 = .ok (.iadd, 1) := by decide +kernel
theorem dX10_spinAt_81 : decode cX10_spinAt 81 = .ok (.putfield 116, 3) := by decide +kernel
theorem dX10_spinAt_84 : decode cX10_spinAt 84 = .ok (.aload_n 0, 1) := by decide +kernel
theorem dX10_spinAt_85 : decode cX10_spinAt 85 = .ok (.dup, 1) := by decide +kernel
theorem dX10_spinAt_86 : decode cX10_spinAt 86 = .ok (.getfield 119, 3) := by decide +kernel
theorem dX10_spinAt_89 : decode cX10_spinAt 89 = .ok (.aload_n 0, 1) := by decide +kernel
theorem dX10_spinAt_90 : decode cX10_spinAt 90 = .ok (.getfield 21, 3) := by decide +kernel
theorem dX10_spinAt_93 : decode cX10_spinAt 93 = .ok (.getfield 122, 3) := by decide +kernel
theorem dX10_spinAt_96 : decode cX10_spinAt 96 = .ok (.iload_n 1, 1) := by decide +kernel
theorem dX10_spinAt_97 : decode cX10_spinAt 97 = .ok (.invokevirtual 95, 3) := by decide +kernel
theorem dX10_spinAt_100 : decode cX10_spinAt 100 = .ok (.iadd, 1) := by decide +kernel
theorem dX10_spinAt_101 : decode cX10_spinAt 101 = .ok (.putfield 119, 3) := by decide +kernel
theorem dX10_spinAt_104 : decode cX10_spinAt 104 = .ok (.aload_n 0, 1) := by decide +kernel
theorem dX10_spinAt_105 : decode cX10_spinAt 105 = .ok (.getfield 21, 3) := by decide +kernel
theorem dX10_spinAt_108 : decode cX10_spinAt 108 = .ok (.iload_n 1, 1) := by decide +kernel
theorem dX10_spinAt_109 : decode cX10_spinAt 109 = .ok (.invokevirtual 125, 3) := by decide +kernel
theorem dX10_spinAt_112 : decode cX10_spinAt 112 = .ok (.pop, 1) := by decide +kernel
theorem dX10_spinAt_113 : decode cX10_spinAt 113 = .ok (.iload 4, 2) := by decide +kernel
theorem dX10_spinAt_115 : decode cX10_spinAt 115 = .ok (.ireturn, 1) := by decide +kernel
theorem dX10_spliceAt_0 : decode cX10_spliceAt 0 = .ok (.aload_n 0, 1) := by decide +kernel
theorem dX10_spliceAt_1 : decode cX10_spliceAt 1 = .ok (.getfield 30, 3) := by decide +kernel
theorem dX10_spliceAt_4 : decode cX10_spliceAt 4 = .ok (.iload_n 1, 1) := by decide +kernel
theorem dX10_spliceAt_5 : decode cX10_spliceAt 5 = .ok (.invokevirtual 95, 3) := by decide +kernel
theorem dX10_spliceAt_8 : decode cX10_spliceAt 8 = .ok (.aload_n 0, 1) := by decide +kernel
theorem dX10_spliceAt_9 : decode cX10_spliceAt 9 = .ok (.getfield 30, 3) := by decide +kernel
theorem dX10_spliceAt_12 : decode cX10_spliceAt 12 = .ok (.iload_n 1, 1) := by decide +kernel
theorem dX10_spliceAt_13 : decode cX10_spliceAt 13 = .ok (.iconst 1, 1) := by decide +kernel
theorem dX10_spliceAt_14 : decode cX10_spliceAt 14 = .ok (.iadd, 1) := by decide +kernel
theorem dX10_spliceAt_15 : decode cX10_spliceAt 15 = .ok (.invokevirtual 95, 3) := by decide +kernel
theorem dX10_spliceAt_18 : decode cX10_spliceAt 18 = .ok (.iadd, 1) := by decide +kernel
theorem dX10_spliceAt_19 : decode cX10_spliceAt 19 = .ok (.istore_n 2, 1) := by decide +kernel
theorem dX10_spliceAt_20 : decode cX10_spliceAt 20 = .ok (.aload_n 0, 1) := by decide +kernel
theorem dX10_spliceAt_21 : decode cX10_spliceAt 21 = .ok (.getfield 30, 3) := by decide +kernel
theorem dX10_spliceAt_24 : decode cX10_spliceAt 24 = .ok (.iload_n 1, 1) := by decide +kernel
theorem dX10_spliceAt_25 : decode cX10_spliceAt 25 = .ok (.iload_n 2, 1) := by decide +kernel
theorem dX10_spliceAt_26 : decode cX10_spliceAt 26 = .ok (.iconst 1, 1) := by decide +kernel
theorem dX10_spliceAt_27 : decode cX10_spliceAt 27 = .ok (.isub, 1) := by decide +kernel
theorem dX10_spliceAt_28 : decode cX10_spliceAt 28 = .ok (.invokevirtual 128, 3) := by decide +kernel
theorem dX10_spliceAt_31 : decode cX10_spliceAt 31 = .ok (.aload_n 0, 1) := by decide +kernel
theorem dX10_spliceAt_32 : decode cX10_spliceAt 32 = .ok (.getfield 30, 3) := by decide +kernel
theorem dX10_spliceAt_35 : decode cX10_spliceAt 35 = .ok (.iload_n 1, 1) := by decide +kernel
theorem dX10_spliceAt_36 : decode cX10_spliceAt 36 = .ok (.iconst 1, 1) := by decide +kernel
theorem dX10_spliceAt_37 : decode cX10_spliceAt 37 = .ok (.iadd, 1) := by decide +kernel
theorem dX10_spliceAt_38 : decode cX10_spliceAt 38 = .ok (.invokevirtual 132, 3) := by decide +kernel
theorem dX10_spliceAt_41 : decode cX10_spliceAt 41 = .ok (.aload_n 0, 1) := by decide +kernel
theorem dX10_spliceAt_42 : decode cX10_spliceAt 42 = .ok (.dup, 1) := by decide +kernel
theorem dX10_spliceAt_43 : decode cX10_spliceAt 43 = .ok (.getfield 119, 3) := by decide +kernel
theorem dX10_spliceAt_46 : decode cX10_spliceAt 46 = .ok (.iload_n 2, 1) := by decide +kernel
theorem dX10_spliceAt_47 : decode cX10_spliceAt 47 = .ok (.iadd, 1) := by decide +kernel
theorem dX10_spliceAt_48 : decode cX10_spliceAt 48 = .ok (.putfield 119, 3) := by decide +kernel
theorem dX10_spliceAt_51 : decode cX10_spliceAt 51 = .ok (.aload_n 0, 1) := by decide +kernel
theorem dX10_spliceAt_52 : decode cX10_spliceAt 52 = .ok (.dup, 1) := by decide +kernel
theorem dX10_spliceAt_53 : decode cX10_spliceAt 53 = .ok (.getfield 135, 3) := by decide +kernel
theorem dX10_spliceAt_56 : decode cX10_spliceAt 56 = .ok (.iconst 1, 1) := by decide +kernel
theorem dX10_spliceAt_57 : decode cX10_spliceAt 57 = .ok (.iadd, 1) := by decide +kernel
theorem dX10_spliceAt_58 : decode cX10_spliceAt 58 = .ok (.putfield 135, 3) := by decide +kernel
theorem dX10_spliceAt_61 : decode cX10_spliceAt 61 = .ok (.iload_n 2, 1) := by decide +kernel
theorem dX10_spliceAt_62 : decode cX10_spliceAt 62 = .ok (.iconst 1, 1) := by decide +kernel
theorem dX10_spliceAt_63 : decode cX10_spliceAt 63 = .ok (.isub, 1) := by decide +kernel
theorem dX10_spliceAt_64 : decode cX10_spliceAt 64 = .ok (.ireturn, 1) := by decide +kernel
theorem dX10_joinPieces_0 : decode cX10_joinPieces 0 = .ok (.aload_n 0, 1) := by decide +kernel
theorem dX10_joinPieces_1 : decode cX10_joinPieces 1 = .ok (.getfield 30, 3) := by decide +kernel
theorem dX10_joinPieces_4 : decode cX10_joinPieces 4 = .ok (.invokevirtual 98, 3) := by decide +kernel
theorem dX10_joinPieces_7 : decode cX10_joinPieces 7 = .ok (.iconst 1, 1) := by decide +kernel
theorem dX10_joinPieces_8 : decode cX10_joinPieces 8 = .ok (.isub, 1) := by decide +kernel
theorem dX10_joinPieces_9 : decode cX10_joinPieces 9 = .ok (.istore_n 2, 1) := by decide +kernel
theorem dX10_joinPieces_10 : decode cX10_joinPieces 10 = .ok (.aload_n 0, 1) := by decide +kernel
theorem dX10_joinPieces_11 : decode cX10_joinPieces 11 = .ok (.getfield 30, 3) := by decide +kernel
theorem dX10_joinPieces_14 : decode cX10_joinPieces 14 = .ok (.invokevirtual 138, 3) := by decide +kernel
theorem dX10_joinPieces_17 : decode cX10_joinPieces 17 = .ok (.iload_n 2, 1) := by decide +kernel
theorem dX10_joinPieces_18 : decode cX10_joinPieces 18 = .ok (.isub, 1) := by decide +kernel
theorem dX10_joinPieces_19 : decode cX10_joinPieces 19 = .ok (.istore_n 3, 1) := by decide +kernel
theorem dX10_joinPieces_20 : decode cX10_joinPieces 20 = .ok (.aload_n 0, 1) := by decide +kernel
theorem dX10_joinPieces_21 : decode cX10_joinPieces 21 = .ok (.getfield 30, 3) := by decide +kernel
theorem dX10_joinPieces_24 : decode cX10_joinPieces 24 = .ok (.invokevirtual 141, 3) := by decide +kernel
theorem dX10_joinPieces_27 : decode cX10_joinPieces 27 = .ok (.aload_n 0, 1) := by decide +kernel
theorem dX10_joinPieces_28 : decode cX10_joinPieces 28 = .ok (.getfield 30, 3) := by decide +kernel
theorem dX10_joinPieces_31 : decode cX10_joinPieces 31 = .ok (.iload_n 3, 1) := by decide +kernel
theorem dX10_joinPieces_32 : decode cX10_joinPieces 32 = .ok (.invokevirtual 114, 3) := by decide +kernel
theorem dX10_joinPieces_35 : decode cX10_joinPieces 35 = .ok (.aload_n 0, 1) := by decide +kernel
theorem dX10_joinPieces_36 : decode cX10_joinPieces 36 = .ok (.dup, 1) := by decide +kernel
theorem dX10_joinPieces_37 : decode cX10_joinPieces 37 = .ok (.getfield 119, 3) := by decide +kernel
theorem dX10_joinPieces_40 : decode cX10_joinPieces 40 = .ok (.iload_n 1, 1) := by decide +kernel
theorem dX10_joinPieces_41 : decode cX10_joinPieces 41 = .ok (.iadd, 1) := by decide +kernel
theorem dX10_joinPieces_42 : decode cX10_joinPieces 42 = .ok (.putfield 119, 3) := by decide +kernel
theorem dX10_joinPieces_45 : decode cX10_joinPieces 45 = .ok (.aload_n 0, 1) := by decide +kernel
theorem dX10_joinPieces_46 : decode cX10_joinPieces 46 = .ok (.dup, 1) := by decide +kernel
theorem dX10_joinPieces_47 : decode cX10_joinPieces 47 = .ok (.getfield 135, 3) := by decide +kernel
theorem dX10_joinPieces_50 : decode cX10_joinPieces 50 = .ok (.iload_n 2, 1) := by decide +kernel
theorem dX10_joinPieces_51 : decode cX10_joinPieces 51 = .ok (.iadd, 1) := by decide +kernel
theorem dX10_joinPieces_52 : decode cX10_joinPieces 52 = .ok (.putfield 135, 3) := by decide +kernel
theorem dX10_joinPieces_55 : decode cX10_joinPieces 55 = .ok (.iload_n 3, 1) := by decide +kernel
theorem dX10_joinPieces_56 : decode cX10_joinPieces 56 = .ok (.ireturn, 1) := by decide +kernel
theorem dX10_worthAt_0 : decode cX10_worthAt 0 = .ok (.aload_n 0, 1) := by decide +kernel
theorem dX10_worthAt_1 : decode cX10_worthAt 1 = .ok (.getfield 30, 3) := by decide +kernel
theorem dX10_worthAt_4 : decode cX10_worthAt 4 = .ok (.iload_n 1, 1) := by decide +kernel
theorem dX10_worthAt_5 : decode cX10_worthAt 5 = .ok (.invokevirtual 95, 3) := by decide +kernel
theorem dX10_worthAt_8 : decode cX10_worthAt 8 = .ok (.istore_n 2, 1) := by decide +kernel
theorem dX10_worthAt_9 : decode cX10_worthAt 9 = .ok (.iload_n 2, 1) := by decide +kernel
theorem dX10_worthAt_10 : decode cX10_worthAt 10 = .ok (.bipush 10, 2) := by decide +kernel
theorem dX10_worthAt_12 : decode cX10_worthAt 12 = .ok (.if_icmp .lt 9, 3) := by decide +kernel
theorem dX10_worthAt_15 : decode cX10_worthAt 15 = .ok (.iload_n 2, 1) := by decide +kernel
theorem dX10_worthAt_16 : decode cX10_worthAt 16 = .ok (.iconst 5, 1) := by decide +kernel
theorem dX10_worthAt_17 : decode cX10_worthAt 17 = .ok (.imul, 1) := by decide +kernel
theorem dX10_worthAt_18 : decode cX10_worthAt 18 = .ok (.goto 6, 3) := by decide +kernel
theorem dX10_worthAt_21 : decode cX10_worthAt 21 = .ok (.iload_n 2, 1) := by decide +kernel
theorem dX10_worthAt_22 : decode cX10_worthAt 22 = .ok (.iconst 2, 1) := by decide +kernel
theorem dX10_worthAt_23 : decode cX10_worthAt 23 = .ok (.imul, 1) := by decide +kernel
theorem dX10_worthAt_24 : decode cX10_worthAt 24 = .ok (.ireturn, 1) := by decide +kernel
theorem dX10_sellAt_0 : decode cX10_sellAt 0 = .ok (.aload_n 0, 1) := by decide +kernel
theorem dX10_sellAt_1 : decode cX10_sellAt 1 = .ok (.iload_n 1, 1) := by decide +kernel
theorem dX10_sellAt_2 : decode cX10_sellAt 2 = .ok (.invokevirtual 144, 3) := by decide +kernel
theorem dX10_sellAt_5 : decode cX10_sellAt 5 = .ok (.istore_n 2, 1) := by decide +kernel
theorem dX10_sellAt_6 : decode cX10_sellAt 6 = .ok (.aload_n 0, 1) := by decide +kernel
theorem dX10_sellAt_7 : decode cX10_sellAt 7 = .ok (.dup, 1) := by decide +kernel
theorem dX10_sellAt_8 : decode cX10_sellAt 8 = .ok (.getfield 147, 3) := by decide +kernel
theorem dX10_sellAt_11 : decode cX10_sellAt 11 = .ok (.aload_n 0, 1) := by decide +kernel
theorem dX10_sellAt_12 : decode cX10_sellAt 12 = .ok (.getfield 30, 3) := by decide +kernel
theorem dX10_sellAt_15 : decode cX10_sellAt 15 = .ok (.iload_n 1, 1) := by decide +kernel
theorem dX10_sellAt_16 : decode cX10_sellAt 16 = .ok (.invokevirtual 95, 3) := by decide +kernel
theorem dX10_sellAt_19 : decode cX10_sellAt 19 = .ok (.iadd, 1) := by decide +kernel
theorem dX10_sellAt_20 : decode cX10_sellAt 20 = .ok (.putfield 147, 3) := by decide +kernel
theorem dX10_sellAt_23 : decode cX10_sellAt 23 = .ok (.aload_n 0, 1) := by decide +kernel
theorem dX10_sellAt_24 : decode cX10_sellAt 24 = .ok (.dup, 1) := by decide +kernel
theorem dX10_sellAt_25 : decode cX10_sellAt 25 = .ok (.getfield 38, 3) := by decide +kernel
theorem dX10_sellAt_28 : decode cX10_sellAt 28 = .ok (.iload_n 2, 1) := by decide +kernel
theorem dX10_sellAt_29 : decode cX10_sellAt 29 = .ok (.iadd, 1) := by decide +kernel
theorem dX10_sellAt_30 : decode cX10_sellAt 30 = .ok (.putfield 38, 3) := by decide +kernel
theorem dX10_sellAt_33 : decode cX10_sellAt 33 = .ok (.aload_n 0, 1) := by decide +kernel
theorem dX10_sellAt_34 : decode cX10_sellAt 34 = .ok (.dup, 1) := by decide +kernel
theorem dX10_sellAt_35 : decode cX10_sellAt 35 = .ok (.getfield 150, 3) := by decide +kernel
theorem dX10_sellAt_38 : decode cX10_sellAt 38 = .ok (.iload_n 2, 1) := by decide +kernel
theorem dX10_sellAt_39 : decode cX10_sellAt 39 = .ok (.iadd, 1) := by decide +kernel
theorem dX10_sellAt_40 : decode cX10_sellAt 40 = .ok (.putfield 150, 3) := by decide +kernel
theorem dX10_sellAt_43 : decode cX10_sellAt 43 = .ok (.aload_n 0, 1) := by decide +kernel
theorem dX10_sellAt_44 : decode cX10_sellAt 44 = .ok (.getfield 30, 3) := by decide +kernel
theorem dX10_sellAt_47 : decode cX10_sellAt 47 = .ok (.iload_n 1, 1) := by decide +kernel
theorem dX10_sellAt_48 : decode cX10_sellAt 48 = .ok (.invokevirtual 132, 3) := by decide +kernel
theorem dX10_sellAt_51 : decode cX10_sellAt 51 = .ok (.iload_n 2, 1) := by decide +kernel
theorem dX10_sellAt_52 : decode cX10_sellAt 52 = .ok (.ireturn, 1) := by decide +kernel
theorem dX10_accountedCoins_0 : decode cX10_accountedCoins 0 = .ok (.sipush 1000, 3) := by decide +kernel
theorem dX10_accountedCoins_3 : decode cX10_accountedCoins 3 = .ok (.aload_n 0, 1) := by decide +kernel
theorem dX10_accountedCoins_4 : decode cX10_accountedCoins 4 = .ok (.getfield 67, 3) := by decide +kernel
theorem dX10_accountedCoins_7 : decode cX10_accountedCoins 7 = .ok (.isub, 1) := by decide +kernel
theorem dX10_accountedCoins_8 : decode cX10_accountedCoins 8 = .ok (.aload_n 0, 1) := by decide +kernel
theorem dX10_accountedCoins_9 : decode cX10_accountedCoins 9 = .ok (.getfield 150, 3) := by decide +kernel
theorem dX10_accountedCoins_12 : decode cX10_accountedCoins 12 = .ok (.iadd, 1) := by decide +kernel
theorem dX10_accountedCoins_13 : decode cX10_accountedCoins 13 = .ok (.ireturn, 1) := by decide +kernel
theorem dX10_accountedLength_0 : decode cX10_accountedLength 0 = .ok (.aload_n 0, 1) := by decide +kernel
theorem dX10_accountedLength_1 : decode cX10_accountedLength 1 = .ok (.getfield 116, 3) := by decide +kernel
theorem dX10_accountedLength_4 : decode cX10_accountedLength 4 = .ok (.aload_n 0, 1) := by decide +kernel
theorem dX10_accountedLength_5 : decode cX10_accountedLength 5 = .ok (.getfield 147, 3) := by decide +kernel
theorem dX10_accountedLength_8 : decode cX10_accountedLength 8 = .ok (.isub, 1) := by decide +kernel
theorem dX10_accountedLength_9 : decode cX10_accountedLength 9 = .ok (.aload_n 0, 1) := by decide +kernel
theorem dX10_accountedLength_10 : decode cX10_accountedLength 10 = .ok (.getfield 135, 3) := by decide +kernel
theorem dX10_accountedLength_13 : decode cX10_accountedLength 13 = .ok (.isub, 1) := by decide +kernel
theorem dX10_accountedLength_14 : decode cX10_accountedLength 14 = .ok (.ireturn, 1) := by decide +kernel
theorem dX10_copyFrom_0 : decode cX10_copyFrom 0 = .ok (.aload_n 0, 1) := by decide +kernel
theorem dX10_copyFrom_1 : decode cX10_copyFrom 1 = .ok (.getfield 12, 3) := by decide +kernel
theorem dX10_copyFrom_4 : decode cX10_copyFrom 4 = .ok (.aload_n 1, 1) := by decide +kernel
theorem dX10_copyFrom_5 : decode cX10_copyFrom 5 = .ok (.getfield 12, 3) := by decide +kernel
theorem dX10_copyFrom_8 : decode cX10_copyFrom 8 = .ok (.invokevirtual 153, 3) := by decide +kernel
theorem dX10_copyFrom_11 : decode cX10_copyFrom 11 = .ok (.aload_n 0, 1) := by decide +kernel
theorem dX10_copyFrom_12 : decode cX10_copyFrom 12 = .ok (.getfield 21, 3) := by decide +kernel
theorem dX10_copyFrom_15 : decode cX10_copyFrom 15 = .ok (.aload_n 1, 1) := by decide +kernel
theorem dX10_copyFrom_16 : decode cX10_copyFrom 16 = .ok (.getfield 21, 3) := by decide +kernel
theorem dX10_copyFrom_19 : decode cX10_copyFrom 19 = .ok (.invokevirtual 157, 3) := by decide +kernel
theorem dX10_copyFrom_22 : decode cX10_copyFrom 22 = .ok (.aload_n 0, 1) := by decide +kernel
theorem dX10_copyFrom_23 : decode cX10_copyFrom 23 = .ok (.getfield 30, 3) := by decide +kernel
theorem dX10_copyFrom_26 : decode cX10_copyFrom 26 = .ok (.aload_n 1, 1) := by decide +kernel
theorem dX10_copyFrom_27 : decode cX10_copyFrom 27 = .ok (.getfield 30, 3) := by decide +kernel
theorem dX10_copyFrom_30 : decode cX10_copyFrom 30 = .ok (.invokevirtual 160, 3) := by decide +kernel
theorem dX10_copyFrom_33 : decode cX10_copyFrom 33 = .ok (.aload_n 0, 1) := by decide +kernel
theorem dX10_copyFrom_34 : decode cX10_copyFrom 34 = .ok (.aload_n 1, 1) := by decide +kernel
theorem dX10_copyFrom_35 : decode cX10_copyFrom 35 = .ok (.getfield 74, 3) := by decide +kernel
theorem dX10_copyFrom_38 : decode cX10_copyFrom 38 = .ok (.putfield 74, 3) := by decide +kernel
theorem dX10_copyFrom_41 : decode cX10_copyFrom 41 = .ok (.aload_n 0, 1) := by decide +kernel
theorem dX10_copyFrom_42 : decode cX10_copyFrom 42 = .ok (.aload_n 1, 1) := by decide +kernel
theorem dX10_copyFrom_43 : decode cX10_copyFrom 43 = .ok (.getfield 34, 3) := by decide +kernel
theorem dX10_copyFrom_46 : decode cX10_copyFrom 46 = .ok (.putfield 34, 3) := by decide +kernel
theorem dX10_copyFrom_49 : decode cX10_copyFrom 49 = .ok (.aload_n 0, 1) := by decide +kernel
theorem dX10_copyFrom_50 : decode cX10_copyFrom 50 = .ok (.aload_n 1, 1) := by decide +kernel
theorem dX10_copyFrom_51 : decode cX10_copyFrom 51 = .ok (.getfield 119, 3) := by decide +kernel
theorem dX10_copyFrom_54 : decode cX10_copyFrom 54 = .ok (.putfield 119, 3) := by decide +kernel
theorem dX10_copyFrom_57 : decode cX10_copyFrom 57 = .ok (.aload_n 0, 1) := by decide +kernel
theorem dX10_copyFrom_58 : decode cX10_copyFrom 58 = .ok (.aload_n 1, 1) := by decide +kernel
theorem dX10_copyFrom_59 : decode cX10_copyFrom 59 = .ok (.getfield 38, 3) := by decide +kernel
theorem dX10_copyFrom_62 : decode cX10_copyFrom 62 = .ok (.putfield 38, 3) := by decide +kernel
theorem dX10_copyFrom_65 : decode cX10_copyFrom 65 = .ok (.aload_n 0, 1) := by decide +kernel
theorem dX10_copyFrom_66 : decode cX10_copyFrom 66 = .ok (.aload_n 1, 1) := by decide +kernel
theorem dX10_copyFrom_67 : decode cX10_copyFrom 67 = .ok (.getfield 67, 3) := by decide +kernel
theorem dX10_copyFrom_70 : decode cX10_copyFrom 70 = .ok (.putfield 67, 3) := by decide +kernel
theorem dX10_copyFrom_73 : decode cX10_copyFrom 73 = .ok (.aload_n 0, 1) := by decide +kernel
theorem dX10_copyFrom_74 : decode cX10_copyFrom 74 = .ok (.aload_n 1, 1) := by decide +kernel
theorem dX10_copyFrom_75 : decode cX10_copyFrom 75 = .ok (.getfield 150, 3) := by decide +kernel
theorem dX10_copyFrom_78 : decode cX10_copyFrom 78 = .ok (.putfield 150, 3) := by decide +kernel
theorem dX10_copyFrom_81 : decode cX10_copyFrom 81 = .ok (.aload_n 0, 1) := by decide +kernel
theorem dX10_copyFrom_82 : decode cX10_copyFrom 82 = .ok (.aload_n 1, 1) := by decide +kernel
theorem dX10_copyFrom_83 : decode cX10_copyFrom 83 = .ok (.getfield 116, 3) := by decide +kernel
theorem dX10_copyFrom_86 : decode cX10_copyFrom 86 = .ok (.putfield 116, 3) := by decide +kernel
theorem dX10_copyFrom_89 : decode cX10_copyFrom 89 = .ok (.aload_n 0, 1) := by decide +kernel
theorem dX10_copyFrom_90 : decode cX10_copyFrom 90 = .ok (.aload_n 1, 1) := by decide +kernel
theorem dX10_copyFrom_91 : decode cX10_copyFrom 91 = .ok (.getfield 135, 3) := by decide +kernel
theorem dX10_copyFrom_94 : decode cX10_copyFrom 94 = .ok (.putfield 135, 3) := by decide +kernel
theorem dX10_copyFrom_97 : decode cX10_copyFrom 97 = .ok (.aload_n 0, 1) := by decide +kernel
theorem dX10_copyFrom_98 : decode cX10_copyFrom 98 = .ok (.aload_n 1, 1) := by decide +kernel
theorem dX10_copyFrom_99 : decode cX10_copyFrom 99 = .ok (.getfield 147, 3) := by decide +kernel
theorem dX10_copyFrom_102 : decode cX10_copyFrom 102 = .ok (.putfield 147, 3) := by decide +kernel
theorem dX10_copyFrom_105 : decode cX10_copyFrom 105 = .ok (.return_, 1) := by decide +kernel
theorem dX11_init_0 : decode cX11_init 0 = .ok (.aload_n 0, 1) := by decide +kernel
theorem dX11_init_1 : decode cX11_init 1 = .ok (.invokespecial 3, 3) := by decide +kernel
theorem dX11_init_4 : decode cX11_init 4 = .ok (.aload_n 0, 1) := by decide +kernel
theorem dX11_init_5 : decode cX11_init 5 = .ok (.sipush 256, 3) := by decide +kernel
theorem dX11_init_8 : decode cX11_init 8 = .ok (.newarray .int, 2) := by decide +kernel
theorem dX11_init_10 : decode cX11_init 10 = .ok (.putfield 9, 3) := by decide +kernel
theorem dX11_init_13 : decode cX11_init 13 = .ok (.aload_n 0, 1) := by decide +kernel
theorem dX11_init_14 : decode cX11_init 14 = .ok (.sipush 256, 3) := by decide +kernel
theorem dX11_init_17 : decode cX11_init 17 = .ok (.newarray .int, 2) := by decide +kernel
theorem dX11_init_19 : decode cX11_init 19 = .ok (.putfield 15, 3) := by decide +kernel
theorem dX11_init_22 : decode cX11_init 22 = .ok (.aload_n 0, 1) := by decide +kernel
theorem dX11_init_23 : decode cX11_init 23 = .ok (.new 18, 3) := by decide +kernel
theorem dX11_init_26 : decode cX11_init 26 = .ok (.dup, 1) := by decide +kernel
theorem dX11_init_27 : decode cX11_init 27 = .ok (.iconst 3, 1) := by decide +kernel
theorem dX11_init_28 : decode cX11_init 28 = .ok (.invokespecial 20, 3) := by decide +kernel
theorem dX11_init_31 : decode cX11_init 31 = .ok (.putfield 23, 3) := by decide +kernel
theorem dX11_init_34 : decode cX11_init 34 = .ok (.return_, 1) := by decide +kernel
theorem dX11_shortestBySets_0 : decode cX11_shortestBySets 0 = .ok (.aload_n 0, 1) := by decide +kernel
theorem dX11_shortestBySets_1 : decode cX11_shortestBySets 1 = .ok (.aload_n 1, 1) := by decide +kernel
theorem dX11_shortestBySets_2 : decode cX11_shortestBySets 2 = .ok (.invokevirtual 27, 3) := by decide +kernel
theorem dX11_shortestBySets_5 : decode cX11_shortestBySets 5 = .ok (.iconst 1, 1) := by decide +kernel
theorem dX11_shortestBySets_6 : decode cX11_shortestBySets 6 = .ok (.aload_n 1, 1) := by decide +kernel
theorem dX11_shortestBySets_7 : decode cX11_shortestBySets 7 = .ok (.getfield 31, 3) := by decide +kernel
theorem dX11_shortestBySets_10 : decode cX11_shortestBySets 10 = .ok (.invokevirtual 36, 3) := by decide +kernel
theorem dX11_shortestBySets_13 : decode cX11_shortestBySets 13 = .ok (.ishl, 1) := by decide +kernel
theorem dX11_shortestBySets_14 : decode cX11_shortestBySets 14 = .ok (.iconst 1, 1) := by decide +kernel
theorem dX11_shortestBySets_15 : decode cX11_shortestBySets 15 = .ok (.isub, 1) := by decide +kernel
theorem dX11_shortestBySets_16 : decode cX11_shortestBySets 16 = .ok (.istore_n 3, 1) := by decide +kernel
theorem dX11_shortestBySets_17 : decode cX11_shortestBySets 17 = .ok (.iconst 0, 1) := by decide +kernel
theorem dX11_shortestBySets_18 : decode cX11_shortestBySets 18 = .ok (.istore 4, 2) := by decide +kernel
theorem dX11_shortestBySets_20 : decode cX11_shortestBySets 20 = .ok (.iload 4, 2) := by decide +kernel
theorem dX11_shortestBySets_22 : decode cX11_shortestBySets 22 = .ok (.iload_n 3, 1) := by decide +kernel
theorem dX11_shortestBySets_23 : decode cX11_shortestBySets 23 = .ok (.if_icmp .gt 23, 3) := by decide +kernel
theorem dX11_shortestBySets_26 : decode cX11_shortestBySets 26 = .ok (.aload_n 0, 1) := by decide +kernel
theorem dX11_shortestBySets_27 : decode cX11_shortestBySets 27 = .ok (.getfield 15, 3) := by decide +kernel
theorem dX11_shortestBySets_30 : decode cX11_shortestBySets 30 = .ok (.iload 4, 2) := by decide +kernel
theorem dX11_shortestBySets_32 : decode cX11_shortestBySets 32 = .ok (.aload_n 0, 1) := by decide +kernel
theorem dX11_shortestBySets_33 : decode cX11_shortestBySets 33 = .ok (.getfield 9, 3) := by decide +kernel
theorem dX11_shortestBySets_36 : decode cX11_shortestBySets 36 = .ok (.iload 4, 2) := by decide +kernel
theorem dX11_shortestBySets_38 : decode cX11_shortestBySets 38 = .ok (.iaload, 1) := by decide +kernel
theorem dX11_shortestBySets_39 : decode cX11_shortestBySets 39 = .ok (.iastore, 1) := by decide +kernel
theorem dX11_shortestBySets_40 : decode cX11_shortestBySets 40 = .ok (.iinc 4 1, 3) := by decide +kernel
theorem dX11_shortestBySets_43 : decode cX11_shortestBySets 43 = .ok (.goto (-23), 3) := by decide +kernel
theorem dX11_shortestBySets_46 : decode cX11_shortestBySets 46 = .ok (.iconst 2, 1) := by decide +kernel
theorem dX11_shortestBySets_47 : decode cX11_shortestBySets 47 = .ok (.istore 4, 2) := by decide +kernel
theorem dX11_shortestBySets_49 : decode cX11_shortestBySets 49 = .ok (.iload 4, 2) := by decide +kernel
theorem dX11_shortestBySets_51 : decode cX11_shortestBySets 51 = .ok (.iload_n 2, 1) := by decide +kernel
theorem dX11_shortestBySets_52 : decode cX11_shortestBySets 52 = .ok (.if_icmp .gt 36, 3) := by decide +kernel
theorem dX11_shortestBySets_55 : decode cX11_shortestBySets 55 = .ok (.iload_n 3, 1) := by decide +kernel
theorem dX11_shortestBySets_56 : decode cX11_shortestBySets 56 = .ok (.istore 5, 2) := by decide +kernel
theorem dX11_shortestBySets_58 : decode cX11_shortestBySets 58 = .ok (.iload 5, 2) := by decide +kernel
theorem dX11_shortestBySets_60 : decode cX11_shortestBySets 60 = .ok (.ifCond .le 22, 3) := by decide +kernel
theorem dX11_shortestBySets_63 : decode cX11_shortestBySets 63 = .ok (.aload_n 0, 1) := by decide +kernel
theorem dX11_shortestBySets_64 : decode cX11_shortestBySets 64 = .ok (.getfield 15, 3) := by decide +kernel
theorem dX11_shortestBySets_67 : decode cX11_shortestBySets 67 = .ok (.iload 5, 2) := by decide +kernel
theorem dX11_shortestBySets_69 : decode cX11_shortestBySets 69 = .ok (.aload_n 0, 1) := by decide +kernel
theorem dX11_shortestBySets_70 : decode cX11_shortestBySets 70 = .ok (.iload 5, 2) := by decide +kernel
theorem dX11_shortestBySets_72 : decode cX11_shortestBySets 72 = .ok (.invokevirtual 40, 3) := by decide +kernel
theorem dX11_shortestBySets_75 : decode cX11_shortestBySets 75 = .ok (.iastore, 1) := by decide +kernel
theorem dX11_shortestBySets_76 : decode cX11_shortestBySets 76 = .ok (.iinc 5 (-1), 3) := by decide +kernel
theorem dX11_shortestBySets_79 : decode cX11_shortestBySets 79 = .ok (.goto (-21), 3) := by decide +kernel
theorem dX11_shortestBySets_82 : decode cX11_shortestBySets 82 = .ok (.iinc 4 1, 3) := by decide +kernel
theorem dX11_shortestBySets_85 : decode cX11_shortestBySets 85 = .ok (.goto (-36), 3) := by decide +kernel
theorem dX11_shortestBySets_88 : decode cX11_shortestBySets 88 = .ok (.aload_n 0, 1) := by decide +kernel
theorem dX11_shortestBySets_89 : decode cX11_shortestBySets 89 = .ok (.getfield 15, 3) := by decide +kernel
theorem dX11_shortestBySets_92 : decode cX11_shortestBySets 92 = .ok (.iload_n 3, 1) := by decide +kernel
theorem dX11_shortestBySets_93 : decode cX11_shortestBySets 93 = .ok (.iaload, 1) := by decide +kernel
theorem dX11_shortestBySets_94 : decode cX11_shortestBySets 94 = .ok (.ireturn, 1) := by decide +kernel
theorem dX11_addUpSets_0 : decode cX11_addUpSets 0 = .ok (.iconst 0, 1) := by decide +kernel
theorem dX11_addUpSets_1 : decode cX11_addUpSets 1 = .ok (.istore_n 2, 1) := by decide +kernel
theorem dX11_addUpSets_2 : decode cX11_addUpSets 2 = .ok (.iload_n 2, 1) := by decide +kernel
theorem dX11_addUpSets_3 : decode cX11_addUpSets 3 = .ok (.aload_n 1, 1) := by decide +kernel
theorem dX11_addUpSets_4 : decode cX11_addUpSets 4 = .ok (.getfield 31, 3) := by decide +kernel
theorem dX11_addUpSets_7 : decode cX11_addUpSets 7 = .ok (.invokevirtual 36, 3) := by decide +kernel
theorem dX11_addUpSets_10 : decode cX11_addUpSets 10 = .ok (.if_icmp .ge 58, 3) := by decide +kernel
theorem dX11_addUpSets_13 : decode cX11_addUpSets 13 = .ok (.aload_n 1, 1) := by decide +kernel
theorem dX11_addUpSets_14 : decode cX11_addUpSets 14 = .ok (.getfield 44, 3) := by decide +kernel
theorem dX11_addUpSets_17 : decode cX11_addUpSets 17 = .ok (.iload_n 2, 1) := by decide +kernel
theorem dX11_addUpSets_18 : decode cX11_addUpSets 18 = .ok (.invokevirtual 47, 3) := by decide +kernel
theorem dX11_addUpSets_21 : decode cX11_addUpSets 21 = .ok (.istore_n 3, 1) := by decide +kernel
theorem dX11_addUpSets_22 : decode cX11_addUpSets 22 = .ok (.iconst 1, 1) := by decide +kernel
theorem dX11_addUpSets_23 : decode cX11_addUpSets 23 = .ok (.iload_n 2, 1) := by decide +kernel
theorem dX11_addUpSets_24 : decode cX11_addUpSets 24 = .ok (.ishl, 1) := by decide +kernel
theorem dX11_addUpSets_25 : decode cX11_addUpSets 25 = .ok (.istore 4, 2) := by decide +kernel
theorem dX11_addUpSets_27 : decode cX11_addUpSets 27 = .ok (.iconst 0, 1) := by decide +kernel
theorem dX11_addUpSets_28 : decode cX11_addUpSets 28 = .ok (.istore 5, 2) := by decide +kernel
theorem dX11_addUpSets_30 : decode cX11_addUpSets 30 = .ok (.iload 5, 2) := by decide +kernel
theorem dX11_addUpSets_32 : decode cX11_addUpSets 32 = .ok (.iload 4, 2) := by decide +kernel
theorem dX11_addUpSets_34 : decode cX11_addUpSets 34 = .ok (.if_icmp .ge 28, 3) := by decide +kernel
theorem dX11_addUpSets_37 : decode cX11_addUpSets 37 = .ok (.aload_n 0, 1) := by decide +kernel
theorem dX11_addUpSets_38 : decode cX11_addUpSets 38 = .ok (.getfield 9, 3) := by decide +kernel
theorem dX11_addUpSets_41 : decode cX11_addUpSets 41 = .ok (.iload 4, 2) := by decide +kernel
theorem dX11_addUpSets_43 : decode cX11_addUpSets 43 = .ok (.iload 5, 2) := by decide +kernel
theorem dX11_addUpSets_45 : decode cX11_addUpSets 45 = .ok (.iadd, 1) := by decide +kernel
theorem dX11_addUpSets_46 : decode cX11_addUpSets 46 = .ok (.aload_n 0, 1) := by decide +kernel
theorem dX11_addUpSets_47 : decode cX11_addUpSets 47 = .ok (.getfield 9, 3) := by decide +kernel
theorem dX11_addUpSets_50 : decode cX11_addUpSets 50 = .ok (.iload 5, 2) := by decide +kernel
theorem dX11_addUpSets_52 : decode cX11_addUpSets 52 = .ok (.iaload, 1) := by decide +kernel
theorem dX11_addUpSets_53 : decode cX11_addUpSets 53 = .ok (.iload_n 3, 1) := by decide +kernel
theorem dX11_addUpSets_54 : decode cX11_addUpSets 54 = .ok (.iadd, 1) := by decide +kernel
theorem dX11_addUpSets_55 : decode cX11_addUpSets 55 = .ok (.iastore, 1) := by decide +kernel
theorem dX11_addUpSets_56 : decode cX11_addUpSets 56 = .ok (.iinc 5 1, 3) := by decide +kernel
theorem dX11_addUpSets_59 : decode cX11_addUpSets 59 = .ok (.goto (-29), 3) := by decide +kernel
theorem dX11_addUpSets_62 : decode cX11_addUpSets 62 = .ok (.iinc 2 1, 3) := by decide +kernel
theorem dX11_addUpSets_65 : decode cX11_addUpSets 65 = .ok (.goto (-63), 3) := by decide +kernel
theorem dX11_addUpSets_68 : decode cX11_addUpSets 68 = .ok (.return_, 1) := by decide +kernel
theorem dX11_leastWithOneMore_0 : decode cX11_leastWithOneMore 0 = .ok (.aload_n 0, 1) := by decide +kernel
theorem dX11_leastWithOneMore_1 : decode cX11_leastWithOneMore 1 = .ok (.getfield 15, 3) := by decide +kernel
theorem dX11_leastWithOneMore_4 : decode cX11_leastWithOneMore 4 = .ok (.iload_n 1, 1) := by decide +kernel
theorem dX11_leastWithOneMore_5 : decode cX11_leastWithOneMore 5 = .ok (.iaload, 1) := by decide +kernel
theorem dX11_leastWithOneMore_6 : decode cX11_leastWithOneMore 6 = .ok (.istore_n 2, 1) := by decide +kernel
theorem dX11_leastWithOneMore_7 : decode cX11_leastWithOneMore 7 = .ok (.iload_n 1, 1) := by decide +kernel
theorem dX11_leastWithOneMore_8 : decode cX11_leastWithOneMore 8 = .ok (.istore_n 3, 1) := by decide +kernel
theorem dX11_leastWithOneMore_9 : decode cX11_leastWithOneMore 9 = .ok (.iload_n 3, 1) := by decide +kernel
theorem dX11_leastWithOneMore_10 : decode cX11_leastWithOneMore 10 = .ok (.ifCond .le 38, 3) := by decide +kernel
theorem dX11_leastWithOneMore_13 : decode cX11_leastWithOneMore 13 = .ok (.iload_n 3, 1) := by decide +kernel
theorem dX11_leastWithOneMore_14 : decode cX11_leastWithOneMore 14 = .ok (.iload_n 1, 1) := by decide +kernel
theorem dX11_leastWithOneMore_15 : decode cX11_leastWithOneMore 15 = .ok (.iand, 1) := by decide +kernel
theorem dX11_leastWithOneMore_16 : decode cX11_leastWithOneMore 16 = .ok (.iload_n 3, 1) := by decide +kernel
theorem dX11_leastWithOneMore_17 : decode cX11_leastWithOneMore 17 = .ok (.if_icmp .ne 25, 3) := by decide +kernel
theorem dX11_leastWithOneMore_20 : decode cX11_leastWithOneMore 20 = .ok (.iload_n 2, 1) := by decide +kernel
theorem dX11_leastWithOneMore_21 : decode cX11_leastWithOneMore 21 = .ok (.aload_n 0, 1) := by decide +kernel
theorem dX11_leastWithOneMore_22 : decode cX11_leastWithOneMore 22 = .ok (.getfield 9, 3) := by decide +kernel
theorem dX11_leastWithOneMore_25 : decode cX11_leastWithOneMore 25 = .ok (.iload_n 3, 1) := by decide +kernel
theorem dX11_leastWithOneMore_26 : decode cX11_leastWithOneMore 26 = .ok (.iaload, 1) := by decide +kernel
theorem dX11_leastWithOneMore_27 : decode cX11_leastWithOneMore 27 = .ok (.aload_n 0, 1) := by decide +kernel
theorem dX11_leastWithOneMore_28 : decode cX11_leastWithOneMore 28 = .ok (.getfield 15, 3) := by decide +kernel
theorem dX11_leastWithOneMore_31 : decode cX11_leastWithOneMore 31 = .ok (.iload_n 1, 1) := by decide +kernel
theorem dX11_leastWithOneMore_32 : decode cX11_leastWithOneMore 32 = .ok (.iload_n 3, 1) := by decide +kernel
theorem dX11_leastWithOneMore_33 : decode cX11_leastWithOneMore 33 = .ok (.isub, 1) := by decide +kernel
theorem dX11_leastWithOneMore_34 : decode cX11_leastWithOneMore 34 = .ok (.iaload, 1) := by decide +kernel
theorem dX11_leastWithOneMore_35 : decode cX11_leastWithOneMore 35 = .ok (.invokestatic 50, 3) := by decide +kernel
theorem dX11_leastWithOneMore_38 : decode cX11_leastWithOneMore 38 = .ok (.invokestatic 56, 3) := by decide +kernel
theorem dX11_leastWithOneMore_41 : decode cX11_leastWithOneMore 41 = .ok (.istore_n 2, 1) := by decide +kernel
theorem dX11_leastWithOneMore_42 : decode cX11_leastWithOneMore 42 = .ok (.iinc 3 (-1), 3) := by decide +kernel
theorem dX11_leastWithOneMore_45 : decode cX11_leastWithOneMore 45 = .ok (.goto (-36), 3) := by decide +kernel
theorem dX11_leastWithOneMore_48 : decode cX11_leastWithOneMore 48 = .ok (.iload_n 2, 1) := by decide +kernel
theorem dX11_leastWithOneMore_49 : decode cX11_leastWithOneMore 49 = .ok (.ireturn, 1) := by decide +kernel
theorem dX11_shortestBySearch_0 : decode cX11_shortestBySearch 0 = .ok (.aload_n 0, 1) := by decide +kernel
theorem dX11_shortestBySearch_1 : decode cX11_shortestBySearch 1 = .ok (.getfield 23, 3) := by decide +kernel
theorem dX11_shortestBySearch_4 : decode cX11_shortestBySearch 4 = .ok (.invokevirtual 59, 3) := by decide +kernel
theorem dX11_shortestBySearch_7 : decode cX11_shortestBySearch 7 = .ok (.iconst 0, 1) := by decide +kernel
theorem dX11_shortestBySearch_8 : decode cX11_shortestBySearch 8 = .ok (.istore_n 3, 1) := by decide +kernel
theorem dX11_shortestBySearch_9 : decode cX11_shortestBySearch 9 = .ok (.iload_n 3, 1) := by decide +kernel
theorem dX11_shortestBySearch_10 : decode cX11_shortestBySearch 10 = .ok (.iload_n 2, 1) := by decide +kernel
theorem dX11_shortestBySearch_11 : decode cX11_shortestBySearch 11 = .ok (.if_icmp .ge 17, 3) := by decide +kernel
theorem dX11_shortestBySearch_14 : decode cX11_shortestBySearch 14 = .ok (.aload_n 0, 1) := by decide +kernel
theorem dX11_shortestBySearch_15 : decode cX11_shortestBySearch 15 = .ok (.getfield 23, 3) := by decide +kernel
theorem dX11_shortestBySearch_18 : decode cX11_shortestBySearch 18 = .ok (.iconst 0, 1) := by decide +kernel
theorem dX11_shortestBySearch_19 : decode cX11_shortestBySearch 19 = .ok (.invokevirtual 62, 3) := by decide +kernel
theorem dX11_shortestBySearch_22 : decode cX11_shortestBySearch 22 = .ok (.iinc 3 1, 3) := by decide +kernel
theorem dX11_shortestBySearch_25 : decode cX11_shortestBySearch 25 = .ok (.goto (-16), 3) := by decide +kernel
theorem dX11_shortestBySearch_28 : decode cX11_shortestBySearch 28 = .ok (.aload_n 0, 1) := by decide +kernel
theorem dX11_shortestBySearch_29 : decode cX11_shortestBySearch 29 = .ok (.ldc 65, 2) := by decide +kernel
theorem dX11_shortestBySearch_31 : decode cX11_shortestBySearch 31 = .ok (.putfield 66, 3) := by decide +kernel
theorem dX11_shortestBySearch_34 : decode cX11_shortestBySearch 34 = .ok (.aload_n 0, 1) := by decide +kernel
theorem dX11_shortestBySearch_35 : decode cX11_shortestBySearch 35 = .ok (.aload_n 1, 1) := by decide +kernel
theorem dX11_shortestBySearch_36 : decode cX11_shortestBySearch 36 = .ok (.iconst 0, 1) := by decide +kernel
theorem dX11_shortestBySearch_37 : decode cX11_shortestBySearch 37 = .ok (.iconst 0, 1) := by decide +kernel
theorem dX11_shortestBySearch_38 : decode cX11_shortestBySearch 38 = .ok (.invokestatic 70, 3) := by decide +kernel
theorem dX11_shortestBySearch_41 : decode cX11_shortestBySearch 41 = .ok (.aload_n 0, 1) := by decide +kernel
theorem dX11_shortestBySearch_42 : decode cX11_shortestBySearch 42 = .ok (.getfield 66, 3) := by decide +kernel
theorem dX11_shortestBySearch_45 : decode cX11_shortestBySearch 45 = .ok (.ireturn, 1) := by decide +kernel
theorem dX11_search_0 : decode cX11_search 0 = .ok (.iload_n 3, 1) := by decide +kernel
theorem dX11_search_1 : decode cX11_search 1 = .ok (.aload_n 0, 1) := by decide +kernel
theorem dX11_search_2 : decode cX11_search 2 = .ok (.getfield 66, 3) := by decide +kernel
theorem dX11_search_5 : decode cX11_search 5 = .ok (.if_icmp .lt 4, 3) := by decide +kernel
theorem dX11_search_8 : decode cX11_search 8 = .ok (.return_, 1) := by decide +kernel
theorem dX11_search_9 : decode cX11_search 9 = .ok (.iload_n 2, 1) := by decide +kernel
theorem dX11_search_10 : decode cX11_search 10 = .ok (.aload_n 1, 1) := by decide +kernel
theorem dX11_search_11 : decode cX11_search 11 = .ok (.getfield 31, 3) := by decide +kernel
theorem dX11_search_14 : decode cX11_search 14 = .ok (.invokevirtual 36, 3) := by decide +kernel
theorem dX11_search_17 : decode cX11_search 17 = .ok (.if_icmp .lt 9, 3) := by decide +kernel
theorem dX11_search_20 : decode cX11_search 20 = .ok (.aload_n 0, 1) := by decide +kernel
theorem dX11_search_21 : decode cX11_search 21 = .ok (.iload_n 3, 1) := by decide +kernel
theorem dX11_search_22 : decode cX11_search 22 = .ok (.putfield 66, 3) := by decide +kernel
theorem dX11_search_25 : decode cX11_search 25 = .ok (.return_, 1) := by decide +kernel
theorem dX11_search_26 : decode cX11_search 26 = .ok (.aload_n 1, 1) := by decide +kernel
theorem dX11_search_27 : decode cX11_search 27 = .ok (.getfield 44, 3) := by decide +kernel
theorem dX11_search_30 : decode cX11_search 30 = .ok (.iload_n 2, 1) := by decide +kernel
theorem dX11_search_31 : decode cX11_search 31 = .ok (.invokevirtual 47, 3) := by decide +kernel
theorem dX11_search_34 : decode cX11_search 34 = .ok (.istore 4, 2) := by decide +kernel
theorem dX11_search_36 : decode cX11_search 36 = .ok (.iconst 0, 1) := by decide +kernel
theorem dX11_search_37 : decode cX11_search 37 = .ok (.istore 5, 2) := by decide +kernel
theorem dX11_search_39 : decode cX11_search 39 = .ok (.iload 5, 2) := by decide +kernel
theorem dX11_search_41 : decode cX11_search 41 = .ok (.aload_n 0, 1) := by decide +kernel
theorem dX11_search_42 : decode cX11_search 42 = .ok (.getfield 23, 3) := by decide +kernel
theorem dX11_search_45 : decode cX11_search 45 = .ok (.invokevirtual 36, 3) := by decide +kernel
theorem dX11_search_48 : decode cX11_search 48 = .ok (.if_icmp .ge 62, 3) := by decide +kernel
theorem dX11_search_51 : decode cX11_search 51 = .ok (.aload_n 0, 1) := by decide +kernel
theorem dX11_search_52 : decode cX11_search 52 = .ok (.getfield 23, 3) := by decide +kernel
theorem dX11_search_55 : decode cX11_search 55 = .ok (.iload 5, 2) := by decide +kernel
theorem dX11_search_57 : decode cX11_search 57 = .ok (.invokevirtual 47, 3) := by decide +kernel
theorem dX11_search_60 : decode cX11_search 60 = .ok (.istore 6, 2) := by decide +kernel
theorem dX11_search_62 : decode cX11_search 62 = .ok (.aload_n 0, 1) := by decide +kernel
theorem dX11_search_63 : decode cX11_search 63 = .ok (.getfield 23, 3) := by decide +kernel
theorem dX11_search_66 : decode cX11_search 66 = .ok (.iload 5, 2) := by decide +kernel
theorem dX11_search_68 : decode cX11_search 68 = .ok (.iload 6, 2) := by decide +kernel
theorem dX11_search_70 : decode cX11_search 70 = .ok (.iload 4, 2) := by decide +kernel
theorem dX11_search_72 : decode cX11_search 72 = .ok (.iadd, 1) := by decide +kernel
theorem dX11_search_73 : decode cX11_search 73 = .ok (.invokevirtual 74, 3) := by decide +kernel
theorem dX11_search_76 : decode cX11_search 76 = .ok (.aload_n 0, 1) := by decide +kernel
theorem dX11_search_77 : decode cX11_search 77 = .ok (.aload_n 1, 1) := by decide +kernel
theorem dX11_search_78 : decode cX11_search 78 = .ok (.iload_n 2, 1) := by decide +kernel
theorem dX11_search_79 : decode cX11_search 79 = .ok (.iconst 1, 1) := by decide +kernel
theorem dX11_search_80 : decode cX11_search 80 = .ok (.iadd, 1) := by decide +kernel
theorem dX11_search_81 : decode cX11_search 81 = .ok (.iload_n 3, 1) := by decide +kernel
theorem dX11_search_82 : decode cX11_search 82 = .ok (.iload 6, 2) := by decide +kernel
theorem dX11_search_84 : decode cX11_search 84 = .ok (.iload 4, 2) := by decide +kernel
theorem dX11_search_86 : decode cX11_search 86 = .ok (.iadd, 1) := by decide +kernel
theorem dX11_search_87 : decode cX11_search 87 = .ok (.invokestatic 50, 3) := by decide +kernel
theorem dX11_search_90 : decode cX11_search 90 = .ok (.invokestatic 70, 3) := by decide +kernel
theorem dX11_search_93 : decode cX11_search 93 = .ok (.aload_n 0, 1) := by decide +kernel
theorem dX11_search_94 : decode cX11_search 94 = .ok (.getfield 23, 3) := by decide +kernel
theorem dX11_search_97 : decode cX11_search 97 = .ok (.iload 5, 2) := by decide +kernel
theorem dX11_search_99 : decode cX11_search 99 = .ok (.iload 6, 2) := by decide +kernel
theorem dX11_search_101 : decode cX11_search 101 = .ok (.invokevirtual 74, 3) := by decide +kernel
theorem dX11_search_104 : decode cX11_search 104 = .ok (.iinc 5 1, 3) := by decide +kernel
theorem dX11_search_107 : decode cX11_search 107 = .ok (.goto (-68), 3) := by decide +kernel
theorem dX11_search_110 : decode cX11_search 110 = .ok (.return_, 1) := by decide +kernel
theorem dX12_init_0 : decode cX12_init 0 = .ok (.aload_n 0, 1) := by decide +kernel
theorem dX12_init_1 : decode cX12_init 1 = .ok (.invokespecial 1, 3) := by decide +kernel
theorem dX12_init_4 : decode cX12_init 4 = .ok (.aload_n 0, 1) := by decide +kernel
theorem dX12_init_5 : decode cX12_init 5 = .ok (.new 7, 3) := by decide +kernel
theorem dX12_init_8 : decode cX12_init 8 = .ok (.dup, 1) := by decide +kernel
theorem dX12_init_9 : decode cX12_init 9 = .ok (.invokespecial 9, 3) := by decide +kernel
theorem dX12_init_12 : decode cX12_init 12 = .ok (.putfield 10, 3) := by decide +kernel
theorem dX12_init_15 : decode cX12_init 15 = .ok (.aload_n 0, 1) := by decide +kernel
theorem dX12_init_16 : decode cX12_init 16 = .ok (.new 7, 3) := by decide +kernel
theorem dX12_init_19 : decode cX12_init 19 = .ok (.dup, 1) := by decide +kernel
theorem dX12_init_20 : decode cX12_init 20 = .ok (.invokespecial 9, 3) := by decide +kernel
theorem dX12_init_23 : decode cX12_init 23 = .ok (.putfield 16, 3) := by decide +kernel
theorem dX12_init_26 : decode cX12_init 26 = .ok (.aload_n 0, 1) := by decide +kernel
theorem dX12_init_27 : decode cX12_init 27 = .ok (.new 7, 3) := by decide +kernel
theorem dX12_init_30 : decode cX12_init 30 = .ok (.dup, 1) := by decide +kernel
theorem dX12_init_31 : decode cX12_init 31 = .ok (.invokespecial 9, 3) := by decide +kernel
theorem dX12_init_34 : decode cX12_init 34 = .ok (.putfield 19, 3) := by decide +kernel
theorem dX12_init_37 : decode cX12_init 37 = .ok (.aload_n 0, 1) := by decide +kernel
theorem dX12_init_38 : decode cX12_init 38 = .ok (.new 22, 3) := by decide +kernel
theorem dX12_init_41 : decode cX12_init 41 = .ok (.dup, 1) := by decide +kernel
theorem dX12_init_42 : decode cX12_init 42 = .ok (.invokespecial 24, 3) := by decide +kernel
theorem dX12_init_45 : decode cX12_init 45 = .ok (.putfield 25, 3) := by decide +kernel
theorem dX12_init_48 : decode cX12_init 48 = .ok (.aload_n 0, 1) := by decide +kernel
theorem dX12_init_49 : decode cX12_init 49 = .ok (.new 29, 3) := by decide +kernel
theorem dX12_init_52 : decode cX12_init 52 = .ok (.dup, 1) := by decide +kernel
theorem dX12_init_53 : decode cX12_init 53 = .ok (.invokespecial 31, 3) := by decide +kernel
theorem dX12_init_56 : decode cX12_init 56 = .ok (.putfield 32, 3) := by decide +kernel
theorem dX12_init_59 : decode cX12_init 59 = .ok (.aload_n 0, 1) := by decide +kernel
theorem dX12_init_60 : decode cX12_init 60 = .ok (.new 36, 3) := by decide +kernel
theorem dX12_init_63 : decode cX12_init 63 = .ok (.dup, 1) := by decide +kernel
theorem dX12_init_64 : decode cX12_init 64 = .ok (.invokespecial 38, 3) := by decide +kernel
theorem dX12_init_67 : decode cX12_init 67 = .ok (.putfield 39, 3) := by decide +kernel
theorem dX12_init_70 : decode cX12_init 70 = .ok (.aload_n 0, 1) := by decide +kernel
theorem dX12_init_71 : decode cX12_init 71 = .ok (.new 43, 3) := by decide +kernel
theorem dX12_init_74 : decode cX12_init 74 = .ok (.dup, 1) := by decide +kernel
theorem dX12_init_75 : decode cX12_init 75 = .ok (.invokespecial 45, 3) := by decide +kernel
theorem dX12_init_78 : decode cX12_init 78 = .ok (.putfield 46, 3) := by decide +kernel
theorem dX12_init_81 : decode cX12_init 81 = .ok (.aload_n 0, 1) := by decide +kernel
theorem dX12_init_82 : decode cX12_init 82 = .ok (.new 50, 3) := by decide +kernel
theorem dX12_init_85 : decode cX12_init 85 = .ok (.dup, 1) := by decide +kernel
theorem dX12_init_86 : decode cX12_init 86 = .ok (.bipush 12, 2) := by decide +kernel
theorem dX12_init_88 : decode cX12_init 88 = .ok (.invokespecial 52, 3) := by decide +kernel
theorem dX12_init_91 : decode cX12_init 91 = .ok (.putfield 55, 3) := by decide +kernel
theorem dX12_init_94 : decode cX12_init 94 = .ok (.aload_n 0, 1) := by decide +kernel
theorem dX12_init_95 : decode cX12_init 95 = .ok (.new 59, 3) := by decide +kernel
theorem dX12_init_98 : decode cX12_init 98 = .ok (.dup, 1) := by decide +kernel
theorem dX12_init_99 : decode cX12_init 99 = .ok (.invokespecial 61, 3) := by decide +kernel
theorem dX12_init_102 : decode cX12_init 102 = .ok (.putfield 62, 3) := by decide +kernel
theorem dX12_init_105 : decode cX12_init 105 = .ok (.aload_n 0, 1) := by decide +kernel
theorem dX12_init_106 : decode cX12_init 106 = .ok (.new 66, 3) := by decide +kernel
theorem dX12_init_109 : decode cX12_init 109 = .ok (.dup, 1) := by decide +kernel
theorem dX12_init_110 : decode cX12_init 110 = .ok (.invokespecial 68, 3) := by decide +kernel
theorem dX12_init_113 : decode cX12_init 113 = .ok (.putfield 69, 3) := by decide +kernel
theorem dX12_init_116 : decode cX12_init 116 = .ok (.aload_n 0, 1) := by decide +kernel
theorem dX12_init_117 : decode cX12_init 117 = .ok (.iconst (-1), 1) := by decide +kernel
theorem dX12_init_118 : decode cX12_init 118 = .ok (.putfield 73, 3) := by decide +kernel
theorem dX12_init_121 : decode cX12_init 121 = .ok (.aload_n 0, 1) := by decide +kernel
theorem dX12_init_122 : decode cX12_init 122 = .ok (.iconst (-1), 1) := by decide +kernel
theorem dX12_init_123 : decode cX12_init 123 = .ok (.putfield 77, 3) := by decide +kernel
theorem dX12_init_126 : decode cX12_init 126 = .ok (.return_, 1) := by decide +kernel
theorem dX12_buyBale_0 : decode cX12_buyBale 0 = .ok (.aload_n 0, 1) := by decide +kernel
theorem dX12_buyBale_1 : decode cX12_buyBale 1 = .ok (.getstatic 80, 3) := by decide +kernel
theorem dX12_buyBale_4 : decode cX12_buyBale 4 = .ok (.iload_n 1, 1) := by decide +kernel
theorem dX12_buyBale_5 : decode cX12_buyBale 5 = .ok (.iload_n 2, 1) := by decide +kernel
theorem dX12_buyBale_6 : decode cX12_buyBale 6 = .ok (.iload_n 3, 1) := by decide +kernel
theorem dX12_buyBale_7 : decode cX12_buyBale 7 = .ok (.invokevirtual 86, 3) := by decide +kernel
theorem dX12_buyBale_10 : decode cX12_buyBale 10 = .ok (.ireturn, 1) := by decide +kernel
theorem dX12_blend_0 : decode cX12_blend 0 = .ok (.aload_n 0, 1) := by decide +kernel
theorem dX12_blend_1 : decode cX12_blend 1 = .ok (.getstatic 90, 3) := by decide +kernel
theorem dX12_blend_4 : decode cX12_blend 4 = .ok (.iload_n 1, 1) := by decide +kernel
theorem dX12_blend_5 : decode cX12_blend 5 = .ok (.iload_n 2, 1) := by decide +kernel
theorem dX12_blend_6 : decode cX12_blend 6 = .ok (.iconst 0, 1) := by decide +kernel
theorem dX12_blend_7 : decode cX12_blend 7 = .ok (.invokevirtual 86, 3) := by decide +kernel
theorem dX12_blend_10 : decode cX12_blend 10 = .ok (.ireturn, 1) := by decide +kernel
theorem dX12_addOrder_0 : decode cX12_addOrder 0 = .ok (.aload_n 0, 1) := by decide +kernel
theorem dX12_addOrder_1 : decode cX12_addOrder 1 = .ok (.getstatic 93, 3) := by decide +kernel
theorem dX12_addOrder_4 : decode cX12_addOrder 4 = .ok (.iload_n 1, 1) := by decide +kernel
theorem dX12_addOrder_5 : decode cX12_addOrder 5 = .ok (.iload_n 2, 1) := by decide +kernel
theorem dX12_addOrder_6 : decode cX12_addOrder 6 = .ok (.iconst 0, 1) := by decide +kernel
theorem dX12_addOrder_7 : decode cX12_addOrder 7 = .ok (.invokevirtual 86, 3) := by decide +kernel
theorem dX12_addOrder_10 : decode cX12_addOrder 10 = .ok (.ireturn, 1) := by decide +kernel
theorem dX12_cancelOrder_0 : decode cX12_cancelOrder 0 = .ok (.aload_n 0, 1) := by decide +kernel
theorem dX12_cancelOrder_1 : decode cX12_cancelOrder 1 = .ok (.getstatic 96, 3) := by decide +kernel
theorem dX12_cancelOrder_4 : decode cX12_cancelOrder 4 = .ok (.iload_n 1, 1) := by decide +kernel
theorem dX12_cancelOrder_5 : decode cX12_cancelOrder 5 = .ok (.iconst 0, 1) := by decide +kernel
theorem dX12_cancelOrder_6 : decode cX12_cancelOrder 6 = .ok (.iconst 0, 1) := by decide +kernel
theorem dX12_cancelOrder_7 : decode cX12_cancelOrder 7 = .ok (.invokevirtual 86, 3) := by decide +kernel
theorem dX12_cancelOrder_10 : decode cX12_cancelOrder 10 = .ok (.ireturn, 1) := by decide +kernel
theorem dX12_setMachines_0 : decode cX12_setMachines 0 = .ok (.aload_n 0, 1) := by decide +kernel
theorem dX12_setMachines_1 : decode cX12_setMachines 1 = .ok (.getstatic 99, 3) := by decide +kernel
theorem dX12_setMachines_4 : decode cX12_setMachines 4 = .ok (.iload_n 1, 1) := by decide +kernel
theorem dX12_setMachines_5 : decode cX12_setMachines 5 = .ok (.iconst 0, 1) := by decide +kernel
theorem dX12_setMachines_6 : decode cX12_setMachines 6 = .ok (.iconst 0, 1) := by decide +kernel
theorem dX12_setMachines_7 : decode cX12_setMachines 7 = .ok (.invokevirtual 86, 3) := by decide +kernel
theorem dX12_setMachines_10 : decode cX12_setMachines 10 = .ok (.ireturn, 1) := by decide +kernel
theorem dX12_spin_0 : decode cX12_spin 0 = .ok (.aload_n 0, 1) := by decide +kernel
theorem dX12_spin_1 : decode cX12_spin 1 = .ok (.getstatic 102, 3) := by decide +kernel
theorem dX12_spin_4 : decode cX12_spin 4 = .ok (.iload_n 1, 1) := by decide +kernel
theorem dX12_spin_5 : decode cX12_spin 5 = .ok (.iconst 0, 1) := by decide +kernel
theorem dX12_spin_6 : decode cX12_spin 6 = .ok (.iconst 0, 1) := by decide +kernel
theorem dX12_spin_7 : decode cX12_spin 7 = .ok (.invokevirtual 86, 3) := by decide +kernel
theorem dX12_spin_10 : decode cX12_spin 10 = .ok (.ireturn, 1) := by decide +kernel
theorem dX12_splice_0 : decode cX12_splice 0 = .ok (.aload_n 0, 1) := by decide +kernel
theorem dX12_splice_1 : decode cX12_splice 1 = .ok (.getstatic 105, 3) := by decide +kernel
theorem dX12_splice_4 : decode cX12_splice 4 = .ok (.iload_n 1, 1) := by decide +kernel
theorem dX12_splice_5 : decode cX12_splice 5 = .ok (.iconst 0, 1) := by decide +kernel
theorem dX12_splice_6 : decode cX12_splice 6 = .ok (.iconst 0, 1) := by decide +kernel
theorem dX12_splice_7 : decode cX12_splice 7 = .ok (.invokevirtual 86, 3) := by decide +kernel
theorem dX12_splice_10 : decode cX12_splice 10 = .ok (.ireturn, 1) := by decide +kernel
theorem dX12_spliceAll_0 : decode cX12_spliceAll 0 = .ok (.aload_n 0, 1) := by decide +kernel
theorem dX12_spliceAll_1 : decode cX12_spliceAll 1 = .ok (.getstatic 108, 3) := by decide +kernel
theorem dX12_spliceAll_4 : decode cX12_spliceAll 4 = .ok (.iconst 0, 1) := by decide +kernel
theorem dX12_spliceAll_5 : decode cX12_spliceAll 5 = .ok (.iconst 0, 1) := by decide +kernel
theorem dX12_spliceAll_6 : decode cX12_spliceAll 6 = .ok (.iconst 0, 1) := by decide +kernel
theorem dX12_spliceAll_7 : decode cX12_spliceAll 7 = .ok (.invokevirtual 86, 3) := by decide +kernel
theorem dX12_spliceAll_10 : decode cX12_spliceAll 10 = .ok (.ireturn, 1) := by decide +kernel
theorem dX12_sell_0 : decode cX12_sell 0 = .ok (.aload_n 0, 1) := by decide +kernel
theorem dX12_sell_1 : decode cX12_sell 1 = .ok (.getstatic 111, 3) := by decide +kernel
theorem dX12_sell_4 : decode cX12_sell 4 = .ok (.iload_n 1, 1) := by decide +kernel
theorem dX12_sell_5 : decode cX12_sell 5 = .ok (.iconst 0, 1) := by decide +kernel
theorem dX12_sell_6 : decode cX12_sell 6 = .ok (.iconst 0, 1) := by decide +kernel
theorem dX12_sell_7 : decode cX12_sell 7 = .ok (.invokevirtual 86, 3) := by decide +kernel
theorem dX12_sell_10 : decode cX12_sell 10 = .ok (.ireturn, 1) := by decide +kernel
theorem dX12_baleCount_0 : decode cX12_baleCount 0 = .ok (.aload_n 0, 1) := by decide +kernel
theorem dX12_baleCount_1 : decode cX12_baleCount 1 = .ok (.getfield 10, 3) := by decide +kernel
theorem dX12_baleCount_4 : decode cX12_baleCount 4 = .ok (.getfield 114, 3) := by decide +kernel
theorem dX12_baleCount_7 : decode cX12_baleCount 7 = .ok (.getfield 118, 3) := by decide +kernel
theorem dX12_baleCount_10 : decode cX12_baleCount 10 = .ok (.invokevirtual 123, 3) := by decide +kernel
theorem dX12_baleCount_13 : decode cX12_baleCount 13 = .ok (.ireturn, 1) := by decide +kernel
theorem dX12_baleAt_0 : decode cX12_baleAt 0 = .ok (.aload_n 0, 1) := by decide +kernel
theorem dX12_baleAt_1 : decode cX12_baleAt 1 = .ok (.getfield 10, 3) := by decide +kernel
theorem dX12_baleAt_4 : decode cX12_baleAt 4 = .ok (.getfield 114, 3) := by decide +kernel
theorem dX12_baleAt_7 : decode cX12_baleAt 7 = .ok (.getfield 118, 3) := by decide +kernel
theorem dX12_baleAt_10 : decode cX12_baleAt 10 = .ok (.iload_n 1, 1) := by decide +kernel
theorem dX12_baleAt_11 : decode cX12_baleAt 11 = .ok (.invokevirtual 127, 3) := by decide +kernel
theorem dX12_baleAt_14 : decode cX12_baleAt 14 = .ok (.ifCond .ne 13, 3) := by decide +kernel
theorem dX12_baleAt_17 : decode cX12_baleAt 17 = .ok (.new 131, 3) := by decide +kernel
theorem dX12_baleAt_20 : decode cX12_baleAt 20 = .ok (.dup, 1) := by decide +kernel
theorem dX12_baleAt_21 : decode cX12_baleAt 21 = .ok (.ldc 133, 2) := by decide +kernel
theorem dX12_baleAt_23 : decode cX12_baleAt 23 = .ok (.invokespecial 135, 3) := by decide +kernel
theorem dX12_baleAt_26 : decode cX12_baleAt 26 = .ok (.athrow, 1) := by decide +kernel
theorem dX12_baleAt_27 : decode cX12_baleAt 27 = .ok (.aload_n 0, 1) := by decide +kernel
theorem dX12_baleAt_28 : decode cX12_baleAt 28 = .ok (.getfield 10, 3) := by decide +kernel
theorem dX12_baleAt_31 : decode cX12_baleAt 31 = .ok (.getfield 114, 3) := by decide +kernel
theorem dX12_baleAt_34 : decode cX12_baleAt 34 = .ok (.getfield 118, 3) := by decide +kernel
theorem dX12_baleAt_37 : decode cX12_baleAt 37 = .ok (.iload_n 1, 1) := by decide +kernel
theorem dX12_baleAt_38 : decode cX12_baleAt 38 = .ok (.invokevirtual 138, 3) := by decide +kernel
theorem dX12_baleAt_41 : decode cX12_baleAt 41 = .ok (.ireturn, 1) := by decide +kernel
theorem dX12_weight_0 : decode cX12_weight 0 = .ok (.aload_n 0, 1) := by decide +kernel
theorem dX12_weight_1 : decode cX12_weight 1 = .ok (.getfield 10, 3) := by decide +kernel
theorem dX12_weight_4 : decode cX12_weight 4 = .ok (.getfield 114, 3) := by decide +kernel
theorem dX12_weight_7 : decode cX12_weight 7 = .ok (.getfield 142, 3) := by decide +kernel
theorem dX12_weight_10 : decode cX12_weight 10 = .ok (.aload_n 0, 1) := by decide +kernel
theorem dX12_weight_11 : decode cX12_weight 11 = .ok (.iload_n 1, 1) := by decide +kernel
theorem dX12_weight_12 : decode cX12_weight 12 = .ok (.invokevirtual 145, 3) := by decide +kernel
theorem dX12_weight_15 : decode cX12_weight 15 = .ok (.invokevirtual 138, 3) := by decide +kernel
theorem dX12_weight_18 : decode cX12_weight 18 = .ok (.ireturn, 1) := by decide +kernel
theorem dX12_staple_0 : decode cX12_staple 0 = .ok (.aload_n 0, 1) := by decide +kernel
theorem dX12_staple_1 : decode cX12_staple 1 = .ok (.getfield 10, 3) := by decide +kernel
theorem dX12_staple_4 : decode cX12_staple 4 = .ok (.getfield 114, 3) := by decide +kernel
theorem dX12_staple_7 : decode cX12_staple 7 = .ok (.getfield 148, 3) := by decide +kernel
theorem dX12_staple_10 : decode cX12_staple 10 = .ok (.aload_n 0, 1) := by decide +kernel
theorem dX12_staple_11 : decode cX12_staple 11 = .ok (.iload_n 1, 1) := by decide +kernel
theorem dX12_staple_12 : decode cX12_staple 12 = .ok (.invokevirtual 145, 3) := by decide +kernel
theorem dX12_staple_15 : decode cX12_staple 15 = .ok (.invokevirtual 138, 3) := by decide +kernel
theorem dX12_staple_18 : decode cX12_staple 18 = .ok (.ireturn, 1) := by decide +kernel
theorem dX12_price_0 : decode cX12_price 0 = .ok (.aload_n 0, 1) := by decide +kernel
theorem dX12_price_1 : decode cX12_price 1 = .ok (.getfield 10, 3) := by decide +kernel
theorem dX12_price_4 : decode cX12_price 4 = .ok (.getfield 114, 3) := by decide +kernel
theorem dX12_price_7 : decode cX12_price 7 = .ok (.getfield 151, 3) := by decide +kernel
theorem dX12_price_10 : decode cX12_price 10 = .ok (.aload_n 0, 1) := by decide +kernel
theorem dX12_price_11 : decode cX12_price 11 = .ok (.iload_n 1, 1) := by decide +kernel
theorem dX12_price_12 : decode cX12_price 12 = .ok (.invokevirtual 145, 3) := by decide +kernel
theorem dX12_price_15 : decode cX12_price 15 = .ok (.invokevirtual 138, 3) := by decide +kernel
theorem dX12_price_18 : decode cX12_price 18 = .ok (.ireturn, 1) := by decide +kernel
theorem dX12_blendValue_0 : decode cX12_blendValue 0 = .ok (.iload_n 1, 1) := by decide +kernel
theorem dX12_blendValue_1 : decode cX12_blendValue 1 = .ok (.iload_n 2, 1) := by decide +kernel
theorem dX12_blendValue_2 : decode cX12_blendValue 2 = .ok (.invokestatic 162, 3) := by decide +kernel
theorem dX12_blendValue_5 : decode cX12_blendValue 5 = .ok (.aload_n 0, 1) := by decide +kernel
theorem dX12_blendValue_6 : decode cX12_blendValue 6 = .ok (.getfield 32, 3) := by decide +kernel
theorem dX12_blendValue_9 : decode cX12_blendValue 9 = .ok (.aload_n 0, 1) := by decide +kernel
theorem dX12_blendValue_10 : decode cX12_blendValue 10 = .ok (.getfield 10, 3) := by decide +kernel
theorem dX12_blendValue_13 : decode cX12_blendValue 13 = .ok (.getfield 114, 3) := by decide +kernel
theorem dX12_blendValue_16 : decode cX12_blendValue 16 = .ok (.iload_n 1, 1) := by decide +kernel
theorem dX12_blendValue_17 : decode cX12_blendValue 17 = .ok (.iload_n 2, 1) := by decide +kernel
theorem dX12_blendValue_18 : decode cX12_blendValue 18 = .ok (.invokevirtual 166, 3) := by decide +kernel
theorem dX12_blendValue_21 : decode cX12_blendValue 21 = .ok (.invokestatic 170, 3) := by decide +kernel
theorem dX12_blendValue_24 : decode cX12_blendValue 24 = .ok (.ireturn, 1) := by decide +kernel
theorem dX12_blendValueBySearch_0 : decode cX12_blendValueBySearch 0 = .ok (.iload_n 1, 1) := by decide +kernel
theorem dX12_blendValueBySearch_1 : decode cX12_blendValueBySearch 1 = .ok (.iload_n 2, 1) := by decide +kernel
theorem dX12_blendValueBySearch_2 : decode cX12_blendValueBySearch 2 = .ok (.invokestatic 162, 3) := by decide +kernel
theorem dX12_blendValueBySearch_5 : decode cX12_blendValueBySearch 5 = .ok (.aload_n 0, 1) := by decide +kernel
theorem dX12_blendValueBySearch_6 : decode cX12_blendValueBySearch 6 = .ok (.getfield 32, 3) := by decide +kernel
theorem dX12_blendValueBySearch_9 : decode cX12_blendValueBySearch 9 = .ok (.aload_n 0, 1) := by decide +kernel
theorem dX12_blendValueBySearch_10 : decode cX12_blendValueBySearch 10 = .ok (.getfield 10, 3) := by decide +kernel
theorem dX12_blendValueBySearch_13 : decode cX12_blendValueBySearch 13 = .ok (.getfield 114, 3) := by decide +kernel
theorem dX12_blendValueBySearch_16 : decode cX12_blendValueBySearch 16 = .ok (.iload_n 1, 1) := by decide +kernel
theorem dX12_blendValueBySearch_17 : decode cX12_blendValueBySearch 17 = .ok (.iload_n 2, 1) := by decide +kernel
theorem dX12_blendValueBySearch_18 : decode cX12_blendValueBySearch 18 = .ok (.invokevirtual 173, 3) := by decide +kernel
theorem dX12_blendValueBySearch_21 : decode cX12_blendValueBySearch 21 = .ok (.invokestatic 170, 3) := by decide +kernel
theorem dX12_blendValueBySearch_24 : decode cX12_blendValueBySearch 24 = .ok (.ireturn, 1) := by decide +kernel
theorem dX12_isInBlend_0 : decode cX12_isInBlend 0 = .ok (.aload_n 0, 1) := by decide +kernel
theorem dX12_isInBlend_1 : decode cX12_isInBlend 1 = .ok (.iload_n 1, 1) := by decide +kernel
theorem dX12_isInBlend_2 : decode cX12_isInBlend 2 = .ok (.invokevirtual 145, 3) := by decide +kernel
theorem dX12_isInBlend_5 : decode cX12_isInBlend 5 = .ok (.istore 4, 2) := by decide +kernel
theorem dX12_isInBlend_7 : decode cX12_isInBlend 7 = .ok (.iload_n 2, 1) := by decide +kernel
theorem dX12_isInBlend_8 : decode cX12_isInBlend 8 = .ok (.iload_n 3, 1) := by decide +kernel
theorem dX12_isInBlend_9 : decode cX12_isInBlend 9 = .ok (.invokestatic 162, 3) := by decide +kernel
theorem dX12_isInBlend_12 : decode cX12_isInBlend 12 = .ok (.aload_n 0, 1) := by decide +kernel
theorem dX12_isInBlend_13 : decode cX12_isInBlend 13 = .ok (.getfield 32, 3) := by decide +kernel
theorem dX12_isInBlend_16 : decode cX12_isInBlend 16 = .ok (.aload_n 0, 1) := by decide +kernel
theorem dX12_isInBlend_17 : decode cX12_isInBlend 17 = .ok (.getfield 10, 3) := by decide +kernel
theorem dX12_isInBlend_20 : decode cX12_isInBlend 20 = .ok (.getfield 114, 3) := by decide +kernel
theorem dX12_isInBlend_23 : decode cX12_isInBlend 23 = .ok (.iload_n 2, 1) := by decide +kernel
theorem dX12_isInBlend_24 : decode cX12_isInBlend 24 = .ok (.iload_n 3, 1) := by decide +kernel
theorem dX12_isInBlend_25 : decode cX12_isInBlend 25 = .ok (.invokevirtual 176, 3) := by decide +kernel
theorem dX12_isInBlend_28 : decode cX12_isInBlend 28 = .ok (.istore 5, 2) := by decide +kernel
theorem dX12_isInBlend_30 : decode cX12_isInBlend 30 = .ok (.iload 5, 2) := by decide +kernel
theorem dX12_isInBlend_32 : decode cX12_isInBlend 32 = .ok (.ifCond .ne 13, 3) := by decide +kernel
theorem dX12_isInBlend_35 : decode cX12_isInBlend 35 = .ok (.new 179, 3) := by decide +kernel
theorem dX12_isInBlend_38 : decode cX12_isInBlend 38 = .ok (.dup, 1) := by decide +kernel
theorem dX12_isInBlend_39 : decode cX12_isInBlend 39 = .ok (.ldc 181, 2) := by decide +kernel
theorem dX12_isInBlend_41 : decode cX12_isInBlend 41 = .ok (.invokespecial 183, 3) := by decide +kernel
theorem dX12_isInBlend_44 : decode cX12_isInBlend 44 = .ok (.athrow, 1) := by decide +kernel
theorem dX12_isInBlend_45 : decode cX12_isInBlend 45 = .ok (.iload 5, 2) := by decide +kernel
theorem dX12_isInBlend_47 : decode cX12_isInBlend 47 = .ok (.iconst 1, 1) := by decide +kernel
theorem dX12_isInBlend_48 : decode cX12_isInBlend 48 = .ok (.iload 4, 2) := by decide +kernel
theorem dX12_isInBlend_50 : decode cX12_isInBlend 50 = .ok (.ishl, 1) := by decide +kernel
theorem dX12_isInBlend_51 : decode cX12_isInBlend 51 = .ok (.iand, 1) := by decide +kernel
theorem dX12_isInBlend_52 : decode cX12_isInBlend 52 = .ok (.ifCond .eq 7, 3) := by decide +kernel
theorem dX12_isInBlend_55 : decode cX12_isInBlend 55 = .ok (.iconst 1, 1) := by decide +kernel
theorem dX12_isInBlend_56 : decode cX12_isInBlend 56 = .ok (.goto 4, 3) := by decide +kernel
theorem dX12_isInBlend_59 : decode cX12_isInBlend 59 = .ok (.iconst 0, 1) := by decide +kernel
theorem dX12_isInBlend_60 : decode cX12_isInBlend 60 = .ok (.ireturn, 1) := by decide +kernel
theorem dX12_orderCount_0 : decode cX12_orderCount 0 = .ok (.aload_n 0, 1) := by decide +kernel
theorem dX12_orderCount_1 : decode cX12_orderCount 1 = .ok (.getfield 10, 3) := by decide +kernel
theorem dX12_orderCount_4 : decode cX12_orderCount 4 = .ok (.getfield 184, 3) := by decide +kernel
theorem dX12_orderCount_7 : decode cX12_orderCount 7 = .ok (.getfield 188, 3) := by decide +kernel
theorem dX12_orderCount_10 : decode cX12_orderCount 10 = .ok (.invokevirtual 123, 3) := by decide +kernel
theorem dX12_orderCount_13 : decode cX12_orderCount 13 = .ok (.ireturn, 1) := by decide +kernel
theorem dX12_orderAt_0 : decode cX12_orderAt 0 = .ok (.aload_n 0, 1) := by decide +kernel
theorem dX12_orderAt_1 : decode cX12_orderAt 1 = .ok (.getfield 10, 3) := by decide +kernel
theorem dX12_orderAt_4 : decode cX12_orderAt 4 = .ok (.getfield 184, 3) := by decide +kernel
theorem dX12_orderAt_7 : decode cX12_orderAt 7 = .ok (.getfield 188, 3) := by decide +kernel
theorem dX12_orderAt_10 : decode cX12_orderAt 10 = .ok (.iload_n 1, 1) := by decide +kernel
theorem dX12_orderAt_11 : decode cX12_orderAt 11 = .ok (.invokevirtual 127, 3) := by decide +kernel
theorem dX12_orderAt_14 : decode cX12_orderAt 14 = .ok (.ifCond .ne 13, 3) := by decide +kernel
theorem dX12_orderAt_17 : decode cX12_orderAt 17 = .ok (.new 131, 3) := by decide +kernel
theorem dX12_orderAt_20 : decode cX12_orderAt 20 = .ok (.dup, 1) := by decide +kernel
theorem dX12_orderAt_21 : decode cX12_orderAt 21 = .ok (.ldc 191, 2) := by decide +kernel
theorem dX12_orderAt_23 : decode cX12_orderAt 23 = .ok (.invokespecial 135, 3) := by decide +kernel
theorem dX12_orderAt_26 : decode cX12_orderAt 26 = .ok (.athrow, 1) := by decide +kernel
theorem dX12_orderAt_27 : decode cX12_orderAt 27 = .ok (.aload_n 0, 1) := by decide +kernel
theorem dX12_orderAt_28 : decode cX12_orderAt 28 = .ok (.getfield 10, 3) := by decide +kernel
theorem dX12_orderAt_31 : decode cX12_orderAt 31 = .ok (.getfield 184, 3) := by decide +kernel
theorem dX12_orderAt_34 : decode cX12_orderAt 34 = .ok (.getfield 188, 3) := by decide +kernel
theorem dX12_orderAt_37 : decode cX12_orderAt 37 = .ok (.iload_n 1, 1) := by decide +kernel
theorem dX12_orderAt_38 : decode cX12_orderAt 38 = .ok (.invokevirtual 138, 3) := by decide +kernel
theorem dX12_orderAt_41 : decode cX12_orderAt 41 = .ok (.ireturn, 1) := by decide +kernel
theorem dX12_lengthOf_0 : decode cX12_lengthOf 0 = .ok (.aload_n 0, 1) := by decide +kernel
theorem dX12_lengthOf_1 : decode cX12_lengthOf 1 = .ok (.getfield 10, 3) := by decide +kernel
theorem dX12_lengthOf_4 : decode cX12_lengthOf 4 = .ok (.getfield 184, 3) := by decide +kernel
theorem dX12_lengthOf_7 : decode cX12_lengthOf 7 = .ok (.getfield 193, 3) := by decide +kernel
theorem dX12_lengthOf_10 : decode cX12_lengthOf 10 = .ok (.aload_n 0, 1) := by decide +kernel
theorem dX12_lengthOf_11 : decode cX12_lengthOf 11 = .ok (.iload_n 1, 1) := by decide +kernel
theorem dX12_lengthOf_12 : decode cX12_lengthOf 12 = .ok (.invokevirtual 196, 3) := by decide +kernel
theorem dX12_lengthOf_15 : decode cX12_lengthOf 15 = .ok (.invokevirtual 138, 3) := by decide +kernel
theorem dX12_lengthOf_18 : decode cX12_lengthOf 18 = .ok (.ireturn, 1) := by decide +kernel
theorem dX12_twistOf_0 : decode cX12_twistOf 0 = .ok (.aload_n 0, 1) := by decide +kernel
theorem dX12_twistOf_1 : decode cX12_twistOf 1 = .ok (.getfield 10, 3) := by decide +kernel
theorem dX12_twistOf_4 : decode cX12_twistOf 4 = .ok (.getfield 184, 3) := by decide +kernel
theorem dX12_twistOf_7 : decode cX12_twistOf 7 = .ok (.getfield 199, 3) := by decide +kernel
theorem dX12_twistOf_10 : decode cX12_twistOf 10 = .ok (.aload_n 0, 1) := by decide +kernel
theorem dX12_twistOf_11 : decode cX12_twistOf 11 = .ok (.iload_n 1, 1) := by decide +kernel
theorem dX12_twistOf_12 : decode cX12_twistOf 12 = .ok (.invokevirtual 196, 3) := by decide +kernel
theorem dX12_twistOf_15 : decode cX12_twistOf 15 = .ok (.invokevirtual 138, 3) := by decide +kernel
theorem dX12_twistOf_18 : decode cX12_twistOf 18 = .ok (.ireturn, 1) := by decide +kernel
theorem dX12_minutesOf_0 : decode cX12_minutesOf 0 = .ok (.aload_n 0, 1) := by decide +kernel
theorem dX12_minutesOf_1 : decode cX12_minutesOf 1 = .ok (.getfield 10, 3) := by decide +kernel
theorem dX12_minutesOf_4 : decode cX12_minutesOf 4 = .ok (.getfield 184, 3) := by decide +kernel
theorem dX12_minutesOf_7 : decode cX12_minutesOf 7 = .ok (.getfield 202, 3) := by decide +kernel
theorem dX12_minutesOf_10 : decode cX12_minutesOf 10 = .ok (.aload_n 0, 1) := by decide +kernel
theorem dX12_minutesOf_11 : decode cX12_minutesOf 11 = .ok (.iload_n 1, 1) := by decide +kernel
theorem dX12_minutesOf_12 : decode cX12_minutesOf 12 = .ok (.invokevirtual 196, 3) := by decide +kernel
theorem dX12_minutesOf_15 : decode cX12_minutesOf 15 = .ok (.invokevirtual 138, 3) := by decide +kernel
theorem dX12_minutesOf_18 : decode cX12_minutesOf 18 = .ok (.ireturn, 1) := by decide +kernel
theorem dX12_canSpin_0 : decode cX12_canSpin 0 = .ok (.aload_n 0, 1) := by decide +kernel
theorem dX12_canSpin_1 : decode cX12_canSpin 1 = .ok (.getfield 10, 3) := by decide +kernel
theorem dX12_canSpin_4 : decode cX12_canSpin 4 = .ok (.aload_n 0, 1) := by decide +kernel
theorem dX12_canSpin_5 : decode cX12_canSpin 5 = .ok (.iload_n 1, 1) := by decide +kernel
theorem dX12_canSpin_6 : decode cX12_canSpin 6 = .ok (.invokevirtual 196, 3) := by decide +kernel
theorem dX12_canSpin_9 : decode cX12_canSpin 9 = .ok (.invokevirtual 205, 3) := by decide +kernel
theorem dX12_canSpin_12 : decode cX12_canSpin 12 = .ok (.getstatic 209, 3) := by decide +kernel
theorem dX12_canSpin_15 : decode cX12_canSpin 15 = .ok (.if_acmp .ne 7, 3) := by decide +kernel
theorem dX12_canSpin_18 : decode cX12_canSpin 18 = .ok (.iconst 1, 1) := by decide +kernel
theorem dX12_canSpin_19 : decode cX12_canSpin 19 = .ok (.goto 4, 3) := by decide +kernel
theorem dX12_canSpin_22 : decode cX12_canSpin 22 = .ok (.iconst 0, 1) := by decide +kernel
theorem dX12_canSpin_23 : decode cX12_canSpin 23 = .ok (.ireturn, 1) := by decide +kernel
theorem dX12_kinds_0 : decode cX12_kinds 0 = .ok (.aload_n 0, 1) := by decide +kernel
theorem dX12_kinds_1 : decode cX12_kinds 1 = .ok (.getfield 10, 3) := by decide +kernel
theorem dX12_kinds_4 : decode cX12_kinds 4 = .ok (.getfield 184, 3) := by decide +kernel
theorem dX12_kinds_7 : decode cX12_kinds 7 = .ok (.invokevirtual 215, 3) := by decide +kernel
theorem dX12_kinds_10 : decode cX12_kinds 10 = .ok (.ireturn, 1) := by decide +kernel
theorem dX12_orderByTime_0 : decode cX12_orderByTime 0 = .ok (.aload_n 0, 1) := by decide +kernel
theorem dX12_orderByTime_1 : decode cX12_orderByTime 1 = .ok (.getfield 10, 3) := by decide +kernel
theorem dX12_orderByTime_4 : decode cX12_orderByTime 4 = .ok (.getfield 184, 3) := by decide +kernel
theorem dX12_orderByTime_7 : decode cX12_orderByTime 7 = .ok (.aload_n 0, 1) := by decide +kernel
theorem dX12_orderByTime_8 : decode cX12_orderByTime 8 = .ok (.getfield 55, 3) := by decide +kernel
theorem dX12_orderByTime_11 : decode cX12_orderByTime 11 = .ok (.invokevirtual 218, 3) := by decide +kernel
theorem dX12_orderByTime_14 : decode cX12_orderByTime 14 = .ok (.aload_n 0, 1) := by decide +kernel
theorem dX12_orderByTime_15 : decode cX12_orderByTime 15 = .ok (.getfield 10, 3) := by decide +kernel
theorem dX12_orderByTime_18 : decode cX12_orderByTime 18 = .ok (.getfield 184, 3) := by decide +kernel
theorem dX12_orderByTime_21 : decode cX12_orderByTime 21 = .ok (.getfield 188, 3) := by decide +kernel
theorem dX12_orderByTime_24 : decode cX12_orderByTime 24 = .ok (.aload_n 0, 1) := by decide +kernel
theorem dX12_orderByTime_25 : decode cX12_orderByTime 25 = .ok (.getfield 55, 3) := by decide +kernel
theorem dX12_orderByTime_28 : decode cX12_orderByTime 28 = .ok (.iload_n 1, 1) := by decide +kernel
theorem dX12_orderByTime_29 : decode cX12_orderByTime 29 = .ok (.invokestatic 158, 3) := by decide +kernel
theorem dX12_orderByTime_32 : decode cX12_orderByTime 32 = .ok (.invokevirtual 138, 3) := by decide +kernel
theorem dX12_orderByTime_35 : decode cX12_orderByTime 35 = .ok (.ireturn, 1) := by decide +kernel
theorem dX12_shortestTime_0 : decode cX12_shortestTime 0 = .ok (.aload_n 0, 1) := by decide +kernel
theorem dX12_shortestTime_1 : decode cX12_shortestTime 1 = .ok (.getfield 39, 3) := by decide +kernel
theorem dX12_shortestTime_4 : decode cX12_shortestTime 4 = .ok (.aload_n 0, 1) := by decide +kernel
theorem dX12_shortestTime_5 : decode cX12_shortestTime 5 = .ok (.getfield 10, 3) := by decide +kernel
theorem dX12_shortestTime_8 : decode cX12_shortestTime 8 = .ok (.getfield 184, 3) := by decide +kernel
theorem dX12_shortestTime_11 : decode cX12_shortestTime 11 = .ok (.aload_n 0, 1) := by decide +kernel
theorem dX12_shortestTime_12 : decode cX12_shortestTime 12 = .ok (.getfield 10, 3) := by decide +kernel
theorem dX12_shortestTime_15 : decode cX12_shortestTime 15 = .ok (.getfield 219, 3) := by decide +kernel
theorem dX12_shortestTime_18 : decode cX12_shortestTime 18 = .ok (.invokevirtual 222, 3) := by decide +kernel
theorem dX12_shortestTime_21 : decode cX12_shortestTime 21 = .ok (.ireturn, 1) := by decide +kernel
theorem dX12_shortestTimeBySearch_0 : decode cX12_shortestTimeBySearch 0 = .ok (.aload_n 0, 1) := by decide +kernel
theorem dX12_shortestTimeBySearch_1 : decode cX12_shortestTimeBySearch 1 = .ok (.getfield 39, 3) := by decide +kernel
theorem dX12_shortestTimeBySearch_4 : decode cX12_shortestTimeBySearch 4 = .ok (.aload_n 0, 1) := by decide +kernel
theorem dX12_shortestTimeBySearch_5 : decode cX12_shortestTimeBySearch 5 = .ok (.getfield 10, 3) := by decide +kernel
theorem dX12_shortestTimeBySearch_8 : decode cX12_shortestTimeBySearch 8 = .ok (.getfield 184, 3) := by decide +kernel
theorem dX12_shortestTimeBySearch_11 : decode cX12_shortestTimeBySearch 11 = .ok (.aload_n 0, 1) := by decide +kernel
theorem dX12_shortestTimeBySearch_12 : decode cX12_shortestTimeBySearch 12 = .ok (.getfield 10, 3) := by decide +kernel
theorem dX12_shortestTimeBySearch_15 : decode cX12_shortestTimeBySearch 15 = .ok (.getfield 219, 3) := by decide +kernel
theorem dX12_shortestTimeBySearch_18 : decode cX12_shortestTimeBySearch 18 = .ok (.invokevirtual 226, 3) := by decide +kernel
theorem dX12_shortestTimeBySearch_21 : decode cX12_shortestTimeBySearch 21 = .ok (.ireturn, 1) := by decide +kernel
theorem dX12_pieceCount_0 : decode cX12_pieceCount 0 = .ok (.aload_n 0, 1) := by decide +kernel
theorem dX12_pieceCount_1 : decode cX12_pieceCount 1 = .ok (.getfield 10, 3) := by decide +kernel
theorem dX12_pieceCount_4 : decode cX12_pieceCount 4 = .ok (.getfield 229, 3) := by decide +kernel
theorem dX12_pieceCount_7 : decode cX12_pieceCount 7 = .ok (.invokevirtual 123, 3) := by decide +kernel
theorem dX12_pieceCount_10 : decode cX12_pieceCount 10 = .ok (.ireturn, 1) := by decide +kernel
theorem dX12_pieceLength_0 : decode cX12_pieceLength 0 = .ok (.aload_n 0, 1) := by decide +kernel
theorem dX12_pieceLength_1 : decode cX12_pieceLength 1 = .ok (.iload_n 1, 1) := by decide +kernel
theorem dX12_pieceLength_2 : decode cX12_pieceLength 2 = .ok (.invokevirtual 232, 3) := by decide +kernel
theorem dX12_pieceLength_5 : decode cX12_pieceLength 5 = .ok (.aload_n 0, 1) := by decide +kernel
theorem dX12_pieceLength_6 : decode cX12_pieceLength 6 = .ok (.getfield 10, 3) := by decide +kernel
theorem dX12_pieceLength_9 : decode cX12_pieceLength 9 = .ok (.getfield 229, 3) := by decide +kernel
theorem dX12_pieceLength_12 : decode cX12_pieceLength 12 = .ok (.iload_n 1, 1) := by decide +kernel
theorem dX12_pieceLength_13 : decode cX12_pieceLength 13 = .ok (.invokevirtual 138, 3) := by decide +kernel
theorem dX12_pieceLength_16 : decode cX12_pieceLength 16 = .ok (.ireturn, 1) := by decide +kernel
theorem dX12_longestPiece_0 : decode cX12_longestPiece 0 = .ok (.aload_n 0, 1) := by decide +kernel
theorem dX12_longestPiece_1 : decode cX12_longestPiece 1 = .ok (.getfield 10, 3) := by decide +kernel
theorem dX12_longestPiece_4 : decode cX12_longestPiece 4 = .ok (.getfield 229, 3) := by decide +kernel
theorem dX12_longestPiece_7 : decode cX12_longestPiece 7 = .ok (.invokevirtual 123, 3) := by decide +kernel
theorem dX12_longestPiece_10 : decode cX12_longestPiece 10 = .ok (.ifCond .ne 13, 3) := by decide +kernel
theorem dX12_longestPiece_13 : decode cX12_longestPiece 13 = .ok (.new 131, 3) := by decide +kernel
theorem dX12_longestPiece_16 : decode cX12_longestPiece 16 = .ok (.dup, 1) := by decide +kernel
theorem dX12_longestPiece_17 : decode cX12_longestPiece 17 = .ok (.ldc 235, 2) := by decide +kernel
theorem dX12_longestPiece_19 : decode cX12_longestPiece 19 = .ok (.invokespecial 135, 3) := by decide +kernel
theorem dX12_longestPiece_22 : decode cX12_longestPiece 22 = .ok (.athrow, 1) := by decide +kernel
theorem dX12_longestPiece_23 : decode cX12_longestPiece 23 = .ok (.aload_n 0, 1) := by decide +kernel
theorem dX12_longestPiece_24 : decode cX12_longestPiece 24 = .ok (.getfield 10, 3) := by decide +kernel
theorem dX12_longestPiece_27 : decode cX12_longestPiece 27 = .ok (.getfield 229, 3) := by decide +kernel
theorem dX12_longestPiece_30 : decode cX12_longestPiece 30 = .ok (.invokevirtual 237, 3) := by decide +kernel
theorem dX12_longestPiece_33 : decode cX12_longestPiece 33 = .ok (.ireturn, 1) := by decide +kernel
theorem dX12_pieceByLength_0 : decode cX12_pieceByLength 0 = .ok (.aload_n 0, 1) := by decide +kernel
theorem dX12_pieceByLength_1 : decode cX12_pieceByLength 1 = .ok (.getfield 10, 3) := by decide +kernel
theorem dX12_pieceByLength_4 : decode cX12_pieceByLength 4 = .ok (.getfield 229, 3) := by decide +kernel
theorem dX12_pieceByLength_7 : decode cX12_pieceByLength 7 = .ok (.iload_n 1, 1) := by decide +kernel
theorem dX12_pieceByLength_8 : decode cX12_pieceByLength 8 = .ok (.invokestatic 158, 3) := by decide +kernel
theorem dX12_pieceByLength_11 : decode cX12_pieceByLength 11 = .ok (.ireturn, 1) := by decide +kernel
theorem dX12_worthOf_0 : decode cX12_worthOf 0 = .ok (.aload_n 0, 1) := by decide +kernel
theorem dX12_worthOf_1 : decode cX12_worthOf 1 = .ok (.iload_n 1, 1) := by decide +kernel
theorem dX12_worthOf_2 : decode cX12_worthOf 2 = .ok (.invokevirtual 232, 3) := by decide +kernel
theorem dX12_worthOf_5 : decode cX12_worthOf 5 = .ok (.aload_n 0, 1) := by decide +kernel
theorem dX12_worthOf_6 : decode cX12_worthOf 6 = .ok (.getfield 10, 3) := by decide +kernel
theorem dX12_worthOf_9 : decode cX12_worthOf 9 = .ok (.iload_n 1, 1) := by decide +kernel
theorem dX12_worthOf_10 : decode cX12_worthOf 10 = .ok (.invokevirtual 240, 3) := by decide +kernel
theorem dX12_worthOf_13 : decode cX12_worthOf 13 = .ok (.ireturn, 1) := by decide +kernel
theorem dX12_spliceCost_0 : decode cX12_spliceCost 0 = .ok (.aload_n 0, 1) := by decide +kernel
theorem dX12_spliceCost_1 : decode cX12_spliceCost 1 = .ok (.getfield 46, 3) := by decide +kernel
theorem dX12_spliceCost_4 : decode cX12_spliceCost 4 = .ok (.aload_n 0, 1) := by decide +kernel
theorem dX12_spliceCost_5 : decode cX12_spliceCost 5 = .ok (.getfield 10, 3) := by decide +kernel
theorem dX12_spliceCost_8 : decode cX12_spliceCost 8 = .ok (.getfield 229, 3) := by decide +kernel
theorem dX12_spliceCost_11 : decode cX12_spliceCost 11 = .ok (.invokevirtual 243, 3) := by decide +kernel
theorem dX12_spliceCost_14 : decode cX12_spliceCost 14 = .ok (.ireturn, 1) := by decide +kernel
theorem dX12_spliceCostByMemory_0 : decode cX12_spliceCostByMemory 0 = .ok (.aload_n 0, 1) := by decide +kernel
theorem dX12_spliceCostByMemory_1 : decode cX12_spliceCostByMemory 1 = .ok (.getfield 46, 3) := by decide +kernel
theorem dX12_spliceCostByMemory_4 : decode cX12_spliceCostByMemory 4 = .ok (.aload_n 0, 1) := by decide +kernel
theorem dX12_spliceCostByMemory_5 : decode cX12_spliceCostByMemory 5 = .ok (.getfield 10, 3) := by decide +kernel
theorem dX12_spliceCostByMemory_8 : decode cX12_spliceCostByMemory 8 = .ok (.getfield 229, 3) := by decide +kernel
theorem dX12_spliceCostByMemory_11 : decode cX12_spliceCostByMemory 11 = .ok (.invokevirtual 247, 3) := by decide +kernel
theorem dX12_spliceCostByMemory_14 : decode cX12_spliceCostByMemory 14 = .ok (.ireturn, 1) := by decide +kernel
theorem dX12_roving_0 : decode cX12_roving 0 = .ok (.aload_n 0, 1) := by decide +kernel
theorem dX12_roving_1 : decode cX12_roving 1 = .ok (.getfield 10, 3) := by decide +kernel
theorem dX12_roving_4 : decode cX12_roving 4 = .ok (.getfield 250, 3) := by decide +kernel
theorem dX12_roving_7 : decode cX12_roving 7 = .ok (.ireturn, 1) := by decide +kernel
theorem dX12_machines_0 : decode cX12_machines 0 = .ok (.aload_n 0, 1) := by decide +kernel
theorem dX12_machines_1 : decode cX12_machines 1 = .ok (.getfield 10, 3) := by decide +kernel
theorem dX12_machines_4 : decode cX12_machines 4 = .ok (.getfield 219, 3) := by decide +kernel
theorem dX12_machines_7 : decode cX12_machines 7 = .ok (.ireturn, 1) := by decide +kernel
theorem dX12_clock_0 : decode cX12_clock 0 = .ok (.aload_n 0, 1) := by decide +kernel
theorem dX12_clock_1 : decode cX12_clock 1 = .ok (.getfield 10, 3) := by decide +kernel
theorem dX12_clock_4 : decode cX12_clock 4 = .ok (.getfield 253, 3) := by decide +kernel
theorem dX12_clock_7 : decode cX12_clock 7 = .ok (.ireturn, 1) := by decide +kernel
theorem dX12_coins_0 : decode cX12_coins 0 = .ok (.aload_n 0, 1) := by decide +kernel
theorem dX12_coins_1 : decode cX12_coins 1 = .ok (.getfield 10, 3) := by decide +kernel
theorem dX12_coins_4 : decode cX12_coins 4 = .ok (.getfield 256, 3) := by decide +kernel
theorem dX12_coins_7 : decode cX12_coins 7 = .ok (.ireturn, 1) := by decide +kernel
theorem dX12_coinsByAccounts_0 : decode cX12_coinsByAccounts 0 = .ok (.aload_n 0, 1) := by decide +kernel
theorem dX12_coinsByAccounts_1 : decode cX12_coinsByAccounts 1 = .ok (.getfield 10, 3) := by decide +kernel
theorem dX12_coinsByAccounts_4 : decode cX12_coinsByAccounts 4 = .ok (.invokevirtual 259, 3) := by decide +kernel
theorem dX12_coinsByAccounts_7 : decode cX12_coinsByAccounts 7 = .ok (.ireturn, 1) := by decide +kernel
theorem dX12_spunTotal_0 : decode cX12_spunTotal 0 = .ok (.aload_n 0, 1) := by decide +kernel
theorem dX12_spunTotal_1 : decode cX12_spunTotal 1 = .ok (.getfield 10, 3) := by decide +kernel
theorem dX12_spunTotal_4 : decode cX12_spunTotal 4 = .ok (.getfield 262, 3) := by decide +kernel
theorem dX12_spunTotal_7 : decode cX12_spunTotal 7 = .ok (.ireturn, 1) := by decide +kernel
theorem dX12_wasteTotal_0 : decode cX12_wasteTotal 0 = .ok (.aload_n 0, 1) := by decide +kernel
theorem dX12_wasteTotal_1 : decode cX12_wasteTotal 1 = .ok (.getfield 10, 3) := by decide +kernel
theorem dX12_wasteTotal_4 : decode cX12_wasteTotal 4 = .ok (.getfield 265, 3) := by decide +kernel
theorem dX12_wasteTotal_7 : decode cX12_wasteTotal 7 = .ok (.ireturn, 1) := by decide +kernel
theorem dX12_soldTotal_0 : decode cX12_soldTotal 0 = .ok (.aload_n 0, 1) := by decide +kernel
theorem dX12_soldTotal_1 : decode cX12_soldTotal 1 = .ok (.getfield 10, 3) := by decide +kernel
theorem dX12_soldTotal_4 : decode cX12_soldTotal 4 = .ok (.getfield 268, 3) := by decide +kernel
theorem dX12_soldTotal_7 : decode cX12_soldTotal 7 = .ok (.ireturn, 1) := by decide +kernel
theorem dX12_shelfLength_0 : decode cX12_shelfLength 0 = .ok (.aload_n 0, 1) := by decide +kernel
theorem dX12_shelfLength_1 : decode cX12_shelfLength 1 = .ok (.getfield 10, 3) := by decide +kernel
theorem dX12_shelfLength_4 : decode cX12_shelfLength 4 = .ok (.getfield 229, 3) := by decide +kernel
theorem dX12_shelfLength_7 : decode cX12_shelfLength 7 = .ok (.invokevirtual 271, 3) := by decide +kernel
theorem dX12_shelfLength_10 : decode cX12_shelfLength 10 = .ok (.ireturn, 1) := by decide +kernel
theorem dX12_shelfLengthByAccounts_0 : decode cX12_shelfLengthByAccounts 0 = .ok (.aload_n 0, 1) := by decide +kernel
theorem dX12_shelfLengthByAccounts_1 : decode cX12_shelfLengthByAccounts 1 = .ok (.getfield 10, 3) := by decide +kernel
theorem dX12_shelfLengthByAccounts_4 : decode cX12_shelfLengthByAccounts 4 = .ok (.invokevirtual 274, 3) := by decide +kernel
theorem dX12_shelfLengthByAccounts_7 : decode cX12_shelfLengthByAccounts 7 = .ok (.ireturn, 1) := by decide +kernel
theorem dX12_isConsistent_0 : decode cX12_isConsistent 0 = .ok (.aload_n 0, 1) := by decide +kernel
theorem dX12_isConsistent_1 : decode cX12_isConsistent 1 = .ok (.iconst 1, 1) := by decide +kernel
theorem dX12_isConsistent_2 : decode cX12_isConsistent 2 = .ok (.bipush 10, 2) := by decide +kernel
theorem dX12_isConsistent_4 : decode cX12_isConsistent 4 = .ok (.invokevirtual 283, 3) := by decide +kernel
theorem dX12_isConsistent_7 : decode cX12_isConsistent 7 = .ok (.ifCond .eq 142, 3) := by decide +kernel
theorem dX12_isConsistent_10 : decode cX12_isConsistent 10 = .ok (.aload_n 0, 1) := by decide +kernel
theorem dX12_isConsistent_11 : decode cX12_isConsistent 11 = .ok (.bipush 20, 2) := by decide +kernel
theorem dX12_isConsistent_13 : decode cX12_isConsistent 13 = .ok (.bipush 30, 2) := by decide +kernel
theorem dX12_isConsistent_15 : decode cX12_isConsistent 15 = .ok (.invokevirtual 283, 3) := by decide +kernel
theorem dX12_isConsistent_18 : decode cX12_isConsistent 18 = .ok (.ifCond .eq 131, 3) := by decide +kernel
theorem dX12_isConsistent_21 : decode cX12_isConsistent 21 = .ok (.aload_n 0, 1) := by decide +kernel
theorem dX12_isConsistent_22 : decode cX12_isConsistent 22 = .ok (.bipush 60, 2) := by decide +kernel
theorem dX12_isConsistent_24 : decode cX12_isConsistent 24 = .ok (.bipush 45, 2) := by decide +kernel
theorem dX12_isConsistent_26 : decode cX12_isConsistent 26 = .ok (.invokevirtual 283, 3) := by decide +kernel
theorem dX12_isConsistent_29 : decode cX12_isConsistent 29 = .ok (.ifCond .eq 120, 3) := by decide +kernel
theorem dX12_isConsistent_32 : decode cX12_isConsistent 32 = .ok (.aload_n 0, 1) := by decide +kernel
theorem dX12_isConsistent_33 : decode cX12_isConsistent 33 = .ok (.getfield 39, 3) := by decide +kernel
theorem dX12_isConsistent_36 : decode cX12_isConsistent 36 = .ok (.aload_n 0, 1) := by decide +kernel
theorem dX12_isConsistent_37 : decode cX12_isConsistent 37 = .ok (.getfield 10, 3) := by decide +kernel
theorem dX12_isConsistent_40 : decode cX12_isConsistent 40 = .ok (.getfield 184, 3) := by decide +kernel
theorem dX12_isConsistent_43 : decode cX12_isConsistent 43 = .ok (.aload_n 0, 1) := by decide +kernel
theorem dX12_isConsistent_44 : decode cX12_isConsistent 44 = .ok (.getfield 10, 3) := by decide +kernel
theorem dX12_isConsistent_47 : decode cX12_isConsistent 47 = .ok (.getfield 219, 3) := by decide +kernel
theorem dX12_isConsistent_50 : decode cX12_isConsistent 50 = .ok (.invokevirtual 222, 3) := by decide +kernel
theorem dX12_isConsistent_53 : decode cX12_isConsistent 53 = .ok (.aload_n 0, 1) := by decide +kernel
theorem dX12_isConsistent_54 : decode cX12_isConsistent 54 = .ok (.getfield 39, 3) := by decide +kernel
theorem dX12_isConsistent_57 : decode cX12_isConsistent 57 = .ok (.aload_n 0, 1) := by decide +kernel
theorem dX12_isConsistent_58 : decode cX12_isConsistent 58 = .ok (.getfield 10, 3) := by decide +kernel
theorem dX12_isConsistent_61 : decode cX12_isConsistent 61 = .ok (.getfield 184, 3) := by decide +kernel
theorem dX12_isConsistent_64 : decode cX12_isConsistent 64 = .ok (.aload_n 0, 1) := by decide +kernel
theorem dX12_isConsistent_65 : decode cX12_isConsistent 65 = .ok (.getfield 10, 3) := by decide +kernel
theorem dX12_isConsistent_68 : decode cX12_isConsistent 68 = .ok (.getfield 219, 3) := by decide +kernel
theorem dX12_isConsistent_71 : decode cX12_isConsistent 71 = .ok (.invokevirtual 226, 3) := by decide +kernel
theorem dX12_isConsistent_74 : decode cX12_isConsistent 74 = .ok (.if_icmp .ne 75, 3) := by decide +kernel
theorem dX12_isConsistent_77 : decode cX12_isConsistent 77 = .ok (.aload_n 0, 1) := by decide +kernel
theorem dX12_isConsistent_78 : decode cX12_isConsistent 78 = .ok (.getfield 46, 3) := by decide +kernel
theorem dX12_isConsistent_81 : decode cX12_isConsistent 81 = .ok (.aload_n 0, 1) := by decide +kernel
theorem dX12_isConsistent_82 : decode cX12_isConsistent 82 = .ok (.getfield 10, 3) := by decide +kernel
theorem dX12_isConsistent_85 : decode cX12_isConsistent 85 = .ok (.getfield 229, 3) := by decide +kernel
theorem dX12_isConsistent_88 : decode cX12_isConsistent 88 = .ok (.invokevirtual 243, 3) := by decide +kernel
theorem dX12_isConsistent_91 : decode cX12_isConsistent 91 = .ok (.aload_n 0, 1) := by decide +kernel
theorem dX12_isConsistent_92 : decode cX12_isConsistent 92 = .ok (.getfield 46, 3) := by decide +kernel
theorem dX12_isConsistent_95 : decode cX12_isConsistent 95 = .ok (.aload_n 0, 1) := by decide +kernel
theorem dX12_isConsistent_96 : decode cX12_isConsistent 96 = .ok (.getfield 10, 3) := by decide +kernel
theorem dX12_isConsistent_99 : decode cX12_isConsistent 99 = .ok (.getfield 229, 3) := by decide +kernel
theorem dX12_isConsistent_102 : decode cX12_isConsistent 102 = .ok (.invokevirtual 247, 3) := by decide +kernel
theorem dX12_isConsistent_105 : decode cX12_isConsistent 105 = .ok (.if_icmp .ne 44, 3) := by decide +kernel
theorem dX12_isConsistent_108 : decode cX12_isConsistent 108 = .ok (.aload_n 0, 1) := by decide +kernel
theorem dX12_isConsistent_109 : decode cX12_isConsistent 109 = .ok (.getfield 10, 3) := by decide +kernel
theorem dX12_isConsistent_112 : decode cX12_isConsistent 112 = .ok (.getfield 256, 3) := by decide +kernel
theorem dX12_isConsistent_115 : decode cX12_isConsistent 115 = .ok (.aload_n 0, 1) := by decide +kernel
theorem dX12_isConsistent_116 : decode cX12_isConsistent 116 = .ok (.getfield 10, 3) := by decide +kernel
theorem dX12_isConsistent_119 : decode cX12_isConsistent 119 = .ok (.invokevirtual 259, 3) := by decide +kernel
theorem dX12_isConsistent_122 : decode cX12_isConsistent 122 = .ok (.if_icmp .ne 27, 3) := by decide +kernel
theorem dX12_isConsistent_125 : decode cX12_isConsistent 125 = .ok (.aload_n 0, 1) := by decide +kernel
theorem dX12_isConsistent_126 : decode cX12_isConsistent 126 = .ok (.getfield 10, 3) := by decide +kernel
theorem dX12_isConsistent_129 : decode cX12_isConsistent 129 = .ok (.getfield 229, 3) := by decide +kernel
theorem dX12_isConsistent_132 : decode cX12_isConsistent 132 = .ok (.invokevirtual 271, 3) := by decide +kernel
theorem dX12_isConsistent_135 : decode cX12_isConsistent 135 = .ok (.aload_n 0, 1) := by decide +kernel
theorem dX12_isConsistent_136 : decode cX12_isConsistent 136 = .ok (.getfield 10, 3) := by decide +kernel
theorem dX12_isConsistent_139 : decode cX12_isConsistent 139 = .ok (.invokevirtual 274, 3) := by decide +kernel
theorem dX12_isConsistent_142 : decode cX12_isConsistent 142 = .ok (.if_icmp .ne 7, 3) := by decide +kernel
theorem dX12_isConsistent_145 : decode cX12_isConsistent 145 = .ok (.iconst 1, 1) := by decide +kernel
theorem dX12_isConsistent_146 : decode cX12_isConsistent 146 = .ok (.goto 4, 3) := by decide +kernel
theorem dX12_isConsistent_149 : decode cX12_isConsistent 149 = .ok (.iconst 0, 1) := by decide +kernel
theorem dX12_isConsistent_150 : decode cX12_isConsistent 150 = .ok (.ireturn, 1) := by decide +kernel
theorem dX12_renderShelf_0 : decode cX12_renderShelf 0 = .ok (.aload_n 0, 1) := by decide +kernel
theorem dX12_renderShelf_1 : decode cX12_renderShelf 1 = .ok (.getfield 69, 3) := by decide +kernel
theorem dX12_renderShelf_4 : decode cX12_renderShelf 4 = .ok (.iconst 0, 1) := by decide +kernel
theorem dX12_renderShelf_5 : decode cX12_renderShelf 5 = .ok (.invokevirtual 287, 3) := by decide +kernel
theorem dX12_renderShelf_8 : decode cX12_renderShelf 8 = .ok (.iconst 0, 1) := by decide +kernel
theorem dX12_renderShelf_9 : decode cX12_renderShelf 9 = .ok (.istore_n 1, 1) := by decide +kernel
theorem dX12_renderShelf_10 : decode cX12_renderShelf 10 = .ok (.iload_n 1, 1) := by decide +kernel
theorem dX12_renderShelf_11 : decode cX12_renderShelf 11 = .ok (.aload_n 0, 1) := by decide +kernel
theorem dX12_renderShelf_12 : decode cX12_renderShelf 12 = .ok (.getfield 10, 3) := by decide +kernel
theorem dX12_renderShelf_15 : decode cX12_renderShelf 15 = .ok (.getfield 229, 3) := by decide +kernel
theorem dX12_renderShelf_18 : decode cX12_renderShelf 18 = .ok (.invokevirtual 123, 3) := by decide +kernel
theorem dX12_renderShelf_21 : decode cX12_renderShelf 21 = .ok (.if_icmp .ge 42, 3) := by decide +kernel
theorem dX12_renderShelf_24 : decode cX12_renderShelf 24 = .ok (.iload_n 1, 1) := by decide +kernel
theorem dX12_renderShelf_25 : decode cX12_renderShelf 25 = .ok (.ifCond .le 13, 3) := by decide +kernel
theorem dX12_renderShelf_28 : decode cX12_renderShelf 28 = .ok (.aload_n 0, 1) := by decide +kernel
theorem dX12_renderShelf_29 : decode cX12_renderShelf 29 = .ok (.getfield 69, 3) := by decide +kernel
theorem dX12_renderShelf_32 : decode cX12_renderShelf 32 = .ok (.bipush 45, 2) := by decide +kernel
theorem dX12_renderShelf_34 : decode cX12_renderShelf 34 = .ok (.invokevirtual 290, 3) := by decide +kernel
theorem dX12_renderShelf_37 : decode cX12_renderShelf 37 = .ok (.pop, 1) := by decide +kernel
theorem dX12_renderShelf_38 : decode cX12_renderShelf 38 = .ok (.aload_n 0, 1) := by decide +kernel
theorem dX12_renderShelf_39 : decode cX12_renderShelf 39 = .ok (.getfield 69, 3) := by decide +kernel
theorem dX12_renderShelf_42 : decode cX12_renderShelf 42 = .ok (.aload_n 0, 1) := by decide +kernel
theorem dX12_renderShelf_43 : decode cX12_renderShelf 43 = .ok (.getfield 10, 3) := by decide +kernel
theorem dX12_renderShelf_46 : decode cX12_renderShelf 46 = .ok (.getfield 229, 3) := by decide +kernel
theorem dX12_renderShelf_49 : decode cX12_renderShelf 49 = .ok (.iload_n 1, 1) := by decide +kernel
theorem dX12_renderShelf_50 : decode cX12_renderShelf 50 = .ok (.invokevirtual 138, 3) := by decide +kernel
theorem dX12_renderShelf_53 : decode cX12_renderShelf 53 = .ok (.invokevirtual 294, 3) := by decide +kernel
theorem dX12_renderShelf_56 : decode cX12_renderShelf 56 = .ok (.pop, 1) := by decide +kernel
theorem dX12_renderShelf_57 : decode cX12_renderShelf 57 = .ok (.iinc 1 1, 3) := by decide +kernel
theorem dX12_renderShelf_60 : decode cX12_renderShelf 60 = .ok (.goto (-50), 3) := by decide +kernel
theorem dX12_renderShelf_63 : decode cX12_renderShelf 63 = .ok (.aload_n 0, 1) := by decide +kernel
theorem dX12_renderShelf_64 : decode cX12_renderShelf 64 = .ok (.getfield 69, 3) := by decide +kernel
theorem dX12_renderShelf_67 : decode cX12_renderShelf 67 = .ok (.invokevirtual 297, 3) := by decide +kernel
theorem dX12_renderShelf_70 : decode cX12_renderShelf 70 = .ok (.ireturn, 1) := by decide +kernel
theorem dX12_type_0 : decode cX12_type 0 = .ok (.iload_n 1, 1) := by decide +kernel
theorem dX12_type_1 : decode cX12_type 1 = .ok (.bipush 32, 2) := by decide +kernel
theorem dX12_type_3 : decode cX12_type 3 = .ok (.if_icmp .lt 9, 3) := by decide +kernel
theorem dX12_type_6 : decode cX12_type 6 = .ok (.iload_n 1, 1) := by decide +kernel
theorem dX12_type_7 : decode cX12_type 7 = .ok (.bipush 126, 2) := by decide +kernel
theorem dX12_type_9 : decode cX12_type 9 = .ok (.if_icmp .le 14, 3) := by decide +kernel
theorem dX12_type_12 : decode cX12_type 12 = .ok (.new 314, 3) := by decide +kernel
theorem dX12_type_15 : decode cX12_type 15 = .ok (.dup, 1) := by decide +kernel
theorem dX12_type_16 : decode cX12_type 16 = .ok (.ldc_w 316, 3) := by decide +kernel
theorem dX12_type_19 : decode cX12_type 19 = .ok (.invokespecial 318, 3) := by decide +kernel
theorem dX12_type_22 : decode cX12_type 22 = .ok (.athrow, 1) := by decide +kernel
theorem dX12_type_23 : decode cX12_type 23 = .ok (.aload_n 0, 1) := by decide +kernel
theorem dX12_type_24 : decode cX12_type 24 = .ok (.getfield 62, 3) := by decide +kernel
theorem dX12_type_27 : decode cX12_type 27 = .ok (.invokevirtual 319, 3) := by decide +kernel
theorem dX12_type_30 : decode cX12_type 30 = .ok (.ifCond .eq 14, 3) := by decide +kernel
theorem dX12_type_33 : decode cX12_type 33 = .ok (.new 323, 3) := by decide +kernel
theorem dX12_type_36 : decode cX12_type 36 = .ok (.dup, 1) := by decide +kernel
theorem dX12_type_37 : decode cX12_type 37 = .ok (.ldc_w 325, 3) := by decide +kernel
theorem dX12_type_40 : decode cX12_type 40 = .ok (.invokespecial 327, 3) := by decide +kernel
theorem dX12_type_43 : decode cX12_type 43 = .ok (.athrow, 1) := by decide +kernel
theorem dX12_type_44 : decode cX12_type 44 = .ok (.aload_n 0, 1) := by decide +kernel
theorem dX12_type_45 : decode cX12_type 45 = .ok (.getfield 62, 3) := by decide +kernel
theorem dX12_type_48 : decode cX12_type 48 = .ok (.iload_n 1, 1) := by decide +kernel
theorem dX12_type_49 : decode cX12_type 49 = .ok (.invokevirtual 328, 3) := by decide +kernel
theorem dX12_type_52 : decode cX12_type 52 = .ok (.ireturn, 1) := by decide +kernel
theorem dX12_runScript_0 : decode cX12_runScript 0 = .ok (.aload_n 0, 1) := by decide +kernel
theorem dX12_runScript_1 : decode cX12_runScript 1 = .ok (.getfield 62, 3) := by decide +kernel
theorem dX12_runScript_4 : decode cX12_runScript 4 = .ok (.invokevirtual 331, 3) := by decide +kernel
theorem dX12_runScript_7 : decode cX12_runScript 7 = .ok (.istore_n 1, 1) := by decide +kernel
theorem dX12_runScript_8 : decode cX12_runScript 8 = .ok (.aload_n 0, 1) := by decide +kernel
theorem dX12_runScript_9 : decode cX12_runScript 9 = .ok (.getfield 62, 3) := by decide +kernel
theorem dX12_runScript_12 : decode cX12_runScript 12 = .ok (.invokevirtual 334, 3) := by decide +kernel
theorem dX12_runScript_15 : decode cX12_runScript 15 = .ok (.iload_n 1, 1) := by decide +kernel
theorem dX12_runScript_16 : decode cX12_runScript 16 = .ok (.iconst (-1), 1) := by decide +kernel
theorem dX12_runScript_17 : decode cX12_runScript 17 = .ok (.if_icmp .eq 19, 3) := by decide +kernel
theorem dX12_runScript_20 : decode cX12_runScript 20 = .ok (.aload_n 0, 1) := by decide +kernel
theorem dX12_runScript_21 : decode cX12_runScript 21 = .ok (.iload_n 1, 1) := by decide +kernel
theorem dX12_runScript_22 : decode cX12_runScript 22 = .ok (.putfield 73, 3) := by decide +kernel
theorem dX12_runScript_25 : decode cX12_runScript 25 = .ok (.new 314, 3) := by decide +kernel
theorem dX12_runScript_28 : decode cX12_runScript 28 = .ok (.dup, 1) := by decide +kernel
theorem dX12_runScript_29 : decode cX12_runScript 29 = .ok (.ldc_w 337, 3) := by decide +kernel
theorem dX12_runScript_32 : decode cX12_runScript 32 = .ok (.invokespecial 318, 3) := by decide +kernel
theorem dX12_runScript_35 : decode cX12_runScript 35 = .ok (.athrow, 1) := by decide +kernel
theorem dX12_runScript_36 : decode cX12_runScript 36 = .ok (.aload_n 0, 1) := by decide +kernel
theorem dX12_runScript_37 : decode cX12_runScript 37 = .ok (.getfield 16, 3) := by decide +kernel
theorem dX12_runScript_40 : decode cX12_runScript 40 = .ok (.aload_n 0, 1) := by decide +kernel
theorem dX12_runScript_41 : decode cX12_runScript 41 = .ok (.getfield 10, 3) := by decide +kernel
theorem dX12_runScript_44 : decode cX12_runScript 44 = .ok (.invokevirtual 339, 3) := by decide +kernel
theorem dX12_runScript_47 : decode cX12_runScript 47 = .ok (.aload_n 0, 1) := by decide +kernel
theorem dX12_runScript_48 : decode cX12_runScript 48 = .ok (.invokevirtual 343, 3) := by decide +kernel
theorem dX12_runScript_51 : decode cX12_runScript 51 = .ok (.istore_n 2, 1) := by decide +kernel
theorem dX12_runScript_52 : decode cX12_runScript 52 = .ok (.iload_n 2, 1) := by decide +kernel
theorem dX12_runScript_53 : decode cX12_runScript 53 = .ok (.iconst (-1), 1) := by decide +kernel
theorem dX12_runScript_54 : decode cX12_runScript 54 = .ok (.if_icmp .eq 30, 3) := by decide +kernel
theorem dX12_runScript_57 : decode cX12_runScript 57 = .ok (.aload_n 0, 1) := by decide +kernel
theorem dX12_runScript_58 : decode cX12_runScript 58 = .ok (.getfield 10, 3) := by decide +kernel
theorem dX12_runScript_61 : decode cX12_runScript 61 = .ok (.aload_n 0, 1) := by decide +kernel
theorem dX12_runScript_62 : decode cX12_runScript 62 = .ok (.getfield 16, 3) := by decide +kernel
theorem dX12_runScript_65 : decode cX12_runScript 65 = .ok (.invokevirtual 339, 3) := by decide +kernel
theorem dX12_runScript_68 : decode cX12_runScript 68 = .ok (.aload_n 0, 1) := by decide +kernel
theorem dX12_runScript_69 : decode cX12_runScript 69 = .ok (.iload_n 2, 1) := by decide +kernel
theorem dX12_runScript_70 : decode cX12_runScript 70 = .ok (.putfield 77, 3) := by decide +kernel
theorem dX12_runScript_73 : decode cX12_runScript 73 = .ok (.new 323, 3) := by decide +kernel
theorem dX12_runScript_76 : decode cX12_runScript 76 = .ok (.dup, 1) := by decide +kernel
theorem dX12_runScript_77 : decode cX12_runScript 77 = .ok (.ldc_w 346, 3) := by decide +kernel
theorem dX12_runScript_80 : decode cX12_runScript 80 = .ok (.invokespecial 327, 3) := by decide +kernel
theorem dX12_runScript_83 : decode cX12_runScript 83 = .ok (.athrow, 1) := by decide +kernel
theorem dX12_runScript_84 : decode cX12_runScript 84 = .ok (.aload_n 0, 1) := by decide +kernel
theorem dX12_runScript_85 : decode cX12_runScript 85 = .ok (.getfield 25, 3) := by decide +kernel
theorem dX12_runScript_88 : decode cX12_runScript 88 = .ok (.aload_n 0, 1) := by decide +kernel
theorem dX12_runScript_89 : decode cX12_runScript 89 = .ok (.getfield 16, 3) := by decide +kernel
theorem dX12_runScript_92 : decode cX12_runScript 92 = .ok (.invokevirtual 348, 3) := by decide +kernel
theorem dX12_runScript_95 : decode cX12_runScript 95 = .ok (.aload_n 0, 1) := by decide +kernel
theorem dX12_runScript_96 : decode cX12_runScript 96 = .ok (.getfield 62, 3) := by decide +kernel
theorem dX12_runScript_99 : decode cX12_runScript 99 = .ok (.invokevirtual 351, 3) := by decide +kernel
theorem dX12_runScript_102 : decode cX12_runScript 102 = .ok (.ireturn, 1) := by decide +kernel
theorem dX12_undo_0 : decode cX12_undo 0 = .ok (.aload_n 0, 1) := by decide +kernel
theorem dX12_undo_1 : decode cX12_undo 1 = .ok (.getfield 25, 3) := by decide +kernel
theorem dX12_undo_4 : decode cX12_undo 4 = .ok (.invokevirtual 358, 3) := by decide +kernel
theorem dX12_undo_7 : decode cX12_undo 7 = .ok (.ifCond .ne 14, 3) := by decide +kernel
theorem dX12_undo_10 : decode cX12_undo 10 = .ok (.new 131, 3) := by decide +kernel
theorem dX12_undo_13 : decode cX12_undo 13 = .ok (.dup, 1) := by decide +kernel
theorem dX12_undo_14 : decode cX12_undo 14 = .ok (.ldc_w 359, 3) := by decide +kernel
theorem dX12_undo_17 : decode cX12_undo 17 = .ok (.invokespecial 135, 3) := by decide +kernel
theorem dX12_undo_20 : decode cX12_undo 20 = .ok (.athrow, 1) := by decide +kernel
theorem dX12_undo_21 : decode cX12_undo 21 = .ok (.aload_n 0, 1) := by decide +kernel
theorem dX12_undo_22 : decode cX12_undo 22 = .ok (.getfield 25, 3) := by decide +kernel
theorem dX12_undo_25 : decode cX12_undo 25 = .ok (.aload_n 0, 1) := by decide +kernel
theorem dX12_undo_26 : decode cX12_undo 26 = .ok (.getfield 10, 3) := by decide +kernel
theorem dX12_undo_29 : decode cX12_undo 29 = .ok (.invokevirtual 361, 3) := by decide +kernel
theorem dX12_undo_32 : decode cX12_undo 32 = .ok (.aload_n 0, 1) := by decide +kernel
theorem dX12_undo_33 : decode cX12_undo 33 = .ok (.getfield 25, 3) := by decide +kernel
theorem dX12_undo_36 : decode cX12_undo 36 = .ok (.invokevirtual 358, 3) := by decide +kernel
theorem dX12_undo_39 : decode cX12_undo 39 = .ok (.ireturn, 1) := by decide +kernel
theorem dX12_save_0 : decode cX12_save 0 = .ok (.aload_n 0, 1) := by decide +kernel
theorem dX12_save_1 : decode cX12_save 1 = .ok (.getfield 19, 3) := by decide +kernel
theorem dX12_save_4 : decode cX12_save 4 = .ok (.aload_n 0, 1) := by decide +kernel
theorem dX12_save_5 : decode cX12_save 5 = .ok (.getfield 10, 3) := by decide +kernel
theorem dX12_save_8 : decode cX12_save 8 = .ok (.invokevirtual 339, 3) := by decide +kernel
theorem dX12_save_11 : decode cX12_save 11 = .ok (.aload_n 0, 1) := by decide +kernel
theorem dX12_save_12 : decode cX12_save 12 = .ok (.iconst 1, 1) := by decide +kernel
theorem dX12_save_13 : decode cX12_save 13 = .ok (.putfield 364, 3) := by decide +kernel
theorem dX12_save_16 : decode cX12_save 16 = .ok (.aload_n 0, 1) := by decide +kernel
theorem dX12_save_17 : decode cX12_save 17 = .ok (.getfield 10, 3) := by decide +kernel
theorem dX12_save_20 : decode cX12_save 20 = .ok (.getfield 229, 3) := by decide +kernel
theorem dX12_save_23 : decode cX12_save 23 = .ok (.invokevirtual 123, 3) := by decide +kernel
theorem dX12_save_26 : decode cX12_save 26 = .ok (.ireturn, 1) := by decide +kernel
theorem dX12_restore_0 : decode cX12_restore 0 = .ok (.aload_n 0, 1) := by decide +kernel
theorem dX12_restore_1 : decode cX12_restore 1 = .ok (.getfield 364, 3) := by decide +kernel
theorem dX12_restore_4 : decode cX12_restore 4 = .ok (.ifCond .ne 14, 3) := by decide +kernel
theorem dX12_restore_7 : decode cX12_restore 7 = .ok (.new 323, 3) := by decide +kernel
theorem dX12_restore_10 : decode cX12_restore 10 = .ok (.dup, 1) := by decide +kernel
theorem dX12_restore_11 : decode cX12_restore 11 = .ok (.ldc_w 368, 3) := by decide +kernel
theorem dX12_restore_14 : decode cX12_restore 14 = .ok (.invokespecial 327, 3) := by decide +kernel
theorem dX12_restore_17 : decode cX12_restore 17 = .ok (.athrow, 1) := by decide +kernel
theorem dX12_restore_18 : decode cX12_restore 18 = .ok (.aload_n 0, 1) := by decide +kernel
theorem dX12_restore_19 : decode cX12_restore 19 = .ok (.getfield 10, 3) := by decide +kernel
theorem dX12_restore_22 : decode cX12_restore 22 = .ok (.aload_n 0, 1) := by decide +kernel
theorem dX12_restore_23 : decode cX12_restore 23 = .ok (.getfield 19, 3) := by decide +kernel
theorem dX12_restore_26 : decode cX12_restore 26 = .ok (.invokevirtual 339, 3) := by decide +kernel
theorem dX12_restore_29 : decode cX12_restore 29 = .ok (.aload_n 0, 1) := by decide +kernel
theorem dX12_restore_30 : decode cX12_restore 30 = .ok (.getfield 25, 3) := by decide +kernel
theorem dX12_restore_33 : decode cX12_restore 33 = .ok (.invokevirtual 370, 3) := by decide +kernel
theorem dX12_restore_36 : decode cX12_restore 36 = .ok (.aload_n 0, 1) := by decide +kernel
theorem dX12_restore_37 : decode cX12_restore 37 = .ok (.getfield 10, 3) := by decide +kernel
theorem dX12_restore_40 : decode cX12_restore 40 = .ok (.getfield 229, 3) := by decide +kernel
theorem dX12_restore_43 : decode cX12_restore 43 = .ok (.invokevirtual 123, 3) := by decide +kernel
theorem dX12_restore_46 : decode cX12_restore 46 = .ok (.ireturn, 1) := by decide +kernel
theorem dX12_change_0 : decode cX12_change 0 = .ok (.aload_n 0, 1) := by decide +kernel
theorem dX12_change_1 : decode cX12_change 1 = .ok (.aload_n 1, 1) := by decide +kernel
theorem dX12_change_2 : decode cX12_change 2 = .ok (.iload_n 2, 1) := by decide +kernel
theorem dX12_change_3 : decode cX12_change 3 = .ok (.iload_n 3, 1) := by decide +kernel
theorem dX12_change_4 : decode cX12_change 4 = .ok (.iload 4, 2) := by decide +kernel
theorem dX12_change_6 : decode cX12_change 6 = .ok (.invokevirtual 373, 3) := by decide +kernel
theorem dX12_change_9 : decode cX12_change 9 = .ok (.invokestatic 377, 3) := by decide +kernel
theorem dX12_change_12 : decode cX12_change 12 = .ok (.aload_n 0, 1) := by decide +kernel
theorem dX12_change_13 : decode cX12_change 13 = .ok (.getfield 25, 3) := by decide +kernel
theorem dX12_change_16 : decode cX12_change 16 = .ok (.aload_n 0, 1) := by decide +kernel
theorem dX12_change_17 : decode cX12_change 17 = .ok (.getfield 10, 3) := by decide +kernel
theorem dX12_change_20 : decode cX12_change 20 = .ok (.invokevirtual 348, 3) := by decide +kernel
theorem dX12_change_23 : decode cX12_change 23 = .ok (.aload_n 0, 1) := by decide +kernel
theorem dX12_change_24 : decode cX12_change 24 = .ok (.aload_n 1, 1) := by decide +kernel
theorem dX12_change_25 : decode cX12_change 25 = .ok (.iload_n 2, 1) := by decide +kernel
theorem dX12_change_26 : decode cX12_change 26 = .ok (.iload_n 3, 1) := by decide +kernel
theorem dX12_change_27 : decode cX12_change 27 = .ok (.iload 4, 2) := by decide +kernel
theorem dX12_change_29 : decode cX12_change 29 = .ok (.invokevirtual 381, 3) := by decide +kernel
theorem dX12_change_32 : decode cX12_change 32 = .ok (.ireturn, 1) := by decide +kernel
theorem dX12_throwFor_0 : decode cX12_throwFor 0 = .ok (.aload_n 0, 1) := by decide +kernel
theorem dX12_throwFor_1 : decode cX12_throwFor 1 = .ok (.getstatic 384, 3) := by decide +kernel
theorem dX12_throwFor_4 : decode cX12_throwFor 4 = .ok (.if_acmp .ne 14, 3) := by decide +kernel
theorem dX12_throwFor_7 : decode cX12_throwFor 7 = .ok (.new 314, 3) := by decide +kernel
theorem dX12_throwFor_10 : decode cX12_throwFor 10 = .ok (.dup, 1) := by decide +kernel
theorem dX12_throwFor_11 : decode cX12_throwFor 11 = .ok (.ldc_w 387, 3) := by decide +kernel
theorem dX12_throwFor_14 : decode cX12_throwFor 14 = .ok (.invokespecial 318, 3) := by decide +kernel
theorem dX12_throwFor_17 : decode cX12_throwFor 17 = .ok (.athrow, 1) := by decide +kernel
theorem dX12_throwFor_18 : decode cX12_throwFor 18 = .ok (.aload_n 0, 1) := by decide +kernel
theorem dX12_throwFor_19 : decode cX12_throwFor 19 = .ok (.getstatic 389, 3) := by decide +kernel
theorem dX12_throwFor_22 : decode cX12_throwFor 22 = .ok (.if_acmp .ne 14, 3) := by decide +kernel
theorem dX12_throwFor_25 : decode cX12_throwFor 25 = .ok (.new 323, 3) := by decide +kernel
theorem dX12_throwFor_28 : decode cX12_throwFor 28 = .ok (.dup, 1) := by decide +kernel
theorem dX12_throwFor_29 : decode cX12_throwFor 29 = .ok (.ldc_w 392, 3) := by decide +kernel
theorem dX12_throwFor_32 : decode cX12_throwFor 32 = .ok (.invokespecial 327, 3) := by decide +kernel
theorem dX12_throwFor_35 : decode cX12_throwFor 35 = .ok (.athrow, 1) := by decide +kernel
theorem dX12_throwFor_36 : decode cX12_throwFor 36 = .ok (.aload_n 0, 1) := by decide +kernel
theorem dX12_throwFor_37 : decode cX12_throwFor 37 = .ok (.getstatic 394, 3) := by decide +kernel
theorem dX12_throwFor_40 : decode cX12_throwFor 40 = .ok (.if_acmp .ne 14, 3) := by decide +kernel
theorem dX12_throwFor_43 : decode cX12_throwFor 43 = .ok (.new 179, 3) := by decide +kernel
theorem dX12_throwFor_46 : decode cX12_throwFor 46 = .ok (.dup, 1) := by decide +kernel
theorem dX12_throwFor_47 : decode cX12_throwFor 47 = .ok (.ldc_w 397, 3) := by decide +kernel
theorem dX12_throwFor_50 : decode cX12_throwFor 50 = .ok (.invokespecial 183, 3) := by decide +kernel
theorem dX12_throwFor_53 : decode cX12_throwFor 53 = .ok (.athrow, 1) := by decide +kernel
theorem dX12_throwFor_54 : decode cX12_throwFor 54 = .ok (.aload_n 0, 1) := by decide +kernel
theorem dX12_throwFor_55 : decode cX12_throwFor 55 = .ok (.getstatic 399, 3) := by decide +kernel
theorem dX12_throwFor_58 : decode cX12_throwFor 58 = .ok (.if_acmp .ne 14, 3) := by decide +kernel
theorem dX12_throwFor_61 : decode cX12_throwFor 61 = .ok (.new 131, 3) := by decide +kernel
theorem dX12_throwFor_64 : decode cX12_throwFor 64 = .ok (.dup, 1) := by decide +kernel
theorem dX12_throwFor_65 : decode cX12_throwFor 65 = .ok (.ldc_w 402, 3) := by decide +kernel
theorem dX12_throwFor_68 : decode cX12_throwFor 68 = .ok (.invokespecial 135, 3) := by decide +kernel
theorem dX12_throwFor_71 : decode cX12_throwFor 71 = .ok (.athrow, 1) := by decide +kernel
theorem dX12_throwFor_72 : decode cX12_throwFor 72 = .ok (.aload_n 0, 1) := by decide +kernel
theorem dX12_throwFor_73 : decode cX12_throwFor 73 = .ok (.getstatic 404, 3) := by decide +kernel
theorem dX12_throwFor_76 : decode cX12_throwFor 76 = .ok (.if_acmp .ne 14, 3) := by decide +kernel
theorem dX12_throwFor_79 : decode cX12_throwFor 79 = .ok (.new 305, 3) := by decide +kernel
theorem dX12_throwFor_82 : decode cX12_throwFor 82 = .ok (.dup, 1) := by decide +kernel
theorem dX12_throwFor_83 : decode cX12_throwFor 83 = .ok (.ldc_w 407, 3) := by decide +kernel
theorem dX12_throwFor_86 : decode cX12_throwFor 86 = .ok (.invokespecial 309, 3) := by decide +kernel
theorem dX12_throwFor_89 : decode cX12_throwFor 89 = .ok (.athrow, 1) := by decide +kernel
theorem dX12_throwFor_90 : decode cX12_throwFor 90 = .ok (.return_, 1) := by decide +kernel
theorem dX12_refusalOf_0 : decode cX12_refusalOf 0 = .ok (.getstatic 409, 3) := by decide +kernel
theorem dX12_refusalOf_3 : decode cX12_refusalOf 3 = .ok (.aload_n 1, 1) := by decide +kernel
theorem dX12_refusalOf_4 : decode cX12_refusalOf 4 = .ok (.invokevirtual 415, 3) := by decide +kernel
theorem dX12_refusalOf_7 : decode cX12_refusalOf 7 = .ok (.iaload, 1) := by decide +kernel
theorem dX12_refusalOf_8 : decode cX12_refusalOf 8 = .ok (.tableswitch 213 1 9 #[52, 64, 71, 84, 124, 143, 165, 189, 213], 52) := by decide +kernel
theorem dX12_refusalOf_60 : decode cX12_refusalOf 60 = .ok (.aload_n 0, 1) := by decide +kernel
theorem dX12_refusalOf_61 : decode cX12_refusalOf 61 = .ok (.getfield 10, 3) := by decide +kernel
theorem dX12_refusalOf_64 : decode cX12_refusalOf 64 = .ok (.iload_n 2, 1) := by decide +kernel
theorem dX12_refusalOf_65 : decode cX12_refusalOf 65 = .ok (.iload_n 3, 1) := by decide +kernel
theorem dX12_refusalOf_66 : decode cX12_refusalOf 66 = .ok (.iload 4, 2) := by decide +kernel
theorem dX12_refusalOf_68 : decode cX12_refusalOf 68 = .ok (.invokevirtual 418, 3) := by decide +kernel
theorem dX12_refusalOf_71 : decode cX12_refusalOf 71 = .ok (.areturn, 1) := by decide +kernel
theorem dX12_refusalOf_72 : decode cX12_refusalOf 72 = .ok (.aload_n 0, 1) := by decide +kernel
theorem dX12_refusalOf_73 : decode cX12_refusalOf 73 = .ok (.iload_n 2, 1) := by decide +kernel
theorem dX12_refusalOf_74 : decode cX12_refusalOf 74 = .ok (.iload_n 3, 1) := by decide +kernel
theorem dX12_refusalOf_75 : decode cX12_refusalOf 75 = .ok (.invokevirtual 422, 3) := by decide +kernel
theorem dX12_refusalOf_78 : decode cX12_refusalOf 78 = .ok (.areturn, 1) := by decide +kernel
theorem dX12_refusalOf_79 : decode cX12_refusalOf 79 = .ok (.aload_n 0, 1) := by decide +kernel
theorem dX12_refusalOf_80 : decode cX12_refusalOf 80 = .ok (.getfield 10, 3) := by decide +kernel
theorem dX12_refusalOf_83 : decode cX12_refusalOf 83 = .ok (.getfield 184, 3) := by decide +kernel
theorem dX12_refusalOf_86 : decode cX12_refusalOf 86 = .ok (.iload_n 2, 1) := by decide +kernel
theorem dX12_refusalOf_87 : decode cX12_refusalOf 87 = .ok (.iload_n 3, 1) := by decide +kernel
theorem dX12_refusalOf_88 : decode cX12_refusalOf 88 = .ok (.invokevirtual 426, 3) := by decide +kernel
theorem dX12_refusalOf_91 : decode cX12_refusalOf 91 = .ok (.areturn, 1) := by decide +kernel
theorem dX12_refusalOf_92 : decode cX12_refusalOf 92 = .ok (.aload_n 0, 1) := by decide +kernel
theorem dX12_refusalOf_93 : decode cX12_refusalOf 93 = .ok (.getfield 10, 3) := by decide +kernel
theorem dX12_refusalOf_96 : decode cX12_refusalOf 96 = .ok (.getfield 184, 3) := by decide +kernel
theorem dX12_refusalOf_99 : decode cX12_refusalOf 99 = .ok (.getfield 188, 3) := by decide +kernel
theorem dX12_refusalOf_102 : decode cX12_refusalOf 102 = .ok (.aload_n 0, 1) := by decide +kernel
theorem dX12_refusalOf_103 : decode cX12_refusalOf 103 = .ok (.getfield 10, 3) := by decide +kernel
theorem dX12_refusalOf_106 : decode cX12_refusalOf 106 = .ok (.getfield 184, 3) := by decide +kernel
theorem dX12_refusalOf_109 : decode cX12_refusalOf 109 = .ok (.getfield 188, 3) := by decide +kernel
theorem dX12_refusalOf_112 : decode cX12_refusalOf 112 = .ok (.iload_n 2, 1) := by decide +kernel
theorem dX12_refusalOf_113 : decode cX12_refusalOf 113 = .ok (.invokevirtual 429, 3) := by decide +kernel
theorem dX12_refusalOf_116 : decode cX12_refusalOf 116 = .ok (.invokevirtual 127, 3) := by decide +kernel
theorem dX12_refusalOf_119 : decode cX12_refusalOf 119 = .ok (.ifCond .eq 9, 3) := by decide +kernel
theorem dX12_refusalOf_122 : decode cX12_refusalOf 122 = .ok (.getstatic 209, 3) := by decide +kernel
theorem dX12_refusalOf_125 : decode cX12_refusalOf 125 = .ok (.goto 6, 3) := by decide +kernel
theorem dX12_refusalOf_128 : decode cX12_refusalOf 128 = .ok (.getstatic 399, 3) := by decide +kernel
theorem dX12_refusalOf_131 : decode cX12_refusalOf 131 = .ok (.areturn, 1) := by decide +kernel
theorem dX12_refusalOf_132 : decode cX12_refusalOf 132 = .ok (.iload_n 2, 1) := by decide +kernel
theorem dX12_refusalOf_133 : decode cX12_refusalOf 133 = .ok (.iconst 1, 1) := by decide +kernel
theorem dX12_refusalOf_134 : decode cX12_refusalOf 134 = .ok (.iconst 3, 1) := by decide +kernel
theorem dX12_refusalOf_135 : decode cX12_refusalOf 135 = .ok (.invokestatic 432, 3) := by decide +kernel
theorem dX12_refusalOf_138 : decode cX12_refusalOf 138 = .ok (.ifCond .eq 9, 3) := by decide +kernel
theorem dX12_refusalOf_141 : decode cX12_refusalOf 141 = .ok (.getstatic 209, 3) := by decide +kernel
theorem dX12_refusalOf_144 : decode cX12_refusalOf 144 = .ok (.goto 6, 3) := by decide +kernel
theorem dX12_refusalOf_147 : decode cX12_refusalOf 147 = .ok (.getstatic 384, 3) := by decide +kernel
theorem dX12_refusalOf_150 : decode cX12_refusalOf 150 = .ok (.areturn, 1) := by decide +kernel
theorem dX12_refusalOf_151 : decode cX12_refusalOf 151 = .ok (.aload_n 0, 1) := by decide +kernel
theorem dX12_refusalOf_152 : decode cX12_refusalOf 152 = .ok (.getfield 10, 3) := by decide +kernel
theorem dX12_refusalOf_155 : decode cX12_refusalOf 155 = .ok (.aload_n 0, 1) := by decide +kernel
theorem dX12_refusalOf_156 : decode cX12_refusalOf 156 = .ok (.getfield 10, 3) := by decide +kernel
theorem dX12_refusalOf_159 : decode cX12_refusalOf 159 = .ok (.getfield 184, 3) := by decide +kernel
theorem dX12_refusalOf_162 : decode cX12_refusalOf 162 = .ok (.getfield 188, 3) := by decide +kernel
theorem dX12_refusalOf_165 : decode cX12_refusalOf 165 = .ok (.iload_n 2, 1) := by decide +kernel
theorem dX12_refusalOf_166 : decode cX12_refusalOf 166 = .ok (.invokevirtual 429, 3) := by decide +kernel
theorem dX12_refusalOf_169 : decode cX12_refusalOf 169 = .ok (.invokevirtual 205, 3) := by decide +kernel
theorem dX12_refusalOf_172 : decode cX12_refusalOf 172 = .ok (.areturn, 1) := by decide +kernel
theorem dX12_refusalOf_173 : decode cX12_refusalOf 173 = .ok (.aload_n 0, 1) := by decide +kernel
theorem dX12_refusalOf_174 : decode cX12_refusalOf 174 = .ok (.getfield 10, 3) := by decide +kernel
theorem dX12_refusalOf_177 : decode cX12_refusalOf 177 = .ok (.getfield 229, 3) := by decide +kernel
theorem dX12_refusalOf_180 : decode cX12_refusalOf 180 = .ok (.iload_n 2, 1) := by decide +kernel
theorem dX12_refusalOf_181 : decode cX12_refusalOf 181 = .ok (.invokevirtual 436, 3) := by decide +kernel
theorem dX12_refusalOf_184 : decode cX12_refusalOf 184 = .ok (.ifCond .eq 9, 3) := by decide +kernel
theorem dX12_refusalOf_187 : decode cX12_refusalOf 187 = .ok (.getstatic 209, 3) := by decide +kernel
theorem dX12_refusalOf_190 : decode cX12_refusalOf 190 = .ok (.goto 6, 3) := by decide +kernel
theorem dX12_refusalOf_193 : decode cX12_refusalOf 193 = .ok (.getstatic 404, 3) := by decide +kernel
theorem dX12_refusalOf_196 : decode cX12_refusalOf 196 = .ok (.areturn, 1) := by decide +kernel
theorem dX12_refusalOf_197 : decode cX12_refusalOf 197 = .ok (.aload_n 0, 1) := by decide +kernel
theorem dX12_refusalOf_198 : decode cX12_refusalOf 198 = .ok (.getfield 10, 3) := by decide +kernel
theorem dX12_refusalOf_201 : decode cX12_refusalOf 201 = .ok (.getfield 229, 3) := by decide +kernel
theorem dX12_refusalOf_204 : decode cX12_refusalOf 204 = .ok (.invokevirtual 123, 3) := by decide +kernel
theorem dX12_refusalOf_207 : decode cX12_refusalOf 207 = .ok (.iconst 2, 1) := by decide +kernel
theorem dX12_refusalOf_208 : decode cX12_refusalOf 208 = .ok (.if_icmp .ge 9, 3) := by decide +kernel
theorem dX12_refusalOf_211 : decode cX12_refusalOf 211 = .ok (.getstatic 389, 3) := by decide +kernel
theorem dX12_refusalOf_214 : decode cX12_refusalOf 214 = .ok (.goto 6, 3) := by decide +kernel
theorem dX12_refusalOf_217 : decode cX12_refusalOf 217 = .ok (.getstatic 209, 3) := by decide +kernel
theorem dX12_refusalOf_220 : decode cX12_refusalOf 220 = .ok (.areturn, 1) := by decide +kernel
theorem dX12_refusalOf_221 : decode cX12_refusalOf 221 = .ok (.aload_n 0, 1) := by decide +kernel
theorem dX12_refusalOf_222 : decode cX12_refusalOf 222 = .ok (.getfield 10, 3) := by decide +kernel
theorem dX12_refusalOf_225 : decode cX12_refusalOf 225 = .ok (.getfield 229, 3) := by decide +kernel
theorem dX12_refusalOf_228 : decode cX12_refusalOf 228 = .ok (.iload_n 2, 1) := by decide +kernel
theorem dX12_refusalOf_229 : decode cX12_refusalOf 229 = .ok (.invokevirtual 127, 3) := by decide +kernel
theorem dX12_refusalOf_232 : decode cX12_refusalOf 232 = .ok (.ifCond .eq 9, 3) := by decide +kernel
theorem dX12_refusalOf_235 : decode cX12_refusalOf 235 = .ok (.getstatic 209, 3) := by decide +kernel
theorem dX12_refusalOf_238 : decode cX12_refusalOf 238 = .ok (.goto 6, 3) := by decide +kernel
theorem dX12_refusalOf_241 : decode cX12_refusalOf 241 = .ok (.getstatic 404, 3) := by decide +kernel
theorem dX12_refusalOf_244 : decode cX12_refusalOf 244 = .ok (.areturn, 1) := by decide +kernel
theorem dX12_carryOut_0 : decode cX12_carryOut 0 = .ok (.getstatic 409, 3) := by decide +kernel
theorem dX12_carryOut_3 : decode cX12_carryOut 3 = .ok (.aload_n 1, 1) := by decide +kernel
theorem dX12_carryOut_4 : decode cX12_carryOut 4 = .ok (.invokevirtual 415, 3) := by decide +kernel
theorem dX12_carryOut_7 : decode cX12_carryOut 7 = .ok (.iaload, 1) := by decide +kernel
theorem dX12_carryOut_8 : decode cX12_carryOut 8 = .ok (.tableswitch 188 1 9 #[52, 64, 88, 101, 126, 135, 157, 166, 188], 52) := by decide +kernel
theorem dX12_carryOut_60 : decode cX12_carryOut 60 = .ok (.aload_n 0, 1) := by decide +kernel
theorem dX12_carryOut_61 : decode cX12_carryOut 61 = .ok (.getfield 10, 3) := by decide +kernel
theorem dX12_carryOut_64 : decode cX12_carryOut 64 = .ok (.iload_n 2, 1) := by decide +kernel
theorem dX12_carryOut_65 : decode cX12_carryOut 65 = .ok (.iload_n 3, 1) := by decide +kernel
theorem dX12_carryOut_66 : decode cX12_carryOut 66 = .ok (.iload 4, 2) := by decide +kernel
theorem dX12_carryOut_68 : decode cX12_carryOut 68 = .ok (.invokevirtual 439, 3) := by decide +kernel
theorem dX12_carryOut_71 : decode cX12_carryOut 71 = .ok (.ireturn, 1) := by decide +kernel
theorem dX12_carryOut_72 : decode cX12_carryOut 72 = .ok (.aload_n 0, 1) := by decide +kernel
theorem dX12_carryOut_73 : decode cX12_carryOut 73 = .ok (.getfield 10, 3) := by decide +kernel
theorem dX12_carryOut_76 : decode cX12_carryOut 76 = .ok (.aload_n 0, 1) := by decide +kernel
theorem dX12_carryOut_77 : decode cX12_carryOut 77 = .ok (.getfield 32, 3) := by decide +kernel
theorem dX12_carryOut_80 : decode cX12_carryOut 80 = .ok (.aload_n 0, 1) := by decide +kernel
theorem dX12_carryOut_81 : decode cX12_carryOut 81 = .ok (.getfield 10, 3) := by decide +kernel
theorem dX12_carryOut_84 : decode cX12_carryOut 84 = .ok (.getfield 114, 3) := by decide +kernel
theorem dX12_carryOut_87 : decode cX12_carryOut 87 = .ok (.iload_n 2, 1) := by decide +kernel
theorem dX12_carryOut_88 : decode cX12_carryOut 88 = .ok (.iload_n 3, 1) := by decide +kernel
theorem dX12_carryOut_89 : decode cX12_carryOut 89 = .ok (.invokevirtual 176, 3) := by decide +kernel
theorem dX12_carryOut_92 : decode cX12_carryOut 92 = .ok (.invokevirtual 443, 3) := by decide +kernel
theorem dX12_carryOut_95 : decode cX12_carryOut 95 = .ok (.ireturn, 1) := by decide +kernel
theorem dX12_carryOut_96 : decode cX12_carryOut 96 = .ok (.aload_n 0, 1) := by decide +kernel
theorem dX12_carryOut_97 : decode cX12_carryOut 97 = .ok (.getfield 10, 3) := by decide +kernel
theorem dX12_carryOut_100 : decode cX12_carryOut 100 = .ok (.getfield 184, 3) := by decide +kernel
theorem dX12_carryOut_103 : decode cX12_carryOut 103 = .ok (.iload_n 2, 1) := by decide +kernel
theorem dX12_carryOut_104 : decode cX12_carryOut 104 = .ok (.iload_n 3, 1) := by decide +kernel
theorem dX12_carryOut_105 : decode cX12_carryOut 105 = .ok (.invokevirtual 446, 3) := by decide +kernel
theorem dX12_carryOut_108 : decode cX12_carryOut 108 = .ok (.ireturn, 1) := by decide +kernel
theorem dX12_carryOut_109 : decode cX12_carryOut 109 = .ok (.aload_n 0, 1) := by decide +kernel
theorem dX12_carryOut_110 : decode cX12_carryOut 110 = .ok (.getfield 10, 3) := by decide +kernel
theorem dX12_carryOut_113 : decode cX12_carryOut 113 = .ok (.getfield 184, 3) := by decide +kernel
theorem dX12_carryOut_116 : decode cX12_carryOut 116 = .ok (.aload_n 0, 1) := by decide +kernel
theorem dX12_carryOut_117 : decode cX12_carryOut 117 = .ok (.getfield 10, 3) := by decide +kernel
theorem dX12_carryOut_120 : decode cX12_carryOut 120 = .ok (.getfield 184, 3) := by decide +kernel
theorem dX12_carryOut_123 : decode cX12_carryOut 123 = .ok (.getfield 188, 3) := by decide +kernel
theorem dX12_carryOut_126 : decode cX12_carryOut 126 = .ok (.iload_n 2, 1) := by decide +kernel
theorem dX12_carryOut_127 : decode cX12_carryOut 127 = .ok (.invokevirtual 429, 3) := by decide +kernel
theorem dX12_carryOut_130 : decode cX12_carryOut 130 = .ok (.invokevirtual 450, 3) := by decide +kernel
theorem dX12_carryOut_133 : decode cX12_carryOut 133 = .ok (.ireturn, 1) := by decide +kernel
theorem dX12_carryOut_134 : decode cX12_carryOut 134 = .ok (.aload_n 0, 1) := by decide +kernel
theorem dX12_carryOut_135 : decode cX12_carryOut 135 = .ok (.getfield 10, 3) := by decide +kernel
theorem dX12_carryOut_138 : decode cX12_carryOut 138 = .ok (.iload_n 2, 1) := by decide +kernel
theorem dX12_carryOut_139 : decode cX12_carryOut 139 = .ok (.invokevirtual 453, 3) := by decide +kernel
theorem dX12_carryOut_142 : decode cX12_carryOut 142 = .ok (.ireturn, 1) := by decide +kernel
theorem dX12_carryOut_143 : decode cX12_carryOut 143 = .ok (.aload_n 0, 1) := by decide +kernel
theorem dX12_carryOut_144 : decode cX12_carryOut 144 = .ok (.getfield 10, 3) := by decide +kernel
theorem dX12_carryOut_147 : decode cX12_carryOut 147 = .ok (.aload_n 0, 1) := by decide +kernel
theorem dX12_carryOut_148 : decode cX12_carryOut 148 = .ok (.getfield 10, 3) := by decide +kernel
theorem dX12_carryOut_151 : decode cX12_carryOut 151 = .ok (.getfield 184, 3) := by decide +kernel
theorem dX12_carryOut_154 : decode cX12_carryOut 154 = .ok (.getfield 188, 3) := by decide +kernel
theorem dX12_carryOut_157 : decode cX12_carryOut 157 = .ok (.iload_n 2, 1) := by decide +kernel
theorem dX12_carryOut_158 : decode cX12_carryOut 158 = .ok (.invokevirtual 429, 3) := by decide +kernel
theorem dX12_carryOut_161 : decode cX12_carryOut 161 = .ok (.invokevirtual 456, 3) := by decide +kernel
theorem dX12_carryOut_164 : decode cX12_carryOut 164 = .ok (.ireturn, 1) := by decide +kernel
theorem dX12_carryOut_165 : decode cX12_carryOut 165 = .ok (.aload_n 0, 1) := by decide +kernel
theorem dX12_carryOut_166 : decode cX12_carryOut 166 = .ok (.getfield 10, 3) := by decide +kernel
theorem dX12_carryOut_169 : decode cX12_carryOut 169 = .ok (.iload_n 2, 1) := by decide +kernel
theorem dX12_carryOut_170 : decode cX12_carryOut 170 = .ok (.invokevirtual 459, 3) := by decide +kernel
theorem dX12_carryOut_173 : decode cX12_carryOut 173 = .ok (.ireturn, 1) := by decide +kernel
theorem dX12_carryOut_174 : decode cX12_carryOut 174 = .ok (.aload_n 0, 1) := by decide +kernel
theorem dX12_carryOut_175 : decode cX12_carryOut 175 = .ok (.getfield 10, 3) := by decide +kernel
theorem dX12_carryOut_178 : decode cX12_carryOut 178 = .ok (.aload_n 0, 1) := by decide +kernel
theorem dX12_carryOut_179 : decode cX12_carryOut 179 = .ok (.getfield 46, 3) := by decide +kernel
theorem dX12_carryOut_182 : decode cX12_carryOut 182 = .ok (.aload_n 0, 1) := by decide +kernel
theorem dX12_carryOut_183 : decode cX12_carryOut 183 = .ok (.getfield 10, 3) := by decide +kernel
theorem dX12_carryOut_186 : decode cX12_carryOut 186 = .ok (.getfield 229, 3) := by decide +kernel
theorem dX12_carryOut_189 : decode cX12_carryOut 189 = .ok (.invokevirtual 243, 3) := by decide +kernel
theorem dX12_carryOut_192 : decode cX12_carryOut 192 = .ok (.invokevirtual 462, 3) := by decide +kernel
theorem dX12_carryOut_195 : decode cX12_carryOut 195 = .ok (.ireturn, 1) := by decide +kernel
theorem dX12_carryOut_196 : decode cX12_carryOut 196 = .ok (.aload_n 0, 1) := by decide +kernel
theorem dX12_carryOut_197 : decode cX12_carryOut 197 = .ok (.getfield 10, 3) := by decide +kernel
theorem dX12_carryOut_200 : decode cX12_carryOut 200 = .ok (.iload_n 2, 1) := by decide +kernel
theorem dX12_carryOut_201 : decode cX12_carryOut 201 = .ok (.invokevirtual 465, 3) := by decide +kernel
theorem dX12_carryOut_204 : decode cX12_carryOut 204 = .ok (.ireturn, 1) := by decide +kernel
theorem dX12_refusalOfBlending_0 : decode cX12_refusalOfBlending 0 = .ok (.iload_n 1, 1) := by decide +kernel
theorem dX12_refusalOfBlending_1 : decode cX12_refusalOfBlending 1 = .ok (.iload_n 2, 1) := by decide +kernel
theorem dX12_refusalOfBlending_2 : decode cX12_refusalOfBlending 2 = .ok (.invokestatic 468, 3) := by decide +kernel
theorem dX12_refusalOfBlending_5 : decode cX12_refusalOfBlending 5 = .ok (.ifCond .ne 7, 3) := by decide +kernel
theorem dX12_refusalOfBlending_8 : decode cX12_refusalOfBlending 8 = .ok (.getstatic 384, 3) := by decide +kernel
theorem dX12_refusalOfBlending_11 : decode cX12_refusalOfBlending 11 = .ok (.areturn, 1) := by decide +kernel
theorem dX12_refusalOfBlending_12 : decode cX12_refusalOfBlending 12 = .ok (.aload_n 0, 1) := by decide +kernel
theorem dX12_refusalOfBlending_13 : decode cX12_refusalOfBlending 13 = .ok (.getfield 32, 3) := by decide +kernel
theorem dX12_refusalOfBlending_16 : decode cX12_refusalOfBlending 16 = .ok (.aload_n 0, 1) := by decide +kernel
theorem dX12_refusalOfBlending_17 : decode cX12_refusalOfBlending 17 = .ok (.getfield 10, 3) := by decide +kernel
theorem dX12_refusalOfBlending_20 : decode cX12_refusalOfBlending 20 = .ok (.getfield 114, 3) := by decide +kernel
theorem dX12_refusalOfBlending_23 : decode cX12_refusalOfBlending 23 = .ok (.iload_n 1, 1) := by decide +kernel
theorem dX12_refusalOfBlending_24 : decode cX12_refusalOfBlending 24 = .ok (.iload_n 2, 1) := by decide +kernel
theorem dX12_refusalOfBlending_25 : decode cX12_refusalOfBlending 25 = .ok (.invokevirtual 176, 3) := by decide +kernel
theorem dX12_refusalOfBlending_28 : decode cX12_refusalOfBlending 28 = .ok (.istore_n 3, 1) := by decide +kernel
theorem dX12_refusalOfBlending_29 : decode cX12_refusalOfBlending 29 = .ok (.iload_n 3, 1) := by decide +kernel
theorem dX12_refusalOfBlending_30 : decode cX12_refusalOfBlending 30 = .ok (.ifCond .ne 7, 3) := by decide +kernel
theorem dX12_refusalOfBlending_33 : decode cX12_refusalOfBlending 33 = .ok (.getstatic 394, 3) := by decide +kernel
theorem dX12_refusalOfBlending_36 : decode cX12_refusalOfBlending 36 = .ok (.areturn, 1) := by decide +kernel
theorem dX12_refusalOfBlending_37 : decode cX12_refusalOfBlending 37 = .ok (.aload_n 0, 1) := by decide +kernel
theorem dX12_refusalOfBlending_38 : decode cX12_refusalOfBlending 38 = .ok (.getfield 10, 3) := by decide +kernel
theorem dX12_refusalOfBlending_41 : decode cX12_refusalOfBlending 41 = .ok (.getfield 250, 3) := by decide +kernel
theorem dX12_refusalOfBlending_44 : decode cX12_refusalOfBlending 44 = .ok (.aload_n 0, 1) := by decide +kernel
theorem dX12_refusalOfBlending_45 : decode cX12_refusalOfBlending 45 = .ok (.getfield 10, 3) := by decide +kernel
theorem dX12_refusalOfBlending_48 : decode cX12_refusalOfBlending 48 = .ok (.getfield 114, 3) := by decide +kernel
theorem dX12_refusalOfBlending_51 : decode cX12_refusalOfBlending 51 = .ok (.iload_n 3, 1) := by decide +kernel
theorem dX12_refusalOfBlending_52 : decode cX12_refusalOfBlending 52 = .ok (.invokevirtual 471, 3) := by decide +kernel
theorem dX12_refusalOfBlending_55 : decode cX12_refusalOfBlending 55 = .ok (.iadd, 1) := by decide +kernel
theorem dX12_refusalOfBlending_56 : decode cX12_refusalOfBlending 56 = .ok (.sipush 999, 3) := by decide +kernel
theorem dX12_refusalOfBlending_59 : decode cX12_refusalOfBlending 59 = .ok (.if_icmp .le 9, 3) := by decide +kernel
theorem dX12_refusalOfBlending_62 : decode cX12_refusalOfBlending 62 = .ok (.getstatic 389, 3) := by decide +kernel
theorem dX12_refusalOfBlending_65 : decode cX12_refusalOfBlending 65 = .ok (.goto 6, 3) := by decide +kernel
theorem dX12_refusalOfBlending_68 : decode cX12_refusalOfBlending 68 = .ok (.getstatic 209, 3) := by decide +kernel
theorem dX12_refusalOfBlending_71 : decode cX12_refusalOfBlending 71 = .ok (.areturn, 1) := by decide +kernel
theorem dX12_runCommands_0 : decode cX12_runCommands 0 = .ok (.iconst 0, 1) := by decide +kernel
theorem dX12_runCommands_1 : decode cX12_runCommands 1 = .ok (.istore_n 1, 1) := by decide +kernel
theorem dX12_runCommands_2 : decode cX12_runCommands 2 = .ok (.iload_n 1, 1) := by decide +kernel
theorem dX12_runCommands_3 : decode cX12_runCommands 3 = .ok (.aload_n 0, 1) := by decide +kernel
theorem dX12_runCommands_4 : decode cX12_runCommands 4 = .ok (.getfield 62, 3) := by decide +kernel
theorem dX12_runCommands_7 : decode cX12_runCommands 7 = .ok (.invokevirtual 351, 3) := by decide +kernel
theorem dX12_runCommands_10 : decode cX12_runCommands 10 = .ok (.if_icmp .ge 83, 3) := by decide +kernel
theorem dX12_runCommands_13 : decode cX12_runCommands 13 = .ok (.aload_n 0, 1) := by decide +kernel
theorem dX12_runCommands_14 : decode cX12_runCommands 14 = .ok (.getfield 62, 3) := by decide +kernel
theorem dX12_runCommands_17 : decode cX12_runCommands 17 = .ok (.iload_n 1, 1) := by decide +kernel
theorem dX12_runCommands_18 : decode cX12_runCommands 18 = .ok (.invokevirtual 474, 3) := by decide +kernel
theorem dX12_runCommands_21 : decode cX12_runCommands 21 = .ok (.astore_n 2, 1) := by decide +kernel
theorem dX12_runCommands_22 : decode cX12_runCommands 22 = .ok (.aload_n 0, 1) := by decide +kernel
theorem dX12_runCommands_23 : decode cX12_runCommands 23 = .ok (.getfield 62, 3) := by decide +kernel
theorem dX12_runCommands_26 : decode cX12_runCommands 26 = .ok (.iload_n 1, 1) := by decide +kernel
theorem dX12_runCommands_27 : decode cX12_runCommands 27 = .ok (.iconst 0, 1) := by decide +kernel
theorem dX12_runCommands_28 : decode cX12_runCommands 28 = .ok (.invokevirtual 478, 3) := by decide +kernel
theorem dX12_runCommands_31 : decode cX12_runCommands 31 = .ok (.istore_n 3, 1) := by decide +kernel
theorem dX12_runCommands_32 : decode cX12_runCommands 32 = .ok (.aload_n 0, 1) := by decide +kernel
theorem dX12_runCommands_33 : decode cX12_runCommands 33 = .ok (.getfield 62, 3) := by decide +kernel
theorem dX12_runCommands_36 : decode cX12_runCommands 36 = .ok (.iload_n 1, 1) := by decide +kernel
theorem dX12_runCommands_37 : decode cX12_runCommands 37 = .ok (.iconst 1, 1) := by decide +kernel
theorem dX12_runCommands_38 : decode cX12_runCommands 38 = .ok (.invokevirtual 478, 3) := by decide +kernel
theorem dX12_runCommands_41 : decode cX12_runCommands 41 = .ok (.istore 4, 2) := by decide +kernel
theorem dX12_runCommands_43 : decode cX12_runCommands 43 = .ok (.aload_n 0, 1) := by decide +kernel
theorem dX12_runCommands_44 : decode cX12_runCommands 44 = .ok (.getfield 62, 3) := by decide +kernel
theorem dX12_runCommands_47 : decode cX12_runCommands 47 = .ok (.iload_n 1, 1) := by decide +kernel
theorem dX12_runCommands_48 : decode cX12_runCommands 48 = .ok (.iconst 2, 1) := by decide +kernel
theorem dX12_runCommands_49 : decode cX12_runCommands 49 = .ok (.invokevirtual 478, 3) := by decide +kernel
theorem dX12_runCommands_52 : decode cX12_runCommands 52 = .ok (.istore 5, 2) := by decide +kernel
theorem dX12_runCommands_54 : decode cX12_runCommands 54 = .ok (.aload_n 2, 1) := by decide +kernel
theorem dX12_runCommands_55 : decode cX12_runCommands 55 = .ok (.ifnull 19, 3) := by decide +kernel
theorem dX12_runCommands_58 : decode cX12_runCommands 58 = .ok (.aload_n 0, 1) := by decide +kernel
theorem dX12_runCommands_59 : decode cX12_runCommands 59 = .ok (.aload_n 2, 1) := by decide +kernel
theorem dX12_runCommands_60 : decode cX12_runCommands 60 = .ok (.iload_n 3, 1) := by decide +kernel
theorem dX12_runCommands_61 : decode cX12_runCommands 61 = .ok (.iload 4, 2) := by decide +kernel
theorem dX12_runCommands_63 : decode cX12_runCommands 63 = .ok (.iload 5, 2) := by decide +kernel
theorem dX12_runCommands_65 : decode cX12_runCommands 65 = .ok (.invokevirtual 373, 3) := by decide +kernel
theorem dX12_runCommands_68 : decode cX12_runCommands 68 = .ok (.getstatic 209, 3) := by decide +kernel
theorem dX12_runCommands_71 : decode cX12_runCommands 71 = .ok (.if_acmp .eq 5, 3) := by decide +kernel
theorem dX12_runCommands_74 : decode cX12_runCommands 74 = .ok (.iload_n 1, 1) := by decide +kernel
theorem dX12_runCommands_75 : decode cX12_runCommands 75 = .ok (.ireturn, 1) := by decide +kernel
theorem dX12_runCommands_76 : decode cX12_runCommands 76 = .ok (.aload_n 0, 1) := by decide +kernel
theorem dX12_runCommands_77 : decode cX12_runCommands 77 = .ok (.aload_n 2, 1) := by decide +kernel
theorem dX12_runCommands_78 : decode cX12_runCommands 78 = .ok (.iload_n 3, 1) := by decide +kernel
theorem dX12_runCommands_79 : decode cX12_runCommands 79 = .ok (.iload 4, 2) := by decide +kernel
theorem dX12_runCommands_81 : decode cX12_runCommands 81 = .ok (.iload 5, 2) := by decide +kernel
theorem dX12_runCommands_83 : decode cX12_runCommands 83 = .ok (.invokevirtual 381, 3) := by decide +kernel
theorem dX12_runCommands_86 : decode cX12_runCommands 86 = .ok (.pop, 1) := by decide +kernel
theorem dX12_runCommands_87 : decode cX12_runCommands 87 = .ok (.iinc 1 1, 3) := by decide +kernel
theorem dX12_runCommands_90 : decode cX12_runCommands 90 = .ok (.goto (-88), 3) := by decide +kernel
theorem dX12_runCommands_93 : decode cX12_runCommands 93 = .ok (.iconst (-1), 1) := by decide +kernel
theorem dX12_runCommands_94 : decode cX12_runCommands 94 = .ok (.ireturn, 1) := by decide +kernel
theorem dX12_positionOfBale_0 : decode cX12_positionOfBale 0 = .ok (.aload_n 0, 1) := by decide +kernel
theorem dX12_positionOfBale_1 : decode cX12_positionOfBale 1 = .ok (.getfield 10, 3) := by decide +kernel
theorem dX12_positionOfBale_4 : decode cX12_positionOfBale 4 = .ok (.getfield 114, 3) := by decide +kernel
theorem dX12_positionOfBale_7 : decode cX12_positionOfBale 7 = .ok (.getfield 118, 3) := by decide +kernel
theorem dX12_positionOfBale_10 : decode cX12_positionOfBale 10 = .ok (.iload_n 1, 1) := by decide +kernel
theorem dX12_positionOfBale_11 : decode cX12_positionOfBale 11 = .ok (.invokevirtual 429, 3) := by decide +kernel
theorem dX12_positionOfBale_14 : decode cX12_positionOfBale 14 = .ok (.istore_n 2, 1) := by decide +kernel
theorem dX12_positionOfBale_15 : decode cX12_positionOfBale 15 = .ok (.iload_n 2, 1) := by decide +kernel
theorem dX12_positionOfBale_16 : decode cX12_positionOfBale 16 = .ok (.iconst (-1), 1) := by decide +kernel
theorem dX12_positionOfBale_17 : decode cX12_positionOfBale 17 = .ok (.if_icmp .ne 14, 3) := by decide +kernel
theorem dX12_positionOfBale_20 : decode cX12_positionOfBale 20 = .ok (.new 131, 3) := by decide +kernel
theorem dX12_positionOfBale_23 : decode cX12_positionOfBale 23 = .ok (.dup, 1) := by decide +kernel
theorem dX12_positionOfBale_24 : decode cX12_positionOfBale 24 = .ok (.ldc_w 481, 3) := by decide +kernel
theorem dX12_positionOfBale_27 : decode cX12_positionOfBale 27 = .ok (.invokespecial 135, 3) := by decide +kernel
theorem dX12_positionOfBale_30 : decode cX12_positionOfBale 30 = .ok (.athrow, 1) := by decide +kernel
theorem dX12_positionOfBale_31 : decode cX12_positionOfBale 31 = .ok (.iload_n 2, 1) := by decide +kernel
theorem dX12_positionOfBale_32 : decode cX12_positionOfBale 32 = .ok (.ireturn, 1) := by decide +kernel
theorem dX12_positionOfOrder_0 : decode cX12_positionOfOrder 0 = .ok (.aload_n 0, 1) := by decide +kernel
theorem dX12_positionOfOrder_1 : decode cX12_positionOfOrder 1 = .ok (.getfield 10, 3) := by decide +kernel
theorem dX12_positionOfOrder_4 : decode cX12_positionOfOrder 4 = .ok (.getfield 184, 3) := by decide +kernel
theorem dX12_positionOfOrder_7 : decode cX12_positionOfOrder 7 = .ok (.getfield 188, 3) := by decide +kernel
theorem dX12_positionOfOrder_10 : decode cX12_positionOfOrder 10 = .ok (.iload_n 1, 1) := by decide +kernel
theorem dX12_positionOfOrder_11 : decode cX12_positionOfOrder 11 = .ok (.invokevirtual 429, 3) := by decide +kernel
theorem dX12_positionOfOrder_14 : decode cX12_positionOfOrder 14 = .ok (.istore_n 2, 1) := by decide +kernel
theorem dX12_positionOfOrder_15 : decode cX12_positionOfOrder 15 = .ok (.iload_n 2, 1) := by decide +kernel
theorem dX12_positionOfOrder_16 : decode cX12_positionOfOrder 16 = .ok (.iconst (-1), 1) := by decide +kernel
theorem dX12_positionOfOrder_17 : decode cX12_positionOfOrder 17 = .ok (.if_icmp .ne 14, 3) := by decide +kernel
theorem dX12_positionOfOrder_20 : decode cX12_positionOfOrder 20 = .ok (.new 131, 3) := by decide +kernel
theorem dX12_positionOfOrder_23 : decode cX12_positionOfOrder 23 = .ok (.dup, 1) := by decide +kernel
theorem dX12_positionOfOrder_24 : decode cX12_positionOfOrder 24 = .ok (.ldc_w 402, 3) := by decide +kernel
theorem dX12_positionOfOrder_27 : decode cX12_positionOfOrder 27 = .ok (.invokespecial 135, 3) := by decide +kernel
theorem dX12_positionOfOrder_30 : decode cX12_positionOfOrder 30 = .ok (.athrow, 1) := by decide +kernel
theorem dX12_positionOfOrder_31 : decode cX12_positionOfOrder 31 = .ok (.iload_n 2, 1) := by decide +kernel
theorem dX12_positionOfOrder_32 : decode cX12_positionOfOrder 32 = .ok (.ireturn, 1) := by decide +kernel
theorem dX12_positionAtRank_0 : decode cX12_positionAtRank 0 = .ok (.aload_n 0, 1) := by decide +kernel
theorem dX12_positionAtRank_1 : decode cX12_positionAtRank 1 = .ok (.iload_n 1, 1) := by decide +kernel
theorem dX12_positionAtRank_2 : decode cX12_positionAtRank 2 = .ok (.invokevirtual 483, 3) := by decide +kernel
theorem dX12_positionAtRank_5 : decode cX12_positionAtRank 5 = .ok (.istore_n 2, 1) := by decide +kernel
theorem dX12_positionAtRank_6 : decode cX12_positionAtRank 6 = .ok (.iload_n 2, 1) := by decide +kernel
theorem dX12_positionAtRank_7 : decode cX12_positionAtRank 7 = .ok (.iconst (-1), 1) := by decide +kernel
theorem dX12_positionAtRank_8 : decode cX12_positionAtRank 8 = .ok (.if_icmp .ne 14, 3) := by decide +kernel
theorem dX12_positionAtRank_11 : decode cX12_positionAtRank 11 = .ok (.new 131, 3) := by decide +kernel
theorem dX12_positionAtRank_14 : decode cX12_positionAtRank 14 = .ok (.dup, 1) := by decide +kernel
theorem dX12_positionAtRank_15 : decode cX12_positionAtRank 15 = .ok (.ldc_w 486, 3) := by decide +kernel
theorem dX12_positionAtRank_18 : decode cX12_positionAtRank 18 = .ok (.invokespecial 135, 3) := by decide +kernel
theorem dX12_positionAtRank_21 : decode cX12_positionAtRank 21 = .ok (.athrow, 1) := by decide +kernel
theorem dX12_positionAtRank_22 : decode cX12_positionAtRank 22 = .ok (.iload_n 2, 1) := by decide +kernel
theorem dX12_positionAtRank_23 : decode cX12_positionAtRank 23 = .ok (.ireturn, 1) := by decide +kernel
theorem dX12_testPiece_0 : decode cX12_testPiece 0 = .ok (.aload_n 0, 1) := by decide +kernel
theorem dX12_testPiece_1 : decode cX12_testPiece 1 = .ok (.getfield 10, 3) := by decide +kernel
theorem dX12_testPiece_4 : decode cX12_testPiece 4 = .ok (.getfield 229, 3) := by decide +kernel
theorem dX12_testPiece_7 : decode cX12_testPiece 7 = .ok (.iload_n 1, 1) := by decide +kernel
theorem dX12_testPiece_8 : decode cX12_testPiece 8 = .ok (.invokevirtual 127, 3) := by decide +kernel
theorem dX12_testPiece_11 : decode cX12_testPiece 11 = .ok (.ifCond .ne 14, 3) := by decide +kernel
theorem dX12_testPiece_14 : decode cX12_testPiece 14 = .ok (.new 305, 3) := by decide +kernel
theorem dX12_testPiece_17 : decode cX12_testPiece 17 = .ok (.dup, 1) := by decide +kernel
theorem dX12_testPiece_18 : decode cX12_testPiece 18 = .ok (.ldc_w 407, 3) := by decide +kernel
theorem dX12_testPiece_21 : decode cX12_testPiece 21 = .ok (.invokespecial 309, 3) := by decide +kernel
theorem dX12_testPiece_24 : decode cX12_testPiece 24 = .ok (.athrow, 1) := by decide +kernel
theorem dX12_testPiece_25 : decode cX12_testPiece 25 = .ok (.return_, 1) := by decide +kernel
theorem dX12_testBlend_0 : decode cX12_testBlend 0 = .ok (.iload_n 0, 1) := by decide +kernel
theorem dX12_testBlend_1 : decode cX12_testBlend 1 = .ok (.iload_n 1, 1) := by decide +kernel
theorem dX12_testBlend_2 : decode cX12_testBlend 2 = .ok (.invokestatic 468, 3) := by decide +kernel
theorem dX12_testBlend_5 : decode cX12_testBlend 5 = .ok (.ifCond .ne 14, 3) := by decide +kernel
theorem dX12_testBlend_8 : decode cX12_testBlend 8 = .ok (.new 314, 3) := by decide +kernel
theorem dX12_testBlend_11 : decode cX12_testBlend 11 = .ok (.dup, 1) := by decide +kernel
theorem dX12_testBlend_12 : decode cX12_testBlend 12 = .ok (.ldc_w 491, 3) := by decide +kernel
theorem dX12_testBlend_15 : decode cX12_testBlend 15 = .ok (.invokespecial 318, 3) := by decide +kernel
theorem dX12_testBlend_18 : decode cX12_testBlend 18 = .ok (.athrow, 1) := by decide +kernel
theorem dX12_testBlend_19 : decode cX12_testBlend 19 = .ok (.return_, 1) := by decide +kernel
theorem dX12_blendValueFound_0 : decode cX12_blendValueFound 0 = .ok (.iload_n 0, 1) := by decide +kernel
theorem dX12_blendValueFound_1 : decode cX12_blendValueFound 1 = .ok (.iconst (-1), 1) := by decide +kernel
theorem dX12_blendValueFound_2 : decode cX12_blendValueFound 2 = .ok (.if_icmp .ne 13, 3) := by decide +kernel
theorem dX12_blendValueFound_5 : decode cX12_blendValueFound 5 = .ok (.new 131, 3) := by decide +kernel
theorem dX12_blendValueFound_8 : decode cX12_blendValueFound 8 = .ok (.dup, 1) := by decide +kernel
theorem dX12_blendValueFound_9 : decode cX12_blendValueFound 9 = .ok (.ldc 181, 2) := by decide +kernel
theorem dX12_blendValueFound_11 : decode cX12_blendValueFound 11 = .ok (.invokespecial 135, 3) := by decide +kernel
theorem dX12_blendValueFound_14 : decode cX12_blendValueFound 14 = .ok (.athrow, 1) := by decide +kernel
theorem dX12_blendValueFound_15 : decode cX12_blendValueFound 15 = .ok (.iload_n 0, 1) := by decide +kernel
theorem dX12_blendValueFound_16 : decode cX12_blendValueFound 16 = .ok (.ireturn, 1) := by decide +kernel
theorem dX12_blendWaysAgree_0 : decode cX12_blendWaysAgree 0 = .ok (.aload_n 0, 1) := by decide +kernel
theorem dX12_blendWaysAgree_1 : decode cX12_blendWaysAgree 1 = .ok (.getfield 32, 3) := by decide +kernel
theorem dX12_blendWaysAgree_4 : decode cX12_blendWaysAgree 4 = .ok (.aload_n 0, 1) := by decide +kernel
theorem dX12_blendWaysAgree_5 : decode cX12_blendWaysAgree 5 = .ok (.getfield 10, 3) := by decide +kernel
theorem dX12_blendWaysAgree_8 : decode cX12_blendWaysAgree 8 = .ok (.getfield 114, 3) := by decide +kernel
theorem dX12_blendWaysAgree_11 : decode cX12_blendWaysAgree 11 = .ok (.iload_n 1, 1) := by decide +kernel
theorem dX12_blendWaysAgree_12 : decode cX12_blendWaysAgree 12 = .ok (.iload_n 2, 1) := by decide +kernel
theorem dX12_blendWaysAgree_13 : decode cX12_blendWaysAgree 13 = .ok (.invokevirtual 166, 3) := by decide +kernel
theorem dX12_blendWaysAgree_16 : decode cX12_blendWaysAgree 16 = .ok (.aload_n 0, 1) := by decide +kernel
theorem dX12_blendWaysAgree_17 : decode cX12_blendWaysAgree 17 = .ok (.getfield 32, 3) := by decide +kernel
theorem dX12_blendWaysAgree_20 : decode cX12_blendWaysAgree 20 = .ok (.aload_n 0, 1) := by decide +kernel
theorem dX12_blendWaysAgree_21 : decode cX12_blendWaysAgree 21 = .ok (.getfield 10, 3) := by decide +kernel
theorem dX12_blendWaysAgree_24 : decode cX12_blendWaysAgree 24 = .ok (.getfield 114, 3) := by decide +kernel
theorem dX12_blendWaysAgree_27 : decode cX12_blendWaysAgree 27 = .ok (.iload_n 1, 1) := by decide +kernel
theorem dX12_blendWaysAgree_28 : decode cX12_blendWaysAgree 28 = .ok (.iload_n 2, 1) := by decide +kernel
theorem dX12_blendWaysAgree_29 : decode cX12_blendWaysAgree 29 = .ok (.invokevirtual 173, 3) := by decide +kernel
theorem dX12_blendWaysAgree_32 : decode cX12_blendWaysAgree 32 = .ok (.if_icmp .ne 7, 3) := by decide +kernel
theorem dX12_blendWaysAgree_35 : decode cX12_blendWaysAgree 35 = .ok (.iconst 1, 1) := by decide +kernel
theorem dX12_blendWaysAgree_36 : decode cX12_blendWaysAgree 36 = .ok (.goto 4, 3) := by decide +kernel
theorem dX12_blendWaysAgree_39 : decode cX12_blendWaysAgree 39 = .ok (.iconst 0, 1) := by decide +kernel
theorem dX12_blendWaysAgree_40 : decode cX12_blendWaysAgree 40 = .ok (.ireturn, 1) := by decide +kernel
theorem dX12_canBeBlend_0 : decode cX12_canBeBlend 0 = .ok (.iload_n 0, 1) := by decide +kernel
theorem dX12_canBeBlend_1 : decode cX12_canBeBlend 1 = .ok (.iconst 1, 1) := by decide +kernel
theorem dX12_canBeBlend_2 : decode cX12_canBeBlend 2 = .ok (.sipush 500, 3) := by decide +kernel
theorem dX12_canBeBlend_5 : decode cX12_canBeBlend 5 = .ok (.invokestatic 432, 3) := by decide +kernel
theorem dX12_canBeBlend_8 : decode cX12_canBeBlend 8 = .ok (.ifCond .eq 18, 3) := by decide +kernel
theorem dX12_canBeBlend_11 : decode cX12_canBeBlend 11 = .ok (.iload_n 1, 1) := by decide +kernel
theorem dX12_canBeBlend_12 : decode cX12_canBeBlend 12 = .ok (.bipush 10, 2) := by decide +kernel
theorem dX12_canBeBlend_14 : decode cX12_canBeBlend 14 = .ok (.bipush 60, 2) := by decide +kernel
theorem dX12_canBeBlend_16 : decode cX12_canBeBlend 16 = .ok (.invokestatic 432, 3) := by decide +kernel
theorem dX12_canBeBlend_19 : decode cX12_canBeBlend 19 = .ok (.ifCond .eq 7, 3) := by decide +kernel
theorem dX12_canBeBlend_22 : decode cX12_canBeBlend 22 = .ok (.iconst 1, 1) := by decide +kernel
theorem dX12_canBeBlend_23 : decode cX12_canBeBlend 23 = .ok (.goto 4, 3) := by decide +kernel
theorem dX12_canBeBlend_26 : decode cX12_canBeBlend 26 = .ok (.iconst 0, 1) := by decide +kernel
theorem dX12_canBeBlend_27 : decode cX12_canBeBlend 27 = .ok (.ireturn, 1) := by decide +kernel
theorem dX12_isBetween_0 : decode cX12_isBetween 0 = .ok (.iload_n 0, 1) := by decide +kernel
theorem dX12_isBetween_1 : decode cX12_isBetween 1 = .ok (.iload_n 1, 1) := by decide +kernel
theorem dX12_isBetween_2 : decode cX12_isBetween 2 = .ok (.if_icmp .lt 12, 3) := by decide +kernel
theorem dX12_isBetween_5 : decode cX12_isBetween 5 = .ok (.iload_n 0, 1) := by decide +kernel
theorem dX12_isBetween_6 : decode cX12_isBetween 6 = .ok (.iload_n 2, 1) := by decide +kernel
theorem dX12_isBetween_7 : decode cX12_isBetween 7 = .ok (.if_icmp .gt 7, 3) := by decide +kernel
theorem dX12_isBetween_10 : decode cX12_isBetween 10 = .ok (.iconst 1, 1) := by decide +kernel
theorem dX12_isBetween_11 : decode cX12_isBetween 11 = .ok (.goto 4, 3) := by decide +kernel
theorem dX12_isBetween_14 : decode cX12_isBetween 14 = .ok (.iconst 0, 1) := by decide +kernel
theorem dX12_isBetween_15 : decode cX12_isBetween 15 = .ok (.ireturn, 1) := by decide +kernel
theorem dJ5_init_d00df_0 : decode cJ5_init_d00df 0 = .ok (.aload_n 0, 1) := by decide +kernel
theorem dJ5_init_d00df_1 : decode cJ5_init_d00df 1 = .ok (.invokespecial 3, 3) := by decide +kernel
theorem dJ5_init_d00df_4 : decode cJ5_init_d00df 4 = .ok (.getstatic 18, 3) := by decide +kernel
theorem dJ5_init_d00df_7 : decode cJ5_init_d00df 7 = .ok (.ifCond .eq 18, 3) := by decide +kernel
theorem dJ5_init_d00df_10 : decode cJ5_init_d00df 10 = .ok (.aload_n 0, 1) := by decide +kernel
theorem dJ5_init_d00df_11 : decode cJ5_init_d00df 11 = .ok (.iload_n 1, 1) := by decide +kernel
theorem dJ5_init_d00df_12 : decode cJ5_init_d00df 12 = .ok (.newarray .byte, 2) := by decide +kernel
theorem dJ5_init_d00df_14 : decode cJ5_init_d00df 14 = .ok (.putfield 15, 3) := by decide +kernel
theorem dJ5_init_d00df_17 : decode cJ5_init_d00df 17 = .ok (.aload_n 0, 1) := by decide +kernel
theorem dJ5_init_d00df_18 : decode cJ5_init_d00df 18 = .ok (.iconst 0, 1) := by decide +kernel
theorem dJ5_init_d00df_19 : decode cJ5_init_d00df 19 = .ok (.putfield 22, 3) := by decide +kernel
theorem dJ5_init_d00df_22 : decode cJ5_init_d00df 22 = .ok (.goto 16, 3) := by decide +kernel
theorem dJ5_init_d00df_25 : decode cJ5_init_d00df 25 = .ok (.aload_n 0, 1) := by decide +kernel
theorem dJ5_init_d00df_26 : decode cJ5_init_d00df 26 = .ok (.iload_n 1, 1) := by decide +kernel
theorem dJ5_init_d00df_27 : decode cJ5_init_d00df 27 = .ok (.invokestatic 26, 3) := by decide +kernel
theorem dJ5_init_d00df_30 : decode cJ5_init_d00df 30 = .ok (.putfield 15, 3) := by decide +kernel
theorem dJ5_init_d00df_33 : decode cJ5_init_d00df 33 = .ok (.aload_n 0, 1) := by decide +kernel
theorem dJ5_init_d00df_34 : decode cJ5_init_d00df 34 = .ok (.iconst 1, 1) := by decide +kernel
theorem dJ5_init_d00df_35 : decode cJ5_init_d00df 35 = .ok (.putfield 22, 3) := by decide +kernel
theorem dJ5_init_d00df_38 : decode cJ5_init_d00df 38 = .ok (.return_, 1) := by decide +kernel
theorem dJ5_length_8abf5_0 : decode cJ5_length_8abf5 0 = .ok (.aload_n 0, 1) := by decide +kernel
theorem dJ5_length_8abf5_1 : decode cJ5_length_8abf5 1 = .ok (.getfield 79, 3) := by decide +kernel
theorem dJ5_length_8abf5_4 : decode cJ5_length_8abf5 4 = .ok (.ireturn, 1) := by decide +kernel
theorem dJ5_ensureCapacityInternal_d00df_0 : decode cJ5_ensureCapacityInternal_d00df 0 = .ok (.aload_n 0, 1) := by decide +kernel
theorem dJ5_ensureCapacityInternal_d00df_1 : decode cJ5_ensureCapacityInternal_d00df 1 = .ok (.getfield 15, 3) := by decide +kernel
theorem dJ5_ensureCapacityInternal_d00df_4 : decode cJ5_ensureCapacityInternal_d00df 4 = .ok (.arraylength, 1) := by decide +kernel
theorem dJ5_ensureCapacityInternal_d00df_5 : decode cJ5_ensureCapacityInternal_d00df 5 = .ok (.aload_n 0, 1) := by decide +kernel
theorem dJ5_ensureCapacityInternal_d00df_6 : decode cJ5_ensureCapacityInternal_d00df 6 = .ok (.getfield 22, 3) := by decide +kernel
theorem dJ5_ensureCapacityInternal_d00df_9 : decode cJ5_ensureCapacityInternal_d00df 9 = .ok (.ishr, 1) := by decide +kernel
theorem dJ5_ensureCapacityInternal_d00df_10 : decode cJ5_ensureCapacityInternal_d00df 10 = .ok (.istore_n 2, 1) := by decide +kernel
theorem dJ5_ensureCapacityInternal_d00df_11 : decode cJ5_ensureCapacityInternal_d00df 11 = .ok (.iload_n 1, 1) := by decide +kernel
theorem dJ5_ensureCapacityInternal_d00df_12 : decode cJ5_ensureCapacityInternal_d00df 12 = .ok (.iload_n 2, 1) := by decide +kernel
theorem dJ5_ensureCapacityInternal_d00df_13 : decode cJ5_ensureCapacityInternal_d00df 13 = .ok (.isub, 1) := by decide +kernel
theorem dJ5_ensureCapacityInternal_d00df_14 : decode cJ5_ensureCapacityInternal_d00df 14 = .ok (.ifCond .le 24, 3) := by decide +kernel
theorem dJ5_ensureCapacityInternal_d00df_17 : decode cJ5_ensureCapacityInternal_d00df 17 = .ok (.aload_n 0, 1) := by decide +kernel
theorem dJ5_ensureCapacityInternal_d00df_18 : decode cJ5_ensureCapacityInternal_d00df 18 = .ok (.aload_n 0, 1) := by decide +kernel
theorem dJ5_ensureCapacityInternal_d00df_19 : decode cJ5_ensureCapacityInternal_d00df 19 = .ok (.getfield 15, 3) := by decide +kernel
theorem dJ5_ensureCapacityInternal_d00df_22 : decode cJ5_ensureCapacityInternal_d00df 22 = .ok (.aload_n 0, 1) := by decide +kernel
theorem dJ5_ensureCapacityInternal_d00df_23 : decode cJ5_ensureCapacityInternal_d00df 23 = .ok (.iload_n 1, 1) := by decide +kernel
theorem dJ5_ensureCapacityInternal_d00df_24 : decode cJ5_ensureCapacityInternal_d00df 24 = .ok (.invokevirtual 104, 3) := by decide +kernel
theorem dJ5_ensureCapacityInternal_d00df_27 : decode cJ5_ensureCapacityInternal_d00df 27 = .ok (.aload_n 0, 1) := by decide +kernel
theorem dJ5_ensureCapacityInternal_d00df_28 : decode cJ5_ensureCapacityInternal_d00df 28 = .ok (.getfield 22, 3) := by decide +kernel
theorem dJ5_ensureCapacityInternal_d00df_31 : decode cJ5_ensureCapacityInternal_d00df 31 = .ok (.ishl, 1) := by decide +kernel
theorem dJ5_ensureCapacityInternal_d00df_32 : decode cJ5_ensureCapacityInternal_d00df 32 = .ok (.invokestatic 108, 3) := by decide +kernel
theorem dJ5_ensureCapacityInternal_d00df_35 : decode cJ5_ensureCapacityInternal_d00df 35 = .ok (.putfield 15, 3) := by decide +kernel
theorem dJ5_ensureCapacityInternal_d00df_38 : decode cJ5_ensureCapacityInternal_d00df 38 = .ok (.return_, 1) := by decide +kernel
theorem dJ5_newCapacity_0f7a4_0 : decode cJ5_newCapacity_0f7a4 0 = .ok (.aload_n 0, 1) := by decide +kernel
theorem dJ5_newCapacity_0f7a4_1 : decode cJ5_newCapacity_0f7a4 1 = .ok (.getfield 15, 3) := by decide +kernel
theorem dJ5_newCapacity_0f7a4_4 : decode cJ5_newCapacity_0f7a4 4 = .ok (.arraylength, 1) := by decide +kernel
theorem dJ5_newCapacity_0f7a4_5 : decode cJ5_newCapacity_0f7a4 5 = .ok (.istore_n 2, 1) := by decide +kernel
theorem dJ5_newCapacity_0f7a4_6 : decode cJ5_newCapacity_0f7a4 6 = .ok (.iload_n 1, 1) := by decide +kernel
theorem dJ5_newCapacity_0f7a4_7 : decode cJ5_newCapacity_0f7a4 7 = .ok (.aload_n 0, 1) := by decide +kernel
theorem dJ5_newCapacity_0f7a4_8 : decode cJ5_newCapacity_0f7a4 8 = .ok (.getfield 22, 3) := by decide +kernel
theorem dJ5_newCapacity_0f7a4_11 : decode cJ5_newCapacity_0f7a4 11 = .ok (.ishl, 1) := by decide +kernel
theorem dJ5_newCapacity_0f7a4_12 : decode cJ5_newCapacity_0f7a4 12 = .ok (.istore_n 3, 1) := by decide +kernel
theorem dJ5_newCapacity_0f7a4_13 : decode cJ5_newCapacity_0f7a4 13 = .ok (.iload_n 3, 1) := by decide +kernel
theorem dJ5_newCapacity_0f7a4_14 : decode cJ5_newCapacity_0f7a4 14 = .ok (.iload_n 2, 1) := by decide +kernel
theorem dJ5_newCapacity_0f7a4_15 : decode cJ5_newCapacity_0f7a4 15 = .ok (.isub, 1) := by decide +kernel
theorem dJ5_newCapacity_0f7a4_16 : decode cJ5_newCapacity_0f7a4 16 = .ok (.istore 4, 2) := by decide +kernel
theorem dJ5_newCapacity_0f7a4_18 : decode cJ5_newCapacity_0f7a4 18 = .ok (.iload_n 2, 1) := by decide +kernel
theorem dJ5_newCapacity_0f7a4_19 : decode cJ5_newCapacity_0f7a4 19 = .ok (.iload 4, 2) := by decide +kernel
theorem dJ5_newCapacity_0f7a4_21 : decode cJ5_newCapacity_0f7a4 21 = .ok (.iload_n 2, 1) := by decide +kernel
theorem dJ5_newCapacity_0f7a4_22 : decode cJ5_newCapacity_0f7a4 22 = .ok (.iconst 2, 1) := by decide +kernel
theorem dJ5_newCapacity_0f7a4_23 : decode cJ5_newCapacity_0f7a4 23 = .ok (.aload_n 0, 1) := by decide +kernel
theorem dJ5_newCapacity_0f7a4_24 : decode cJ5_newCapacity_0f7a4 24 = .ok (.getfield 22, 3) := by decide +kernel
theorem dJ5_newCapacity_0f7a4_27 : decode cJ5_newCapacity_0f7a4 27 = .ok (.ishl, 1) := by decide +kernel
theorem dJ5_newCapacity_0f7a4_28 : decode cJ5_newCapacity_0f7a4 28 = .ok (.iadd, 1) := by decide +kernel
theorem dJ5_newCapacity_0f7a4_29 : decode cJ5_newCapacity_0f7a4 29 = .ok (.invokestatic 114, 3) := by decide +kernel
theorem dJ5_newCapacity_0f7a4_32 : decode cJ5_newCapacity_0f7a4 32 = .ok (.istore 5, 2) := by decide +kernel
theorem dJ5_newCapacity_0f7a4_34 : decode cJ5_newCapacity_0f7a4 34 = .ok (.iload 5, 2) := by decide +kernel
theorem dJ5_newCapacity_0f7a4_36 : decode cJ5_newCapacity_0f7a4 36 = .ok (.ldc 39, 2) := by decide +kernel
theorem dJ5_newCapacity_0f7a4_38 : decode cJ5_newCapacity_0f7a4 38 = .ok (.if_icmp .ne 13, 3) := by decide +kernel
theorem dJ5_newCapacity_0f7a4_41 : decode cJ5_newCapacity_0f7a4 41 = .ok (.new 120, 3) := by decide +kernel
theorem dJ5_newCapacity_0f7a4_44 : decode cJ5_newCapacity_0f7a4 44 = .ok (.dup, 1) := by decide +kernel
theorem dJ5_newCapacity_0f7a4_45 : decode cJ5_newCapacity_0f7a4 45 = .ok (.ldc 122, 2) := by decide +kernel
theorem dJ5_newCapacity_0f7a4_47 : decode cJ5_newCapacity_0f7a4 47 = .ok (.invokespecial 124, 3) := by decide +kernel
theorem dJ5_newCapacity_0f7a4_50 : decode cJ5_newCapacity_0f7a4 50 = .ok (.athrow, 1) := by decide +kernel
theorem dJ5_newCapacity_0f7a4_51 : decode cJ5_newCapacity_0f7a4 51 = .ok (.iload 5, 2) := by decide +kernel
theorem dJ5_newCapacity_0f7a4_53 : decode cJ5_newCapacity_0f7a4 53 = .ok (.aload_n 0, 1) := by decide +kernel
theorem dJ5_newCapacity_0f7a4_54 : decode cJ5_newCapacity_0f7a4 54 = .ok (.getfield 22, 3) := by decide +kernel
theorem dJ5_newCapacity_0f7a4_57 : decode cJ5_newCapacity_0f7a4 57 = .ok (.ishr, 1) := by decide +kernel
theorem dJ5_newCapacity_0f7a4_58 : decode cJ5_newCapacity_0f7a4 58 = .ok (.ireturn, 1) := by decide +kernel
theorem dJ5_inflate_da8c8_0 : decode cJ5_inflate_da8c8 0 = .ok (.aload_n 0, 1) := by decide +kernel
theorem dJ5_inflate_da8c8_1 : decode cJ5_inflate_da8c8 1 = .ok (.invokevirtual 83, 3) := by decide +kernel
theorem dJ5_inflate_da8c8_4 : decode cJ5_inflate_da8c8 4 = .ok (.ifCond .ne 4, 3) := by decide +kernel
theorem dJ5_inflate_da8c8_7 : decode cJ5_inflate_da8c8 7 = .ok (.return_, 1) := by decide +kernel
theorem dJ5_inflate_da8c8_8 : decode cJ5_inflate_da8c8 8 = .ok (.aload_n 0, 1) := by decide +kernel
theorem dJ5_inflate_da8c8_9 : decode cJ5_inflate_da8c8 9 = .ok (.getfield 15, 3) := by decide +kernel
theorem dJ5_inflate_da8c8_12 : decode cJ5_inflate_da8c8 12 = .ok (.arraylength, 1) := by decide +kernel
theorem dJ5_inflate_da8c8_13 : decode cJ5_inflate_da8c8 13 = .ok (.invokestatic 26, 3) := by decide +kernel
theorem dJ5_inflate_da8c8_16 : decode cJ5_inflate_da8c8 16 = .ok (.astore_n 1, 1) := by decide +kernel
theorem dJ5_inflate_da8c8_17 : decode cJ5_inflate_da8c8 17 = .ok (.aload_n 0, 1) := by decide +kernel
theorem dJ5_inflate_da8c8_18 : decode cJ5_inflate_da8c8 18 = .ok (.getfield 15, 3) := by decide +kernel
theorem dJ5_inflate_da8c8_21 : decode cJ5_inflate_da8c8 21 = .ok (.iconst 0, 1) := by decide +kernel
theorem dJ5_inflate_da8c8_22 : decode cJ5_inflate_da8c8 22 = .ok (.aload_n 1, 1) := by decide +kernel
theorem dJ5_inflate_da8c8_23 : decode cJ5_inflate_da8c8 23 = .ok (.iconst 0, 1) := by decide +kernel
theorem dJ5_inflate_da8c8_24 : decode cJ5_inflate_da8c8 24 = .ok (.aload_n 0, 1) := by decide +kernel
theorem dJ5_inflate_da8c8_25 : decode cJ5_inflate_da8c8 25 = .ok (.getfield 79, 3) := by decide +kernel
theorem dJ5_inflate_da8c8_28 : decode cJ5_inflate_da8c8 28 = .ok (.invokestatic 125, 3) := by decide +kernel
theorem dJ5_inflate_da8c8_31 : decode cJ5_inflate_da8c8 31 = .ok (.aload_n 0, 1) := by decide +kernel
theorem dJ5_inflate_da8c8_32 : decode cJ5_inflate_da8c8 32 = .ok (.aload_n 1, 1) := by decide +kernel
theorem dJ5_inflate_da8c8_33 : decode cJ5_inflate_da8c8 33 = .ok (.putfield 15, 3) := by decide +kernel
theorem dJ5_inflate_da8c8_36 : decode cJ5_inflate_da8c8 36 = .ok (.aload_n 0, 1) := by decide +kernel
theorem dJ5_inflate_da8c8_37 : decode cJ5_inflate_da8c8 37 = .ok (.iconst 1, 1) := by decide +kernel
theorem dJ5_inflate_da8c8_38 : decode cJ5_inflate_da8c8 38 = .ok (.putfield 22, 3) := by decide +kernel
theorem dJ5_inflate_da8c8_41 : decode cJ5_inflate_da8c8 41 = .ok (.return_, 1) := by decide +kernel
theorem dJ5_setLength_d00df_0 : decode cJ5_setLength_d00df 0 = .ok (.iload_n 1, 1) := by decide +kernel
theorem dJ5_setLength_d00df_1 : decode cJ5_setLength_d00df 1 = .ok (.ifCond .ge 12, 3) := by decide +kernel
theorem dJ5_setLength_d00df_4 : decode cJ5_setLength_d00df 4 = .ok (.new 129, 3) := by decide +kernel
