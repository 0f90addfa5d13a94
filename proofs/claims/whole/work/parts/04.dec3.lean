theorem dX12_testPiece_17 : decode cX12_testPiece 17 = .ok (.dup, 1) := by decide +kernel
theorem dX12_testPiece_18 : decode cX12_testPiece 18 = .ok (.ldc_w 407, 3) := by decide +kernel
theorem dX12_testPiece_21 : decode cX12_testPiece 21 = .ok (.invokespecial 309, 3) := by decide +kernel
theorem dX12_testPiece_24 : decode cX12_testPiece 24 = .ok (.athrow, 1) := by decide +kernel
theorem dX12_testPiece_25 : decode cX12_testPiece 25 = .ok (.return_, 1) := by decide +kernel
theorem dX12_testShelf_0 : decode cX12_testShelf 0 = .ok (.aload_n 0, 1) := by decide +kernel
theorem dX12_testShelf_1 : decode cX12_testShelf 1 = .ok (.getfield 10, 3) := by decide +kernel
theorem dX12_testShelf_4 : decode cX12_testShelf 4 = .ok (.getfield 229, 3) := by decide +kernel
theorem dX12_testShelf_7 : decode cX12_testShelf 7 = .ok (.invokevirtual 123, 3) := by decide +kernel
theorem dX12_testShelf_10 : decode cX12_testShelf 10 = .ok (.ifCond .ne 13, 3) := by decide +kernel
theorem dX12_testShelf_13 : decode cX12_testShelf 13 = .ok (.new 488, 3) := by decide +kernel
theorem dX12_testShelf_16 : decode cX12_testShelf 16 = .ok (.dup, 1) := by decide +kernel
theorem dX12_testShelf_17 : decode cX12_testShelf 17 = .ok (.ldc 235, 2) := by decide +kernel
theorem dX12_testShelf_19 : decode cX12_testShelf 19 = .ok (.invokespecial 490, 3) := by decide +kernel
theorem dX12_testShelf_22 : decode cX12_testShelf 22 = .ok (.athrow, 1) := by decide +kernel
theorem dX12_testShelf_23 : decode cX12_testShelf 23 = .ok (.return_, 1) := by decide +kernel
theorem dX12_testBlend_0 : decode cX12_testBlend 0 = .ok (.iload_n 0, 1) := by decide +kernel
theorem dX12_testBlend_1 : decode cX12_testBlend 1 = .ok (.iload_n 1, 1) := by decide +kernel
theorem dX12_testBlend_2 : decode cX12_testBlend 2 = .ok (.invokestatic 468, 3) := by decide +kernel
theorem dX12_testBlend_5 : decode cX12_testBlend 5 = .ok (.ifCond .ne 14, 3) := by decide +kernel
theorem dX12_testBlend_8 : decode cX12_testBlend 8 = .ok (.new 314, 3) := by decide +kernel
theorem dX12_testBlend_11 : decode cX12_testBlend 11 = .ok (.dup, 1) := by decide +kernel
theorem dX12_testBlend_12 : decode cX12_testBlend 12 = .ok (.ldc_w 491, 3) := by decide +kernel
theorem dX12_testBlend_15 : decode cX12_testBlend 15 = .ok (.invokespecial 318, 3) := by decide +kernel
theorem dX12_testBlend_18 : decode cX12_testBlend 18 = .ok (.athrow, 1) := by decide +kernel
theorem dX12_testBlend_19 : decode cX12_testBlend 19 = .ok (.return_, 1) := by decide +kernel
theorem dX12_blendValueFound_0 : decode cX12_blendValueFound 0 = .ok (.iload_n 0, 1) := by decide +kernel
theorem dX12_blendValueFound_1 : decode cX12_blendValueFound 1 = .ok (.iconst (-1), 1) := by decide +kernel
theorem dX12_blendValueFound_2 : decode cX12_blendValueFound 2 = .ok (.if_icmp .ne 13, 3) := by decide +kernel
theorem dX12_blendValueFound_5 : decode cX12_blendValueFound 5 = .ok (.new 131, 3) := by decide +kernel
theorem dX12_blendValueFound_8 : decode cX12_blendValueFound 8 = .ok (.dup, 1) := by decide +kernel
theorem dX12_blendValueFound_9 : decode cX12_blendValueFound 9 = .ok (.ldc 181, 2) := by decide +kernel
theorem dX12_blendValueFound_11 : decode cX12_blendValueFound 11 = .ok (.invokespecial 135, 3) := by decide +kernel
theorem dX12_blendValueFound_14 : decode cX12_blendValueFound 14 = .ok (.athrow, 1) := by decide +kernel
theorem dX12_blendValueFound_15 : decode cX12_blendValueFound 15 = .ok (.iload_n 0, 1) := by decide +kernel
theorem dX12_blendValueFound_16 : decode cX12_blendValueFound 16 = .ok (.ireturn, 1) := by decide +kernel
theorem dX12_blendWaysAgree_0 : decode cX12_blendWaysAgree 0 = .ok (.aload_n 0, 1) := by decide +kernel
theorem dX12_blendWaysAgree_1 : decode cX12_blendWaysAgree 1 = .ok (.getfield 32, 3) := by decide +kernel
theorem dX12_blendWaysAgree_4 : decode cX12_blendWaysAgree 4 = .ok (.aload_n 0, 1) := by decide +kernel
theorem dX12_blendWaysAgree_5 : decode cX12_blendWaysAgree 5 = .ok (.getfield 10, 3) := by decide +kernel
theorem dX12_blendWaysAgree_8 : decode cX12_blendWaysAgree 8 = .ok (.getfield 114, 3) := by decide +kernel
theorem dX12_blendWaysAgree_11 : decode cX12_blendWaysAgree 11 = .ok (.iload_n 1, 1) := by decide +kernel
theorem dX12_blendWaysAgree_12 : decode cX12_blendWaysAgree 12 = .ok (.iload_n 2, 1) := by decide +kernel
theorem dX12_blendWaysAgree_13 : decode cX12_blendWaysAgree 13 = .ok (.invokevirtual 166, 3) := by decide +kernel
theorem dX12_blendWaysAgree_16 : decode cX12_blendWaysAgree 16 = .ok (.aload_n 0, 1) := by decide +kernel
theorem dX12_blendWaysAgree_17 : decode cX12_blendWaysAgree 17 = .ok (.getfield 32, 3) := by decide +kernel
theorem dX12_blendWaysAgree_20 : decode cX12_blendWaysAgree 20 = .ok (.aload_n 0, 1) := by decide +kernel
theorem dX12_blendWaysAgree_21 : decode cX12_blendWaysAgree 21 = .ok (.getfield 10, 3) := by decide +kernel
theorem dX12_blendWaysAgree_24 : decode cX12_blendWaysAgree 24 = .ok (.getfield 114, 3) := by decide +kernel
theorem dX12_blendWaysAgree_27 : decode cX12_blendWaysAgree 27 = .ok (.iload_n 1, 1) := by decide +kernel
theorem dX12_blendWaysAgree_28 : decode cX12_blendWaysAgree 28 = .ok (.iload_n 2, 1) := by decide +kernel
theorem dX12_blendWaysAgree_29 : decode cX12_blendWaysAgree 29 = .ok (.invokevirtual 173, 3) := by decide +kernel
theorem dX12_blendWaysAgree_32 : decode cX12_blendWaysAgree 32 = .ok (.if_icmp .ne 7, 3) := by decide +kernel
theorem dX12_blendWaysAgree_35 : decode cX12_blendWaysAgree 35 = .ok (.iconst 1, 1) := by decide +kernel
theorem dX12_blendWaysAgree_36 : decode cX12_blendWaysAgree 36 = .ok (.goto 4, 3) := by decide +kernel
theorem dX12_blendWaysAgree_39 : decode cX12_blendWaysAgree 39 = .ok (.iconst 0, 1) := by decide +kernel
theorem dX12_blendWaysAgree_40 : decode cX12_blendWaysAgree 40 = .ok (.ireturn, 1) := by decide +kernel
theorem dX12_canBeBlend_0 : decode cX12_canBeBlend 0 = .ok (.iload_n 0, 1) := by decide +kernel
theorem dX12_canBeBlend_1 : decode cX12_canBeBlend 1 = .ok (.iconst 1, 1) := by decide +kernel
theorem dX12_canBeBlend_2 : decode cX12_canBeBlend 2 = .ok (.sipush 500, 3) := by decide +kernel
theorem dX12_canBeBlend_5 : decode cX12_canBeBlend 5 = .ok (.invokestatic 432, 3) := by decide +kernel
theorem dX12_canBeBlend_8 : decode cX12_canBeBlend 8 = .ok (.ifCond .eq 18, 3) := by decide +kernel
theorem dX12_canBeBlend_11 : decode cX12_canBeBlend 11 = .ok (.iload_n 1, 1) := by decide +kernel
theorem dX12_canBeBlend_12 : decode cX12_canBeBlend 12 = .ok (.bipush 10, 2) := by decide +kernel
theorem dX12_canBeBlend_14 : decode cX12_canBeBlend 14 = .ok (.bipush 60, 2) := by decide +kernel
theorem dX12_canBeBlend_16 : decode cX12_canBeBlend 16 = .ok (.invokestatic 432, 3) := by decide +kernel
theorem dX12_canBeBlend_19 : decode cX12_canBeBlend 19 = .ok (.ifCond .eq 7, 3) := by decide +kernel
theorem dX12_canBeBlend_22 : decode cX12_canBeBlend 22 = .ok (.iconst 1, 1) := by decide +kernel
theorem dX12_canBeBlend_23 : decode cX12_canBeBlend 23 = .ok (.goto 4, 3) := by decide +kernel
theorem dX12_canBeBlend_26 : decode cX12_canBeBlend 26 = .ok (.iconst 0, 1) := by decide +kernel
theorem dX12_canBeBlend_27 : decode cX12_canBeBlend 27 = .ok (.ireturn, 1) := by decide +kernel
theorem dX12_isBetween_0 : decode cX12_isBetween 0 = .ok (.iload_n 0, 1) := by decide +kernel
theorem dX12_isBetween_1 : decode cX12_isBetween 1 = .ok (.iload_n 1, 1) := by decide +kernel
theorem dX12_isBetween_2 : decode cX12_isBetween 2 = .ok (.if_icmp .lt 12, 3) := by decide +kernel
theorem dX12_isBetween_5 : decode cX12_isBetween 5 = .ok (.iload_n 0, 1) := by decide +kernel
theorem dX12_isBetween_6 : decode cX12_isBetween 6 = .ok (.iload_n 2, 1) := by decide +kernel
theorem dX12_isBetween_7 : decode cX12_isBetween 7 = .ok (.if_icmp .gt 7, 3) := by decide +kernel
theorem dX12_isBetween_10 : decode cX12_isBetween 10 = .ok (.iconst 1, 1) := by decide +kernel
theorem dX12_isBetween_11 : decode cX12_isBetween 11 = .ok (.goto 4, 3) := by decide +kernel
theorem dX12_isBetween_14 : decode cX12_isBetween 14 = .ok (.iconst 0, 1) := by decide +kernel
theorem dX12_isBetween_15 : decode cX12_isBetween 15 = .ok (.ireturn, 1) := by decide +kernel
theorem dX13_init_0 : decode cX13_init 0 = .ok (.aload_n 0, 1) := by decide +kernel
theorem dX13_init_1 : decode cX13_init 1 = .ok (.invokespecial 3, 3) := by decide +kernel
theorem dX13_init_4 : decode cX13_init 4 = .ok (.aload_n 0, 1) := by decide +kernel
theorem dX13_init_5 : decode cX13_init 5 = .ok (.bipush 90, 2) := by decide +kernel
theorem dX13_init_7 : decode cX13_init 7 = .ok (.newarray .int, 2) := by decide +kernel
theorem dX13_init_9 : decode cX13_init 9 = .ok (.putfield 9, 3) := by decide +kernel
theorem dX13_init_12 : decode cX13_init 12 = .ok (.aload_n 0, 1) := by decide +kernel
theorem dX13_init_13 : decode cX13_init 13 = .ok (.bipush 90, 2) := by decide +kernel
theorem dX13_init_15 : decode cX13_init 15 = .ok (.newarray .int, 2) := by decide +kernel
theorem dX13_init_17 : decode cX13_init 17 = .ok (.putfield 13, 3) := by decide +kernel
theorem dX13_init_20 : decode cX13_init 20 = .ok (.aload_n 0, 1) := by decide +kernel
theorem dX13_init_21 : decode cX13_init 21 = .ok (.bipush 90, 2) := by decide +kernel
theorem dX13_init_23 : decode cX13_init 23 = .ok (.newarray .int, 2) := by decide +kernel
theorem dX13_init_25 : decode cX13_init 25 = .ok (.putfield 16, 3) := by decide +kernel
theorem dX13_init_28 : decode cX13_init 28 = .ok (.aload_n 0, 1) := by decide +kernel
theorem dX13_init_29 : decode cX13_init 29 = .ok (.sipush 720, 3) := by decide +kernel
theorem dX13_init_32 : decode cX13_init 32 = .ok (.newarray .int, 2) := by decide +kernel
theorem dX13_init_34 : decode cX13_init 34 = .ok (.putfield 19, 3) := by decide +kernel
theorem dX13_init_37 : decode cX13_init 37 = .ok (.aload_n 0, 1) := by decide +kernel
theorem dX13_init_38 : decode cX13_init 38 = .ok (.iconst 3, 1) := by decide +kernel
theorem dX13_init_39 : decode cX13_init 39 = .ok (.newarray .int, 2) := by decide +kernel
theorem dX13_init_41 : decode cX13_init 41 = .ok (.putfield 22, 3) := by decide +kernel
theorem dX13_init_44 : decode cX13_init 44 = .ok (.aload_n 0, 1) := by decide +kernel
theorem dX13_init_45 : decode cX13_init 45 = .ok (.sipush 144, 3) := by decide +kernel
theorem dX13_init_48 : decode cX13_init 48 = .ok (.newarray .int, 2) := by decide +kernel
theorem dX13_init_50 : decode cX13_init 50 = .ok (.putfield 25, 3) := by decide +kernel
theorem dX13_init_53 : decode cX13_init 53 = .ok (.aload_n 0, 1) := by decide +kernel
theorem dX13_init_54 : decode cX13_init 54 = .ok (.iconst (-1), 1) := by decide +kernel
theorem dX13_init_55 : decode cX13_init 55 = .ok (.putfield 28, 3) := by decide +kernel
theorem dX13_init_58 : decode cX13_init 58 = .ok (.aload_n 0, 1) := by decide +kernel
theorem dX13_init_59 : decode cX13_init 59 = .ok (.iconst (-1), 1) := by decide +kernel
theorem dX13_init_60 : decode cX13_init 60 = .ok (.putfield 32, 3) := by decide +kernel
theorem dX13_init_63 : decode cX13_init 63 = .ok (.aload_n 0, 1) := by decide +kernel
theorem dX13_init_64 : decode cX13_init 64 = .ok (.bipush 90, 2) := by decide +kernel
theorem dX13_init_66 : decode cX13_init 66 = .ok (.newarray .int, 2) := by decide +kernel
theorem dX13_init_68 : decode cX13_init 68 = .ok (.putfield 35, 3) := by decide +kernel
theorem dX13_init_71 : decode cX13_init 71 = .ok (.aload_n 0, 1) := by decide +kernel
theorem dX13_init_72 : decode cX13_init 72 = .ok (.bipush 60, 2) := by decide +kernel
theorem dX13_init_74 : decode cX13_init 74 = .ok (.newarray .int, 2) := by decide +kernel
theorem dX13_init_76 : decode cX13_init 76 = .ok (.putfield 38, 3) := by decide +kernel
theorem dX13_init_79 : decode cX13_init 79 = .ok (.aload_n 0, 1) := by decide +kernel
theorem dX13_init_80 : decode cX13_init 80 = .ok (.bipush 124, 2) := by decide +kernel
theorem dX13_init_82 : decode cX13_init 82 = .ok (.newarray .int, 2) := by decide +kernel
theorem dX13_init_84 : decode cX13_init 84 = .ok (.putfield 41, 3) := by decide +kernel
theorem dX13_init_87 : decode cX13_init 87 = .ok (.aload_n 0, 1) := by decide +kernel
theorem dX13_init_88 : decode cX13_init 88 = .ok (.getfield 9, 3) := by decide +kernel
theorem dX13_init_91 : decode cX13_init 91 = .ok (.iconst 0, 1) := by decide +kernel
theorem dX13_init_92 : decode cX13_init 92 = .ok (.sipush 1000, 3) := by decide +kernel
theorem dX13_init_95 : decode cX13_init 95 = .ok (.iastore, 1) := by decide +kernel
theorem dX13_init_96 : decode cX13_init 96 = .ok (.aload_n 0, 1) := by decide +kernel
theorem dX13_init_97 : decode cX13_init 97 = .ok (.getfield 9, 3) := by decide +kernel
theorem dX13_init_100 : decode cX13_init 100 = .ok (.iconst 3, 1) := by decide +kernel
theorem dX13_init_101 : decode cX13_init 101 = .ok (.iconst 1, 1) := by decide +kernel
theorem dX13_init_102 : decode cX13_init 102 = .ok (.iastore, 1) := by decide +kernel
theorem dX13_init_103 : decode cX13_init 103 = .ok (.return_, 1) := by decide +kernel
theorem dX13_thrown_0 : decode cX13_thrown 0 = .ok (.aload_n 0, 1) := by decide +kernel
theorem dX13_thrown_1 : decode cX13_thrown 1 = .ok (.getfield 44, 3) := by decide +kernel
theorem dX13_thrown_4 : decode cX13_thrown 4 = .ok (.ireturn, 1) := by decide +kernel
theorem dX13_isIn_0 : decode cX13_isIn 0 = .ok (.iload_n 0, 1) := by decide +kernel
theorem dX13_isIn_1 : decode cX13_isIn 1 = .ok (.iload_n 1, 1) := by decide +kernel
theorem dX13_isIn_2 : decode cX13_isIn 2 = .ok (.if_icmp .lt 12, 3) := by decide +kernel
theorem dX13_isIn_5 : decode cX13_isIn 5 = .ok (.iload_n 0, 1) := by decide +kernel
theorem dX13_isIn_6 : decode cX13_isIn 6 = .ok (.iload_n 2, 1) := by decide +kernel
theorem dX13_isIn_7 : decode cX13_isIn 7 = .ok (.if_icmp .gt 7, 3) := by decide +kernel
theorem dX13_isIn_10 : decode cX13_isIn 10 = .ok (.iconst 1, 1) := by decide +kernel
theorem dX13_isIn_11 : decode cX13_isIn 11 = .ok (.goto 4, 3) := by decide +kernel
theorem dX13_isIn_14 : decode cX13_isIn 14 = .ok (.iconst 0, 1) := by decide +kernel
theorem dX13_isIn_15 : decode cX13_isIn 15 = .ok (.ireturn, 1) := by decide +kernel
theorem dX13_copies_0 : decode cX13_copies 0 = .ok (.iconst 0, 1) := by decide +kernel
theorem dX13_copies_1 : decode cX13_copies 1 = .ok (.istore 4, 2) := by decide +kernel
theorem dX13_copies_3 : decode cX13_copies 3 = .ok (.iload 4, 2) := by decide +kernel
theorem dX13_copies_5 : decode cX13_copies 5 = .ok (.bipush 90, 2) := by decide +kernel
theorem dX13_copies_7 : decode cX13_copies 7 = .ok (.if_icmp .ge 21, 3) := by decide +kernel
theorem dX13_copies_10 : decode cX13_copies 10 = .ok (.aload_n 2, 1) := by decide +kernel
theorem dX13_copies_11 : decode cX13_copies 11 = .ok (.iload_n 3, 1) := by decide +kernel
theorem dX13_copies_12 : decode cX13_copies 12 = .ok (.iload 4, 2) := by decide +kernel
theorem dX13_copies_14 : decode cX13_copies 14 = .ok (.iadd, 1) := by decide +kernel
theorem dX13_copies_15 : decode cX13_copies 15 = .ok (.aload_n 0, 1) := by decide +kernel
theorem dX13_copies_16 : decode cX13_copies 16 = .ok (.iload_n 1, 1) := by decide +kernel
theorem dX13_copies_17 : decode cX13_copies 17 = .ok (.iload 4, 2) := by decide +kernel
theorem dX13_copies_19 : decode cX13_copies 19 = .ok (.iadd, 1) := by decide +kernel
theorem dX13_copies_20 : decode cX13_copies 20 = .ok (.iaload, 1) := by decide +kernel
theorem dX13_copies_21 : decode cX13_copies 21 = .ok (.iastore, 1) := by decide +kernel
theorem dX13_copies_22 : decode cX13_copies 22 = .ok (.iinc 4 1, 3) := by decide +kernel
theorem dX13_copies_25 : decode cX13_copies 25 = .ok (.goto (-22), 3) := by decide +kernel
theorem dX13_copies_28 : decode cX13_copies 28 = .ok (.return_, 1) := by decide +kernel
theorem dX13_keeps_0 : decode cX13_keeps 0 = .ok (.aload_n 0, 1) := by decide +kernel
theorem dX13_keeps_1 : decode cX13_keeps 1 = .ok (.getfield 9, 3) := by decide +kernel
theorem dX13_keeps_4 : decode cX13_keeps 4 = .ok (.iconst 0, 1) := by decide +kernel
theorem dX13_keeps_5 : decode cX13_keeps 5 = .ok (.aload_n 0, 1) := by decide +kernel
theorem dX13_keeps_6 : decode cX13_keeps 6 = .ok (.getfield 13, 3) := by decide +kernel
theorem dX13_keeps_9 : decode cX13_keeps 9 = .ok (.iconst 0, 1) := by decide +kernel
theorem dX13_keeps_10 : decode cX13_keeps 10 = .ok (.invokestatic 47, 3) := by decide +kernel
theorem dX13_keeps_13 : decode cX13_keeps 13 = .ok (.aload_n 0, 1) := by decide +kernel
theorem dX13_keeps_14 : decode cX13_keeps 14 = .ok (.iconst 0, 1) := by decide +kernel
theorem dX13_keeps_15 : decode cX13_keeps 15 = .ok (.putfield 44, 3) := by decide +kernel
theorem dX13_keeps_18 : decode cX13_keeps 18 = .ok (.return_, 1) := by decide +kernel
theorem dX13_ends_0 : decode cX13_ends 0 = .ok (.aload_n 0, 1) := by decide +kernel
theorem dX13_ends_1 : decode cX13_ends 1 = .ok (.getfield 44, 3) := by decide +kernel
theorem dX13_ends_4 : decode cX13_ends 4 = .ok (.ifCond .eq 5, 3) := by decide +kernel
theorem dX13_ends_7 : decode cX13_ends 7 = .ok (.iconst 0, 1) := by decide +kernel
theorem dX13_ends_8 : decode cX13_ends 8 = .ok (.ireturn, 1) := by decide +kernel
theorem dX13_ends_9 : decode cX13_ends 9 = .ok (.aload_n 0, 1) := by decide +kernel
theorem dX13_ends_10 : decode cX13_ends 10 = .ok (.getfield 51, 3) := by decide +kernel
theorem dX13_ends_13 : decode cX13_ends 13 = .ok (.bipush 8, 2) := by decide +kernel
theorem dX13_ends_15 : decode cX13_ends 15 = .ok (.if_icmp .ne 48, 3) := by decide +kernel
theorem dX13_ends_18 : decode cX13_ends 18 = .ok (.iconst 1, 1) := by decide +kernel
theorem dX13_ends_19 : decode cX13_ends 19 = .ok (.istore_n 2, 1) := by decide +kernel
theorem dX13_ends_20 : decode cX13_ends 20 = .ok (.iload_n 2, 1) := by decide +kernel
theorem dX13_ends_21 : decode cX13_ends 21 = .ok (.bipush 8, 2) := by decide +kernel
theorem dX13_ends_23 : decode cX13_ends 23 = .ok (.if_icmp .ge 30, 3) := by decide +kernel
theorem dX13_ends_26 : decode cX13_ends 26 = .ok (.aload_n 0, 1) := by decide +kernel
theorem dX13_ends_27 : decode cX13_ends 27 = .ok (.getfield 19, 3) := by decide +kernel
theorem dX13_ends_30 : decode cX13_ends 30 = .ok (.bipush 90, 2) := by decide +kernel
theorem dX13_ends_32 : decode cX13_ends 32 = .ok (.iload_n 2, 1) := by decide +kernel
theorem dX13_ends_33 : decode cX13_ends 33 = .ok (.imul, 1) := by decide +kernel
theorem dX13_ends_34 : decode cX13_ends 34 = .ok (.aload_n 0, 1) := by decide +kernel
theorem dX13_ends_35 : decode cX13_ends 35 = .ok (.getfield 19, 3) := by decide +kernel
theorem dX13_ends_38 : decode cX13_ends 38 = .ok (.bipush 90, 2) := by decide +kernel
theorem dX13_ends_40 : decode cX13_ends 40 = .ok (.iload_n 2, 1) := by decide +kernel
theorem dX13_ends_41 : decode cX13_ends 41 = .ok (.iconst 1, 1) := by decide +kernel
theorem dX13_ends_42 : decode cX13_ends 42 = .ok (.isub, 1) := by decide +kernel
theorem dX13_ends_43 : decode cX13_ends 43 = .ok (.imul, 1) := by decide +kernel
theorem dX13_ends_44 : decode cX13_ends 44 = .ok (.invokestatic 47, 3) := by decide +kernel
theorem dX13_ends_47 : decode cX13_ends 47 = .ok (.iinc 2 1, 3) := by decide +kernel
theorem dX13_ends_50 : decode cX13_ends 50 = .ok (.goto (-30), 3) := by decide +kernel
theorem dX13_ends_53 : decode cX13_ends 53 = .ok (.aload_n 0, 1) := by decide +kernel
theorem dX13_ends_54 : decode cX13_ends 54 = .ok (.dup, 1) := by decide +kernel
theorem dX13_ends_55 : decode cX13_ends 55 = .ok (.getfield 51, 3) := by decide +kernel
theorem dX13_ends_58 : decode cX13_ends 58 = .ok (.iconst 1, 1) := by decide +kernel
theorem dX13_ends_59 : decode cX13_ends 59 = .ok (.isub, 1) := by decide +kernel
theorem dX13_ends_60 : decode cX13_ends 60 = .ok (.putfield 51, 3) := by decide +kernel
theorem dX13_ends_63 : decode cX13_ends 63 = .ok (.aload_n 0, 1) := by decide +kernel
theorem dX13_ends_64 : decode cX13_ends 64 = .ok (.getfield 13, 3) := by decide +kernel
theorem dX13_ends_67 : decode cX13_ends 67 = .ok (.iconst 0, 1) := by decide +kernel
theorem dX13_ends_68 : decode cX13_ends 68 = .ok (.aload_n 0, 1) := by decide +kernel
theorem dX13_ends_69 : decode cX13_ends 69 = .ok (.getfield 19, 3) := by decide +kernel
theorem dX13_ends_72 : decode cX13_ends 72 = .ok (.bipush 90, 2) := by decide +kernel
theorem dX13_ends_74 : decode cX13_ends 74 = .ok (.aload_n 0, 1) := by decide +kernel
theorem dX13_ends_75 : decode cX13_ends 75 = .ok (.getfield 51, 3) := by decide +kernel
theorem dX13_ends_78 : decode cX13_ends 78 = .ok (.imul, 1) := by decide +kernel
theorem dX13_ends_79 : decode cX13_ends 79 = .ok (.invokestatic 47, 3) := by decide +kernel
theorem dX13_ends_82 : decode cX13_ends 82 = .ok (.aload_n 0, 1) := by decide +kernel
theorem dX13_ends_83 : decode cX13_ends 83 = .ok (.dup, 1) := by decide +kernel
theorem dX13_ends_84 : decode cX13_ends 84 = .ok (.getfield 51, 3) := by decide +kernel
theorem dX13_ends_87 : decode cX13_ends 87 = .ok (.iconst 1, 1) := by decide +kernel
theorem dX13_ends_88 : decode cX13_ends 88 = .ok (.iadd, 1) := by decide +kernel
theorem dX13_ends_89 : decode cX13_ends 89 = .ok (.putfield 51, 3) := by decide +kernel
theorem dX13_ends_92 : decode cX13_ends 92 = .ok (.iload_n 1, 1) := by decide +kernel
theorem dX13_ends_93 : decode cX13_ends 93 = .ok (.ireturn, 1) := by decide +kernel
theorem dX13_isThrown_0 : decode cX13_isThrown 0 = .ok (.aload_n 0, 1) := by decide +kernel
theorem dX13_isThrown_1 : decode cX13_isThrown 1 = .ok (.iload_n 1, 1) := by decide +kernel
theorem dX13_isThrown_2 : decode cX13_isThrown 2 = .ok (.ifCond .eq 7, 3) := by decide +kernel
theorem dX13_isThrown_5 : decode cX13_isThrown 5 = .ok (.iload_n 2, 1) := by decide +kernel
theorem dX13_isThrown_6 : decode cX13_isThrown 6 = .ok (.goto 4, 3) := by decide +kernel
theorem dX13_isThrown_9 : decode cX13_isThrown 9 = .ok (.iconst 0, 1) := by decide +kernel
theorem dX13_isThrown_10 : decode cX13_isThrown 10 = .ok (.putfield 44, 3) := by decide +kernel
theorem dX13_isThrown_13 : decode cX13_isThrown 13 = .ok (.iload_n 1, 1) := by decide +kernel
theorem dX13_isThrown_14 : decode cX13_isThrown 14 = .ok (.ireturn, 1) := by decide +kernel
theorem dX13_ofBale_0 : decode cX13_ofBale 0 = .ok (.aload_n 0, 1) := by decide +kernel
theorem dX13_ofBale_1 : decode cX13_ofBale 1 = .ok (.getfield 9, 3) := by decide +kernel
theorem dX13_ofBale_4 : decode cX13_ofBale 4 = .ok (.bipush 14, 2) := by decide +kernel
theorem dX13_ofBale_6 : decode cX13_ofBale 6 = .ok (.iconst 4, 1) := by decide +kernel
theorem dX13_ofBale_7 : decode cX13_ofBale 7 = .ok (.iload_n 1, 1) := by decide +kernel
theorem dX13_ofBale_8 : decode cX13_ofBale 8 = .ok (.imul, 1) := by decide +kernel
theorem dX13_ofBale_9 : decode cX13_ofBale 9 = .ok (.iadd, 1) := by decide +kernel
theorem dX13_ofBale_10 : decode cX13_ofBale 10 = .ok (.iload_n 2, 1) := by decide +kernel
theorem dX13_ofBale_11 : decode cX13_ofBale 11 = .ok (.iadd, 1) := by decide +kernel
theorem dX13_ofBale_12 : decode cX13_ofBale 12 = .ok (.iaload, 1) := by decide +kernel
theorem dX13_ofBale_13 : decode cX13_ofBale 13 = .ok (.ireturn, 1) := by decide +kernel
theorem dX13_ofOrder_0 : decode cX13_ofOrder 0 = .ok (.aload_n 0, 1) := by decide +kernel
theorem dX13_ofOrder_1 : decode cX13_ofOrder 1 = .ok (.getfield 9, 3) := by decide +kernel
theorem dX13_ofOrder_4 : decode cX13_ofOrder 4 = .ok (.bipush 54, 2) := by decide +kernel
theorem dX13_ofOrder_6 : decode cX13_ofOrder 6 = .ok (.iconst 3, 1) := by decide +kernel
theorem dX13_ofOrder_7 : decode cX13_ofOrder 7 = .ok (.iload_n 1, 1) := by decide +kernel
theorem dX13_ofOrder_8 : decode cX13_ofOrder 8 = .ok (.imul, 1) := by decide +kernel
theorem dX13_ofOrder_9 : decode cX13_ofOrder 9 = .ok (.iadd, 1) := by decide +kernel
theorem dX13_ofOrder_10 : decode cX13_ofOrder 10 = .ok (.iload_n 2, 1) := by decide +kernel
theorem dX13_ofOrder_11 : decode cX13_ofOrder 11 = .ok (.iadd, 1) := by decide +kernel
theorem dX13_ofOrder_12 : decode cX13_ofOrder 12 = .ok (.iaload, 1) := by decide +kernel
theorem dX13_ofOrder_13 : decode cX13_ofOrder 13 = .ok (.ireturn, 1) := by decide +kernel
theorem dX13_bale_0 : decode cX13_bale 0 = .ok (.iconst 0, 1) := by decide +kernel
theorem dX13_bale_1 : decode cX13_bale 1 = .ok (.istore_n 2, 1) := by decide +kernel
theorem dX13_bale_2 : decode cX13_bale 2 = .ok (.iload_n 2, 1) := by decide +kernel
theorem dX13_bale_3 : decode cX13_bale 3 = .ok (.aload_n 0, 1) := by decide +kernel
theorem dX13_bale_4 : decode cX13_bale 4 = .ok (.getfield 9, 3) := by decide +kernel
theorem dX13_bale_7 : decode cX13_bale 7 = .ok (.bipush 11, 2) := by decide +kernel
theorem dX13_bale_9 : decode cX13_bale 9 = .ok (.iaload, 1) := by decide +kernel
theorem dX13_bale_10 : decode cX13_bale 10 = .ok (.if_icmp .ge 21, 3) := by decide +kernel
theorem dX13_bale_13 : decode cX13_bale 13 = .ok (.aload_n 0, 1) := by decide +kernel
theorem dX13_bale_14 : decode cX13_bale 14 = .ok (.iload_n 2, 1) := by decide +kernel
theorem dX13_bale_15 : decode cX13_bale 15 = .ok (.iconst 0, 1) := by decide +kernel
theorem dX13_bale_16 : decode cX13_bale 16 = .ok (.invokevirtual 54, 3) := by decide +kernel
theorem dX13_bale_19 : decode cX13_bale 19 = .ok (.iload_n 1, 1) := by decide +kernel
theorem dX13_bale_20 : decode cX13_bale 20 = .ok (.if_icmp .ne 5, 3) := by decide +kernel
theorem dX13_bale_23 : decode cX13_bale 23 = .ok (.iload_n 2, 1) := by decide +kernel
theorem dX13_bale_24 : decode cX13_bale 24 = .ok (.ireturn, 1) := by decide +kernel
theorem dX13_bale_25 : decode cX13_bale 25 = .ok (.iinc 2 1, 3) := by decide +kernel
theorem dX13_bale_28 : decode cX13_bale 28 = .ok (.goto (-26), 3) := by decide +kernel
theorem dX13_bale_31 : decode cX13_bale 31 = .ok (.iconst (-1), 1) := by decide +kernel
theorem dX13_bale_32 : decode cX13_bale 32 = .ok (.ireturn, 1) := by decide +kernel
theorem dX13_order_0 : decode cX13_order 0 = .ok (.iconst 0, 1) := by decide +kernel
theorem dX13_order_1 : decode cX13_order 1 = .ok (.istore_n 2, 1) := by decide +kernel
theorem dX13_order_2 : decode cX13_order 2 = .ok (.iload_n 2, 1) := by decide +kernel
theorem dX13_order_3 : decode cX13_order 3 = .ok (.aload_n 0, 1) := by decide +kernel
theorem dX13_order_4 : decode cX13_order 4 = .ok (.getfield 9, 3) := by decide +kernel
theorem dX13_order_7 : decode cX13_order 7 = .ok (.bipush 12, 2) := by decide +kernel
theorem dX13_order_9 : decode cX13_order 9 = .ok (.iaload, 1) := by decide +kernel
theorem dX13_order_10 : decode cX13_order 10 = .ok (.if_icmp .ge 21, 3) := by decide +kernel
theorem dX13_order_13 : decode cX13_order 13 = .ok (.aload_n 0, 1) := by decide +kernel
theorem dX13_order_14 : decode cX13_order 14 = .ok (.iload_n 2, 1) := by decide +kernel
theorem dX13_order_15 : decode cX13_order 15 = .ok (.iconst 0, 1) := by decide +kernel
theorem dX13_order_16 : decode cX13_order 16 = .ok (.invokevirtual 58, 3) := by decide +kernel
theorem dX13_order_19 : decode cX13_order 19 = .ok (.iload_n 1, 1) := by decide +kernel
theorem dX13_order_20 : decode cX13_order 20 = .ok (.if_icmp .ne 5, 3) := by decide +kernel
theorem dX13_order_23 : decode cX13_order 23 = .ok (.iload_n 2, 1) := by decide +kernel
theorem dX13_order_24 : decode cX13_order 24 = .ok (.ireturn, 1) := by decide +kernel
theorem dX13_order_25 : decode cX13_order 25 = .ok (.iinc 2 1, 3) := by decide +kernel
theorem dX13_order_28 : decode cX13_order 28 = .ok (.goto (-26), 3) := by decide +kernel
theorem dX13_order_31 : decode cX13_order 31 = .ok (.iconst (-1), 1) := by decide +kernel
theorem dX13_order_32 : decode cX13_order 32 = .ok (.ireturn, 1) := by decide +kernel
theorem dX13_closes_0 : decode cX13_closes 0 = .ok (.iload_n 1, 1) := by decide +kernel
theorem dX13_closes_1 : decode cX13_closes 1 = .ok (.istore 4, 2) := by decide +kernel
theorem dX13_closes_3 : decode cX13_closes 3 = .ok (.iload 4, 2) := by decide +kernel
theorem dX13_closes_5 : decode cX13_closes 5 = .ok (.iload_n 3, 1) := by decide +kernel
theorem dX13_closes_6 : decode cX13_closes 6 = .ok (.iload_n 2, 1) := by decide +kernel
theorem dX13_closes_7 : decode cX13_closes 7 = .ok (.isub, 1) := by decide +kernel
theorem dX13_closes_8 : decode cX13_closes 8 = .ok (.if_icmp .ge 25, 3) := by decide +kernel
theorem dX13_closes_11 : decode cX13_closes 11 = .ok (.aload_n 0, 1) := by decide +kernel
theorem dX13_closes_12 : decode cX13_closes 12 = .ok (.getfield 9, 3) := by decide +kernel
theorem dX13_closes_15 : decode cX13_closes 15 = .ok (.iload 4, 2) := by decide +kernel
theorem dX13_closes_17 : decode cX13_closes 17 = .ok (.aload_n 0, 1) := by decide +kernel
theorem dX13_closes_18 : decode cX13_closes 18 = .ok (.getfield 9, 3) := by decide +kernel
theorem dX13_closes_21 : decode cX13_closes 21 = .ok (.iload 4, 2) := by decide +kernel
theorem dX13_closes_23 : decode cX13_closes 23 = .ok (.iload_n 2, 1) := by decide +kernel
theorem dX13_closes_24 : decode cX13_closes 24 = .ok (.iadd, 1) := by decide +kernel
theorem dX13_closes_25 : decode cX13_closes 25 = .ok (.iaload, 1) := by decide +kernel
theorem dX13_closes_26 : decode cX13_closes 26 = .ok (.iastore, 1) := by decide +kernel
theorem dX13_closes_27 : decode cX13_closes 27 = .ok (.iinc 4 1, 3) := by decide +kernel
theorem dX13_closes_30 : decode cX13_closes 30 = .ok (.goto (-27), 3) := by decide +kernel
theorem dX13_closes_33 : decode cX13_closes 33 = .ok (.iload_n 3, 1) := by decide +kernel
theorem dX13_closes_34 : decode cX13_closes 34 = .ok (.iload_n 2, 1) := by decide +kernel
theorem dX13_closes_35 : decode cX13_closes 35 = .ok (.isub, 1) := by decide +kernel
theorem dX13_closes_36 : decode cX13_closes 36 = .ok (.istore 4, 2) := by decide +kernel
theorem dX13_closes_38 : decode cX13_closes 38 = .ok (.iload 4, 2) := by decide +kernel
theorem dX13_closes_40 : decode cX13_closes 40 = .ok (.iload_n 3, 1) := by decide +kernel
theorem dX13_closes_41 : decode cX13_closes 41 = .ok (.if_icmp .ge 17, 3) := by decide +kernel
theorem dX13_closes_44 : decode cX13_closes 44 = .ok (.aload_n 0, 1) := by decide +kernel
theorem dX13_closes_45 : decode cX13_closes 45 = .ok (.getfield 9, 3) := by decide +kernel
theorem dX13_closes_48 : decode cX13_closes 48 = .ok (.iload 4, 2) := by decide +kernel
theorem dX13_closes_50 : decode cX13_closes 50 = .ok (.iconst 0, 1) := by decide +kernel
theorem dX13_closes_51 : decode cX13_closes 51 = .ok (.iastore, 1) := by decide +kernel
theorem dX13_closes_52 : decode cX13_closes 52 = .ok (.iinc 4 1, 3) := by decide +kernel
theorem dX13_closes_55 : decode cX13_closes 55 = .ok (.goto (-17), 3) := by decide +kernel
theorem dX13_closes_58 : decode cX13_closes 58 = .ok (.return_, 1) := by decide +kernel
theorem dX13_buys_0 : decode cX13_buys 0 = .ok (.iload_n 1, 1) := by decide +kernel
theorem dX13_buys_1 : decode cX13_buys 1 = .ok (.iconst 1, 1) := by decide +kernel
theorem dX13_buys_2 : decode cX13_buys 2 = .ok (.bipush 50, 2) := by decide +kernel
theorem dX13_buys_4 : decode cX13_buys 4 = .ok (.invokestatic 61, 3) := by decide +kernel
theorem dX13_buys_7 : decode cX13_buys 7 = .ok (.ifCond .eq 28, 3) := by decide +kernel
theorem dX13_buys_10 : decode cX13_buys 10 = .ok (.iload_n 2, 1) := by decide +kernel
theorem dX13_buys_11 : decode cX13_buys 11 = .ok (.bipush 10, 2) := by decide +kernel
theorem dX13_buys_13 : decode cX13_buys 13 = .ok (.bipush 60, 2) := by decide +kernel
theorem dX13_buys_15 : decode cX13_buys 15 = .ok (.invokestatic 61, 3) := by decide +kernel
theorem dX13_buys_18 : decode cX13_buys 18 = .ok (.ifCond .eq 17, 3) := by decide +kernel
theorem dX13_buys_21 : decode cX13_buys 21 = .ok (.iload_n 3, 1) := by decide +kernel
theorem dX13_buys_22 : decode cX13_buys 22 = .ok (.iconst 1, 1) := by decide +kernel
theorem dX13_buys_23 : decode cX13_buys 23 = .ok (.bipush 20, 2) := by decide +kernel
theorem dX13_buys_25 : decode cX13_buys 25 = .ok (.invokestatic 61, 3) := by decide +kernel
theorem dX13_buys_28 : decode cX13_buys 28 = .ok (.ifCond .eq 7, 3) := by decide +kernel
theorem dX13_buys_31 : decode cX13_buys 31 = .ok (.iconst 1, 1) := by decide +kernel
theorem dX13_buys_32 : decode cX13_buys 32 = .ok (.goto 4, 3) := by decide +kernel
theorem dX13_buys_35 : decode cX13_buys 35 = .ok (.iconst 0, 1) := by decide +kernel
theorem dX13_buys_36 : decode cX13_buys 36 = .ok (.istore 4, 2) := by decide +kernel
theorem dX13_buys_38 : decode cX13_buys 38 = .ok (.aload_n 0, 1) := by decide +kernel
theorem dX13_buys_39 : decode cX13_buys 39 = .ok (.iload 4, 2) := by decide +kernel
theorem dX13_buys_41 : decode cX13_buys 41 = .ok (.ifCond .ne 7, 3) := by decide +kernel
theorem dX13_buys_44 : decode cX13_buys 44 = .ok (.iconst 1, 1) := by decide +kernel
theorem dX13_buys_45 : decode cX13_buys 45 = .ok (.goto 4, 3) := by decide +kernel
theorem dX13_buys_48 : decode cX13_buys 48 = .ok (.iconst 0, 1) := by decide +kernel
theorem dX13_buys_49 : decode cX13_buys 49 = .ok (.iconst 1, 1) := by decide +kernel
theorem dX13_buys_50 : decode cX13_buys 50 = .ok (.invokevirtual 65, 3) := by decide +kernel
theorem dX13_buys_53 : decode cX13_buys 53 = .ok (.ifCond .ne 53, 3) := by decide +kernel
theorem dX13_buys_56 : decode cX13_buys 56 = .ok (.aload_n 0, 1) := by decide +kernel
theorem dX13_buys_57 : decode cX13_buys 57 = .ok (.aload_n 0, 1) := by decide +kernel
theorem dX13_buys_58 : decode cX13_buys 58 = .ok (.getfield 9, 3) := by decide +kernel
theorem dX13_buys_61 : decode cX13_buys 61 = .ok (.bipush 11, 2) := by decide +kernel
theorem dX13_buys_63 : decode cX13_buys 63 = .ok (.iaload, 1) := by decide +kernel
theorem dX13_buys_64 : decode cX13_buys 64 = .ok (.bipush 10, 2) := by decide +kernel
theorem dX13_buys_66 : decode cX13_buys 66 = .ok (.if_icmp .ne 7, 3) := by decide +kernel
theorem dX13_buys_69 : decode cX13_buys 69 = .ok (.iconst 1, 1) := by decide +kernel
theorem dX13_buys_70 : decode cX13_buys 70 = .ok (.goto 4, 3) := by decide +kernel
theorem dX13_buys_73 : decode cX13_buys 73 = .ok (.iconst 0, 1) := by decide +kernel
theorem dX13_buys_74 : decode cX13_buys 74 = .ok (.iconst 2, 1) := by decide +kernel
theorem dX13_buys_75 : decode cX13_buys 75 = .ok (.invokevirtual 65, 3) := by decide +kernel
theorem dX13_buys_78 : decode cX13_buys 78 = .ok (.ifCond .ne 28, 3) := by decide +kernel
theorem dX13_buys_81 : decode cX13_buys 81 = .ok (.aload_n 0, 1) := by decide +kernel
theorem dX13_buys_82 : decode cX13_buys 82 = .ok (.aload_n 0, 1) := by decide +kernel
theorem dX13_buys_83 : decode cX13_buys 83 = .ok (.getfield 9, 3) := by decide +kernel
theorem dX13_buys_86 : decode cX13_buys 86 = .ok (.iconst 0, 1) := by decide +kernel
theorem dX13_buys_87 : decode cX13_buys 87 = .ok (.iaload, 1) := by decide +kernel
theorem dX13_buys_88 : decode cX13_buys 88 = .ok (.iload_n 1, 1) := by decide +kernel
theorem dX13_buys_89 : decode cX13_buys 89 = .ok (.iload_n 3, 1) := by decide +kernel
theorem dX13_buys_90 : decode cX13_buys 90 = .ok (.imul, 1) := by decide +kernel
theorem dX13_buys_91 : decode cX13_buys 91 = .ok (.if_icmp .ge 7, 3) := by decide +kernel
theorem dX13_buys_94 : decode cX13_buys 94 = .ok (.iconst 1, 1) := by decide +kernel
theorem dX13_buys_95 : decode cX13_buys 95 = .ok (.goto 4, 3) := by decide +kernel
theorem dX13_buys_98 : decode cX13_buys 98 = .ok (.iconst 0, 1) := by decide +kernel
theorem dX13_buys_99 : decode cX13_buys 99 = .ok (.iconst 3, 1) := by decide +kernel
theorem dX13_buys_100 : decode cX13_buys 100 = .ok (.invokevirtual 65, 3) := by decide +kernel
theorem dX13_buys_103 : decode cX13_buys 103 = .ok (.ifCond .eq 5, 3) := by decide +kernel
theorem dX13_buys_106 : decode cX13_buys 106 = .ok (.iconst 0, 1) := by decide +kernel
theorem dX13_buys_107 : decode cX13_buys 107 = .ok (.ireturn, 1) := by decide +kernel
theorem dX13_buys_108 : decode cX13_buys 108 = .ok (.bipush 14, 2) := by decide +kernel
theorem dX13_buys_110 : decode cX13_buys 110 = .ok (.iconst 4, 1) := by decide +kernel
theorem dX13_buys_111 : decode cX13_buys 111 = .ok (.aload_n 0, 1) := by decide +kernel
theorem dX13_buys_112 : decode cX13_buys 112 = .ok (.getfield 9, 3) := by decide +kernel
theorem dX13_buys_115 : decode cX13_buys 115 = .ok (.bipush 11, 2) := by decide +kernel
theorem dX13_buys_117 : decode cX13_buys 117 = .ok (.iaload, 1) := by decide +kernel
theorem dX13_buys_118 : decode cX13_buys 118 = .ok (.imul, 1) := by decide +kernel
theorem dX13_buys_119 : decode cX13_buys 119 = .ok (.iadd, 1) := by decide +kernel
theorem dX13_buys_120 : decode cX13_buys 120 = .ok (.istore 5, 2) := by decide +kernel
theorem dX13_buys_122 : decode cX13_buys 122 = .ok (.aload_n 0, 1) := by decide +kernel
theorem dX13_buys_123 : decode cX13_buys 123 = .ok (.getfield 9, 3) := by decide +kernel
theorem dX13_buys_126 : decode cX13_buys 126 = .ok (.iload 5, 2) := by decide +kernel
theorem dX13_buys_128 : decode cX13_buys 128 = .ok (.iconst 0, 1) := by decide +kernel
theorem dX13_buys_129 : decode cX13_buys 129 = .ok (.iadd, 1) := by decide +kernel
theorem dX13_buys_130 : decode cX13_buys 130 = .ok (.aload_n 0, 1) := by decide +kernel
theorem dX13_buys_131 : decode cX13_buys 131 = .ok (.getfield 9, 3) := by decide +kernel
theorem dX13_buys_134 : decode cX13_buys 134 = .ok (.bipush 9, 2) := by decide +kernel
theorem dX13_buys_136 : decode cX13_buys 136 = .ok (.iaload, 1) := by decide +kernel
theorem dX13_buys_137 : decode cX13_buys 137 = .ok (.iastore, 1) := by decide +kernel
theorem dX13_buys_138 : decode cX13_buys 138 = .ok (.aload_n 0, 1) := by decide +kernel
theorem dX13_buys_139 : decode cX13_buys 139 = .ok (.getfield 9, 3) := by decide +kernel
theorem dX13_buys_142 : decode cX13_buys 142 = .ok (.iload 5, 2) := by decide +kernel
theorem dX13_buys_144 : decode cX13_buys 144 = .ok (.iconst 1, 1) := by decide +kernel
theorem dX13_buys_145 : decode cX13_buys 145 = .ok (.iadd, 1) := by decide +kernel
theorem dX13_buys_146 : decode cX13_buys 146 = .ok (.iload_n 1, 1) := by decide +kernel
theorem dX13_buys_147 : decode cX13_buys 147 = .ok (.iastore, 1) := by decide +kernel
theorem dX13_buys_148 : decode cX13_buys 148 = .ok (.aload_n 0, 1) := by decide +kernel
theorem dX13_buys_149 : decode cX13_buys 149 = .ok (.getfield 9, 3) := by decide +kernel
theorem dX13_buys_152 : decode cX13_buys 152 = .ok (.iload 5, 2) := by decide +kernel
theorem dX13_buys_154 : decode cX13_buys 154 = .ok (.iconst 2, 1) := by decide +kernel
theorem dX13_buys_155 : decode cX13_buys 155 = .ok (.iadd, 1) := by decide +kernel
theorem dX13_buys_156 : decode cX13_buys 156 = .ok (.iload_n 2, 1) := by decide +kernel
theorem dX13_buys_157 : decode cX13_buys 157 = .ok (.iastore, 1) := by decide +kernel
theorem dX13_buys_158 : decode cX13_buys 158 = .ok (.aload_n 0, 1) := by decide +kernel
theorem dX13_buys_159 : decode cX13_buys 159 = .ok (.getfield 9, 3) := by decide +kernel
theorem dX13_buys_162 : decode cX13_buys 162 = .ok (.iload 5, 2) := by decide +kernel
theorem dX13_buys_164 : decode cX13_buys 164 = .ok (.iconst 3, 1) := by decide +kernel
theorem dX13_buys_165 : decode cX13_buys 165 = .ok (.iadd, 1) := by decide +kernel
theorem dX13_buys_166 : decode cX13_buys 166 = .ok (.iload_n 3, 1) := by decide +kernel
theorem dX13_buys_167 : decode cX13_buys 167 = .ok (.iastore, 1) := by decide +kernel
theorem dX13_buys_168 : decode cX13_buys 168 = .ok (.aload_n 0, 1) := by decide +kernel
theorem dX13_buys_169 : decode cX13_buys 169 = .ok (.getfield 9, 3) := by decide +kernel
theorem dX13_buys_172 : decode cX13_buys 172 = .ok (.iconst 0, 1) := by decide +kernel
theorem dX13_buys_173 : decode cX13_buys 173 = .ok (.dup2, 1) := by decide +kernel
theorem dX13_buys_174 : decode cX13_buys 174 = .ok (.iaload, 1) := by decide +kernel
theorem dX13_buys_175 : decode cX13_buys 175 = .ok (.iload_n 1, 1) := by decide +kernel
theorem dX13_buys_176 : decode cX13_buys 176 = .ok (.iload_n 3, 1) := by decide +kernel
theorem dX13_buys_177 : decode cX13_buys 177 = .ok (.imul, 1) := by decide +kernel
theorem dX13_buys_178 : decode cX13_buys 178 = .ok (.isub, 1) := by decide +kernel
theorem dX13_buys_179 : decode cX13_buys 179 = .ok (.iastore, 1) := by decide +kernel
theorem dX13_buys_180 : decode cX13_buys 180 = .ok (.aload_n 0, 1) := by decide +kernel
theorem dX13_buys_181 : decode cX13_buys 181 = .ok (.getfield 9, 3) := by decide +kernel
theorem dX13_buys_184 : decode cX13_buys 184 = .ok (.iconst 4, 1) := by decide +kernel
theorem dX13_buys_185 : decode cX13_buys 185 = .ok (.dup2, 1) := by decide +kernel
theorem dX13_buys_186 : decode cX13_buys 186 = .ok (.iaload, 1) := by decide +kernel
theorem dX13_buys_187 : decode cX13_buys 187 = .ok (.iload_n 1, 1) := by decide +kernel
theorem dX13_buys_188 : decode cX13_buys 188 = .ok (.iload_n 3, 1) := by decide +kernel
theorem dX13_buys_189 : decode cX13_buys 189 = .ok (.imul, 1) := by decide +kernel
theorem dX13_buys_190 : decode cX13_buys 190 = .ok (.iadd, 1) := by decide +kernel
theorem dX13_buys_191 : decode cX13_buys 191 = .ok (.iastore, 1) := by decide +kernel
theorem dX13_buys_192 : decode cX13_buys 192 = .ok (.aload_n 0, 1) := by decide +kernel
theorem dX13_buys_193 : decode cX13_buys 193 = .ok (.getfield 9, 3) := by decide +kernel
theorem dX13_buys_196 : decode cX13_buys 196 = .ok (.bipush 11, 2) := by decide +kernel
theorem dX13_buys_198 : decode cX13_buys 198 = .ok (.dup2, 1) := by decide +kernel
theorem dX13_buys_199 : decode cX13_buys 199 = .ok (.iaload, 1) := by decide +kernel
theorem dX13_buys_200 : decode cX13_buys 200 = .ok (.iconst 1, 1) := by decide +kernel
theorem dX13_buys_201 : decode cX13_buys 201 = .ok (.iadd, 1) := by decide +kernel
theorem dX13_buys_202 : decode cX13_buys 202 = .ok (.iastore, 1) := by decide +kernel
theorem dX13_buys_203 : decode cX13_buys 203 = .ok (.aload_n 0, 1) := by decide +kernel
theorem dX13_buys_204 : decode cX13_buys 204 = .ok (.getfield 9, 3) := by decide +kernel
theorem dX13_buys_207 : decode cX13_buys 207 = .ok (.bipush 9, 2) := by decide +kernel
theorem dX13_buys_209 : decode cX13_buys 209 = .ok (.dup2, 1) := by decide +kernel
theorem dX13_buys_210 : decode cX13_buys 210 = .ok (.iaload, 1) := by decide +kernel
theorem dX13_buys_211 : decode cX13_buys 211 = .ok (.iconst 1, 1) := by decide +kernel
theorem dX13_buys_212 : decode cX13_buys 212 = .ok (.iadd, 1) := by decide +kernel
theorem dX13_buys_213 : decode cX13_buys 213 = .ok (.iastore, 1) := by decide +kernel
theorem dX13_buys_214 : decode cX13_buys 214 = .ok (.aload_n 0, 1) := by decide +kernel
theorem dX13_buys_215 : decode cX13_buys 215 = .ok (.getfield 9, 3) := by decide +kernel
theorem dX13_buys_218 : decode cX13_buys 218 = .ok (.bipush 9, 2) := by decide +kernel
theorem dX13_buys_220 : decode cX13_buys 220 = .ok (.iaload, 1) := by decide +kernel
theorem dX13_buys_221 : decode cX13_buys 221 = .ok (.iconst 1, 1) := by decide +kernel
theorem dX13_buys_222 : decode cX13_buys 222 = .ok (.isub, 1) := by decide +kernel
theorem dX13_buys_223 : decode cX13_buys 223 = .ok (.ireturn, 1) := by decide +kernel
theorem dX13_buyBale_0 : decode cX13_buyBale 0 = .ok (.aload_n 0, 1) := by decide +kernel
theorem dX13_buyBale_1 : decode cX13_buyBale 1 = .ok (.invokevirtual 69, 3) := by decide +kernel
theorem dX13_buyBale_4 : decode cX13_buyBale 4 = .ok (.aload_n 0, 1) := by decide +kernel
theorem dX13_buyBale_5 : decode cX13_buyBale 5 = .ok (.aload_n 0, 1) := by decide +kernel
theorem dX13_buyBale_6 : decode cX13_buyBale 6 = .ok (.iload_n 1, 1) := by decide +kernel
theorem dX13_buyBale_7 : decode cX13_buyBale 7 = .ok (.iload_n 2, 1) := by decide +kernel
theorem dX13_buyBale_8 : decode cX13_buyBale 8 = .ok (.iload_n 3, 1) := by decide +kernel
theorem dX13_buyBale_9 : decode cX13_buyBale 9 = .ok (.invokevirtual 72, 3) := by decide +kernel
theorem dX13_buyBale_12 : decode cX13_buyBale 12 = .ok (.invokevirtual 76, 3) := by decide +kernel
theorem dX13_buyBale_15 : decode cX13_buyBale 15 = .ok (.ireturn, 1) := by decide +kernel
theorem dX13_isBlendAsked_0 : decode cX13_isBlendAsked 0 = .ok (.iload_n 0, 1) := by decide +kernel
theorem dX13_isBlendAsked_1 : decode cX13_isBlendAsked 1 = .ok (.iconst 1, 1) := by decide +kernel
theorem dX13_isBlendAsked_2 : decode cX13_isBlendAsked 2 = .ok (.sipush 500, 3) := by decide +kernel
theorem dX13_isBlendAsked_5 : decode cX13_isBlendAsked 5 = .ok (.invokestatic 61, 3) := by decide +kernel
theorem dX13_isBlendAsked_8 : decode cX13_isBlendAsked 8 = .ok (.ifCond .eq 18, 3) := by decide +kernel
theorem dX13_isBlendAsked_11 : decode cX13_isBlendAsked 11 = .ok (.iload_n 1, 1) := by decide +kernel
theorem dX13_isBlendAsked_12 : decode cX13_isBlendAsked 12 = .ok (.bipush 10, 2) := by decide +kernel
theorem dX13_isBlendAsked_14 : decode cX13_isBlendAsked 14 = .ok (.bipush 60, 2) := by decide +kernel
theorem dX13_isBlendAsked_16 : decode cX13_isBlendAsked 16 = .ok (.invokestatic 61, 3) := by decide +kernel
theorem dX13_isBlendAsked_19 : decode cX13_isBlendAsked 19 = .ok (.ifCond .eq 7, 3) := by decide +kernel
theorem dX13_isBlendAsked_22 : decode cX13_isBlendAsked 22 = .ok (.iconst 1, 1) := by decide +kernel
theorem dX13_isBlendAsked_23 : decode cX13_isBlendAsked 23 = .ok (.goto 4, 3) := by decide +kernel
theorem dX13_isBlendAsked_26 : decode cX13_isBlendAsked 26 = .ok (.iconst 0, 1) := by decide +kernel
theorem dX13_isBlendAsked_27 : decode cX13_isBlendAsked 27 = .ok (.ireturn, 1) := by decide +kernel
theorem dX13_sum_0 : decode cX13_sum 0 = .ok (.iconst 0, 1) := by decide +kernel
theorem dX13_sum_1 : decode cX13_sum 1 = .ok (.istore_n 3, 1) := by decide +kernel
theorem dX13_sum_2 : decode cX13_sum 2 = .ok (.iconst 0, 1) := by decide +kernel
theorem dX13_sum_3 : decode cX13_sum 3 = .ok (.istore 4, 2) := by decide +kernel
theorem dX13_sum_5 : decode cX13_sum 5 = .ok (.iload 4, 2) := by decide +kernel
theorem dX13_sum_7 : decode cX13_sum 7 = .ok (.aload_n 0, 1) := by decide +kernel
theorem dX13_sum_8 : decode cX13_sum 8 = .ok (.getfield 9, 3) := by decide +kernel
theorem dX13_sum_11 : decode cX13_sum 11 = .ok (.bipush 11, 2) := by decide +kernel
theorem dX13_sum_13 : decode cX13_sum 13 = .ok (.iaload, 1) := by decide +kernel
theorem dX13_sum_14 : decode cX13_sum 14 = .ok (.if_icmp .ge 60, 3) := by decide +kernel
theorem dX13_sum_17 : decode cX13_sum 17 = .ok (.iload_n 1, 1) := by decide +kernel
theorem dX13_sum_18 : decode cX13_sum 18 = .ok (.iload 4, 2) := by decide +kernel
theorem dX13_sum_20 : decode cX13_sum 20 = .ok (.ishr, 1) := by decide +kernel
theorem dX13_sum_21 : decode cX13_sum 21 = .ok (.iconst 1, 1) := by decide +kernel
theorem dX13_sum_22 : decode cX13_sum 22 = .ok (.iand, 1) := by decide +kernel
theorem dX13_sum_23 : decode cX13_sum 23 = .ok (.iconst 1, 1) := by decide +kernel
theorem dX13_sum_24 : decode cX13_sum 24 = .ok (.if_icmp .ne 44, 3) := by decide +kernel
theorem dX13_sum_27 : decode cX13_sum 27 = .ok (.iload_n 3, 1) := by decide +kernel
theorem dX13_sum_28 : decode cX13_sum 28 = .ok (.aload_n 0, 1) := by decide +kernel
theorem dX13_sum_29 : decode cX13_sum 29 = .ok (.iload 4, 2) := by decide +kernel
theorem dX13_sum_31 : decode cX13_sum 31 = .ok (.iconst 1, 1) := by decide +kernel
theorem dX13_sum_32 : decode cX13_sum 32 = .ok (.invokevirtual 54, 3) := by decide +kernel
theorem dX13_sum_35 : decode cX13_sum 35 = .ok (.iload_n 2, 1) := by decide +kernel
theorem dX13_sum_36 : decode cX13_sum 36 = .ok (.ifCond .ne 7, 3) := by decide +kernel
theorem dX13_sum_39 : decode cX13_sum 39 = .ok (.iconst 1, 1) := by decide +kernel
theorem dX13_sum_40 : decode cX13_sum 40 = .ok (.goto 25, 3) := by decide +kernel
theorem dX13_sum_43 : decode cX13_sum 43 = .ok (.iload_n 2, 1) := by decide +kernel
theorem dX13_sum_44 : decode cX13_sum 44 = .ok (.iconst 1, 1) := by decide +kernel
theorem dX13_sum_45 : decode cX13_sum 45 = .ok (.if_icmp .ne 13, 3) := by decide +kernel
theorem dX13_sum_48 : decode cX13_sum 48 = .ok (.aload_n 0, 1) := by decide +kernel
theorem dX13_sum_49 : decode cX13_sum 49 = .ok (.iload 4, 2) := by decide +kernel
theorem dX13_sum_51 : decode cX13_sum 51 = .ok (.iconst 3, 1) := by decide +kernel
theorem dX13_sum_52 : decode cX13_sum 52 = .ok (.invokevirtual 54, 3) := by decide +kernel
theorem dX13_sum_55 : decode cX13_sum 55 = .ok (.goto 10, 3) := by decide +kernel
theorem dX13_sum_58 : decode cX13_sum 58 = .ok (.aload_n 0, 1) := by decide +kernel
theorem dX13_sum_59 : decode cX13_sum 59 = .ok (.iload 4, 2) := by decide +kernel
theorem dX13_sum_61 : decode cX13_sum 61 = .ok (.iconst 2, 1) := by decide +kernel
theorem dX13_sum_62 : decode cX13_sum 62 = .ok (.invokevirtual 54, 3) := by decide +kernel
theorem dX13_sum_65 : decode cX13_sum 65 = .ok (.imul, 1) := by decide +kernel
theorem dX13_sum_66 : decode cX13_sum 66 = .ok (.iadd, 1) := by decide +kernel
theorem dX13_sum_67 : decode cX13_sum 67 = .ok (.istore_n 3, 1) := by decide +kernel
theorem dX13_sum_68 : decode cX13_sum 68 = .ok (.iinc 4 1, 3) := by decide +kernel
theorem dX13_sum_71 : decode cX13_sum 71 = .ok (.goto (-66), 3) := by decide +kernel
theorem dX13_sum_74 : decode cX13_sum 74 = .ok (.iload_n 3, 1) := by decide +kernel
theorem dX13_sum_75 : decode cX13_sum 75 = .ok (.ireturn, 1) := by decide +kernel
theorem dX13_isBetter_0 : decode cX13_isBetter 0 = .ok (.iload_n 2, 1) := by decide +kernel
theorem dX13_isBetter_1 : decode cX13_isBetter 1 = .ok (.ifCond .eq 18, 3) := by decide +kernel
theorem dX13_isBetter_4 : decode cX13_isBetter 4 = .ok (.aload_n 0, 1) := by decide +kernel
theorem dX13_isBetter_5 : decode cX13_isBetter 5 = .ok (.iload_n 1, 1) := by decide +kernel
theorem dX13_isBetter_6 : decode cX13_isBetter 6 = .ok (.iconst 1, 1) := by decide +kernel
theorem dX13_isBetter_7 : decode cX13_isBetter 7 = .ok (.invokevirtual 80, 3) := by decide +kernel
theorem dX13_isBetter_10 : decode cX13_isBetter 10 = .ok (.aload_n 0, 1) := by decide +kernel
theorem dX13_isBetter_11 : decode cX13_isBetter 11 = .ok (.iload_n 2, 1) := by decide +kernel
theorem dX13_isBetter_12 : decode cX13_isBetter 12 = .ok (.iconst 1, 1) := by decide +kernel
theorem dX13_isBetter_13 : decode cX13_isBetter 13 = .ok (.invokevirtual 80, 3) := by decide +kernel
theorem dX13_isBetter_16 : decode cX13_isBetter 16 = .ok (.if_icmp .eq 28, 3) := by decide +kernel
theorem dX13_isBetter_19 : decode cX13_isBetter 19 = .ok (.iload_n 2, 1) := by decide +kernel
theorem dX13_isBetter_20 : decode cX13_isBetter 20 = .ok (.ifCond .eq 18, 3) := by decide +kernel
theorem dX13_isBetter_23 : decode cX13_isBetter 23 = .ok (.aload_n 0, 1) := by decide +kernel
theorem dX13_isBetter_24 : decode cX13_isBetter 24 = .ok (.iload_n 1, 1) := by decide +kernel
theorem dX13_isBetter_25 : decode cX13_isBetter 25 = .ok (.iconst 1, 1) := by decide +kernel
theorem dX13_isBetter_26 : decode cX13_isBetter 26 = .ok (.invokevirtual 80, 3) := by decide +kernel
theorem dX13_isBetter_29 : decode cX13_isBetter 29 = .ok (.aload_n 0, 1) := by decide +kernel
theorem dX13_isBetter_30 : decode cX13_isBetter 30 = .ok (.iload_n 2, 1) := by decide +kernel
theorem dX13_isBetter_31 : decode cX13_isBetter 31 = .ok (.iconst 1, 1) := by decide +kernel
theorem dX13_isBetter_32 : decode cX13_isBetter 32 = .ok (.invokevirtual 80, 3) := by decide +kernel
theorem dX13_isBetter_35 : decode cX13_isBetter 35 = .ok (.if_icmp .ge 7, 3) := by decide +kernel
theorem dX13_isBetter_38 : decode cX13_isBetter 38 = .ok (.iconst 1, 1) := by decide +kernel
theorem dX13_isBetter_39 : decode cX13_isBetter 39 = .ok (.goto 4, 3) := by decide +kernel
theorem dX13_isBetter_42 : decode cX13_isBetter 42 = .ok (.iconst 0, 1) := by decide +kernel
theorem dX13_isBetter_43 : decode cX13_isBetter 43 = .ok (.ireturn, 1) := by decide +kernel
theorem dX13_isBetter_44 : decode cX13_isBetter 44 = .ok (.aload_n 0, 1) := by decide +kernel
theorem dX13_isBetter_45 : decode cX13_isBetter 45 = .ok (.iload_n 1, 1) := by decide +kernel
theorem dX13_isBetter_46 : decode cX13_isBetter 46 = .ok (.iconst 0, 1) := by decide +kernel
theorem dX13_isBetter_47 : decode cX13_isBetter 47 = .ok (.invokevirtual 80, 3) := by decide +kernel
theorem dX13_isBetter_50 : decode cX13_isBetter 50 = .ok (.aload_n 0, 1) := by decide +kernel
theorem dX13_isBetter_51 : decode cX13_isBetter 51 = .ok (.iload_n 2, 1) := by decide +kernel
theorem dX13_isBetter_52 : decode cX13_isBetter 52 = .ok (.iconst 0, 1) := by decide +kernel
theorem dX13_isBetter_53 : decode cX13_isBetter 53 = .ok (.invokevirtual 80, 3) := by decide +kernel
theorem dX13_isBetter_56 : decode cX13_isBetter 56 = .ok (.if_icmp .eq 24, 3) := by decide +kernel
theorem dX13_isBetter_59 : decode cX13_isBetter 59 = .ok (.aload_n 0, 1) := by decide +kernel
theorem dX13_isBetter_60 : decode cX13_isBetter 60 = .ok (.iload_n 1, 1) := by decide +kernel
theorem dX13_isBetter_61 : decode cX13_isBetter 61 = .ok (.iconst 0, 1) := by decide +kernel
theorem dX13_isBetter_62 : decode cX13_isBetter 62 = .ok (.invokevirtual 80, 3) := by decide +kernel
theorem dX13_isBetter_65 : decode cX13_isBetter 65 = .ok (.aload_n 0, 1) := by decide +kernel
theorem dX13_isBetter_66 : decode cX13_isBetter 66 = .ok (.iload_n 2, 1) := by decide +kernel
theorem dX13_isBetter_67 : decode cX13_isBetter 67 = .ok (.iconst 0, 1) := by decide +kernel
theorem dX13_isBetter_68 : decode cX13_isBetter 68 = .ok (.invokevirtual 80, 3) := by decide +kernel
theorem dX13_isBetter_71 : decode cX13_isBetter 71 = .ok (.if_icmp .ge 7, 3) := by decide +kernel
theorem dX13_isBetter_74 : decode cX13_isBetter 74 = .ok (.iconst 1, 1) := by decide +kernel
theorem dX13_isBetter_75 : decode cX13_isBetter 75 = .ok (.goto 4, 3) := by decide +kernel
theorem dX13_isBetter_78 : decode cX13_isBetter 78 = .ok (.iconst 0, 1) := by decide +kernel
theorem dX13_isBetter_79 : decode cX13_isBetter 79 = .ok (.ireturn, 1) := by decide +kernel
theorem dX13_isBetter_80 : decode cX13_isBetter 80 = .ok (.iload_n 1, 1) := by decide +kernel
theorem dX13_isBetter_81 : decode cX13_isBetter 81 = .ok (.iload_n 2, 1) := by decide +kernel
theorem dX13_isBetter_82 : decode cX13_isBetter 82 = .ok (.ixor, 1) := by decide +kernel
theorem dX13_isBetter_83 : decode cX13_isBetter 83 = .ok (.istore_n 3, 1) := by decide +kernel
theorem dX13_isBetter_84 : decode cX13_isBetter 84 = .ok (.iload_n 1, 1) := by decide +kernel
theorem dX13_isBetter_85 : decode cX13_isBetter 85 = .ok (.iload_n 3, 1) := by decide +kernel
theorem dX13_isBetter_86 : decode cX13_isBetter 86 = .ok (.iand, 1) := by decide +kernel
theorem dX13_isBetter_87 : decode cX13_isBetter 87 = .ok (.iload_n 3, 1) := by decide +kernel
theorem dX13_isBetter_88 : decode cX13_isBetter 88 = .ok (.ineg, 1) := by decide +kernel
theorem dX13_isBetter_89 : decode cX13_isBetter 89 = .ok (.iand, 1) := by decide +kernel
theorem dX13_isBetter_90 : decode cX13_isBetter 90 = .ok (.ifCond .eq 7, 3) := by decide +kernel
theorem dX13_isBetter_93 : decode cX13_isBetter 93 = .ok (.iconst 1, 1) := by decide +kernel
theorem dX13_isBetter_94 : decode cX13_isBetter 94 = .ok (.goto 4, 3) := by decide +kernel
theorem dX13_isBetter_97 : decode cX13_isBetter 97 = .ok (.iconst 0, 1) := by decide +kernel
theorem dX13_isBetter_98 : decode cX13_isBetter 98 = .ok (.ireturn, 1) := by decide +kernel
theorem dX13_best_0 : decode cX13_best 0 = .ok (.iconst 0, 1) := by decide +kernel
theorem dX13_best_1 : decode cX13_best 1 = .ok (.istore_n 3, 1) := by decide +kernel
theorem dX13_best_2 : decode cX13_best 2 = .ok (.iconst 1, 1) := by decide +kernel
theorem dX13_best_3 : decode cX13_best 3 = .ok (.istore 4, 2) := by decide +kernel
theorem dX13_best_5 : decode cX13_best 5 = .ok (.iload 4, 2) := by decide +kernel
theorem dX13_best_7 : decode cX13_best 7 = .ok (.iconst 1, 1) := by decide +kernel
theorem dX13_best_8 : decode cX13_best 8 = .ok (.aload_n 0, 1) := by decide +kernel
theorem dX13_best_9 : decode cX13_best 9 = .ok (.getfield 9, 3) := by decide +kernel
theorem dX13_best_12 : decode cX13_best 12 = .ok (.bipush 11, 2) := by decide +kernel
theorem dX13_best_14 : decode cX13_best 14 = .ok (.iaload, 1) := by decide +kernel
theorem dX13_best_15 : decode cX13_best 15 = .ok (.ishl, 1) := by decide +kernel
theorem dX13_best_16 : decode cX13_best 16 = .ok (.if_icmp .ge 51, 3) := by decide +kernel
theorem dX13_best_19 : decode cX13_best 19 = .ok (.aload_n 0, 1) := by decide +kernel
theorem dX13_best_20 : decode cX13_best 20 = .ok (.iload 4, 2) := by decide +kernel
theorem dX13_best_22 : decode cX13_best 22 = .ok (.iconst 0, 1) := by decide +kernel
theorem dX13_best_23 : decode cX13_best 23 = .ok (.invokevirtual 80, 3) := by decide +kernel
theorem dX13_best_26 : decode cX13_best 26 = .ok (.istore 5, 2) := by decide +kernel
theorem dX13_best_28 : decode cX13_best 28 = .ok (.iload 5, 2) := by decide +kernel
theorem dX13_best_30 : decode cX13_best 30 = .ok (.iload_n 1, 1) := by decide +kernel
theorem dX13_best_31 : decode cX13_best 31 = .ok (.if_icmp .lt 30, 3) := by decide +kernel
theorem dX13_best_34 : decode cX13_best 34 = .ok (.aload_n 0, 1) := by decide +kernel
theorem dX13_best_35 : decode cX13_best 35 = .ok (.iload 4, 2) := by decide +kernel
theorem dX13_best_37 : decode cX13_best 37 = .ok (.iconst 2, 1) := by decide +kernel
theorem dX13_best_38 : decode cX13_best 38 = .ok (.invokevirtual 80, 3) := by decide +kernel
theorem dX13_best_41 : decode cX13_best 41 = .ok (.iload_n 2, 1) := by decide +kernel
theorem dX13_best_42 : decode cX13_best 42 = .ok (.iload 5, 2) := by decide +kernel
theorem dX13_best_44 : decode cX13_best 44 = .ok (.imul, 1) := by decide +kernel
theorem dX13_best_45 : decode cX13_best 45 = .ok (.if_icmp .lt 16, 3) := by decide +kernel
theorem dX13_best_48 : decode cX13_best 48 = .ok (.aload_n 0, 1) := by decide +kernel
theorem dX13_best_49 : decode cX13_best 49 = .ok (.iload 4, 2) := by decide +kernel
theorem dX13_best_51 : decode cX13_best 51 = .ok (.iload_n 3, 1) := by decide +kernel
theorem dX13_best_52 : decode cX13_best 52 = .ok (.invokevirtual 83, 3) := by decide +kernel
theorem dX13_best_55 : decode cX13_best 55 = .ok (.ifCond .eq 6, 3) := by decide +kernel
theorem dX13_best_58 : decode cX13_best 58 = .ok (.iload 4, 2) := by decide +kernel
theorem dX13_best_60 : decode cX13_best 60 = .ok (.istore_n 3, 1) := by decide +kernel
theorem dX13_best_61 : decode cX13_best 61 = .ok (.iinc 4 1, 3) := by decide +kernel
theorem dX13_best_64 : decode cX13_best 64 = .ok (.goto (-59), 3) := by decide +kernel
theorem dX13_best_67 : decode cX13_best 67 = .ok (.iload_n 3, 1) := by decide +kernel
theorem dX13_best_68 : decode cX13_best 68 = .ok (.ireturn, 1) := by decide +kernel
theorem dX13_blends_0 : decode cX13_blends 0 = .ok (.aload_n 0, 1) := by decide +kernel
theorem dX13_blends_1 : decode cX13_blends 1 = .ok (.iload_n 1, 1) := by decide +kernel
theorem dX13_blends_2 : decode cX13_blends 2 = .ok (.iload_n 2, 1) := by decide +kernel
theorem dX13_blends_3 : decode cX13_blends 3 = .ok (.invokestatic 87, 3) := by decide +kernel
theorem dX13_blends_6 : decode cX13_blends 6 = .ok (.ifCond .ne 7, 3) := by decide +kernel
theorem dX13_blends_9 : decode cX13_blends 9 = .ok (.iconst 1, 1) := by decide +kernel
theorem dX13_blends_10 : decode cX13_blends 10 = .ok (.goto 4, 3) := by decide +kernel
theorem dX13_blends_13 : decode cX13_blends 13 = .ok (.iconst 0, 1) := by decide +kernel
theorem dX13_blends_14 : decode cX13_blends 14 = .ok (.iconst 1, 1) := by decide +kernel
theorem dX13_blends_15 : decode cX13_blends 15 = .ok (.invokevirtual 65, 3) := by decide +kernel
theorem dX13_blends_18 : decode cX13_blends 18 = .ok (.ifCond .eq 5, 3) := by decide +kernel
theorem dX13_blends_21 : decode cX13_blends 21 = .ok (.iconst 0, 1) := by decide +kernel
theorem dX13_blends_22 : decode cX13_blends 22 = .ok (.ireturn, 1) := by decide +kernel
theorem dX13_blends_23 : decode cX13_blends 23 = .ok (.aload_n 0, 1) := by decide +kernel
theorem dX13_blends_24 : decode cX13_blends 24 = .ok (.iload_n 1, 1) := by decide +kernel
theorem dX13_blends_25 : decode cX13_blends 25 = .ok (.iload_n 2, 1) := by decide +kernel
theorem dX13_blends_26 : decode cX13_blends 26 = .ok (.invokevirtual 90, 3) := by decide +kernel
theorem dX13_blends_29 : decode cX13_blends 29 = .ok (.istore_n 3, 1) := by decide +kernel
theorem dX13_blends_30 : decode cX13_blends 30 = .ok (.aload_n 0, 1) := by decide +kernel
theorem dX13_blends_31 : decode cX13_blends 31 = .ok (.iload_n 3, 1) := by decide +kernel
theorem dX13_blends_32 : decode cX13_blends 32 = .ok (.iconst 0, 1) := by decide +kernel
theorem dX13_blends_33 : decode cX13_blends 33 = .ok (.invokevirtual 80, 3) := by decide +kernel
theorem dX13_blends_36 : decode cX13_blends 36 = .ok (.istore 4, 2) := by decide +kernel
theorem dX13_blends_38 : decode cX13_blends 38 = .ok (.aload_n 0, 1) := by decide +kernel
theorem dX13_blends_39 : decode cX13_blends 39 = .ok (.iload_n 3, 1) := by decide +kernel
theorem dX13_blends_40 : decode cX13_blends 40 = .ok (.ifCond .ne 7, 3) := by decide +kernel
theorem dX13_blends_43 : decode cX13_blends 43 = .ok (.iconst 1, 1) := by decide +kernel
theorem dX13_blends_44 : decode cX13_blends 44 = .ok (.goto 4, 3) := by decide +kernel
theorem dX13_blends_47 : decode cX13_blends 47 = .ok (.iconst 0, 1) := by decide +kernel
theorem dX13_blends_48 : decode cX13_blends 48 = .ok (.iconst 2, 1) := by decide +kernel
theorem dX13_blends_49 : decode cX13_blends 49 = .ok (.invokevirtual 65, 3) := by decide +kernel
theorem dX13_blends_52 : decode cX13_blends 52 = .ok (.ifCond .ne 31, 3) := by decide +kernel
theorem dX13_blends_55 : decode cX13_blends 55 = .ok (.aload_n 0, 1) := by decide +kernel
theorem dX13_blends_56 : decode cX13_blends 56 = .ok (.aload_n 0, 1) := by decide +kernel
theorem dX13_blends_57 : decode cX13_blends 57 = .ok (.getfield 9, 3) := by decide +kernel
theorem dX13_blends_60 : decode cX13_blends 60 = .ok (.iconst 1, 1) := by decide +kernel
theorem dX13_blends_61 : decode cX13_blends 61 = .ok (.iaload, 1) := by decide +kernel
theorem dX13_blends_62 : decode cX13_blends 62 = .ok (.iload 4, 2) := by decide +kernel
theorem dX13_blends_64 : decode cX13_blends 64 = .ok (.iadd, 1) := by decide +kernel
theorem dX13_blends_65 : decode cX13_blends 65 = .ok (.sipush 999, 3) := by decide +kernel
theorem dX13_blends_68 : decode cX13_blends 68 = .ok (.if_icmp .le 7, 3) := by decide +kernel
theorem dX13_blends_71 : decode cX13_blends 71 = .ok (.iconst 1, 1) := by decide +kernel
theorem dX13_blends_72 : decode cX13_blends 72 = .ok (.goto 4, 3) := by decide +kernel
theorem dX13_blends_75 : decode cX13_blends 75 = .ok (.iconst 0, 1) := by decide +kernel
theorem dX13_blends_76 : decode cX13_blends 76 = .ok (.iconst 3, 1) := by decide +kernel
theorem dX13_blends_77 : decode cX13_blends 77 = .ok (.invokevirtual 65, 3) := by decide +kernel
theorem dX13_blends_80 : decode cX13_blends 80 = .ok (.ifCond .eq 5, 3) := by decide +kernel
theorem dX13_blends_83 : decode cX13_blends 83 = .ok (.iconst 0, 1) := by decide +kernel
theorem dX13_blends_84 : decode cX13_blends 84 = .ok (.ireturn, 1) := by decide +kernel
theorem dX13_blends_85 : decode cX13_blends 85 = .ok (.aload_n 0, 1) := by decide +kernel
theorem dX13_blends_86 : decode cX13_blends 86 = .ok (.getfield 9, 3) := by decide +kernel
theorem dX13_blends_89 : decode cX13_blends 89 = .ok (.bipush 11, 2) := by decide +kernel
theorem dX13_blends_91 : decode cX13_blends 91 = .ok (.iaload, 1) := by decide +kernel
theorem dX13_blends_92 : decode cX13_blends 92 = .ok (.iconst 1, 1) := by decide +kernel
theorem dX13_blends_93 : decode cX13_blends 93 = .ok (.isub, 1) := by decide +kernel
theorem dX13_blends_94 : decode cX13_blends 94 = .ok (.istore 5, 2) := by decide +kernel
theorem dX13_blends_96 : decode cX13_blends 96 = .ok (.iload 5, 2) := by decide +kernel
theorem dX13_blends_98 : decode cX13_blends 98 = .ok (.ifCond .lt 44, 3) := by decide +kernel
theorem dX13_blends_101 : decode cX13_blends 101 = .ok (.iload_n 3, 1) := by decide +kernel
theorem dX13_blends_102 : decode cX13_blends 102 = .ok (.iload 5, 2) := by decide +kernel
theorem dX13_blends_104 : decode cX13_blends 104 = .ok (.ishr, 1) := by decide +kernel
theorem dX13_blends_105 : decode cX13_blends 105 = .ok (.iconst 1, 1) := by decide +kernel
theorem dX13_blends_106 : decode cX13_blends 106 = .ok (.iand, 1) := by decide +kernel
theorem dX13_blends_107 : decode cX13_blends 107 = .ok (.iconst 1, 1) := by decide +kernel
theorem dX13_blends_108 : decode cX13_blends 108 = .ok (.if_icmp .ne 28, 3) := by decide +kernel
theorem dX13_blends_111 : decode cX13_blends 111 = .ok (.aload_n 0, 1) := by decide +kernel
theorem dX13_blends_112 : decode cX13_blends 112 = .ok (.bipush 14, 2) := by decide +kernel
theorem dX13_blends_114 : decode cX13_blends 114 = .ok (.iconst 4, 1) := by decide +kernel
theorem dX13_blends_115 : decode cX13_blends 115 = .ok (.iload 5, 2) := by decide +kernel
theorem dX13_blends_117 : decode cX13_blends 117 = .ok (.imul, 1) := by decide +kernel
theorem dX13_blends_118 : decode cX13_blends 118 = .ok (.iadd, 1) := by decide +kernel
theorem dX13_blends_119 : decode cX13_blends 119 = .ok (.iconst 4, 1) := by decide +kernel
theorem dX13_blends_120 : decode cX13_blends 120 = .ok (.bipush 54, 2) := by decide +kernel
theorem dX13_blends_122 : decode cX13_blends 122 = .ok (.invokevirtual 93, 3) := by decide +kernel
theorem dX13_blends_125 : decode cX13_blends 125 = .ok (.aload_n 0, 1) := by decide +kernel
theorem dX13_blends_126 : decode cX13_blends 126 = .ok (.getfield 9, 3) := by decide +kernel
theorem dX13_blends_129 : decode cX13_blends 129 = .ok (.bipush 11, 2) := by decide +kernel
theorem dX13_blends_131 : decode cX13_blends 131 = .ok (.dup2, 1) := by decide +kernel
theorem dX13_blends_132 : decode cX13_blends 132 = .ok (.iaload, 1) := by decide +kernel
theorem dX13_blends_133 : decode cX13_blends 133 = .ok (.iconst 1, 1) := by decide +kernel
theorem dX13_blends_134 : decode cX13_blends 134 = .ok (.isub, 1) := by decide +kernel
theorem dX13_blends_135 : decode cX13_blends 135 = .ok (.iastore, 1) := by decide +kernel
theorem dX13_blends_136 : decode cX13_blends 136 = .ok (.iinc 5 (-1), 3) := by decide +kernel
theorem dX13_blends_139 : decode cX13_blends 139 = .ok (.goto (-43), 3) := by decide +kernel
theorem dX13_blends_142 : decode cX13_blends 142 = .ok (.aload_n 0, 1) := by decide +kernel
theorem dX13_blends_143 : decode cX13_blends 143 = .ok (.getfield 9, 3) := by decide +kernel
theorem dX13_blends_146 : decode cX13_blends 146 = .ok (.iconst 1, 1) := by decide +kernel
theorem dX13_blends_147 : decode cX13_blends 147 = .ok (.dup2, 1) := by decide +kernel
theorem dX13_blends_148 : decode cX13_blends 148 = .ok (.iaload, 1) := by decide +kernel
theorem dX13_blends_149 : decode cX13_blends 149 = .ok (.iload 4, 2) := by decide +kernel
theorem dX13_blends_151 : decode cX13_blends 151 = .ok (.iadd, 1) := by decide +kernel
theorem dX13_blends_152 : decode cX13_blends 152 = .ok (.iastore, 1) := by decide +kernel
theorem dX13_blends_153 : decode cX13_blends 153 = .ok (.aload_n 0, 1) := by decide +kernel
theorem dX13_blends_154 : decode cX13_blends 154 = .ok (.getfield 9, 3) := by decide +kernel
theorem dX13_blends_157 : decode cX13_blends 157 = .ok (.iconst 1, 1) := by decide +kernel
theorem dX13_blends_158 : decode cX13_blends 158 = .ok (.iaload, 1) := by decide +kernel
theorem dX13_blends_159 : decode cX13_blends 159 = .ok (.ireturn, 1) := by decide +kernel
theorem dX13_blend_0 : decode cX13_blend 0 = .ok (.aload_n 0, 1) := by decide +kernel
theorem dX13_blend_1 : decode cX13_blend 1 = .ok (.invokevirtual 69, 3) := by decide +kernel
theorem dX13_blend_4 : decode cX13_blend 4 = .ok (.aload_n 0, 1) := by decide +kernel
theorem dX13_blend_5 : decode cX13_blend 5 = .ok (.aload_n 0, 1) := by decide +kernel
theorem dX13_blend_6 : decode cX13_blend 6 = .ok (.iload_n 1, 1) := by decide +kernel
theorem dX13_blend_7 : decode cX13_blend 7 = .ok (.iload_n 2, 1) := by decide +kernel
theorem dX13_blend_8 : decode cX13_blend 8 = .ok (.invokevirtual 97, 3) := by decide +kernel
theorem dX13_blend_11 : decode cX13_blend 11 = .ok (.invokevirtual 76, 3) := by decide +kernel
theorem dX13_blend_14 : decode cX13_blend 14 = .ok (.ireturn, 1) := by decide +kernel
theorem dX13_opens_0 : decode cX13_opens 0 = .ok (.aload_n 0, 1) := by decide +kernel
theorem dX13_opens_1 : decode cX13_opens 1 = .ok (.iload_n 1, 1) := by decide +kernel
theorem dX13_opens_2 : decode cX13_opens 2 = .ok (.iconst 1, 1) := by decide +kernel
theorem dX13_opens_3 : decode cX13_opens 3 = .ok (.bipush 40, 2) := by decide +kernel
theorem dX13_opens_5 : decode cX13_opens 5 = .ok (.invokestatic 61, 3) := by decide +kernel
theorem dX13_opens_8 : decode cX13_opens 8 = .ok (.ifCond .eq 13, 3) := by decide +kernel
theorem dX13_opens_11 : decode cX13_opens 11 = .ok (.iload_n 2, 1) := by decide +kernel
theorem dX13_opens_12 : decode cX13_opens 12 = .ok (.iconst 1, 1) := by decide +kernel
theorem dX13_opens_13 : decode cX13_opens 13 = .ok (.bipush 9, 2) := by decide +kernel
theorem dX13_opens_15 : decode cX13_opens 15 = .ok (.invokestatic 61, 3) := by decide +kernel
theorem dX13_opens_18 : decode cX13_opens 18 = .ok (.ifCond .ne 7, 3) := by decide +kernel
theorem dX13_opens_21 : decode cX13_opens 21 = .ok (.iconst 1, 1) := by decide +kernel
theorem dX13_opens_22 : decode cX13_opens 22 = .ok (.goto 4, 3) := by decide +kernel
theorem dX13_opens_25 : decode cX13_opens 25 = .ok (.iconst 0, 1) := by decide +kernel
theorem dX13_opens_26 : decode cX13_opens 26 = .ok (.iconst 1, 1) := by decide +kernel
theorem dX13_opens_27 : decode cX13_opens 27 = .ok (.invokevirtual 65, 3) := by decide +kernel
theorem dX13_opens_30 : decode cX13_opens 30 = .ok (.ifCond .ne 28, 3) := by decide +kernel
theorem dX13_opens_33 : decode cX13_opens 33 = .ok (.aload_n 0, 1) := by decide +kernel
theorem dX13_opens_34 : decode cX13_opens 34 = .ok (.aload_n 0, 1) := by decide +kernel
theorem dX13_opens_35 : decode cX13_opens 35 = .ok (.getfield 9, 3) := by decide +kernel
theorem dX13_opens_38 : decode cX13_opens 38 = .ok (.bipush 12, 2) := by decide +kernel
theorem dX13_opens_40 : decode cX13_opens 40 = .ok (.iaload, 1) := by decide +kernel
theorem dX13_opens_41 : decode cX13_opens 41 = .ok (.bipush 8, 2) := by decide +kernel
theorem dX13_opens_43 : decode cX13_opens 43 = .ok (.if_icmp .ne 7, 3) := by decide +kernel
theorem dX13_opens_46 : decode cX13_opens 46 = .ok (.iconst 1, 1) := by decide +kernel
theorem dX13_opens_47 : decode cX13_opens 47 = .ok (.goto 4, 3) := by decide +kernel
theorem dX13_opens_50 : decode cX13_opens 50 = .ok (.iconst 0, 1) := by decide +kernel
theorem dX13_opens_51 : decode cX13_opens 51 = .ok (.iconst 2, 1) := by decide +kernel
theorem dX13_opens_52 : decode cX13_opens 52 = .ok (.invokevirtual 65, 3) := by decide +kernel
theorem dX13_opens_55 : decode cX13_opens 55 = .ok (.ifCond .eq 5, 3) := by decide +kernel
theorem dX13_opens_58 : decode cX13_opens 58 = .ok (.iconst 0, 1) := by decide +kernel
theorem dX13_opens_59 : decode cX13_opens 59 = .ok (.ireturn, 1) := by decide +kernel
theorem dX13_opens_60 : decode cX13_opens 60 = .ok (.bipush 54, 2) := by decide +kernel
theorem dX13_opens_62 : decode cX13_opens 62 = .ok (.iconst 3, 1) := by decide +kernel
theorem dX13_opens_63 : decode cX13_opens 63 = .ok (.aload_n 0, 1) := by decide +kernel
theorem dX13_opens_64 : decode cX13_opens 64 = .ok (.getfield 9, 3) := by decide +kernel
theorem dX13_opens_67 : decode cX13_opens 67 = .ok (.bipush 12, 2) := by decide +kernel
theorem dX13_opens_69 : decode cX13_opens 69 = .ok (.iaload, 1) := by decide +kernel
theorem dX13_opens_70 : decode cX13_opens 70 = .ok (.imul, 1) := by decide +kernel
theorem dX13_opens_71 : decode cX13_opens 71 = .ok (.iadd, 1) := by decide +kernel
theorem dX13_opens_72 : decode cX13_opens 72 = .ok (.istore_n 3, 1) := by decide +kernel
theorem dX13_opens_73 : decode cX13_opens 73 = .ok (.aload_n 0, 1) := by decide +kernel
theorem dX13_opens_74 : decode cX13_opens 74 = .ok (.getfield 9, 3) := by decide +kernel
theorem dX13_opens_77 : decode cX13_opens 77 = .ok (.iload_n 3, 1) := by decide +kernel
theorem dX13_opens_78 : decode cX13_opens 78 = .ok (.iconst 0, 1) := by decide +kernel
theorem dX13_opens_79 : decode cX13_opens 79 = .ok (.iadd, 1) := by decide +kernel
theorem dX13_opens_80 : decode cX13_opens 80 = .ok (.aload_n 0, 1) := by decide +kernel
theorem dX13_opens_81 : decode cX13_opens 81 = .ok (.getfield 9, 3) := by decide +kernel
theorem dX13_opens_84 : decode cX13_opens 84 = .ok (.bipush 10, 2) := by decide +kernel
theorem dX13_opens_86 : decode cX13_opens 86 = .ok (.iaload, 1) := by decide +kernel
theorem dX13_opens_87 : decode cX13_opens 87 = .ok (.iastore, 1) := by decide +kernel
theorem dX13_opens_88 : decode cX13_opens 88 = .ok (.aload_n 0, 1) := by decide +kernel
theorem dX13_opens_89 : decode cX13_opens 89 = .ok (.getfield 9, 3) := by decide +kernel
theorem dX13_opens_92 : decode cX13_opens 92 = .ok (.iload_n 3, 1) := by decide +kernel
theorem dX13_opens_93 : decode cX13_opens 93 = .ok (.iconst 1, 1) := by decide +kernel
theorem dX13_opens_94 : decode cX13_opens 94 = .ok (.iadd, 1) := by decide +kernel
theorem dX13_opens_95 : decode cX13_opens 95 = .ok (.iload_n 1, 1) := by decide +kernel
theorem dX13_opens_96 : decode cX13_opens 96 = .ok (.iastore, 1) := by decide +kernel
theorem dX13_opens_97 : decode cX13_opens 97 = .ok (.aload_n 0, 1) := by decide +kernel
theorem dX13_opens_98 : decode cX13_opens 98 = .ok (.getfield 9, 3) := by decide +kernel
theorem dX13_opens_101 : decode cX13_opens 101 = .ok (.iload_n 3, 1) := by decide +kernel
theorem dX13_opens_102 : decode cX13_opens 102 = .ok (.iconst 2, 1) := by decide +kernel
theorem dX13_opens_103 : decode cX13_opens 103 = .ok (.iadd, 1) := by decide +kernel
theorem dX13_opens_104 : decode cX13_opens 104 = .ok (.iload_n 2, 1) := by decide +kernel
theorem dX13_opens_105 : decode cX13_opens 105 = .ok (.iastore, 1) := by decide +kernel
theorem dX13_opens_106 : decode cX13_opens 106 = .ok (.aload_n 0, 1) := by decide +kernel
theorem dX13_opens_107 : decode cX13_opens 107 = .ok (.getfield 9, 3) := by decide +kernel
theorem dX13_opens_110 : decode cX13_opens 110 = .ok (.bipush 12, 2) := by decide +kernel
theorem dX13_opens_112 : decode cX13_opens 112 = .ok (.dup2, 1) := by decide +kernel
theorem dX13_opens_113 : decode cX13_opens 113 = .ok (.iaload, 1) := by decide +kernel
theorem dX13_opens_114 : decode cX13_opens 114 = .ok (.iconst 1, 1) := by decide +kernel
theorem dX13_opens_115 : decode cX13_opens 115 = .ok (.iadd, 1) := by decide +kernel
theorem dX13_opens_116 : decode cX13_opens 116 = .ok (.iastore, 1) := by decide +kernel
theorem dX13_opens_117 : decode cX13_opens 117 = .ok (.aload_n 0, 1) := by decide +kernel
theorem dX13_opens_118 : decode cX13_opens 118 = .ok (.getfield 9, 3) := by decide +kernel
theorem dX13_opens_121 : decode cX13_opens 121 = .ok (.bipush 10, 2) := by decide +kernel
theorem dX13_opens_123 : decode cX13_opens 123 = .ok (.dup2, 1) := by decide +kernel
theorem dX13_opens_124 : decode cX13_opens 124 = .ok (.iaload, 1) := by decide +kernel
theorem dX13_opens_125 : decode cX13_opens 125 = .ok (.iconst 1, 1) := by decide +kernel
theorem dX13_opens_126 : decode cX13_opens 126 = .ok (.iadd, 1) := by decide +kernel
theorem dX13_opens_127 : decode cX13_opens 127 = .ok (.iastore, 1) := by decide +kernel
theorem dX13_opens_128 : decode cX13_opens 128 = .ok (.aload_n 0, 1) := by decide +kernel
theorem dX13_opens_129 : decode cX13_opens 129 = .ok (.getfield 9, 3) := by decide +kernel
theorem dX13_opens_132 : decode cX13_opens 132 = .ok (.bipush 10, 2) := by decide +kernel
theorem dX13_opens_134 : decode cX13_opens 134 = .ok (.iaload, 1) := by decide +kernel
theorem dX13_opens_135 : decode cX13_opens 135 = .ok (.iconst 1, 1) := by decide +kernel
theorem dX13_opens_136 : decode cX13_opens 136 = .ok (.isub, 1) := by decide +kernel
theorem dX13_opens_137 : decode cX13_opens 137 = .ok (.ireturn, 1) := by decide +kernel
theorem dX13_addOrder_0 : decode cX13_addOrder 0 = .ok (.aload_n 0, 1) := by decide +kernel
theorem dX13_addOrder_1 : decode cX13_addOrder 1 = .ok (.invokevirtual 69, 3) := by decide +kernel
theorem dX13_addOrder_4 : decode cX13_addOrder 4 = .ok (.aload_n 0, 1) := by decide +kernel
theorem dX13_addOrder_5 : decode cX13_addOrder 5 = .ok (.aload_n 0, 1) := by decide +kernel
theorem dX13_addOrder_6 : decode cX13_addOrder 6 = .ok (.iload_n 1, 1) := by decide +kernel
theorem dX13_addOrder_7 : decode cX13_addOrder 7 = .ok (.iload_n 2, 1) := by decide +kernel
theorem dX13_addOrder_8 : decode cX13_addOrder 8 = .ok (.invokevirtual 100, 3) := by decide +kernel
theorem dX13_addOrder_11 : decode cX13_addOrder 11 = .ok (.invokevirtual 76, 3) := by decide +kernel
theorem dX13_addOrder_14 : decode cX13_addOrder 14 = .ok (.ireturn, 1) := by decide +kernel
theorem dX13_cancels_0 : decode cX13_cancels 0 = .ok (.aload_n 0, 1) := by decide +kernel
theorem dX13_cancels_1 : decode cX13_cancels 1 = .ok (.iload_n 1, 1) := by decide +kernel
theorem dX13_cancels_2 : decode cX13_cancels 2 = .ok (.invokevirtual 103, 3) := by decide +kernel
theorem dX13_cancels_5 : decode cX13_cancels 5 = .ok (.istore_n 2, 1) := by decide +kernel
theorem dX13_cancels_6 : decode cX13_cancels 6 = .ok (.aload_n 0, 1) := by decide +kernel
theorem dX13_cancels_7 : decode cX13_cancels 7 = .ok (.iload_n 2, 1) := by decide +kernel
theorem dX13_cancels_8 : decode cX13_cancels 8 = .ok (.ifCond .ge 7, 3) := by decide +kernel
theorem dX13_cancels_11 : decode cX13_cancels 11 = .ok (.iconst 1, 1) := by decide +kernel
theorem dX13_cancels_12 : decode cX13_cancels 12 = .ok (.goto 4, 3) := by decide +kernel
theorem dX13_cancels_15 : decode cX13_cancels 15 = .ok (.iconst 0, 1) := by decide +kernel
theorem dX13_cancels_16 : decode cX13_cancels 16 = .ok (.iconst 1, 1) := by decide +kernel
theorem dX13_cancels_17 : decode cX13_cancels 17 = .ok (.invokevirtual 65, 3) := by decide +kernel
theorem dX13_cancels_20 : decode cX13_cancels 20 = .ok (.ifCond .eq 5, 3) := by decide +kernel
theorem dX13_cancels_23 : decode cX13_cancels 23 = .ok (.iconst 0, 1) := by decide +kernel
theorem dX13_cancels_24 : decode cX13_cancels 24 = .ok (.ireturn, 1) := by decide +kernel
theorem dX13_cancels_25 : decode cX13_cancels 25 = .ok (.aload_n 0, 1) := by decide +kernel
theorem dX13_cancels_26 : decode cX13_cancels 26 = .ok (.bipush 54, 2) := by decide +kernel
theorem dX13_cancels_28 : decode cX13_cancels 28 = .ok (.iconst 3, 1) := by decide +kernel
theorem dX13_cancels_29 : decode cX13_cancels 29 = .ok (.iload_n 2, 1) := by decide +kernel
theorem dX13_cancels_30 : decode cX13_cancels 30 = .ok (.imul, 1) := by decide +kernel
theorem dX13_cancels_31 : decode cX13_cancels 31 = .ok (.iadd, 1) := by decide +kernel
theorem dX13_cancels_32 : decode cX13_cancels 32 = .ok (.iconst 3, 1) := by decide +kernel
theorem dX13_cancels_33 : decode cX13_cancels 33 = .ok (.bipush 78, 2) := by decide +kernel
theorem dX13_cancels_35 : decode cX13_cancels 35 = .ok (.invokevirtual 93, 3) := by decide +kernel
theorem dX13_cancels_38 : decode cX13_cancels 38 = .ok (.aload_n 0, 1) := by decide +kernel
theorem dX13_cancels_39 : decode cX13_cancels 39 = .ok (.getfield 9, 3) := by decide +kernel
theorem dX13_cancels_42 : decode cX13_cancels 42 = .ok (.bipush 12, 2) := by decide +kernel
theorem dX13_cancels_44 : decode cX13_cancels 44 = .ok (.dup2, 1) := by decide +kernel
theorem dX13_cancels_45 : decode cX13_cancels 45 = .ok (.iaload, 1) := by decide +kernel
theorem dX13_cancels_46 : decode cX13_cancels 46 = .ok (.iconst 1, 1) := by decide +kernel
theorem dX13_cancels_47 : decode cX13_cancels 47 = .ok (.isub, 1) := by decide +kernel
theorem dX13_cancels_48 : decode cX13_cancels 48 = .ok (.iastore, 1) := by decide +kernel
theorem dX13_cancels_49 : decode cX13_cancels 49 = .ok (.aload_n 0, 1) := by decide +kernel
theorem dX13_cancels_50 : decode cX13_cancels 50 = .ok (.getfield 9, 3) := by decide +kernel
theorem dX13_cancels_53 : decode cX13_cancels 53 = .ok (.bipush 12, 2) := by decide +kernel
theorem dX13_cancels_55 : decode cX13_cancels 55 = .ok (.iaload, 1) := by decide +kernel
theorem dX13_cancels_56 : decode cX13_cancels 56 = .ok (.ireturn, 1) := by decide +kernel
theorem dX13_cancelOrder_0 : decode cX13_cancelOrder 0 = .ok (.aload_n 0, 1) := by decide +kernel
theorem dX13_cancelOrder_1 : decode cX13_cancelOrder 1 = .ok (.invokevirtual 69, 3) := by decide +kernel
theorem dX13_cancelOrder_4 : decode cX13_cancelOrder 4 = .ok (.aload_n 0, 1) := by decide +kernel
theorem dX13_cancelOrder_5 : decode cX13_cancelOrder 5 = .ok (.aload_n 0, 1) := by decide +kernel
theorem dX13_cancelOrder_6 : decode cX13_cancelOrder 6 = .ok (.iload_n 1, 1) := by decide +kernel
theorem dX13_cancelOrder_7 : decode cX13_cancelOrder 7 = .ok (.invokevirtual 106, 3) := by decide +kernel
theorem dX13_cancelOrder_10 : decode cX13_cancelOrder 10 = .ok (.invokevirtual 76, 3) := by decide +kernel
theorem dX13_cancelOrder_13 : decode cX13_cancelOrder 13 = .ok (.ireturn, 1) := by decide +kernel
theorem dX13_has_0 : decode cX13_has 0 = .ok (.aload_n 0, 1) := by decide +kernel
theorem dX13_has_1 : decode cX13_has 1 = .ok (.iload_n 1, 1) := by decide +kernel
theorem dX13_has_2 : decode cX13_has 2 = .ok (.iconst 1, 1) := by decide +kernel
theorem dX13_has_3 : decode cX13_has 3 = .ok (.iconst 3, 1) := by decide +kernel
theorem dX13_has_4 : decode cX13_has 4 = .ok (.invokestatic 61, 3) := by decide +kernel
theorem dX13_has_7 : decode cX13_has 7 = .ok (.ifCond .ne 7, 3) := by decide +kernel
theorem dX13_has_10 : decode cX13_has 10 = .ok (.iconst 1, 1) := by decide +kernel
theorem dX13_has_11 : decode cX13_has 11 = .ok (.goto 4, 3) := by decide +kernel
theorem dX13_has_14 : decode cX13_has 14 = .ok (.iconst 0, 1) := by decide +kernel
theorem dX13_has_15 : decode cX13_has 15 = .ok (.iconst 1, 1) := by decide +kernel
theorem dX13_has_16 : decode cX13_has 16 = .ok (.invokevirtual 65, 3) := by decide +kernel
theorem dX13_has_19 : decode cX13_has 19 = .ok (.ifCond .eq 5, 3) := by decide +kernel
theorem dX13_has_22 : decode cX13_has 22 = .ok (.iconst 0, 1) := by decide +kernel
theorem dX13_has_23 : decode cX13_has 23 = .ok (.ireturn, 1) := by decide +kernel
theorem dX13_has_24 : decode cX13_has 24 = .ok (.aload_n 0, 1) := by decide +kernel
theorem dX13_has_25 : decode cX13_has 25 = .ok (.getfield 9, 3) := by decide +kernel
theorem dX13_has_28 : decode cX13_has 28 = .ok (.iconst 3, 1) := by decide +kernel
theorem dX13_has_29 : decode cX13_has 29 = .ok (.iaload, 1) := by decide +kernel
theorem dX13_has_30 : decode cX13_has 30 = .ok (.istore_n 2, 1) := by decide +kernel
theorem dX13_has_31 : decode cX13_has 31 = .ok (.aload_n 0, 1) := by decide +kernel
theorem dX13_has_32 : decode cX13_has 32 = .ok (.getfield 9, 3) := by decide +kernel
theorem dX13_has_35 : decode cX13_has 35 = .ok (.iconst 3, 1) := by decide +kernel
theorem dX13_has_36 : decode cX13_has 36 = .ok (.iload_n 1, 1) := by decide +kernel
theorem dX13_has_37 : decode cX13_has 37 = .ok (.iastore, 1) := by decide +kernel
theorem dX13_has_38 : decode cX13_has 38 = .ok (.iload_n 2, 1) := by decide +kernel
theorem dX13_has_39 : decode cX13_has 39 = .ok (.ireturn, 1) := by decide +kernel
theorem dX13_setMachines_0 : decode cX13_setMachines 0 = .ok (.aload_n 0, 1) := by decide +kernel
theorem dX13_setMachines_1 : decode cX13_setMachines 1 = .ok (.invokevirtual 69, 3) := by decide +kernel
theorem dX13_setMachines_4 : decode cX13_setMachines 4 = .ok (.aload_n 0, 1) := by decide +kernel
theorem dX13_setMachines_5 : decode cX13_setMachines 5 = .ok (.aload_n 0, 1) := by decide +kernel
theorem dX13_setMachines_6 : decode cX13_setMachines 6 = .ok (.iload_n 1, 1) := by decide +kernel
theorem dX13_setMachines_7 : decode cX13_setMachines 7 = .ok (.invokevirtual 109, 3) := by decide +kernel
theorem dX13_setMachines_10 : decode cX13_setMachines 10 = .ok (.invokevirtual 76, 3) := by decide +kernel
theorem dX13_setMachines_13 : decode cX13_setMachines 13 = .ok (.ireturn, 1) := by decide +kernel
theorem dX13_pieces_0 : decode cX13_pieces 0 = .ok (.iconst 3, 1) := by decide +kernel
theorem dX13_pieces_1 : decode cX13_pieces 1 = .ok (.aload_n 0, 1) := by decide +kernel
theorem dX13_pieces_2 : decode cX13_pieces 2 = .ok (.iload_n 1, 1) := by decide +kernel
theorem dX13_pieces_3 : decode cX13_pieces 3 = .ok (.iconst 2, 1) := by decide +kernel
theorem dX13_pieces_4 : decode cX13_pieces 4 = .ok (.invokevirtual 58, 3) := by decide +kernel
theorem dX13_pieces_7 : decode cX13_pieces 7 = .ok (.iadd, 1) := by decide +kernel
theorem dX13_pieces_8 : decode cX13_pieces 8 = .ok (.istore_n 2, 1) := by decide +kernel
theorem dX13_pieces_9 : decode cX13_pieces 9 = .ok (.aload_n 0, 1) := by decide +kernel
theorem dX13_pieces_10 : decode cX13_pieces 10 = .ok (.iload_n 1, 1) := by decide +kernel
theorem dX13_pieces_11 : decode cX13_pieces 11 = .ok (.iconst 1, 1) := by decide +kernel
theorem dX13_pieces_12 : decode cX13_pieces 12 = .ok (.invokevirtual 58, 3) := by decide +kernel
theorem dX13_pieces_15 : decode cX13_pieces 15 = .ok (.iload_n 2, 1) := by decide +kernel
theorem dX13_pieces_16 : decode cX13_pieces 16 = .ok (.iadd, 1) := by decide +kernel
theorem dX13_pieces_17 : decode cX13_pieces 17 = .ok (.iconst 1, 1) := by decide +kernel
theorem dX13_pieces_18 : decode cX13_pieces 18 = .ok (.isub, 1) := by decide +kernel
theorem dX13_pieces_19 : decode cX13_pieces 19 = .ok (.iload_n 2, 1) := by decide +kernel
theorem dX13_pieces_20 : decode cX13_pieces 20 = .ok (.idiv, 1) := by decide +kernel
theorem dX13_pieces_21 : decode cX13_pieces 21 = .ok (.ireturn, 1) := by decide +kernel
theorem dX13_spins_0 : decode cX13_spins 0 = .ok (.aload_n 0, 1) := by decide +kernel
theorem dX13_spins_1 : decode cX13_spins 1 = .ok (.iload_n 1, 1) := by decide +kernel
theorem dX13_spins_2 : decode cX13_spins 2 = .ok (.invokevirtual 103, 3) := by decide +kernel
theorem dX13_spins_5 : decode cX13_spins 5 = .ok (.istore_n 2, 1) := by decide +kernel
theorem dX13_spins_6 : decode cX13_spins 6 = .ok (.aload_n 0, 1) := by decide +kernel
theorem dX13_spins_7 : decode cX13_spins 7 = .ok (.iload_n 2, 1) := by decide +kernel
theorem dX13_spins_8 : decode cX13_spins 8 = .ok (.ifCond .ge 7, 3) := by decide +kernel
theorem dX13_spins_11 : decode cX13_spins 11 = .ok (.iconst 1, 1) := by decide +kernel
theorem dX13_spins_12 : decode cX13_spins 12 = .ok (.goto 4, 3) := by decide +kernel
theorem dX13_spins_15 : decode cX13_spins 15 = .ok (.iconst 0, 1) := by decide +kernel
theorem dX13_spins_16 : decode cX13_spins 16 = .ok (.iconst 1, 1) := by decide +kernel
theorem dX13_spins_17 : decode cX13_spins 17 = .ok (.invokevirtual 65, 3) := by decide +kernel
theorem dX13_spins_20 : decode cX13_spins 20 = .ok (.ifCond .ne 62, 3) := by decide +kernel
theorem dX13_spins_23 : decode cX13_spins 23 = .ok (.aload_n 0, 1) := by decide +kernel
theorem dX13_spins_24 : decode cX13_spins 24 = .ok (.aload_n 0, 1) := by decide +kernel
theorem dX13_spins_25 : decode cX13_spins 25 = .ok (.getfield 9, 3) := by decide +kernel
theorem dX13_spins_28 : decode cX13_spins 28 = .ok (.iconst 1, 1) := by decide +kernel
theorem dX13_spins_29 : decode cX13_spins 29 = .ok (.iaload, 1) := by decide +kernel
theorem dX13_spins_30 : decode cX13_spins 30 = .ok (.aload_n 0, 1) := by decide +kernel
theorem dX13_spins_31 : decode cX13_spins 31 = .ok (.iload_n 2, 1) := by decide +kernel
theorem dX13_spins_32 : decode cX13_spins 32 = .ok (.iconst 1, 1) := by decide +kernel
theorem dX13_spins_33 : decode cX13_spins 33 = .ok (.invokevirtual 58, 3) := by decide +kernel
theorem dX13_spins_36 : decode cX13_spins 36 = .ok (.if_icmp .ge 7, 3) := by decide +kernel
theorem dX13_spins_39 : decode cX13_spins 39 = .ok (.iconst 1, 1) := by decide +kernel
theorem dX13_spins_40 : decode cX13_spins 40 = .ok (.goto 4, 3) := by decide +kernel
theorem dX13_spins_43 : decode cX13_spins 43 = .ok (.iconst 0, 1) := by decide +kernel
theorem dX13_spins_44 : decode cX13_spins 44 = .ok (.iconst 2, 1) := by decide +kernel
theorem dX13_spins_45 : decode cX13_spins 45 = .ok (.invokevirtual 65, 3) := by decide +kernel
theorem dX13_spins_48 : decode cX13_spins 48 = .ok (.ifCond .ne 34, 3) := by decide +kernel
theorem dX13_spins_51 : decode cX13_spins 51 = .ok (.aload_n 0, 1) := by decide +kernel
theorem dX13_spins_52 : decode cX13_spins 52 = .ok (.aload_n 0, 1) := by decide +kernel
theorem dX13_spins_53 : decode cX13_spins 53 = .ok (.getfield 9, 3) := by decide +kernel
theorem dX13_spins_56 : decode cX13_spins 56 = .ok (.bipush 13, 2) := by decide +kernel
theorem dX13_spins_58 : decode cX13_spins 58 = .ok (.iaload, 1) := by decide +kernel
theorem dX13_spins_59 : decode cX13_spins 59 = .ok (.aload_n 0, 1) := by decide +kernel
theorem dX13_spins_60 : decode cX13_spins 60 = .ok (.iload_n 2, 1) := by decide +kernel
theorem dX13_spins_61 : decode cX13_spins 61 = .ok (.invokevirtual 112, 3) := by decide +kernel
theorem dX13_spins_64 : decode cX13_spins 64 = .ok (.iadd, 1) := by decide +kernel
theorem dX13_spins_65 : decode cX13_spins 65 = .ok (.bipush 12, 2) := by decide +kernel
theorem dX13_spins_67 : decode cX13_spins 67 = .ok (.if_icmp .le 7, 3) := by decide +kernel
theorem dX13_spins_70 : decode cX13_spins 70 = .ok (.iconst 1, 1) := by decide +kernel
theorem dX13_spins_71 : decode cX13_spins 71 = .ok (.goto 4, 3) := by decide +kernel
theorem dX13_spins_74 : decode cX13_spins 74 = .ok (.iconst 0, 1) := by decide +kernel
theorem dX13_spins_75 : decode cX13_spins 75 = .ok (.iconst 3, 1) := by decide +kernel
theorem dX13_spins_76 : decode cX13_spins 76 = .ok (.invokevirtual 65, 3) := by decide +kernel
theorem dX13_spins_79 : decode cX13_spins 79 = .ok (.ifCond .eq 5, 3) := by decide +kernel
theorem dX13_spins_82 : decode cX13_spins 82 = .ok (.iconst 0, 1) := by decide +kernel
theorem dX13_spins_83 : decode cX13_spins 83 = .ok (.ireturn, 1) := by decide +kernel
theorem dX13_spins_84 : decode cX13_spins 84 = .ok (.aload_n 0, 1) := by decide +kernel
theorem dX13_spins_85 : decode cX13_spins 85 = .ok (.iload_n 2, 1) := by decide +kernel
theorem dX13_spins_86 : decode cX13_spins 86 = .ok (.iconst 1, 1) := by decide +kernel
theorem dX13_spins_87 : decode cX13_spins 87 = .ok (.invokevirtual 58, 3) := by decide +kernel
theorem dX13_spins_90 : decode cX13_spins 90 = .ok (.istore_n 3, 1) := by decide +kernel
theorem dX13_spins_91 : decode cX13_spins 91 = .ok (.aload_n 0, 1) := by decide +kernel
theorem dX13_spins_92 : decode cX13_spins 92 = .ok (.iload_n 2, 1) := by decide +kernel
theorem dX13_spins_93 : decode cX13_spins 93 = .ok (.iconst 2, 1) := by decide +kernel
theorem dX13_spins_94 : decode cX13_spins 94 = .ok (.invokevirtual 58, 3) := by decide +kernel
theorem dX13_spins_97 : decode cX13_spins 97 = .ok (.istore 4, 2) := by decide +kernel
theorem dX13_spins_99 : decode cX13_spins 99 = .ok (.aload_n 0, 1) := by decide +kernel
theorem dX13_spins_100 : decode cX13_spins 100 = .ok (.iload_n 2, 1) := by decide +kernel
theorem dX13_spins_101 : decode cX13_spins 101 = .ok (.invokevirtual 112, 3) := by decide +kernel
theorem dX13_spins_104 : decode cX13_spins 104 = .ok (.istore 5, 2) := by decide +kernel
theorem dX13_spins_106 : decode cX13_spins 106 = .ok (.aload_n 0, 1) := by decide +kernel
theorem dX13_spins_107 : decode cX13_spins 107 = .ok (.getfield 9, 3) := by decide +kernel
theorem dX13_spins_110 : decode cX13_spins 110 = .ok (.iconst 1, 1) := by decide +kernel
theorem dX13_spins_111 : decode cX13_spins 111 = .ok (.dup2, 1) := by decide +kernel
theorem dX13_spins_112 : decode cX13_spins 112 = .ok (.iaload, 1) := by decide +kernel
theorem dX13_spins_113 : decode cX13_spins 113 = .ok (.iload_n 3, 1) := by decide +kernel
theorem dX13_spins_114 : decode cX13_spins 114 = .ok (.isub, 1) := by decide +kernel
theorem dX13_spins_115 : decode cX13_spins 115 = .ok (.iastore, 1) := by decide +kernel
theorem dX13_spins_116 : decode cX13_spins 116 = .ok (.aload_n 0, 1) := by decide +kernel
theorem dX13_spins_117 : decode cX13_spins 117 = .ok (.getfield 9, 3) := by decide +kernel
theorem dX13_spins_120 : decode cX13_spins 120 = .ok (.iconst 2, 1) := by decide +kernel
theorem dX13_spins_121 : decode cX13_spins 121 = .ok (.dup2, 1) := by decide +kernel
theorem dX13_spins_122 : decode cX13_spins 122 = .ok (.iaload, 1) := by decide +kernel
theorem dX13_spins_123 : decode cX13_spins 123 = .ok (.iload_n 3, 1) := by decide +kernel
theorem dX13_spins_124 : decode cX13_spins 124 = .ok (.iload 4, 2) := by decide +kernel
theorem dX13_spins_126 : decode cX13_spins 126 = .ok (.imul, 1) := by decide +kernel
theorem dX13_spins_127 : decode cX13_spins 127 = .ok (.iadd, 1) := by decide +kernel
theorem dX13_spins_128 : decode cX13_spins 128 = .ok (.iastore, 1) := by decide +kernel
theorem dX13_spins_129 : decode cX13_spins 129 = .ok (.aload_n 0, 1) := by decide +kernel
theorem dX13_spins_130 : decode cX13_spins 130 = .ok (.getfield 9, 3) := by decide +kernel
theorem dX13_spins_133 : decode cX13_spins 133 = .ok (.bipush 6, 2) := by decide +kernel
theorem dX13_spins_135 : decode cX13_spins 135 = .ok (.dup2, 1) := by decide +kernel
theorem dX13_spins_136 : decode cX13_spins 136 = .ok (.iaload, 1) := by decide +kernel
theorem dX13_spins_137 : decode cX13_spins 137 = .ok (.iload_n 3, 1) := by decide +kernel
theorem dX13_spins_138 : decode cX13_spins 138 = .ok (.iadd, 1) := by decide +kernel
theorem dX13_spins_139 : decode cX13_spins 139 = .ok (.iastore, 1) := by decide +kernel
theorem dX13_spins_140 : decode cX13_spins 140 = .ok (.iload_n 3, 1) := by decide +kernel
theorem dX13_spins_141 : decode cX13_spins 141 = .ok (.istore 6, 2) := by decide +kernel
theorem dX13_spins_143 : decode cX13_spins 143 = .ok (.iconst 0, 1) := by decide +kernel
theorem dX13_spins_144 : decode cX13_spins 144 = .ok (.istore 7, 2) := by decide +kernel
theorem dX13_spins_146 : decode cX13_spins 146 = .ok (.iload 7, 2) := by decide +kernel
theorem dX13_spins_148 : decode cX13_spins 148 = .ok (.iload 5, 2) := by decide +kernel
theorem dX13_spins_150 : decode cX13_spins 150 = .ok (.if_icmp .ge 64, 3) := by decide +kernel
theorem dX13_spins_153 : decode cX13_spins 153 = .ok (.iload 6, 2) := by decide +kernel
theorem dX13_spins_155 : decode cX13_spins 155 = .ok (.iconst 3, 1) := by decide +kernel
theorem dX13_spins_156 : decode cX13_spins 156 = .ok (.iload 4, 2) := by decide +kernel
theorem dX13_spins_158 : decode cX13_spins 158 = .ok (.iadd, 1) := by decide +kernel
theorem dX13_spins_159 : decode cX13_spins 159 = .ok (.if_icmp .ge 8, 3) := by decide +kernel
theorem dX13_spins_162 : decode cX13_spins 162 = .ok (.iload 6, 2) := by decide +kernel
theorem dX13_spins_164 : decode cX13_spins 164 = .ok (.goto 7, 3) := by decide +kernel
theorem dX13_spins_167 : decode cX13_spins 167 = .ok (.iconst 3, 1) := by decide +kernel
theorem dX13_spins_168 : decode cX13_spins 168 = .ok (.iload 4, 2) := by decide +kernel
theorem dX13_spins_170 : decode cX13_spins 170 = .ok (.iadd, 1) := by decide +kernel
theorem dX13_spins_171 : decode cX13_spins 171 = .ok (.istore 8, 2) := by decide +kernel
theorem dX13_spins_173 : decode cX13_spins 173 = .ok (.aload_n 0, 1) := by decide +kernel
theorem dX13_spins_174 : decode cX13_spins 174 = .ok (.getfield 9, 3) := by decide +kernel
theorem dX13_spins_177 : decode cX13_spins 177 = .ok (.bipush 78, 2) := by decide +kernel
theorem dX13_spins_179 : decode cX13_spins 179 = .ok (.aload_n 0, 1) := by decide +kernel
theorem dX13_spins_180 : decode cX13_spins 180 = .ok (.getfield 9, 3) := by decide +kernel
theorem dX13_spins_183 : decode cX13_spins 183 = .ok (.bipush 13, 2) := by decide +kernel
theorem dX13_spins_185 : decode cX13_spins 185 = .ok (.iaload, 1) := by decide +kernel
theorem dX13_spins_186 : decode cX13_spins 186 = .ok (.iadd, 1) := by decide +kernel
theorem dX13_spins_187 : decode cX13_spins 187 = .ok (.iload 8, 2) := by decide +kernel
theorem dX13_spins_189 : decode cX13_spins 189 = .ok (.iastore, 1) := by decide +kernel
theorem dX13_spins_190 : decode cX13_spins 190 = .ok (.aload_n 0, 1) := by decide +kernel
theorem dX13_spins_191 : decode cX13_spins 191 = .ok (.getfield 9, 3) := by decide +kernel
theorem dX13_spins_194 : decode cX13_spins 194 = .ok (.bipush 13, 2) := by decide +kernel
theorem dX13_spins_196 : decode cX13_spins 196 = .ok (.dup2, 1) := by decide +kernel
theorem dX13_spins_197 : decode cX13_spins 197 = .ok (.iaload, 1) := by decide +kernel
theorem dX13_spins_198 : decode cX13_spins 198 = .ok (.iconst 1, 1) := by decide +kernel
theorem dX13_spins_199 : decode cX13_spins 199 = .ok (.iadd, 1) := by decide +kernel
theorem dX13_spins_200 : decode cX13_spins 200 = .ok (.iastore, 1) := by decide +kernel
theorem dX13_spins_201 : decode cX13_spins 201 = .ok (.iload 6, 2) := by decide +kernel
theorem dX13_spins_203 : decode cX13_spins 203 = .ok (.iload 8, 2) := by decide +kernel
theorem dX13_spins_205 : decode cX13_spins 205 = .ok (.isub, 1) := by decide +kernel
theorem dX13_spins_206 : decode cX13_spins 206 = .ok (.istore 6, 2) := by decide +kernel
theorem dX13_spins_208 : decode cX13_spins 208 = .ok (.iinc 7 1, 3) := by decide +kernel
theorem dX13_spins_211 : decode cX13_spins 211 = .ok (.goto (-65), 3) := by decide +kernel
theorem dX13_spins_214 : decode cX13_spins 214 = .ok (.aload_n 0, 1) := by decide +kernel
theorem dX13_spins_215 : decode cX13_spins 215 = .ok (.bipush 54, 2) := by decide +kernel
theorem dX13_spins_217 : decode cX13_spins 217 = .ok (.iconst 3, 1) := by decide +kernel
theorem dX13_spins_218 : decode cX13_spins 218 = .ok (.iload_n 2, 1) := by decide +kernel
theorem dX13_spins_219 : decode cX13_spins 219 = .ok (.imul, 1) := by decide +kernel
theorem dX13_spins_220 : decode cX13_spins 220 = .ok (.iadd, 1) := by decide +kernel
theorem dX13_spins_221 : decode cX13_spins 221 = .ok (.iconst 3, 1) := by decide +kernel
theorem dX13_spins_222 : decode cX13_spins 222 = .ok (.bipush 78, 2) := by decide +kernel
theorem dX13_spins_224 : decode cX13_spins 224 = .ok (.invokevirtual 93, 3) := by decide +kernel
theorem dX13_spins_227 : decode cX13_spins 227 = .ok (.aload_n 0, 1) := by decide +kernel
theorem dX13_spins_228 : decode cX13_spins 228 = .ok (.getfield 9, 3) := by decide +kernel
theorem dX13_spins_231 : decode cX13_spins 231 = .ok (.bipush 12, 2) := by decide +kernel
theorem dX13_spins_233 : decode cX13_spins 233 = .ok (.dup2, 1) := by decide +kernel
theorem dX13_spins_234 : decode cX13_spins 234 = .ok (.iaload, 1) := by decide +kernel
theorem dX13_spins_235 : decode cX13_spins 235 = .ok (.iconst 1, 1) := by decide +kernel
theorem dX13_spins_236 : decode cX13_spins 236 = .ok (.isub, 1) := by decide +kernel
theorem dX13_spins_237 : decode cX13_spins 237 = .ok (.iastore, 1) := by decide +kernel
theorem dX13_spins_238 : decode cX13_spins 238 = .ok (.iload 5, 2) := by decide +kernel
theorem dX13_spins_240 : decode cX13_spins 240 = .ok (.ireturn, 1) := by decide +kernel
theorem dX13_spin_0 : decode cX13_spin 0 = .ok (.aload_n 0, 1) := by decide +kernel
theorem dX13_spin_1 : decode cX13_spin 1 = .ok (.invokevirtual 69, 3) := by decide +kernel
theorem dX13_spin_4 : decode cX13_spin 4 = .ok (.aload_n 0, 1) := by decide +kernel
theorem dX13_spin_5 : decode cX13_spin 5 = .ok (.aload_n 0, 1) := by decide +kernel
theorem dX13_spin_6 : decode cX13_spin 6 = .ok (.iload_n 1, 1) := by decide +kernel
theorem dX13_spin_7 : decode cX13_spin 7 = .ok (.invokevirtual 115, 3) := by decide +kernel
theorem dX13_spin_10 : decode cX13_spin 10 = .ok (.invokevirtual 76, 3) := by decide +kernel
theorem dX13_spin_13 : decode cX13_spin 13 = .ok (.ireturn, 1) := by decide +kernel
theorem dX13_isPiece_0 : decode cX13_isPiece 0 = .ok (.iload_n 1, 1) := by decide +kernel
theorem dX13_isPiece_1 : decode cX13_isPiece 1 = .ok (.iconst 0, 1) := by decide +kernel
theorem dX13_isPiece_2 : decode cX13_isPiece 2 = .ok (.aload_n 0, 1) := by decide +kernel
theorem dX13_isPiece_3 : decode cX13_isPiece 3 = .ok (.getfield 9, 3) := by decide +kernel
theorem dX13_isPiece_6 : decode cX13_isPiece 6 = .ok (.bipush 13, 2) := by decide +kernel
theorem dX13_isPiece_8 : decode cX13_isPiece 8 = .ok (.iaload, 1) := by decide +kernel
theorem dX13_isPiece_9 : decode cX13_isPiece 9 = .ok (.iconst 1, 1) := by decide +kernel
theorem dX13_isPiece_10 : decode cX13_isPiece 10 = .ok (.isub, 1) := by decide +kernel
theorem dX13_isPiece_11 : decode cX13_isPiece 11 = .ok (.invokestatic 61, 3) := by decide +kernel
theorem dX13_isPiece_14 : decode cX13_isPiece 14 = .ok (.ireturn, 1) := by decide +kernel
theorem dX13_splices_0 : decode cX13_splices 0 = .ok (.aload_n 0, 1) := by decide +kernel
theorem dX13_splices_1 : decode cX13_splices 1 = .ok (.aload_n 0, 1) := by decide +kernel
theorem dX13_splices_2 : decode cX13_splices 2 = .ok (.iload_n 1, 1) := by decide +kernel
theorem dX13_splices_3 : decode cX13_splices 3 = .ok (.invokevirtual 118, 3) := by decide +kernel
theorem dX13_splices_6 : decode cX13_splices 6 = .ok (.ifCond .eq 13, 3) := by decide +kernel
theorem dX13_splices_9 : decode cX13_splices 9 = .ok (.aload_n 0, 1) := by decide +kernel
theorem dX13_splices_10 : decode cX13_splices 10 = .ok (.iload_n 1, 1) := by decide +kernel
theorem dX13_splices_11 : decode cX13_splices 11 = .ok (.iconst 1, 1) := by decide +kernel
theorem dX13_splices_12 : decode cX13_splices 12 = .ok (.iadd, 1) := by decide +kernel
theorem dX13_splices_13 : decode cX13_splices 13 = .ok (.invokevirtual 118, 3) := by decide +kernel
theorem dX13_splices_16 : decode cX13_splices 16 = .ok (.ifCond .ne 7, 3) := by decide +kernel
theorem dX13_splices_19 : decode cX13_splices 19 = .ok (.iconst 1, 1) := by decide +kernel
theorem dX13_splices_20 : decode cX13_splices 20 = .ok (.goto 4, 3) := by decide +kernel
theorem dX13_splices_23 : decode cX13_splices 23 = .ok (.iconst 0, 1) := by decide +kernel
theorem dX13_splices_24 : decode cX13_splices 24 = .ok (.iconst 1, 1) := by decide +kernel
theorem dX13_splices_25 : decode cX13_splices 25 = .ok (.invokevirtual 65, 3) := by decide +kernel
theorem dX13_splices_28 : decode cX13_splices 28 = .ok (.ifCond .eq 5, 3) := by decide +kernel
theorem dX13_splices_31 : decode cX13_splices 31 = .ok (.iconst 0, 1) := by decide +kernel
theorem dX13_splices_32 : decode cX13_splices 32 = .ok (.ireturn, 1) := by decide +kernel
theorem dX13_splices_33 : decode cX13_splices 33 = .ok (.aload_n 0, 1) := by decide +kernel
theorem dX13_splices_34 : decode cX13_splices 34 = .ok (.getfield 9, 3) := by decide +kernel
theorem dX13_splices_37 : decode cX13_splices 37 = .ok (.bipush 78, 2) := by decide +kernel
theorem dX13_splices_39 : decode cX13_splices 39 = .ok (.iload_n 1, 1) := by decide +kernel
theorem dX13_splices_40 : decode cX13_splices 40 = .ok (.iadd, 1) := by decide +kernel
theorem dX13_splices_41 : decode cX13_splices 41 = .ok (.iaload, 1) := by decide +kernel
theorem dX13_splices_42 : decode cX13_splices 42 = .ok (.aload_n 0, 1) := by decide +kernel
theorem dX13_splices_43 : decode cX13_splices 43 = .ok (.getfield 9, 3) := by decide +kernel
theorem dX13_splices_46 : decode cX13_splices 46 = .ok (.bipush 78, 2) := by decide +kernel
theorem dX13_splices_48 : decode cX13_splices 48 = .ok (.iload_n 1, 1) := by decide +kernel
theorem dX13_splices_49 : decode cX13_splices 49 = .ok (.iadd, 1) := by decide +kernel
theorem dX13_splices_50 : decode cX13_splices 50 = .ok (.iconst 1, 1) := by decide +kernel
theorem dX13_splices_51 : decode cX13_splices 51 = .ok (.iadd, 1) := by decide +kernel
theorem dX13_splices_52 : decode cX13_splices 52 = .ok (.iaload, 1) := by decide +kernel
theorem dX13_splices_53 : decode cX13_splices 53 = .ok (.iadd, 1) := by decide +kernel
theorem dX13_splices_54 : decode cX13_splices 54 = .ok (.istore_n 2, 1) := by decide +kernel
theorem dX13_splices_55 : decode cX13_splices 55 = .ok (.aload_n 0, 1) := by decide +kernel
theorem dX13_splices_56 : decode cX13_splices 56 = .ok (.getfield 9, 3) := by decide +kernel
theorem dX13_splices_59 : decode cX13_splices 59 = .ok (.iconst 2, 1) := by decide +kernel
theorem dX13_splices_60 : decode cX13_splices 60 = .ok (.dup2, 1) := by decide +kernel
theorem dX13_splices_61 : decode cX13_splices 61 = .ok (.iaload, 1) := by decide +kernel
theorem dX13_splices_62 : decode cX13_splices 62 = .ok (.iload_n 2, 1) := by decide +kernel
theorem dX13_splices_63 : decode cX13_splices 63 = .ok (.iadd, 1) := by decide +kernel
theorem dX13_splices_64 : decode cX13_splices 64 = .ok (.iastore, 1) := by decide +kernel
theorem dX13_splices_65 : decode cX13_splices 65 = .ok (.aload_n 0, 1) := by decide +kernel
theorem dX13_splices_66 : decode cX13_splices 66 = .ok (.getfield 9, 3) := by decide +kernel
theorem dX13_splices_69 : decode cX13_splices 69 = .ok (.bipush 7, 2) := by decide +kernel
theorem dX13_splices_71 : decode cX13_splices 71 = .ok (.dup2, 1) := by decide +kernel
theorem dX13_splices_72 : decode cX13_splices 72 = .ok (.iaload, 1) := by decide +kernel
theorem dX13_splices_73 : decode cX13_splices 73 = .ok (.iconst 1, 1) := by decide +kernel
theorem dX13_splices_74 : decode cX13_splices 74 = .ok (.iadd, 1) := by decide +kernel
theorem dX13_splices_75 : decode cX13_splices 75 = .ok (.iastore, 1) := by decide +kernel
theorem dX13_splices_76 : decode cX13_splices 76 = .ok (.aload_n 0, 1) := by decide +kernel
theorem dX13_splices_77 : decode cX13_splices 77 = .ok (.bipush 78, 2) := by decide +kernel
theorem dX13_splices_79 : decode cX13_splices 79 = .ok (.iload_n 1, 1) := by decide +kernel
theorem dX13_splices_80 : decode cX13_splices 80 = .ok (.iadd, 1) := by decide +kernel
theorem dX13_splices_81 : decode cX13_splices 81 = .ok (.iconst 1, 1) := by decide +kernel
theorem dX13_splices_82 : decode cX13_splices 82 = .ok (.bipush 90, 2) := by decide +kernel
theorem dX13_splices_84 : decode cX13_splices 84 = .ok (.invokevirtual 93, 3) := by decide +kernel
theorem dX13_splices_87 : decode cX13_splices 87 = .ok (.aload_n 0, 1) := by decide +kernel
theorem dX13_splices_88 : decode cX13_splices 88 = .ok (.getfield 9, 3) := by decide +kernel
theorem dX13_splices_91 : decode cX13_splices 91 = .ok (.bipush 78, 2) := by decide +kernel
theorem dX13_splices_93 : decode cX13_splices 93 = .ok (.iload_n 1, 1) := by decide +kernel
theorem dX13_splices_94 : decode cX13_splices 94 = .ok (.iadd, 1) := by decide +kernel
theorem dX13_splices_95 : decode cX13_splices 95 = .ok (.iload_n 2, 1) := by decide +kernel
theorem dX13_splices_96 : decode cX13_splices 96 = .ok (.iconst 1, 1) := by decide +kernel
theorem dX13_splices_97 : decode cX13_splices 97 = .ok (.isub, 1) := by decide +kernel
theorem dX13_splices_98 : decode cX13_splices 98 = .ok (.iastore, 1) := by decide +kernel
theorem dX13_splices_99 : decode cX13_splices 99 = .ok (.aload_n 0, 1) := by decide +kernel
theorem dX13_splices_100 : decode cX13_splices 100 = .ok (.getfield 9, 3) := by decide +kernel
theorem dX13_splices_103 : decode cX13_splices 103 = .ok (.bipush 13, 2) := by decide +kernel
theorem dX13_splices_105 : decode cX13_splices 105 = .ok (.dup2, 1) := by decide +kernel
theorem dX13_splices_106 : decode cX13_splices 106 = .ok (.iaload, 1) := by decide +kernel
theorem dX13_splices_107 : decode cX13_splices 107 = .ok (.iconst 1, 1) := by decide +kernel
theorem dX13_splices_108 : decode cX13_splices 108 = .ok (.isub, 1) := by decide +kernel
theorem dX13_splices_109 : decode cX13_splices 109 = .ok (.iastore, 1) := by decide +kernel
theorem dX13_splices_110 : decode cX13_splices 110 = .ok (.iload_n 2, 1) := by decide +kernel
theorem dX13_splices_111 : decode cX13_splices 111 = .ok (.iconst 1, 1) := by decide +kernel
theorem dX13_splices_112 : decode cX13_splices 112 = .ok (.isub, 1) := by decide +kernel
theorem dX13_splices_113 : decode cX13_splices 113 = .ok (.ireturn, 1) := by decide +kernel
theorem dX13_splice_0 : decode cX13_splice 0 = .ok (.aload_n 0, 1) := by decide +kernel
theorem dX13_splice_1 : decode cX13_splice 1 = .ok (.invokevirtual 69, 3) := by decide +kernel
theorem dX13_splice_4 : decode cX13_splice 4 = .ok (.aload_n 0, 1) := by decide +kernel
theorem dX13_splice_5 : decode cX13_splice 5 = .ok (.aload_n 0, 1) := by decide +kernel
theorem dX13_splice_6 : decode cX13_splice 6 = .ok (.iload_n 1, 1) := by decide +kernel
theorem dX13_splice_7 : decode cX13_splice 7 = .ok (.invokevirtual 122, 3) := by decide +kernel
theorem dX13_splice_10 : decode cX13_splice 10 = .ok (.invokevirtual 76, 3) := by decide +kernel
theorem dX13_splice_13 : decode cX13_splice 13 = .ok (.ireturn, 1) := by decide +kernel
theorem dX13_spliced_0 : decode cX13_spliced 0 = .ok (.iload_n 1, 1) := by decide +kernel
theorem dX13_spliced_1 : decode cX13_spliced 1 = .ok (.iload_n 2, 1) := by decide +kernel
theorem dX13_spliced_2 : decode cX13_spliced 2 = .ok (.isub, 1) := by decide +kernel
theorem dX13_spliced_3 : decode cX13_spliced 3 = .ok (.istore_n 3, 1) := by decide +kernel
theorem dX13_spliced_4 : decode cX13_spliced 4 = .ok (.iload_n 1, 1) := by decide +kernel
theorem dX13_spliced_5 : decode cX13_spliced 5 = .ok (.istore 4, 2) := by decide +kernel
theorem dX13_spliced_7 : decode cX13_spliced 7 = .ok (.iload 4, 2) := by decide +kernel
theorem dX13_spliced_9 : decode cX13_spliced 9 = .ok (.iload_n 2, 1) := by decide +kernel
theorem dX13_spliced_10 : decode cX13_spliced 10 = .ok (.if_icmp .gt 22, 3) := by decide +kernel
theorem dX13_spliced_13 : decode cX13_spliced 13 = .ok (.iload_n 3, 1) := by decide +kernel
theorem dX13_spliced_14 : decode cX13_spliced 14 = .ok (.aload_n 0, 1) := by decide +kernel
theorem dX13_spliced_15 : decode cX13_spliced 15 = .ok (.getfield 9, 3) := by decide +kernel
theorem dX13_spliced_18 : decode cX13_spliced 18 = .ok (.bipush 78, 2) := by decide +kernel
theorem dX13_spliced_20 : decode cX13_spliced 20 = .ok (.iload 4, 2) := by decide +kernel
theorem dX13_spliced_22 : decode cX13_spliced 22 = .ok (.iadd, 1) := by decide +kernel
theorem dX13_spliced_23 : decode cX13_spliced 23 = .ok (.iaload, 1) := by decide +kernel
theorem dX13_spliced_24 : decode cX13_spliced 24 = .ok (.iadd, 1) := by decide +kernel
theorem dX13_spliced_25 : decode cX13_spliced 25 = .ok (.istore_n 3, 1) := by decide +kernel
theorem dX13_spliced_26 : decode cX13_spliced 26 = .ok (.iinc 4 1, 3) := by decide +kernel
theorem dX13_spliced_29 : decode cX13_spliced 29 = .ok (.goto (-22), 3) := by decide +kernel
theorem dX13_spliced_32 : decode cX13_spliced 32 = .ok (.iload_n 3, 1) := by decide +kernel
theorem dX13_spliced_33 : decode cX13_spliced 33 = .ok (.ireturn, 1) := by decide +kernel
theorem dX13_cost_0 : decode cX13_cost 0 = .ok (.bipush 11, 2) := by decide +kernel
theorem dX13_cost_2 : decode cX13_cost 2 = .ok (.istore_n 1, 1) := by decide +kernel
theorem dX13_cost_3 : decode cX13_cost 3 = .ok (.iload_n 1, 1) := by decide +kernel
theorem dX13_cost_4 : decode cX13_cost 4 = .ok (.ifCond .lt 132, 3) := by decide +kernel
theorem dX13_cost_7 : decode cX13_cost 7 = .ok (.aload_n 0, 1) := by decide +kernel
theorem dX13_cost_8 : decode cX13_cost 8 = .ok (.getfield 25, 3) := by decide +kernel
theorem dX13_cost_11 : decode cX13_cost 11 = .ok (.bipush 12, 2) := by decide +kernel
theorem dX13_cost_13 : decode cX13_cost 13 = .ok (.iload_n 1, 1) := by decide +kernel
theorem dX13_cost_14 : decode cX13_cost 14 = .ok (.imul, 1) := by decide +kernel
theorem dX13_cost_15 : decode cX13_cost 15 = .ok (.iload_n 1, 1) := by decide +kernel
theorem dX13_cost_16 : decode cX13_cost 16 = .ok (.iadd, 1) := by decide +kernel
theorem dX13_cost_17 : decode cX13_cost 17 = .ok (.iconst 0, 1) := by decide +kernel
theorem dX13_cost_18 : decode cX13_cost 18 = .ok (.iastore, 1) := by decide +kernel
theorem dX13_cost_19 : decode cX13_cost 19 = .ok (.iload_n 1, 1) := by decide +kernel
theorem dX13_cost_20 : decode cX13_cost 20 = .ok (.iconst 1, 1) := by decide +kernel
theorem dX13_cost_21 : decode cX13_cost 21 = .ok (.iadd, 1) := by decide +kernel
theorem dX13_cost_22 : decode cX13_cost 22 = .ok (.istore_n 2, 1) := by decide +kernel
theorem dX13_cost_23 : decode cX13_cost 23 = .ok (.iload_n 2, 1) := by decide +kernel
theorem dX13_cost_24 : decode cX13_cost 24 = .ok (.aload_n 0, 1) := by decide +kernel
theorem dX13_cost_25 : decode cX13_cost 25 = .ok (.getfield 9, 3) := by decide +kernel
theorem dX13_cost_28 : decode cX13_cost 28 = .ok (.bipush 13, 2) := by decide +kernel
theorem dX13_cost_30 : decode cX13_cost 30 = .ok (.iaload, 1) := by decide +kernel
theorem dX13_cost_31 : decode cX13_cost 31 = .ok (.if_icmp .ge 99, 3) := by decide +kernel
theorem dX13_cost_34 : decode cX13_cost 34 = .ok (.ldc 125, 2) := by decide +kernel
theorem dX13_cost_36 : decode cX13_cost 36 = .ok (.istore_n 3, 1) := by decide +kernel
theorem dX13_cost_37 : decode cX13_cost 37 = .ok (.iload_n 1, 1) := by decide +kernel
theorem dX13_cost_38 : decode cX13_cost 38 = .ok (.istore 4, 2) := by decide +kernel
theorem dX13_cost_40 : decode cX13_cost 40 = .ok (.iload 4, 2) := by decide +kernel
theorem dX13_cost_42 : decode cX13_cost 42 = .ok (.iload_n 2, 1) := by decide +kernel
theorem dX13_cost_43 : decode cX13_cost 43 = .ok (.if_icmp .ge 69, 3) := by decide +kernel
theorem dX13_cost_46 : decode cX13_cost 46 = .ok (.aload_n 0, 1) := by decide +kernel
theorem dX13_cost_47 : decode cX13_cost 47 = .ok (.getfield 25, 3) := by decide +kernel
theorem dX13_cost_50 : decode cX13_cost 50 = .ok (.bipush 12, 2) := by decide +kernel
theorem dX13_cost_52 : decode cX13_cost 52 = .ok (.iload_n 1, 1) := by decide +kernel
theorem dX13_cost_53 : decode cX13_cost 53 = .ok (.imul, 1) := by decide +kernel
theorem dX13_cost_54 : decode cX13_cost 54 = .ok (.iload 4, 2) := by decide +kernel
theorem dX13_cost_56 : decode cX13_cost 56 = .ok (.iadd, 1) := by decide +kernel
theorem dX13_cost_57 : decode cX13_cost 57 = .ok (.iaload, 1) := by decide +kernel
theorem dX13_cost_58 : decode cX13_cost 58 = .ok (.aload_n 0, 1) := by decide +kernel
theorem dX13_cost_59 : decode cX13_cost 59 = .ok (.getfield 25, 3) := by decide +kernel
theorem dX13_cost_62 : decode cX13_cost 62 = .ok (.bipush 12, 2) := by decide +kernel
theorem dX13_cost_64 : decode cX13_cost 64 = .ok (.iload 4, 2) := by decide +kernel
theorem dX13_cost_66 : decode cX13_cost 66 = .ok (.iconst 1, 1) := by decide +kernel
theorem dX13_cost_67 : decode cX13_cost 67 = .ok (.iadd, 1) := by decide +kernel
theorem dX13_cost_68 : decode cX13_cost 68 = .ok (.imul, 1) := by decide +kernel
theorem dX13_cost_69 : decode cX13_cost 69 = .ok (.iload_n 2, 1) := by decide +kernel
theorem dX13_cost_70 : decode cX13_cost 70 = .ok (.iadd, 1) := by decide +kernel
theorem dX13_cost_71 : decode cX13_cost 71 = .ok (.iaload, 1) := by decide +kernel
theorem dX13_cost_72 : decode cX13_cost 72 = .ok (.iadd, 1) := by decide +kernel
theorem dX13_cost_73 : decode cX13_cost 73 = .ok (.aload_n 0, 1) := by decide +kernel
theorem dX13_cost_74 : decode cX13_cost 74 = .ok (.iload_n 1, 1) := by decide +kernel
theorem dX13_cost_75 : decode cX13_cost 75 = .ok (.iload 4, 2) := by decide +kernel
theorem dX13_cost_77 : decode cX13_cost 77 = .ok (.invokevirtual 126, 3) := by decide +kernel
theorem dX13_cost_80 : decode cX13_cost 80 = .ok (.iadd, 1) := by decide +kernel
theorem dX13_cost_81 : decode cX13_cost 81 = .ok (.aload_n 0, 1) := by decide +kernel
theorem dX13_cost_82 : decode cX13_cost 82 = .ok (.iload 4, 2) := by decide +kernel
theorem dX13_cost_84 : decode cX13_cost 84 = .ok (.iconst 1, 1) := by decide +kernel
theorem dX13_cost_85 : decode cX13_cost 85 = .ok (.iadd, 1) := by decide +kernel
theorem dX13_cost_86 : decode cX13_cost 86 = .ok (.iload_n 2, 1) := by decide +kernel
theorem dX13_cost_87 : decode cX13_cost 87 = .ok (.invokevirtual 126, 3) := by decide +kernel
theorem dX13_cost_90 : decode cX13_cost 90 = .ok (.iadd, 1) := by decide +kernel
theorem dX13_cost_91 : decode cX13_cost 91 = .ok (.istore 5, 2) := by decide +kernel
theorem dX13_cost_93 : decode cX13_cost 93 = .ok (.iload 5, 2) := by decide +kernel
theorem dX13_cost_95 : decode cX13_cost 95 = .ok (.iload_n 3, 1) := by decide +kernel
theorem dX13_cost_96 : decode cX13_cost 96 = .ok (.if_icmp .ge 8, 3) := by decide +kernel
theorem dX13_cost_99 : decode cX13_cost 99 = .ok (.iload 5, 2) := by decide +kernel
theorem dX13_cost_101 : decode cX13_cost 101 = .ok (.goto 4, 3) := by decide +kernel
theorem dX13_cost_104 : decode cX13_cost 104 = .ok (.iload_n 3, 1) := by decide +kernel
theorem dX13_cost_105 : decode cX13_cost 105 = .ok (.istore_n 3, 1) := by decide +kernel
theorem dX13_cost_106 : decode cX13_cost 106 = .ok (.iinc 4 1, 3) := by decide +kernel
theorem dX13_cost_109 : decode cX13_cost 109 = .ok (.goto (-69), 3) := by decide +kernel
theorem dX13_cost_112 : decode cX13_cost 112 = .ok (.aload_n 0, 1) := by decide +kernel
theorem dX13_cost_113 : decode cX13_cost 113 = .ok (.getfield 25, 3) := by decide +kernel
theorem dX13_cost_116 : decode cX13_cost 116 = .ok (.bipush 12, 2) := by decide +kernel
theorem dX13_cost_118 : decode cX13_cost 118 = .ok (.iload_n 1, 1) := by decide +kernel
theorem dX13_cost_119 : decode cX13_cost 119 = .ok (.imul, 1) := by decide +kernel
theorem dX13_cost_120 : decode cX13_cost 120 = .ok (.iload_n 2, 1) := by decide +kernel
theorem dX13_cost_121 : decode cX13_cost 121 = .ok (.iadd, 1) := by decide +kernel
theorem dX13_cost_122 : decode cX13_cost 122 = .ok (.iload_n 3, 1) := by decide +kernel
theorem dX13_cost_123 : decode cX13_cost 123 = .ok (.iastore, 1) := by decide +kernel
theorem dX13_cost_124 : decode cX13_cost 124 = .ok (.iinc 2 1, 3) := by decide +kernel
theorem dX13_cost_127 : decode cX13_cost 127 = .ok (.goto (-104), 3) := by decide +kernel
theorem dX13_cost_130 : decode cX13_cost 130 = .ok (.iinc 1 (-1), 3) := by decide +kernel
theorem dX13_cost_133 : decode cX13_cost 133 = .ok (.goto (-130), 3) := by decide +kernel
theorem dX13_cost_136 : decode cX13_cost 136 = .ok (.aload_n 0, 1) := by decide +kernel
theorem dX13_cost_137 : decode cX13_cost 137 = .ok (.getfield 9, 3) := by decide +kernel
theorem dX13_cost_140 : decode cX13_cost 140 = .ok (.bipush 13, 2) := by decide +kernel
theorem dX13_cost_142 : decode cX13_cost 142 = .ok (.iaload, 1) := by decide +kernel
theorem dX13_cost_143 : decode cX13_cost 143 = .ok (.iconst 2, 1) := by decide +kernel
theorem dX13_cost_144 : decode cX13_cost 144 = .ok (.if_icmp .ge 7, 3) := by decide +kernel
theorem dX13_cost_147 : decode cX13_cost 147 = .ok (.iconst 0, 1) := by decide +kernel
theorem dX13_cost_148 : decode cX13_cost 148 = .ok (.goto 17, 3) := by decide +kernel
theorem dX13_cost_151 : decode cX13_cost 151 = .ok (.aload_n 0, 1) := by decide +kernel
theorem dX13_cost_152 : decode cX13_cost 152 = .ok (.getfield 25, 3) := by decide +kernel
theorem dX13_cost_155 : decode cX13_cost 155 = .ok (.aload_n 0, 1) := by decide +kernel
theorem dX13_cost_156 : decode cX13_cost 156 = .ok (.getfield 9, 3) := by decide +kernel
theorem dX13_cost_159 : decode cX13_cost 159 = .ok (.bipush 13, 2) := by decide +kernel
theorem dX13_cost_161 : decode cX13_cost 161 = .ok (.iaload, 1) := by decide +kernel
theorem dX13_cost_162 : decode cX13_cost 162 = .ok (.iconst 1, 1) := by decide +kernel
theorem dX13_cost_163 : decode cX13_cost 163 = .ok (.isub, 1) := by decide +kernel
theorem dX13_cost_164 : decode cX13_cost 164 = .ok (.iaload, 1) := by decide +kernel
theorem dX13_cost_165 : decode cX13_cost 165 = .ok (.ireturn, 1) := by decide +kernel
theorem dX13_joins_0 : decode cX13_joins 0 = .ok (.aload_n 0, 1) := by decide +kernel
theorem dX13_joins_1 : decode cX13_joins 1 = .ok (.aload_n 0, 1) := by decide +kernel
theorem dX13_joins_2 : decode cX13_joins 2 = .ok (.getfield 9, 3) := by decide +kernel
theorem dX13_joins_5 : decode cX13_joins 5 = .ok (.bipush 13, 2) := by decide +kernel
theorem dX13_joins_7 : decode cX13_joins 7 = .ok (.iaload, 1) := by decide +kernel
theorem dX13_joins_8 : decode cX13_joins 8 = .ok (.iconst 2, 1) := by decide +kernel
theorem dX13_joins_9 : decode cX13_joins 9 = .ok (.if_icmp .ge 7, 3) := by decide +kernel
theorem dX13_joins_12 : decode cX13_joins 12 = .ok (.iconst 1, 1) := by decide +kernel
theorem dX13_joins_13 : decode cX13_joins 13 = .ok (.goto 4, 3) := by decide +kernel
theorem dX13_joins_16 : decode cX13_joins 16 = .ok (.iconst 0, 1) := by decide +kernel
theorem dX13_joins_17 : decode cX13_joins 17 = .ok (.iconst 1, 1) := by decide +kernel
theorem dX13_joins_18 : decode cX13_joins 18 = .ok (.invokevirtual 65, 3) := by decide +kernel
theorem dX13_joins_21 : decode cX13_joins 21 = .ok (.ifCond .eq 5, 3) := by decide +kernel
theorem dX13_joins_24 : decode cX13_joins 24 = .ok (.iconst 0, 1) := by decide +kernel
theorem dX13_joins_25 : decode cX13_joins 25 = .ok (.ireturn, 1) := by decide +kernel
theorem dX13_joins_26 : decode cX13_joins 26 = .ok (.aload_n 0, 1) := by decide +kernel
theorem dX13_joins_27 : decode cX13_joins 27 = .ok (.iconst 0, 1) := by decide +kernel
theorem dX13_joins_28 : decode cX13_joins 28 = .ok (.aload_n 0, 1) := by decide +kernel
theorem dX13_joins_29 : decode cX13_joins 29 = .ok (.getfield 9, 3) := by decide +kernel
theorem dX13_joins_32 : decode cX13_joins 32 = .ok (.bipush 13, 2) := by decide +kernel
theorem dX13_joins_34 : decode cX13_joins 34 = .ok (.iaload, 1) := by decide +kernel
theorem dX13_joins_35 : decode cX13_joins 35 = .ok (.iconst 1, 1) := by decide +kernel
theorem dX13_joins_36 : decode cX13_joins 36 = .ok (.isub, 1) := by decide +kernel
theorem dX13_joins_37 : decode cX13_joins 37 = .ok (.invokevirtual 126, 3) := by decide +kernel
theorem dX13_joins_40 : decode cX13_joins 40 = .ok (.istore_n 1, 1) := by decide +kernel
theorem dX13_joins_41 : decode cX13_joins 41 = .ok (.aload_n 0, 1) := by decide +kernel
theorem dX13_joins_42 : decode cX13_joins 42 = .ok (.getfield 9, 3) := by decide +kernel
theorem dX13_joins_45 : decode cX13_joins 45 = .ok (.iconst 2, 1) := by decide +kernel
theorem dX13_joins_46 : decode cX13_joins 46 = .ok (.dup2, 1) := by decide +kernel
theorem dX13_joins_47 : decode cX13_joins 47 = .ok (.iaload, 1) := by decide +kernel
theorem dX13_joins_48 : decode cX13_joins 48 = .ok (.aload_n 0, 1) := by decide +kernel
theorem dX13_joins_49 : decode cX13_joins 49 = .ok (.invokevirtual 129, 3) := by decide +kernel
theorem dX13_joins_52 : decode cX13_joins 52 = .ok (.iadd, 1) := by decide +kernel
theorem dX13_joins_53 : decode cX13_joins 53 = .ok (.iastore, 1) := by decide +kernel
theorem dX13_joins_54 : decode cX13_joins 54 = .ok (.aload_n 0, 1) := by decide +kernel
theorem dX13_joins_55 : decode cX13_joins 55 = .ok (.getfield 9, 3) := by decide +kernel
theorem dX13_joins_58 : decode cX13_joins 58 = .ok (.bipush 7, 2) := by decide +kernel
theorem dX13_joins_60 : decode cX13_joins 60 = .ok (.dup2, 1) := by decide +kernel
theorem dX13_joins_61 : decode cX13_joins 61 = .ok (.iaload, 1) := by decide +kernel
theorem dX13_joins_62 : decode cX13_joins 62 = .ok (.aload_n 0, 1) := by decide +kernel
theorem dX13_joins_63 : decode cX13_joins 63 = .ok (.getfield 9, 3) := by decide +kernel
theorem dX13_joins_66 : decode cX13_joins 66 = .ok (.bipush 13, 2) := by decide +kernel
theorem dX13_joins_68 : decode cX13_joins 68 = .ok (.iaload, 1) := by decide +kernel
theorem dX13_joins_69 : decode cX13_joins 69 = .ok (.iconst 1, 1) := by decide +kernel
theorem dX13_joins_70 : decode cX13_joins 70 = .ok (.isub, 1) := by decide +kernel
theorem dX13_joins_71 : decode cX13_joins 71 = .ok (.iadd, 1) := by decide +kernel
theorem dX13_joins_72 : decode cX13_joins 72 = .ok (.iastore, 1) := by decide +kernel
theorem dX13_joins_73 : decode cX13_joins 73 = .ok (.iconst 1, 1) := by decide +kernel
theorem dX13_joins_74 : decode cX13_joins 74 = .ok (.istore_n 2, 1) := by decide +kernel
theorem dX13_joins_75 : decode cX13_joins 75 = .ok (.iload_n 2, 1) := by decide +kernel
theorem dX13_joins_76 : decode cX13_joins 76 = .ok (.bipush 12, 2) := by decide +kernel
theorem dX13_joins_78 : decode cX13_joins 78 = .ok (.if_icmp .ge 19, 3) := by decide +kernel
theorem dX13_joins_81 : decode cX13_joins 81 = .ok (.aload_n 0, 1) := by decide +kernel
theorem dX13_joins_82 : decode cX13_joins 82 = .ok (.getfield 9, 3) := by decide +kernel
theorem dX13_joins_85 : decode cX13_joins 85 = .ok (.bipush 78, 2) := by decide +kernel
theorem dX13_joins_87 : decode cX13_joins 87 = .ok (.iload_n 2, 1) := by decide +kernel
theorem dX13_joins_88 : decode cX13_joins 88 = .ok (.iadd, 1) := by decide +kernel
theorem dX13_joins_89 : decode cX13_joins 89 = .ok (.iconst 0, 1) := by decide +kernel
theorem dX13_joins_90 : decode cX13_joins 90 = .ok (.iastore, 1) := by decide +kernel
theorem dX13_joins_91 : decode cX13_joins 91 = .ok (.iinc 2 1, 3) := by decide +kernel
theorem dX13_joins_94 : decode cX13_joins 94 = .ok (.goto (-19), 3) := by decide +kernel
theorem dX13_joins_97 : decode cX13_joins 97 = .ok (.aload_n 0, 1) := by decide +kernel
theorem dX13_joins_98 : decode cX13_joins 98 = .ok (.getfield 9, 3) := by decide +kernel
theorem dX13_joins_101 : decode cX13_joins 101 = .ok (.bipush 78, 2) := by decide +kernel
theorem dX13_joins_103 : decode cX13_joins 103 = .ok (.iload_n 1, 1) := by decide +kernel
theorem dX13_joins_104 : decode cX13_joins 104 = .ok (.iastore, 1) := by decide +kernel
theorem dX13_joins_105 : decode cX13_joins 105 = .ok (.aload_n 0, 1) := by decide +kernel
theorem dX13_joins_106 : decode cX13_joins 106 = .ok (.getfield 9, 3) := by decide +kernel
theorem dX13_joins_109 : decode cX13_joins 109 = .ok (.bipush 13, 2) := by decide +kernel
theorem dX13_joins_111 : decode cX13_joins 111 = .ok (.iconst 1, 1) := by decide +kernel
theorem dX13_joins_112 : decode cX13_joins 112 = .ok (.iastore, 1) := by decide +kernel
theorem dX13_joins_113 : decode cX13_joins 113 = .ok (.iload_n 1, 1) := by decide +kernel
theorem dX13_joins_114 : decode cX13_joins 114 = .ok (.ireturn, 1) := by decide +kernel
theorem dX13_spliceAll_0 : decode cX13_spliceAll 0 = .ok (.aload_n 0, 1) := by decide +kernel
theorem dX13_spliceAll_1 : decode cX13_spliceAll 1 = .ok (.invokevirtual 69, 3) := by decide +kernel
theorem dX13_spliceAll_4 : decode cX13_spliceAll 4 = .ok (.aload_n 0, 1) := by decide +kernel
theorem dX13_spliceAll_5 : decode cX13_spliceAll 5 = .ok (.aload_n 0, 1) := by decide +kernel
theorem dX13_spliceAll_6 : decode cX13_spliceAll 6 = .ok (.invokevirtual 133, 3) := by decide +kernel
theorem dX13_spliceAll_9 : decode cX13_spliceAll 9 = .ok (.invokevirtual 76, 3) := by decide +kernel
theorem dX13_spliceAll_12 : decode cX13_spliceAll 12 = .ok (.ireturn, 1) := by decide +kernel
theorem dX13_worth_0 : decode cX13_worth 0 = .ok (.aload_n 0, 1) := by decide +kernel
theorem dX13_worth_1 : decode cX13_worth 1 = .ok (.getfield 9, 3) := by decide +kernel
theorem dX13_worth_4 : decode cX13_worth 4 = .ok (.bipush 78, 2) := by decide +kernel
theorem dX13_worth_6 : decode cX13_worth 6 = .ok (.iload_n 1, 1) := by decide +kernel
theorem dX13_worth_7 : decode cX13_worth 7 = .ok (.iadd, 1) := by decide +kernel
theorem dX13_worth_8 : decode cX13_worth 8 = .ok (.iaload, 1) := by decide +kernel
theorem dX13_worth_9 : decode cX13_worth 9 = .ok (.istore_n 2, 1) := by decide +kernel
theorem dX13_worth_10 : decode cX13_worth 10 = .ok (.iload_n 2, 1) := by decide +kernel
theorem dX13_worth_11 : decode cX13_worth 11 = .ok (.bipush 10, 2) := by decide +kernel
theorem dX13_worth_13 : decode cX13_worth 13 = .ok (.if_icmp .lt 9, 3) := by decide +kernel
theorem dX13_worth_16 : decode cX13_worth 16 = .ok (.iconst 5, 1) := by decide +kernel
theorem dX13_worth_17 : decode cX13_worth 17 = .ok (.iload_n 2, 1) := by decide +kernel
theorem dX13_worth_18 : decode cX13_worth 18 = .ok (.imul, 1) := by decide +kernel
theorem dX13_worth_19 : decode cX13_worth 19 = .ok (.goto 6, 3) := by decide +kernel
theorem dX13_worth_22 : decode cX13_worth 22 = .ok (.iconst 2, 1) := by decide +kernel
theorem dX13_worth_23 : decode cX13_worth 23 = .ok (.iload_n 2, 1) := by decide +kernel
theorem dX13_worth_24 : decode cX13_worth 24 = .ok (.imul, 1) := by decide +kernel
theorem dX13_worth_25 : decode cX13_worth 25 = .ok (.ireturn, 1) := by decide +kernel
theorem dX13_sells_0 : decode cX13_sells 0 = .ok (.aload_n 0, 1) := by decide +kernel
theorem dX13_sells_1 : decode cX13_sells 1 = .ok (.aload_n 0, 1) := by decide +kernel
theorem dX13_sells_2 : decode cX13_sells 2 = .ok (.iload_n 1, 1) := by decide +kernel
theorem dX13_sells_3 : decode cX13_sells 3 = .ok (.invokevirtual 118, 3) := by decide +kernel
theorem dX13_sells_6 : decode cX13_sells 6 = .ok (.ifCond .ne 7, 3) := by decide +kernel
theorem dX13_sells_9 : decode cX13_sells 9 = .ok (.iconst 1, 1) := by decide +kernel
theorem dX13_sells_10 : decode cX13_sells 10 = .ok (.goto 4, 3) := by decide +kernel
theorem dX13_sells_13 : decode cX13_sells 13 = .ok (.iconst 0, 1) := by decide +kernel
theorem dX13_sells_14 : decode cX13_sells 14 = .ok (.iconst 1, 1) := by decide +kernel
theorem dX13_sells_15 : decode cX13_sells 15 = .ok (.invokevirtual 65, 3) := by decide +kernel
theorem dX13_sells_18 : decode cX13_sells 18 = .ok (.ifCond .eq 5, 3) := by decide +kernel
theorem dX13_sells_21 : decode cX13_sells 21 = .ok (.iconst 0, 1) := by decide +kernel
theorem dX13_sells_22 : decode cX13_sells 22 = .ok (.ireturn, 1) := by decide +kernel
theorem dX13_sells_23 : decode cX13_sells 23 = .ok (.aload_n 0, 1) := by decide +kernel
theorem dX13_sells_24 : decode cX13_sells 24 = .ok (.iload_n 1, 1) := by decide +kernel
theorem dX13_sells_25 : decode cX13_sells 25 = .ok (.invokevirtual 136, 3) := by decide +kernel
theorem dX13_sells_28 : decode cX13_sells 28 = .ok (.istore_n 2, 1) := by decide +kernel
theorem dX13_sells_29 : decode cX13_sells 29 = .ok (.aload_n 0, 1) := by decide +kernel
theorem dX13_sells_30 : decode cX13_sells 30 = .ok (.getfield 9, 3) := by decide +kernel
theorem dX13_sells_33 : decode cX13_sells 33 = .ok (.iconst 0, 1) := by decide +kernel
theorem dX13_sells_34 : decode cX13_sells 34 = .ok (.dup2, 1) := by decide +kernel
theorem dX13_sells_35 : decode cX13_sells 35 = .ok (.iaload, 1) := by decide +kernel
theorem dX13_sells_36 : decode cX13_sells 36 = .ok (.iload_n 2, 1) := by decide +kernel
theorem dX13_sells_37 : decode cX13_sells 37 = .ok (.iadd, 1) := by decide +kernel
theorem dX13_sells_38 : decode cX13_sells 38 = .ok (.iastore, 1) := by decide +kernel
theorem dX13_sells_39 : decode cX13_sells 39 = .ok (.aload_n 0, 1) := by decide +kernel
theorem dX13_sells_40 : decode cX13_sells 40 = .ok (.getfield 9, 3) := by decide +kernel
theorem dX13_sells_43 : decode cX13_sells 43 = .ok (.iconst 5, 1) := by decide +kernel
theorem dX13_sells_44 : decode cX13_sells 44 = .ok (.dup2, 1) := by decide +kernel
theorem dX13_sells_45 : decode cX13_sells 45 = .ok (.iaload, 1) := by decide +kernel
theorem dX13_sells_46 : decode cX13_sells 46 = .ok (.iload_n 2, 1) := by decide +kernel
theorem dX13_sells_47 : decode cX13_sells 47 = .ok (.iadd, 1) := by decide +kernel
theorem dX13_sells_48 : decode cX13_sells 48 = .ok (.iastore, 1) := by decide +kernel
theorem dX13_sells_49 : decode cX13_sells 49 = .ok (.aload_n 0, 1) := by decide +kernel
theorem dX13_sells_50 : decode cX13_sells 50 = .ok (.getfield 9, 3) := by decide +kernel
theorem dX13_sells_53 : decode cX13_sells 53 = .ok (.bipush 8, 2) := by decide +kernel
theorem dX13_sells_55 : decode cX13_sells 55 = .ok (.dup2, 1) := by decide +kernel
theorem dX13_sells_56 : decode cX13_sells 56 = .ok (.iaload, 1) := by decide +kernel
theorem dX13_sells_57 : decode cX13_sells 57 = .ok (.aload_n 0, 1) := by decide +kernel
theorem dX13_sells_58 : decode cX13_sells 58 = .ok (.getfield 9, 3) := by decide +kernel
theorem dX13_sells_61 : decode cX13_sells 61 = .ok (.bipush 78, 2) := by decide +kernel
theorem dX13_sells_63 : decode cX13_sells 63 = .ok (.iload_n 1, 1) := by decide +kernel
theorem dX13_sells_64 : decode cX13_sells 64 = .ok (.iadd, 1) := by decide +kernel
theorem dX13_sells_65 : decode cX13_sells 65 = .ok (.iaload, 1) := by decide +kernel
theorem dX13_sells_66 : decode cX13_sells 66 = .ok (.iadd, 1) := by decide +kernel
theorem dX13_sells_67 : decode cX13_sells 67 = .ok (.iastore, 1) := by decide +kernel
theorem dX13_sells_68 : decode cX13_sells 68 = .ok (.aload_n 0, 1) := by decide +kernel
theorem dX13_sells_69 : decode cX13_sells 69 = .ok (.bipush 78, 2) := by decide +kernel
theorem dX13_sells_71 : decode cX13_sells 71 = .ok (.iload_n 1, 1) := by decide +kernel
theorem dX13_sells_72 : decode cX13_sells 72 = .ok (.iadd, 1) := by decide +kernel
theorem dX13_sells_73 : decode cX13_sells 73 = .ok (.iconst 1, 1) := by decide +kernel
theorem dX13_sells_74 : decode cX13_sells 74 = .ok (.bipush 90, 2) := by decide +kernel
theorem dX13_sells_76 : decode cX13_sells 76 = .ok (.invokevirtual 93, 3) := by decide +kernel
theorem dX13_sells_79 : decode cX13_sells 79 = .ok (.aload_n 0, 1) := by decide +kernel
theorem dX13_sells_80 : decode cX13_sells 80 = .ok (.getfield 9, 3) := by decide +kernel
theorem dX13_sells_83 : decode cX13_sells 83 = .ok (.bipush 13, 2) := by decide +kernel
theorem dX13_sells_85 : decode cX13_sells 85 = .ok (.dup2, 1) := by decide +kernel
theorem dX13_sells_86 : decode cX13_sells 86 = .ok (.iaload, 1) := by decide +kernel
theorem dX13_sells_87 : decode cX13_sells 87 = .ok (.iconst 1, 1) := by decide +kernel
theorem dX13_sells_88 : decode cX13_sells 88 = .ok (.isub, 1) := by decide +kernel
theorem dX13_sells_89 : decode cX13_sells 89 = .ok (.iastore, 1) := by decide +kernel
theorem dX13_sells_90 : decode cX13_sells 90 = .ok (.iload_n 2, 1) := by decide +kernel
theorem dX13_sells_91 : decode cX13_sells 91 = .ok (.ireturn, 1) := by decide +kernel
theorem dX13_sell_0 : decode cX13_sell 0 = .ok (.aload_n 0, 1) := by decide +kernel
theorem dX13_sell_1 : decode cX13_sell 1 = .ok (.invokevirtual 69, 3) := by decide +kernel
theorem dX13_sell_4 : decode cX13_sell 4 = .ok (.aload_n 0, 1) := by decide +kernel
theorem dX13_sell_5 : decode cX13_sell 5 = .ok (.aload_n 0, 1) := by decide +kernel
theorem dX13_sell_6 : decode cX13_sell 6 = .ok (.iload_n 1, 1) := by decide +kernel
theorem dX13_sell_7 : decode cX13_sell 7 = .ok (.invokevirtual 139, 3) := by decide +kernel
theorem dX13_sell_10 : decode cX13_sell 10 = .ok (.invokevirtual 76, 3) := by decide +kernel
theorem dX13_sell_13 : decode cX13_sell 13 = .ok (.ireturn, 1) := by decide +kernel
theorem dX13_baleCount_0 : decode cX13_baleCount 0 = .ok (.aload_n 0, 1) := by decide +kernel
theorem dX13_baleCount_1 : decode cX13_baleCount 1 = .ok (.iconst 0, 1) := by decide +kernel
theorem dX13_baleCount_2 : decode cX13_baleCount 2 = .ok (.putfield 44, 3) := by decide +kernel
theorem dX13_baleCount_5 : decode cX13_baleCount 5 = .ok (.aload_n 0, 1) := by decide +kernel
theorem dX13_baleCount_6 : decode cX13_baleCount 6 = .ok (.getfield 9, 3) := by decide +kernel
theorem dX13_baleCount_9 : decode cX13_baleCount 9 = .ok (.bipush 11, 2) := by decide +kernel
theorem dX13_baleCount_11 : decode cX13_baleCount 11 = .ok (.iaload, 1) := by decide +kernel
theorem dX13_baleCount_12 : decode cX13_baleCount 12 = .ok (.ireturn, 1) := by decide +kernel
theorem dX13_baleAt_0 : decode cX13_baleAt 0 = .ok (.aload_n 0, 1) := by decide +kernel
theorem dX13_baleAt_1 : decode cX13_baleAt 1 = .ok (.iload_n 1, 1) := by decide +kernel
theorem dX13_baleAt_2 : decode cX13_baleAt 2 = .ok (.iconst 0, 1) := by decide +kernel
theorem dX13_baleAt_3 : decode cX13_baleAt 3 = .ok (.aload_n 0, 1) := by decide +kernel
theorem dX13_baleAt_4 : decode cX13_baleAt 4 = .ok (.getfield 9, 3) := by decide +kernel
theorem dX13_baleAt_7 : decode cX13_baleAt 7 = .ok (.bipush 11, 2) := by decide +kernel
theorem dX13_baleAt_9 : decode cX13_baleAt 9 = .ok (.iaload, 1) := by decide +kernel
theorem dX13_baleAt_10 : decode cX13_baleAt 10 = .ok (.iconst 1, 1) := by decide +kernel
theorem dX13_baleAt_11 : decode cX13_baleAt 11 = .ok (.isub, 1) := by decide +kernel
theorem dX13_baleAt_12 : decode cX13_baleAt 12 = .ok (.invokestatic 61, 3) := by decide +kernel
theorem dX13_baleAt_15 : decode cX13_baleAt 15 = .ok (.ifCond .ne 7, 3) := by decide +kernel
theorem dX13_baleAt_18 : decode cX13_baleAt 18 = .ok (.iconst 1, 1) := by decide +kernel
theorem dX13_baleAt_19 : decode cX13_baleAt 19 = .ok (.goto 4, 3) := by decide +kernel
theorem dX13_baleAt_22 : decode cX13_baleAt 22 = .ok (.iconst 0, 1) := by decide +kernel
theorem dX13_baleAt_23 : decode cX13_baleAt 23 = .ok (.iconst 1, 1) := by decide +kernel
theorem dX13_baleAt_24 : decode cX13_baleAt 24 = .ok (.invokevirtual 65, 3) := by decide +kernel
theorem dX13_baleAt_27 : decode cX13_baleAt 27 = .ok (.ifCond .eq 7, 3) := by decide +kernel
theorem dX13_baleAt_30 : decode cX13_baleAt 30 = .ok (.iconst 0, 1) := by decide +kernel
theorem dX13_baleAt_31 : decode cX13_baleAt 31 = .ok (.goto 9, 3) := by decide +kernel
theorem dX13_baleAt_34 : decode cX13_baleAt 34 = .ok (.aload_n 0, 1) := by decide +kernel
theorem dX13_baleAt_35 : decode cX13_baleAt 35 = .ok (.iload_n 1, 1) := by decide +kernel
theorem dX13_baleAt_36 : decode cX13_baleAt 36 = .ok (.iconst 0, 1) := by decide +kernel
theorem dX13_baleAt_37 : decode cX13_baleAt 37 = .ok (.invokevirtual 54, 3) := by decide +kernel
theorem dX13_baleAt_40 : decode cX13_baleAt 40 = .ok (.ireturn, 1) := by decide +kernel
theorem dX13_tellsBale_0 : decode cX13_tellsBale 0 = .ok (.aload_n 0, 1) := by decide +kernel
theorem dX13_tellsBale_1 : decode cX13_tellsBale 1 = .ok (.aload_n 0, 1) := by decide +kernel
theorem dX13_tellsBale_2 : decode cX13_tellsBale 2 = .ok (.iload_n 1, 1) := by decide +kernel
theorem dX13_tellsBale_3 : decode cX13_tellsBale 3 = .ok (.invokevirtual 142, 3) := by decide +kernel
theorem dX13_tellsBale_6 : decode cX13_tellsBale 6 = .ok (.ifCond .ge 7, 3) := by decide +kernel
theorem dX13_tellsBale_9 : decode cX13_tellsBale 9 = .ok (.iconst 1, 1) := by decide +kernel
theorem dX13_tellsBale_10 : decode cX13_tellsBale 10 = .ok (.goto 4, 3) := by decide +kernel
theorem dX13_tellsBale_13 : decode cX13_tellsBale 13 = .ok (.iconst 0, 1) := by decide +kernel
theorem dX13_tellsBale_14 : decode cX13_tellsBale 14 = .ok (.iconst 1, 1) := by decide +kernel
theorem dX13_tellsBale_15 : decode cX13_tellsBale 15 = .ok (.invokevirtual 65, 3) := by decide +kernel
theorem dX13_tellsBale_18 : decode cX13_tellsBale 18 = .ok (.ifCond .eq 7, 3) := by decide +kernel
theorem dX13_tellsBale_21 : decode cX13_tellsBale 21 = .ok (.iconst 0, 1) := by decide +kernel
theorem dX13_tellsBale_22 : decode cX13_tellsBale 22 = .ok (.goto 13, 3) := by decide +kernel
theorem dX13_tellsBale_25 : decode cX13_tellsBale 25 = .ok (.aload_n 0, 1) := by decide +kernel
theorem dX13_tellsBale_26 : decode cX13_tellsBale 26 = .ok (.aload_n 0, 1) := by decide +kernel
theorem dX13_tellsBale_27 : decode cX13_tellsBale 27 = .ok (.iload_n 1, 1) := by decide +kernel
theorem dX13_tellsBale_28 : decode cX13_tellsBale 28 = .ok (.invokevirtual 142, 3) := by decide +kernel
theorem dX13_tellsBale_31 : decode cX13_tellsBale 31 = .ok (.iload_n 2, 1) := by decide +kernel
theorem dX13_tellsBale_32 : decode cX13_tellsBale 32 = .ok (.invokevirtual 54, 3) := by decide +kernel
theorem dX13_tellsBale_35 : decode cX13_tellsBale 35 = .ok (.ireturn, 1) := by decide +kernel
theorem dX13_weight_0 : decode cX13_weight 0 = .ok (.aload_n 0, 1) := by decide +kernel
theorem dX13_weight_1 : decode cX13_weight 1 = .ok (.iload_n 1, 1) := by decide +kernel
theorem dX13_weight_2 : decode cX13_weight 2 = .ok (.iconst 1, 1) := by decide +kernel
theorem dX13_weight_3 : decode cX13_weight 3 = .ok (.invokevirtual 145, 3) := by decide +kernel
theorem dX13_weight_6 : decode cX13_weight 6 = .ok (.ireturn, 1) := by decide +kernel
theorem dX13_staple_0 : decode cX13_staple 0 = .ok (.aload_n 0, 1) := by decide +kernel
theorem dX13_staple_1 : decode cX13_staple 1 = .ok (.iload_n 1, 1) := by decide +kernel
theorem dX13_staple_2 : decode cX13_staple 2 = .ok (.iconst 2, 1) := by decide +kernel
theorem dX13_staple_3 : decode cX13_staple 3 = .ok (.invokevirtual 145, 3) := by decide +kernel
theorem dX13_staple_6 : decode cX13_staple 6 = .ok (.ireturn, 1) := by decide +kernel
theorem dX13_price_0 : decode cX13_price 0 = .ok (.aload_n 0, 1) := by decide +kernel
theorem dX13_price_1 : decode cX13_price 1 = .ok (.iload_n 1, 1) := by decide +kernel
theorem dX13_price_2 : decode cX13_price 2 = .ok (.iconst 3, 1) := by decide +kernel
theorem dX13_price_3 : decode cX13_price 3 = .ok (.invokevirtual 145, 3) := by decide +kernel
theorem dX13_price_6 : decode cX13_price 6 = .ok (.ireturn, 1) := by decide +kernel
theorem dX13_isDearer_0 : decode cX13_isDearer 0 = .ok (.aload_n 0, 1) := by decide +kernel
theorem dX13_isDearer_1 : decode cX13_isDearer 1 = .ok (.iload_n 1, 1) := by decide +kernel
theorem dX13_isDearer_2 : decode cX13_isDearer 2 = .ok (.iconst 1, 1) := by decide +kernel
theorem dX13_isDearer_3 : decode cX13_isDearer 3 = .ok (.invokevirtual 54, 3) := by decide +kernel
theorem dX13_isDearer_6 : decode cX13_isDearer 6 = .ok (.aload_n 0, 1) := by decide +kernel
theorem dX13_isDearer_7 : decode cX13_isDearer 7 = .ok (.iload_n 1, 1) := by decide +kernel
theorem dX13_isDearer_8 : decode cX13_isDearer 8 = .ok (.iconst 3, 1) := by decide +kernel
theorem dX13_isDearer_9 : decode cX13_isDearer 9 = .ok (.invokevirtual 54, 3) := by decide +kernel
theorem dX13_isDearer_12 : decode cX13_isDearer 12 = .ok (.imul, 1) := by decide +kernel
theorem dX13_isDearer_13 : decode cX13_isDearer 13 = .ok (.aload_n 0, 1) := by decide +kernel
theorem dX13_isDearer_14 : decode cX13_isDearer 14 = .ok (.iload_n 2, 1) := by decide +kernel
theorem dX13_isDearer_15 : decode cX13_isDearer 15 = .ok (.iconst 1, 1) := by decide +kernel
theorem dX13_isDearer_16 : decode cX13_isDearer 16 = .ok (.invokevirtual 54, 3) := by decide +kernel
theorem dX13_isDearer_19 : decode cX13_isDearer 19 = .ok (.aload_n 0, 1) := by decide +kernel
theorem dX13_isDearer_20 : decode cX13_isDearer 20 = .ok (.iload_n 2, 1) := by decide +kernel
theorem dX13_isDearer_21 : decode cX13_isDearer 21 = .ok (.iconst 3, 1) := by decide +kernel
theorem dX13_isDearer_22 : decode cX13_isDearer 22 = .ok (.invokevirtual 54, 3) := by decide +kernel
theorem dX13_isDearer_25 : decode cX13_isDearer 25 = .ok (.imul, 1) := by decide +kernel
theorem dX13_isDearer_26 : decode cX13_isDearer 26 = .ok (.isub, 1) := by decide +kernel
theorem dX13_isDearer_27 : decode cX13_isDearer 27 = .ok (.istore_n 3, 1) := by decide +kernel
theorem dX13_isDearer_28 : decode cX13_isDearer 28 = .ok (.iload_n 3, 1) := by decide +kernel
theorem dX13_isDearer_29 : decode cX13_isDearer 29 = .ok (.ifCond .eq 13, 3) := by decide +kernel
theorem dX13_isDearer_32 : decode cX13_isDearer 32 = .ok (.iload_n 3, 1) := by decide +kernel
theorem dX13_isDearer_33 : decode cX13_isDearer 33 = .ok (.ifCond .le 7, 3) := by decide +kernel
theorem dX13_isDearer_36 : decode cX13_isDearer 36 = .ok (.iconst 1, 1) := by decide +kernel
theorem dX13_isDearer_37 : decode cX13_isDearer 37 = .ok (.goto 4, 3) := by decide +kernel
theorem dX13_isDearer_40 : decode cX13_isDearer 40 = .ok (.iconst 0, 1) := by decide +kernel
theorem dX13_isDearer_41 : decode cX13_isDearer 41 = .ok (.ireturn, 1) := by decide +kernel
theorem dX13_isDearer_42 : decode cX13_isDearer 42 = .ok (.aload_n 0, 1) := by decide +kernel
theorem dX13_isDearer_43 : decode cX13_isDearer 43 = .ok (.iload_n 1, 1) := by decide +kernel
theorem dX13_isDearer_44 : decode cX13_isDearer 44 = .ok (.iconst 2, 1) := by decide +kernel
theorem dX13_isDearer_45 : decode cX13_isDearer 45 = .ok (.invokevirtual 54, 3) := by decide +kernel
theorem dX13_isDearer_48 : decode cX13_isDearer 48 = .ok (.aload_n 0, 1) := by decide +kernel
theorem dX13_isDearer_49 : decode cX13_isDearer 49 = .ok (.iload_n 2, 1) := by decide +kernel
theorem dX13_isDearer_50 : decode cX13_isDearer 50 = .ok (.iconst 2, 1) := by decide +kernel
theorem dX13_isDearer_51 : decode cX13_isDearer 51 = .ok (.invokevirtual 54, 3) := by decide +kernel
theorem dX13_isDearer_54 : decode cX13_isDearer 54 = .ok (.if_icmp .eq 26, 3) := by decide +kernel
theorem dX13_isDearer_57 : decode cX13_isDearer 57 = .ok (.aload_n 0, 1) := by decide +kernel
theorem dX13_isDearer_58 : decode cX13_isDearer 58 = .ok (.iload_n 1, 1) := by decide +kernel
theorem dX13_isDearer_59 : decode cX13_isDearer 59 = .ok (.iconst 2, 1) := by decide +kernel
theorem dX13_isDearer_60 : decode cX13_isDearer 60 = .ok (.invokevirtual 54, 3) := by decide +kernel
theorem dX13_isDearer_63 : decode cX13_isDearer 63 = .ok (.aload_n 0, 1) := by decide +kernel
theorem dX13_isDearer_64 : decode cX13_isDearer 64 = .ok (.iload_n 2, 1) := by decide +kernel
theorem dX13_isDearer_65 : decode cX13_isDearer 65 = .ok (.iconst 2, 1) := by decide +kernel
theorem dX13_isDearer_66 : decode cX13_isDearer 66 = .ok (.invokevirtual 54, 3) := by decide +kernel
theorem dX13_isDearer_69 : decode cX13_isDearer 69 = .ok (.if_icmp .le 7, 3) := by decide +kernel
theorem dX13_isDearer_72 : decode cX13_isDearer 72 = .ok (.iconst 1, 1) := by decide +kernel
theorem dX13_isDearer_73 : decode cX13_isDearer 73 = .ok (.goto 17, 3) := by decide +kernel
theorem dX13_isDearer_76 : decode cX13_isDearer 76 = .ok (.iconst 0, 1) := by decide +kernel
theorem dX13_isDearer_77 : decode cX13_isDearer 77 = .ok (.goto 13, 3) := by decide +kernel
theorem dX13_isDearer_80 : decode cX13_isDearer 80 = .ok (.iload_n 1, 1) := by decide +kernel
theorem dX13_isDearer_81 : decode cX13_isDearer 81 = .ok (.iload_n 2, 1) := by decide +kernel
theorem dX13_isDearer_82 : decode cX13_isDearer 82 = .ok (.if_icmp .ge 7, 3) := by decide +kernel
theorem dX13_isDearer_85 : decode cX13_isDearer 85 = .ok (.iconst 1, 1) := by decide +kernel
theorem dX13_isDearer_86 : decode cX13_isDearer 86 = .ok (.goto 4, 3) := by decide +kernel
theorem dX13_isDearer_89 : decode cX13_isDearer 89 = .ok (.iconst 0, 1) := by decide +kernel
theorem dX13_isDearer_90 : decode cX13_isDearer 90 = .ok (.ireturn, 1) := by decide +kernel
theorem dX13_baleByValue_0 : decode cX13_baleByValue 0 = .ok (.iconst 0, 1) := by decide +kernel
theorem dX13_baleByValue_1 : decode cX13_baleByValue 1 = .ok (.istore_n 2, 1) := by decide +kernel
theorem dX13_baleByValue_2 : decode cX13_baleByValue 2 = .ok (.iload_n 2, 1) := by decide +kernel
theorem dX13_baleByValue_3 : decode cX13_baleByValue 3 = .ok (.aload_n 0, 1) := by decide +kernel
theorem dX13_baleByValue_4 : decode cX13_baleByValue 4 = .ok (.getfield 9, 3) := by decide +kernel
theorem dX13_baleByValue_7 : decode cX13_baleByValue 7 = .ok (.bipush 11, 2) := by decide +kernel
theorem dX13_baleByValue_9 : decode cX13_baleByValue 9 = .ok (.iaload, 1) := by decide +kernel
theorem dX13_baleByValue_10 : decode cX13_baleByValue 10 = .ok (.if_icmp .ge 73, 3) := by decide +kernel
theorem dX13_baleByValue_13 : decode cX13_baleByValue 13 = .ok (.iconst 0, 1) := by decide +kernel
theorem dX13_baleByValue_14 : decode cX13_baleByValue 14 = .ok (.istore_n 3, 1) := by decide +kernel
theorem dX13_baleByValue_15 : decode cX13_baleByValue 15 = .ok (.iconst 0, 1) := by decide +kernel
theorem dX13_baleByValue_16 : decode cX13_baleByValue 16 = .ok (.istore 4, 2) := by decide +kernel
theorem dX13_baleByValue_18 : decode cX13_baleByValue 18 = .ok (.iload 4, 2) := by decide +kernel
theorem dX13_baleByValue_20 : decode cX13_baleByValue 20 = .ok (.aload_n 0, 1) := by decide +kernel
theorem dX13_baleByValue_21 : decode cX13_baleByValue 21 = .ok (.getfield 9, 3) := by decide +kernel
theorem dX13_baleByValue_24 : decode cX13_baleByValue 24 = .ok (.bipush 11, 2) := by decide +kernel
theorem dX13_baleByValue_26 : decode cX13_baleByValue 26 = .ok (.iaload, 1) := by decide +kernel
theorem dX13_baleByValue_27 : decode cX13_baleByValue 27 = .ok (.if_icmp .ge 33, 3) := by decide +kernel
theorem dX13_baleByValue_30 : decode cX13_baleByValue 30 = .ok (.iload_n 3, 1) := by decide +kernel
theorem dX13_baleByValue_31 : decode cX13_baleByValue 31 = .ok (.iload 4, 2) := by decide +kernel
theorem dX13_baleByValue_33 : decode cX13_baleByValue 33 = .ok (.iload_n 2, 1) := by decide +kernel
theorem dX13_baleByValue_34 : decode cX13_baleByValue 34 = .ok (.if_icmp .eq 17, 3) := by decide +kernel
theorem dX13_baleByValue_37 : decode cX13_baleByValue 37 = .ok (.aload_n 0, 1) := by decide +kernel
theorem dX13_baleByValue_38 : decode cX13_baleByValue 38 = .ok (.iload 4, 2) := by decide +kernel
theorem dX13_baleByValue_40 : decode cX13_baleByValue 40 = .ok (.iload_n 2, 1) := by decide +kernel
theorem dX13_baleByValue_41 : decode cX13_baleByValue 41 = .ok (.invokevirtual 148, 3) := by decide +kernel
theorem dX13_baleByValue_44 : decode cX13_baleByValue 44 = .ok (.ifCond .eq 7, 3) := by decide +kernel
theorem dX13_baleByValue_47 : decode cX13_baleByValue 47 = .ok (.iconst 1, 1) := by decide +kernel
theorem dX13_baleByValue_48 : decode cX13_baleByValue 48 = .ok (.goto 4, 3) := by decide +kernel
theorem dX13_baleByValue_51 : decode cX13_baleByValue 51 = .ok (.iconst 0, 1) := by decide +kernel
theorem dX13_baleByValue_52 : decode cX13_baleByValue 52 = .ok (.iadd, 1) := by decide +kernel
theorem dX13_baleByValue_53 : decode cX13_baleByValue 53 = .ok (.istore_n 3, 1) := by decide +kernel
theorem dX13_baleByValue_54 : decode cX13_baleByValue 54 = .ok (.iinc 4 1, 3) := by decide +kernel
theorem dX13_baleByValue_57 : decode cX13_baleByValue 57 = .ok (.goto (-39), 3) := by decide +kernel
theorem dX13_baleByValue_60 : decode cX13_baleByValue 60 = .ok (.iload_n 3, 1) := by decide +kernel
theorem dX13_baleByValue_61 : decode cX13_baleByValue 61 = .ok (.iload_n 1, 1) := by decide +kernel
theorem dX13_baleByValue_62 : decode cX13_baleByValue 62 = .ok (.if_icmp .ne 15, 3) := by decide +kernel
theorem dX13_baleByValue_65 : decode cX13_baleByValue 65 = .ok (.aload_n 0, 1) := by decide +kernel
theorem dX13_baleByValue_66 : decode cX13_baleByValue 66 = .ok (.iconst 0, 1) := by decide +kernel
theorem dX13_baleByValue_67 : decode cX13_baleByValue 67 = .ok (.putfield 44, 3) := by decide +kernel
theorem dX13_baleByValue_70 : decode cX13_baleByValue 70 = .ok (.aload_n 0, 1) := by decide +kernel
theorem dX13_baleByValue_71 : decode cX13_baleByValue 71 = .ok (.iload_n 2, 1) := by decide +kernel
theorem dX13_baleByValue_72 : decode cX13_baleByValue 72 = .ok (.iconst 0, 1) := by decide +kernel
theorem dX13_baleByValue_73 : decode cX13_baleByValue 73 = .ok (.invokevirtual 54, 3) := by decide +kernel
theorem dX13_baleByValue_76 : decode cX13_baleByValue 76 = .ok (.ireturn, 1) := by decide +kernel
theorem dX13_baleByValue_77 : decode cX13_baleByValue 77 = .ok (.iinc 2 1, 3) := by decide +kernel
theorem dX13_baleByValue_80 : decode cX13_baleByValue 80 = .ok (.goto (-78), 3) := by decide +kernel
theorem dX13_baleByValue_83 : decode cX13_baleByValue 83 = .ok (.aload_n 0, 1) := by decide +kernel
theorem dX13_baleByValue_84 : decode cX13_baleByValue 84 = .ok (.iconst 1, 1) := by decide +kernel
theorem dX13_baleByValue_85 : decode cX13_baleByValue 85 = .ok (.putfield 44, 3) := by decide +kernel
theorem dX13_baleByValue_88 : decode cX13_baleByValue 88 = .ok (.iconst 0, 1) := by decide +kernel
theorem dX13_baleByValue_89 : decode cX13_baleByValue 89 = .ok (.ireturn, 1) := by decide +kernel
theorem dX13_blendValue_0 : decode cX13_blendValue 0 = .ok (.aload_n 0, 1) := by decide +kernel
theorem dX13_blendValue_1 : decode cX13_blendValue 1 = .ok (.iload_n 1, 1) := by decide +kernel
theorem dX13_blendValue_2 : decode cX13_blendValue 2 = .ok (.iload_n 2, 1) := by decide +kernel
theorem dX13_blendValue_3 : decode cX13_blendValue 3 = .ok (.invokestatic 87, 3) := by decide +kernel
theorem dX13_blendValue_6 : decode cX13_blendValue 6 = .ok (.ifCond .ne 7, 3) := by decide +kernel
theorem dX13_blendValue_9 : decode cX13_blendValue 9 = .ok (.iconst 1, 1) := by decide +kernel
theorem dX13_blendValue_10 : decode cX13_blendValue 10 = .ok (.goto 4, 3) := by decide +kernel
theorem dX13_blendValue_13 : decode cX13_blendValue 13 = .ok (.iconst 0, 1) := by decide +kernel
theorem dX13_blendValue_14 : decode cX13_blendValue 14 = .ok (.iconst 1, 1) := by decide +kernel
theorem dX13_blendValue_15 : decode cX13_blendValue 15 = .ok (.invokevirtual 65, 3) := by decide +kernel
theorem dX13_blendValue_18 : decode cX13_blendValue 18 = .ok (.ifCond .eq 5, 3) := by decide +kernel
theorem dX13_blendValue_21 : decode cX13_blendValue 21 = .ok (.iconst 0, 1) := by decide +kernel
theorem dX13_blendValue_22 : decode cX13_blendValue 22 = .ok (.ireturn, 1) := by decide +kernel
theorem dX13_blendValue_23 : decode cX13_blendValue 23 = .ok (.aload_n 0, 1) := by decide +kernel
theorem dX13_blendValue_24 : decode cX13_blendValue 24 = .ok (.iload_n 1, 1) := by decide +kernel
theorem dX13_blendValue_25 : decode cX13_blendValue 25 = .ok (.iload_n 2, 1) := by decide +kernel
theorem dX13_blendValue_26 : decode cX13_blendValue 26 = .ok (.invokevirtual 90, 3) := by decide +kernel
theorem dX13_blendValue_29 : decode cX13_blendValue 29 = .ok (.istore_n 3, 1) := by decide +kernel
theorem dX13_blendValue_30 : decode cX13_blendValue 30 = .ok (.aload_n 0, 1) := by decide +kernel
theorem dX13_blendValue_31 : decode cX13_blendValue 31 = .ok (.iload_n 3, 1) := by decide +kernel
theorem dX13_blendValue_32 : decode cX13_blendValue 32 = .ok (.ifCond .ne 7, 3) := by decide +kernel
theorem dX13_blendValue_35 : decode cX13_blendValue 35 = .ok (.iconst 1, 1) := by decide +kernel
theorem dX13_blendValue_36 : decode cX13_blendValue 36 = .ok (.goto 4, 3) := by decide +kernel
theorem dX13_blendValue_39 : decode cX13_blendValue 39 = .ok (.iconst 0, 1) := by decide +kernel
theorem dX13_blendValue_40 : decode cX13_blendValue 40 = .ok (.iconst 2, 1) := by decide +kernel
theorem dX13_blendValue_41 : decode cX13_blendValue 41 = .ok (.invokevirtual 65, 3) := by decide +kernel
theorem dX13_blendValue_44 : decode cX13_blendValue 44 = .ok (.ifCond .eq 7, 3) := by decide +kernel
theorem dX13_blendValue_47 : decode cX13_blendValue 47 = .ok (.iconst 0, 1) := by decide +kernel
theorem dX13_blendValue_48 : decode cX13_blendValue 48 = .ok (.goto 9, 3) := by decide +kernel
