theorem dX13_blendValue_51 : decode cX13_blendValue 51 = .ok (.aload_n 0, 1) := by decide +kernel
theorem dX13_blendValue_52 : decode cX13_blendValue 52 = .ok (.iload_n 3, 1) := by decide +kernel
theorem dX13_blendValue_53 : decode cX13_blendValue 53 = .ok (.iconst 1, 1) := by decide +kernel
theorem dX13_blendValue_54 : decode cX13_blendValue 54 = .ok (.invokevirtual 80, 3) := by decide +kernel
theorem dX13_blendValue_57 : decode cX13_blendValue 57 = .ok (.ireturn, 1) := by decide +kernel
theorem dX13_blendValueBySearch_0 : decode cX13_blendValueBySearch 0 = .ok (.aload_n 0, 1) := by decide +kernel
theorem dX13_blendValueBySearch_1 : decode cX13_blendValueBySearch 1 = .ok (.iload_n 1, 1) := by decide +kernel
theorem dX13_blendValueBySearch_2 : decode cX13_blendValueBySearch 2 = .ok (.iload_n 2, 1) := by decide +kernel
theorem dX13_blendValueBySearch_3 : decode cX13_blendValueBySearch 3 = .ok (.invokevirtual 151, 3) := by decide +kernel
theorem dX13_blendValueBySearch_6 : decode cX13_blendValueBySearch 6 = .ok (.ireturn, 1) := by decide +kernel
theorem dX13_isInBlend_0 : decode cX13_isInBlend 0 = .ok (.aload_n 0, 1) := by decide +kernel
theorem dX13_isInBlend_1 : decode cX13_isInBlend 1 = .ok (.aload_n 0, 1) := by decide +kernel
theorem dX13_isInBlend_2 : decode cX13_isInBlend 2 = .ok (.iload_n 1, 1) := by decide +kernel
theorem dX13_isInBlend_3 : decode cX13_isInBlend 3 = .ok (.invokevirtual 142, 3) := by decide +kernel
theorem dX13_isInBlend_6 : decode cX13_isInBlend 6 = .ok (.ifCond .ge 7, 3) := by decide +kernel
theorem dX13_isInBlend_9 : decode cX13_isInBlend 9 = .ok (.iconst 1, 1) := by decide +kernel
theorem dX13_isInBlend_10 : decode cX13_isInBlend 10 = .ok (.goto 4, 3) := by decide +kernel
theorem dX13_isInBlend_13 : decode cX13_isInBlend 13 = .ok (.iconst 0, 1) := by decide +kernel
theorem dX13_isInBlend_14 : decode cX13_isInBlend 14 = .ok (.iconst 1, 1) := by decide +kernel
theorem dX13_isInBlend_15 : decode cX13_isInBlend 15 = .ok (.invokevirtual 65, 3) := by decide +kernel
theorem dX13_isInBlend_18 : decode cX13_isInBlend 18 = .ok (.ifCond .ne 24, 3) := by decide +kernel
theorem dX13_isInBlend_21 : decode cX13_isInBlend 21 = .ok (.aload_n 0, 1) := by decide +kernel
theorem dX13_isInBlend_22 : decode cX13_isInBlend 22 = .ok (.iload_n 2, 1) := by decide +kernel
theorem dX13_isInBlend_23 : decode cX13_isInBlend 23 = .ok (.iload_n 3, 1) := by decide +kernel
theorem dX13_isInBlend_24 : decode cX13_isInBlend 24 = .ok (.invokestatic 87, 3) := by decide +kernel
theorem dX13_isInBlend_27 : decode cX13_isInBlend 27 = .ok (.ifCond .ne 7, 3) := by decide +kernel
theorem dX13_isInBlend_30 : decode cX13_isInBlend 30 = .ok (.iconst 1, 1) := by decide +kernel
theorem dX13_isInBlend_31 : decode cX13_isInBlend 31 = .ok (.goto 4, 3) := by decide +kernel
theorem dX13_isInBlend_34 : decode cX13_isInBlend 34 = .ok (.iconst 0, 1) := by decide +kernel
theorem dX13_isInBlend_35 : decode cX13_isInBlend 35 = .ok (.iconst 2, 1) := by decide +kernel
theorem dX13_isInBlend_36 : decode cX13_isInBlend 36 = .ok (.invokevirtual 65, 3) := by decide +kernel
theorem dX13_isInBlend_39 : decode cX13_isInBlend 39 = .ok (.ifCond .eq 5, 3) := by decide +kernel
theorem dX13_isInBlend_42 : decode cX13_isInBlend 42 = .ok (.iconst 0, 1) := by decide +kernel
theorem dX13_isInBlend_43 : decode cX13_isInBlend 43 = .ok (.ireturn, 1) := by decide +kernel
theorem dX13_isInBlend_44 : decode cX13_isInBlend 44 = .ok (.aload_n 0, 1) := by decide +kernel
theorem dX13_isInBlend_45 : decode cX13_isInBlend 45 = .ok (.iload_n 2, 1) := by decide +kernel
theorem dX13_isInBlend_46 : decode cX13_isInBlend 46 = .ok (.iload_n 3, 1) := by decide +kernel
theorem dX13_isInBlend_47 : decode cX13_isInBlend 47 = .ok (.invokevirtual 90, 3) := by decide +kernel
theorem dX13_isInBlend_50 : decode cX13_isInBlend 50 = .ok (.istore 4, 2) := by decide +kernel
theorem dX13_isInBlend_52 : decode cX13_isInBlend 52 = .ok (.aload_n 0, 1) := by decide +kernel
theorem dX13_isInBlend_53 : decode cX13_isInBlend 53 = .ok (.iload 4, 2) := by decide +kernel
theorem dX13_isInBlend_55 : decode cX13_isInBlend 55 = .ok (.ifCond .ne 7, 3) := by decide +kernel
theorem dX13_isInBlend_58 : decode cX13_isInBlend 58 = .ok (.iconst 1, 1) := by decide +kernel
theorem dX13_isInBlend_59 : decode cX13_isInBlend 59 = .ok (.goto 4, 3) := by decide +kernel
theorem dX13_isInBlend_62 : decode cX13_isInBlend 62 = .ok (.iconst 0, 1) := by decide +kernel
theorem dX13_isInBlend_63 : decode cX13_isInBlend 63 = .ok (.iconst 3, 1) := by decide +kernel
theorem dX13_isInBlend_64 : decode cX13_isInBlend 64 = .ok (.invokevirtual 65, 3) := by decide +kernel
theorem dX13_isInBlend_67 : decode cX13_isInBlend 67 = .ok (.ifCond .ne 21, 3) := by decide +kernel
theorem dX13_isInBlend_70 : decode cX13_isInBlend 70 = .ok (.iload 4, 2) := by decide +kernel
theorem dX13_isInBlend_72 : decode cX13_isInBlend 72 = .ok (.aload_n 0, 1) := by decide +kernel
theorem dX13_isInBlend_73 : decode cX13_isInBlend 73 = .ok (.iload_n 1, 1) := by decide +kernel
theorem dX13_isInBlend_74 : decode cX13_isInBlend 74 = .ok (.invokevirtual 142, 3) := by decide +kernel
theorem dX13_isInBlend_77 : decode cX13_isInBlend 77 = .ok (.ishr, 1) := by decide +kernel
theorem dX13_isInBlend_78 : decode cX13_isInBlend 78 = .ok (.iconst 1, 1) := by decide +kernel
theorem dX13_isInBlend_79 : decode cX13_isInBlend 79 = .ok (.iand, 1) := by decide +kernel
theorem dX13_isInBlend_80 : decode cX13_isInBlend 80 = .ok (.iconst 1, 1) := by decide +kernel
theorem dX13_isInBlend_81 : decode cX13_isInBlend 81 = .ok (.if_icmp .ne 7, 3) := by decide +kernel
theorem dX13_isInBlend_84 : decode cX13_isInBlend 84 = .ok (.iconst 1, 1) := by decide +kernel
theorem dX13_isInBlend_85 : decode cX13_isInBlend 85 = .ok (.goto 4, 3) := by decide +kernel
theorem dX13_isInBlend_88 : decode cX13_isInBlend 88 = .ok (.iconst 0, 1) := by decide +kernel
theorem dX13_isInBlend_89 : decode cX13_isInBlend 89 = .ok (.ireturn, 1) := by decide +kernel
theorem dX13_orderCount_0 : decode cX13_orderCount 0 = .ok (.aload_n 0, 1) := by decide +kernel
theorem dX13_orderCount_1 : decode cX13_orderCount 1 = .ok (.iconst 0, 1) := by decide +kernel
theorem dX13_orderCount_2 : decode cX13_orderCount 2 = .ok (.putfield 44, 3) := by decide +kernel
theorem dX13_orderCount_5 : decode cX13_orderCount 5 = .ok (.aload_n 0, 1) := by decide +kernel
theorem dX13_orderCount_6 : decode cX13_orderCount 6 = .ok (.getfield 9, 3) := by decide +kernel
theorem dX13_orderCount_9 : decode cX13_orderCount 9 = .ok (.bipush 12, 2) := by decide +kernel
theorem dX13_orderCount_11 : decode cX13_orderCount 11 = .ok (.iaload, 1) := by decide +kernel
theorem dX13_orderCount_12 : decode cX13_orderCount 12 = .ok (.ireturn, 1) := by decide +kernel
theorem dX13_orderAt_0 : decode cX13_orderAt 0 = .ok (.aload_n 0, 1) := by decide +kernel
theorem dX13_orderAt_1 : decode cX13_orderAt 1 = .ok (.iload_n 1, 1) := by decide +kernel
theorem dX13_orderAt_2 : decode cX13_orderAt 2 = .ok (.iconst 0, 1) := by decide +kernel
theorem dX13_orderAt_3 : decode cX13_orderAt 3 = .ok (.aload_n 0, 1) := by decide +kernel
theorem dX13_orderAt_4 : decode cX13_orderAt 4 = .ok (.getfield 9, 3) := by decide +kernel
theorem dX13_orderAt_7 : decode cX13_orderAt 7 = .ok (.bipush 12, 2) := by decide +kernel
theorem dX13_orderAt_9 : decode cX13_orderAt 9 = .ok (.iaload, 1) := by decide +kernel
theorem dX13_orderAt_10 : decode cX13_orderAt 10 = .ok (.iconst 1, 1) := by decide +kernel
theorem dX13_orderAt_11 : decode cX13_orderAt 11 = .ok (.isub, 1) := by decide +kernel
theorem dX13_orderAt_12 : decode cX13_orderAt 12 = .ok (.invokestatic 61, 3) := by decide +kernel
theorem dX13_orderAt_15 : decode cX13_orderAt 15 = .ok (.ifCond .ne 7, 3) := by decide +kernel
theorem dX13_orderAt_18 : decode cX13_orderAt 18 = .ok (.iconst 1, 1) := by decide +kernel
theorem dX13_orderAt_19 : decode cX13_orderAt 19 = .ok (.goto 4, 3) := by decide +kernel
theorem dX13_orderAt_22 : decode cX13_orderAt 22 = .ok (.iconst 0, 1) := by decide +kernel
theorem dX13_orderAt_23 : decode cX13_orderAt 23 = .ok (.iconst 1, 1) := by decide +kernel
theorem dX13_orderAt_24 : decode cX13_orderAt 24 = .ok (.invokevirtual 65, 3) := by decide +kernel
theorem dX13_orderAt_27 : decode cX13_orderAt 27 = .ok (.ifCond .eq 7, 3) := by decide +kernel
theorem dX13_orderAt_30 : decode cX13_orderAt 30 = .ok (.iconst 0, 1) := by decide +kernel
theorem dX13_orderAt_31 : decode cX13_orderAt 31 = .ok (.goto 9, 3) := by decide +kernel
theorem dX13_orderAt_34 : decode cX13_orderAt 34 = .ok (.aload_n 0, 1) := by decide +kernel
theorem dX13_orderAt_35 : decode cX13_orderAt 35 = .ok (.iload_n 1, 1) := by decide +kernel
theorem dX13_orderAt_36 : decode cX13_orderAt 36 = .ok (.iconst 0, 1) := by decide +kernel
theorem dX13_orderAt_37 : decode cX13_orderAt 37 = .ok (.invokevirtual 58, 3) := by decide +kernel
theorem dX13_orderAt_40 : decode cX13_orderAt 40 = .ok (.ireturn, 1) := by decide +kernel
theorem dX13_time_0 : decode cX13_time 0 = .ok (.aload_n 0, 1) := by decide +kernel
theorem dX13_time_1 : decode cX13_time 1 = .ok (.iload_n 1, 1) := by decide +kernel
theorem dX13_time_2 : decode cX13_time 2 = .ok (.iconst 1, 1) := by decide +kernel
theorem dX13_time_3 : decode cX13_time 3 = .ok (.invokevirtual 58, 3) := by decide +kernel
theorem dX13_time_6 : decode cX13_time 6 = .ok (.aload_n 0, 1) := by decide +kernel
theorem dX13_time_7 : decode cX13_time 7 = .ok (.iload_n 1, 1) := by decide +kernel
theorem dX13_time_8 : decode cX13_time 8 = .ok (.iconst 2, 1) := by decide +kernel
theorem dX13_time_9 : decode cX13_time 9 = .ok (.invokevirtual 58, 3) := by decide +kernel
theorem dX13_time_12 : decode cX13_time 12 = .ok (.imul, 1) := by decide +kernel
theorem dX13_time_13 : decode cX13_time 13 = .ok (.ireturn, 1) := by decide +kernel
theorem dX13_lengthOf_0 : decode cX13_lengthOf 0 = .ok (.aload_n 0, 1) := by decide +kernel
theorem dX13_lengthOf_1 : decode cX13_lengthOf 1 = .ok (.aload_n 0, 1) := by decide +kernel
theorem dX13_lengthOf_2 : decode cX13_lengthOf 2 = .ok (.iload_n 1, 1) := by decide +kernel
theorem dX13_lengthOf_3 : decode cX13_lengthOf 3 = .ok (.invokevirtual 103, 3) := by decide +kernel
theorem dX13_lengthOf_6 : decode cX13_lengthOf 6 = .ok (.ifCond .ge 7, 3) := by decide +kernel
theorem dX13_lengthOf_9 : decode cX13_lengthOf 9 = .ok (.iconst 1, 1) := by decide +kernel
theorem dX13_lengthOf_10 : decode cX13_lengthOf 10 = .ok (.goto 4, 3) := by decide +kernel
theorem dX13_lengthOf_13 : decode cX13_lengthOf 13 = .ok (.iconst 0, 1) := by decide +kernel
theorem dX13_lengthOf_14 : decode cX13_lengthOf 14 = .ok (.iconst 1, 1) := by decide +kernel
theorem dX13_lengthOf_15 : decode cX13_lengthOf 15 = .ok (.invokevirtual 65, 3) := by decide +kernel
theorem dX13_lengthOf_18 : decode cX13_lengthOf 18 = .ok (.ifCond .eq 7, 3) := by decide +kernel
theorem dX13_lengthOf_21 : decode cX13_lengthOf 21 = .ok (.iconst 0, 1) := by decide +kernel
theorem dX13_lengthOf_22 : decode cX13_lengthOf 22 = .ok (.goto 13, 3) := by decide +kernel
theorem dX13_lengthOf_25 : decode cX13_lengthOf 25 = .ok (.aload_n 0, 1) := by decide +kernel
theorem dX13_lengthOf_26 : decode cX13_lengthOf 26 = .ok (.aload_n 0, 1) := by decide +kernel
theorem dX13_lengthOf_27 : decode cX13_lengthOf 27 = .ok (.iload_n 1, 1) := by decide +kernel
theorem dX13_lengthOf_28 : decode cX13_lengthOf 28 = .ok (.invokevirtual 103, 3) := by decide +kernel
theorem dX13_lengthOf_31 : decode cX13_lengthOf 31 = .ok (.iconst 1, 1) := by decide +kernel
theorem dX13_lengthOf_32 : decode cX13_lengthOf 32 = .ok (.invokevirtual 58, 3) := by decide +kernel
theorem dX13_lengthOf_35 : decode cX13_lengthOf 35 = .ok (.ireturn, 1) := by decide +kernel
theorem dX13_twistOf_0 : decode cX13_twistOf 0 = .ok (.aload_n 0, 1) := by decide +kernel
theorem dX13_twistOf_1 : decode cX13_twistOf 1 = .ok (.aload_n 0, 1) := by decide +kernel
theorem dX13_twistOf_2 : decode cX13_twistOf 2 = .ok (.iload_n 1, 1) := by decide +kernel
theorem dX13_twistOf_3 : decode cX13_twistOf 3 = .ok (.invokevirtual 103, 3) := by decide +kernel
theorem dX13_twistOf_6 : decode cX13_twistOf 6 = .ok (.ifCond .ge 7, 3) := by decide +kernel
theorem dX13_twistOf_9 : decode cX13_twistOf 9 = .ok (.iconst 1, 1) := by decide +kernel
theorem dX13_twistOf_10 : decode cX13_twistOf 10 = .ok (.goto 4, 3) := by decide +kernel
theorem dX13_twistOf_13 : decode cX13_twistOf 13 = .ok (.iconst 0, 1) := by decide +kernel
theorem dX13_twistOf_14 : decode cX13_twistOf 14 = .ok (.iconst 1, 1) := by decide +kernel
theorem dX13_twistOf_15 : decode cX13_twistOf 15 = .ok (.invokevirtual 65, 3) := by decide +kernel
theorem dX13_twistOf_18 : decode cX13_twistOf 18 = .ok (.ifCond .eq 7, 3) := by decide +kernel
theorem dX13_twistOf_21 : decode cX13_twistOf 21 = .ok (.iconst 0, 1) := by decide +kernel
theorem dX13_twistOf_22 : decode cX13_twistOf 22 = .ok (.goto 13, 3) := by decide +kernel
theorem dX13_twistOf_25 : decode cX13_twistOf 25 = .ok (.aload_n 0, 1) := by decide +kernel
theorem dX13_twistOf_26 : decode cX13_twistOf 26 = .ok (.aload_n 0, 1) := by decide +kernel
theorem dX13_twistOf_27 : decode cX13_twistOf 27 = .ok (.iload_n 1, 1) := by decide +kernel
theorem dX13_twistOf_28 : decode cX13_twistOf 28 = .ok (.invokevirtual 103, 3) := by decide +kernel
theorem dX13_twistOf_31 : decode cX13_twistOf 31 = .ok (.iconst 2, 1) := by decide +kernel
theorem dX13_twistOf_32 : decode cX13_twistOf 32 = .ok (.invokevirtual 58, 3) := by decide +kernel
theorem dX13_twistOf_35 : decode cX13_twistOf 35 = .ok (.ireturn, 1) := by decide +kernel
theorem dX13_minutesOf_0 : decode cX13_minutesOf 0 = .ok (.aload_n 0, 1) := by decide +kernel
theorem dX13_minutesOf_1 : decode cX13_minutesOf 1 = .ok (.aload_n 0, 1) := by decide +kernel
theorem dX13_minutesOf_2 : decode cX13_minutesOf 2 = .ok (.iload_n 1, 1) := by decide +kernel
theorem dX13_minutesOf_3 : decode cX13_minutesOf 3 = .ok (.invokevirtual 103, 3) := by decide +kernel
theorem dX13_minutesOf_6 : decode cX13_minutesOf 6 = .ok (.ifCond .ge 7, 3) := by decide +kernel
theorem dX13_minutesOf_9 : decode cX13_minutesOf 9 = .ok (.iconst 1, 1) := by decide +kernel
theorem dX13_minutesOf_10 : decode cX13_minutesOf 10 = .ok (.goto 4, 3) := by decide +kernel
theorem dX13_minutesOf_13 : decode cX13_minutesOf 13 = .ok (.iconst 0, 1) := by decide +kernel
theorem dX13_minutesOf_14 : decode cX13_minutesOf 14 = .ok (.iconst 1, 1) := by decide +kernel
theorem dX13_minutesOf_15 : decode cX13_minutesOf 15 = .ok (.invokevirtual 65, 3) := by decide +kernel
theorem dX13_minutesOf_18 : decode cX13_minutesOf 18 = .ok (.ifCond .eq 7, 3) := by decide +kernel
theorem dX13_minutesOf_21 : decode cX13_minutesOf 21 = .ok (.iconst 0, 1) := by decide +kernel
theorem dX13_minutesOf_22 : decode cX13_minutesOf 22 = .ok (.goto 12, 3) := by decide +kernel
theorem dX13_minutesOf_25 : decode cX13_minutesOf 25 = .ok (.aload_n 0, 1) := by decide +kernel
theorem dX13_minutesOf_26 : decode cX13_minutesOf 26 = .ok (.aload_n 0, 1) := by decide +kernel
theorem dX13_minutesOf_27 : decode cX13_minutesOf 27 = .ok (.iload_n 1, 1) := by decide +kernel
theorem dX13_minutesOf_28 : decode cX13_minutesOf 28 = .ok (.invokevirtual 103, 3) := by decide +kernel
theorem dX13_minutesOf_31 : decode cX13_minutesOf 31 = .ok (.invokevirtual 154, 3) := by decide +kernel
theorem dX13_minutesOf_34 : decode cX13_minutesOf 34 = .ok (.ireturn, 1) := by decide +kernel
theorem dX13_mayBeSpun_0 : decode cX13_mayBeSpun 0 = .ok (.aload_n 0, 1) := by decide +kernel
theorem dX13_mayBeSpun_1 : decode cX13_mayBeSpun 1 = .ok (.getfield 9, 3) := by decide +kernel
theorem dX13_mayBeSpun_4 : decode cX13_mayBeSpun 4 = .ok (.iconst 1, 1) := by decide +kernel
theorem dX13_mayBeSpun_5 : decode cX13_mayBeSpun 5 = .ok (.iaload, 1) := by decide +kernel
theorem dX13_mayBeSpun_6 : decode cX13_mayBeSpun 6 = .ok (.aload_n 0, 1) := by decide +kernel
theorem dX13_mayBeSpun_7 : decode cX13_mayBeSpun 7 = .ok (.iload_n 1, 1) := by decide +kernel
theorem dX13_mayBeSpun_8 : decode cX13_mayBeSpun 8 = .ok (.iconst 1, 1) := by decide +kernel
theorem dX13_mayBeSpun_9 : decode cX13_mayBeSpun 9 = .ok (.invokevirtual 58, 3) := by decide +kernel
theorem dX13_mayBeSpun_12 : decode cX13_mayBeSpun 12 = .ok (.if_icmp .lt 25, 3) := by decide +kernel
theorem dX13_mayBeSpun_15 : decode cX13_mayBeSpun 15 = .ok (.aload_n 0, 1) := by decide +kernel
theorem dX13_mayBeSpun_16 : decode cX13_mayBeSpun 16 = .ok (.getfield 9, 3) := by decide +kernel
theorem dX13_mayBeSpun_19 : decode cX13_mayBeSpun 19 = .ok (.bipush 13, 2) := by decide +kernel
theorem dX13_mayBeSpun_21 : decode cX13_mayBeSpun 21 = .ok (.iaload, 1) := by decide +kernel
theorem dX13_mayBeSpun_22 : decode cX13_mayBeSpun 22 = .ok (.aload_n 0, 1) := by decide +kernel
theorem dX13_mayBeSpun_23 : decode cX13_mayBeSpun 23 = .ok (.iload_n 1, 1) := by decide +kernel
theorem dX13_mayBeSpun_24 : decode cX13_mayBeSpun 24 = .ok (.invokevirtual 112, 3) := by decide +kernel
theorem dX13_mayBeSpun_27 : decode cX13_mayBeSpun 27 = .ok (.iadd, 1) := by decide +kernel
theorem dX13_mayBeSpun_28 : decode cX13_mayBeSpun 28 = .ok (.bipush 12, 2) := by decide +kernel
theorem dX13_mayBeSpun_30 : decode cX13_mayBeSpun 30 = .ok (.if_icmp .gt 7, 3) := by decide +kernel
theorem dX13_mayBeSpun_33 : decode cX13_mayBeSpun 33 = .ok (.iconst 1, 1) := by decide +kernel
theorem dX13_mayBeSpun_34 : decode cX13_mayBeSpun 34 = .ok (.goto 4, 3) := by decide +kernel
theorem dX13_mayBeSpun_37 : decode cX13_mayBeSpun 37 = .ok (.iconst 0, 1) := by decide +kernel
theorem dX13_mayBeSpun_38 : decode cX13_mayBeSpun 38 = .ok (.ireturn, 1) := by decide +kernel
theorem dX13_canSpin_0 : decode cX13_canSpin 0 = .ok (.aload_n 0, 1) := by decide +kernel
theorem dX13_canSpin_1 : decode cX13_canSpin 1 = .ok (.aload_n 0, 1) := by decide +kernel
theorem dX13_canSpin_2 : decode cX13_canSpin 2 = .ok (.iload_n 1, 1) := by decide +kernel
theorem dX13_canSpin_3 : decode cX13_canSpin 3 = .ok (.invokevirtual 103, 3) := by decide +kernel
theorem dX13_canSpin_6 : decode cX13_canSpin 6 = .ok (.ifCond .ge 7, 3) := by decide +kernel
theorem dX13_canSpin_9 : decode cX13_canSpin 9 = .ok (.iconst 1, 1) := by decide +kernel
theorem dX13_canSpin_10 : decode cX13_canSpin 10 = .ok (.goto 4, 3) := by decide +kernel
theorem dX13_canSpin_13 : decode cX13_canSpin 13 = .ok (.iconst 0, 1) := by decide +kernel
theorem dX13_canSpin_14 : decode cX13_canSpin 14 = .ok (.iconst 1, 1) := by decide +kernel
theorem dX13_canSpin_15 : decode cX13_canSpin 15 = .ok (.invokevirtual 65, 3) := by decide +kernel
theorem dX13_canSpin_18 : decode cX13_canSpin 18 = .ok (.ifCond .ne 19, 3) := by decide +kernel
theorem dX13_canSpin_21 : decode cX13_canSpin 21 = .ok (.aload_n 0, 1) := by decide +kernel
theorem dX13_canSpin_22 : decode cX13_canSpin 22 = .ok (.aload_n 0, 1) := by decide +kernel
theorem dX13_canSpin_23 : decode cX13_canSpin 23 = .ok (.iload_n 1, 1) := by decide +kernel
theorem dX13_canSpin_24 : decode cX13_canSpin 24 = .ok (.invokevirtual 103, 3) := by decide +kernel
theorem dX13_canSpin_27 : decode cX13_canSpin 27 = .ok (.invokevirtual 157, 3) := by decide +kernel
theorem dX13_canSpin_30 : decode cX13_canSpin 30 = .ok (.ifCond .eq 7, 3) := by decide +kernel
theorem dX13_canSpin_33 : decode cX13_canSpin 33 = .ok (.iconst 1, 1) := by decide +kernel
theorem dX13_canSpin_34 : decode cX13_canSpin 34 = .ok (.goto 4, 3) := by decide +kernel
theorem dX13_canSpin_37 : decode cX13_canSpin 37 = .ok (.iconst 0, 1) := by decide +kernel
theorem dX13_canSpin_38 : decode cX13_canSpin 38 = .ok (.ireturn, 1) := by decide +kernel
theorem dX13_kinds_0 : decode cX13_kinds 0 = .ok (.aload_n 0, 1) := by decide +kernel
theorem dX13_kinds_1 : decode cX13_kinds 1 = .ok (.iconst 0, 1) := by decide +kernel
theorem dX13_kinds_2 : decode cX13_kinds 2 = .ok (.putfield 44, 3) := by decide +kernel
theorem dX13_kinds_5 : decode cX13_kinds 5 = .ok (.iconst 0, 1) := by decide +kernel
theorem dX13_kinds_6 : decode cX13_kinds 6 = .ok (.istore_n 1, 1) := by decide +kernel
theorem dX13_kinds_7 : decode cX13_kinds 7 = .ok (.iconst 0, 1) := by decide +kernel
theorem dX13_kinds_8 : decode cX13_kinds 8 = .ok (.istore_n 2, 1) := by decide +kernel
theorem dX13_kinds_9 : decode cX13_kinds 9 = .ok (.iload_n 2, 1) := by decide +kernel
theorem dX13_kinds_10 : decode cX13_kinds 10 = .ok (.aload_n 0, 1) := by decide +kernel
theorem dX13_kinds_11 : decode cX13_kinds 11 = .ok (.getfield 9, 3) := by decide +kernel
theorem dX13_kinds_14 : decode cX13_kinds 14 = .ok (.bipush 12, 2) := by decide +kernel
theorem dX13_kinds_16 : decode cX13_kinds 16 = .ok (.iaload, 1) := by decide +kernel
theorem dX13_kinds_17 : decode cX13_kinds 17 = .ok (.if_icmp .ge 78, 3) := by decide +kernel
theorem dX13_kinds_20 : decode cX13_kinds 20 = .ok (.iconst 1, 1) := by decide +kernel
theorem dX13_kinds_21 : decode cX13_kinds 21 = .ok (.istore_n 3, 1) := by decide +kernel
theorem dX13_kinds_22 : decode cX13_kinds 22 = .ok (.iconst 0, 1) := by decide +kernel
theorem dX13_kinds_23 : decode cX13_kinds 23 = .ok (.istore 4, 2) := by decide +kernel
theorem dX13_kinds_25 : decode cX13_kinds 25 = .ok (.iload 4, 2) := by decide +kernel
theorem dX13_kinds_27 : decode cX13_kinds 27 = .ok (.iload_n 2, 1) := by decide +kernel
theorem dX13_kinds_28 : decode cX13_kinds 28 = .ok (.if_icmp .ge 49, 3) := by decide +kernel
theorem dX13_kinds_31 : decode cX13_kinds 31 = .ok (.iload_n 3, 1) := by decide +kernel
theorem dX13_kinds_32 : decode cX13_kinds 32 = .ok (.aload_n 0, 1) := by decide +kernel
theorem dX13_kinds_33 : decode cX13_kinds 33 = .ok (.iload 4, 2) := by decide +kernel
theorem dX13_kinds_35 : decode cX13_kinds 35 = .ok (.iconst 1, 1) := by decide +kernel
theorem dX13_kinds_36 : decode cX13_kinds 36 = .ok (.invokevirtual 58, 3) := by decide +kernel
theorem dX13_kinds_39 : decode cX13_kinds 39 = .ok (.aload_n 0, 1) := by decide +kernel
theorem dX13_kinds_40 : decode cX13_kinds 40 = .ok (.iload_n 2, 1) := by decide +kernel
theorem dX13_kinds_41 : decode cX13_kinds 41 = .ok (.iconst 1, 1) := by decide +kernel
theorem dX13_kinds_42 : decode cX13_kinds 42 = .ok (.invokevirtual 58, 3) := by decide +kernel
theorem dX13_kinds_45 : decode cX13_kinds 45 = .ok (.if_icmp .ne 19, 3) := by decide +kernel
theorem dX13_kinds_48 : decode cX13_kinds 48 = .ok (.aload_n 0, 1) := by decide +kernel
theorem dX13_kinds_49 : decode cX13_kinds 49 = .ok (.iload 4, 2) := by decide +kernel
theorem dX13_kinds_51 : decode cX13_kinds 51 = .ok (.iconst 2, 1) := by decide +kernel
theorem dX13_kinds_52 : decode cX13_kinds 52 = .ok (.invokevirtual 58, 3) := by decide +kernel
theorem dX13_kinds_55 : decode cX13_kinds 55 = .ok (.aload_n 0, 1) := by decide +kernel
theorem dX13_kinds_56 : decode cX13_kinds 56 = .ok (.iload_n 2, 1) := by decide +kernel
theorem dX13_kinds_57 : decode cX13_kinds 57 = .ok (.iconst 2, 1) := by decide +kernel
theorem dX13_kinds_58 : decode cX13_kinds 58 = .ok (.invokevirtual 58, 3) := by decide +kernel
theorem dX13_kinds_61 : decode cX13_kinds 61 = .ok (.if_icmp .eq 7, 3) := by decide +kernel
theorem dX13_kinds_64 : decode cX13_kinds 64 = .ok (.iconst 1, 1) := by decide +kernel
theorem dX13_kinds_65 : decode cX13_kinds 65 = .ok (.goto 4, 3) := by decide +kernel
theorem dX13_kinds_68 : decode cX13_kinds 68 = .ok (.iconst 0, 1) := by decide +kernel
theorem dX13_kinds_69 : decode cX13_kinds 69 = .ok (.iand, 1) := by decide +kernel
theorem dX13_kinds_70 : decode cX13_kinds 70 = .ok (.istore_n 3, 1) := by decide +kernel
theorem dX13_kinds_71 : decode cX13_kinds 71 = .ok (.iinc 4 1, 3) := by decide +kernel
theorem dX13_kinds_74 : decode cX13_kinds 74 = .ok (.goto (-49), 3) := by decide +kernel
theorem dX13_kinds_77 : decode cX13_kinds 77 = .ok (.iload_n 1, 1) := by decide +kernel
theorem dX13_kinds_78 : decode cX13_kinds 78 = .ok (.iload_n 3, 1) := by decide +kernel
theorem dX13_kinds_79 : decode cX13_kinds 79 = .ok (.ifCond .eq 7, 3) := by decide +kernel
theorem dX13_kinds_82 : decode cX13_kinds 82 = .ok (.iconst 1, 1) := by decide +kernel
theorem dX13_kinds_83 : decode cX13_kinds 83 = .ok (.goto 4, 3) := by decide +kernel
theorem dX13_kinds_86 : decode cX13_kinds 86 = .ok (.iconst 0, 1) := by decide +kernel
theorem dX13_kinds_87 : decode cX13_kinds 87 = .ok (.iadd, 1) := by decide +kernel
theorem dX13_kinds_88 : decode cX13_kinds 88 = .ok (.istore_n 1, 1) := by decide +kernel
theorem dX13_kinds_89 : decode cX13_kinds 89 = .ok (.iinc 2 1, 3) := by decide +kernel
theorem dX13_kinds_92 : decode cX13_kinds 92 = .ok (.goto (-83), 3) := by decide +kernel
theorem dX13_kinds_95 : decode cX13_kinds 95 = .ok (.iload_n 1, 1) := by decide +kernel
theorem dX13_kinds_96 : decode cX13_kinds 96 = .ok (.ireturn, 1) := by decide +kernel
theorem dX13_orderByTime_0 : decode cX13_orderByTime 0 = .ok (.iconst 0, 1) := by decide +kernel
theorem dX13_orderByTime_1 : decode cX13_orderByTime 1 = .ok (.istore_n 2, 1) := by decide +kernel
theorem dX13_orderByTime_2 : decode cX13_orderByTime 2 = .ok (.iload_n 2, 1) := by decide +kernel
theorem dX13_orderByTime_3 : decode cX13_orderByTime 3 = .ok (.aload_n 0, 1) := by decide +kernel
theorem dX13_orderByTime_4 : decode cX13_orderByTime 4 = .ok (.getfield 9, 3) := by decide +kernel
theorem dX13_orderByTime_7 : decode cX13_orderByTime 7 = .ok (.bipush 12, 2) := by decide +kernel
theorem dX13_orderByTime_9 : decode cX13_orderByTime 9 = .ok (.iaload, 1) := by decide +kernel
theorem dX13_orderByTime_10 : decode cX13_orderByTime 10 = .ok (.if_icmp .ge 87, 3) := by decide +kernel
theorem dX13_orderByTime_13 : decode cX13_orderByTime 13 = .ok (.iconst 0, 1) := by decide +kernel
theorem dX13_orderByTime_14 : decode cX13_orderByTime 14 = .ok (.istore_n 3, 1) := by decide +kernel
theorem dX13_orderByTime_15 : decode cX13_orderByTime 15 = .ok (.iconst 0, 1) := by decide +kernel
theorem dX13_orderByTime_16 : decode cX13_orderByTime 16 = .ok (.istore 4, 2) := by decide +kernel
theorem dX13_orderByTime_18 : decode cX13_orderByTime 18 = .ok (.iload 4, 2) := by decide +kernel
theorem dX13_orderByTime_20 : decode cX13_orderByTime 20 = .ok (.aload_n 0, 1) := by decide +kernel
theorem dX13_orderByTime_21 : decode cX13_orderByTime 21 = .ok (.getfield 9, 3) := by decide +kernel
theorem dX13_orderByTime_24 : decode cX13_orderByTime 24 = .ok (.bipush 12, 2) := by decide +kernel
theorem dX13_orderByTime_26 : decode cX13_orderByTime 26 = .ok (.iaload, 1) := by decide +kernel
theorem dX13_orderByTime_27 : decode cX13_orderByTime 27 = .ok (.if_icmp .ge 47, 3) := by decide +kernel
theorem dX13_orderByTime_30 : decode cX13_orderByTime 30 = .ok (.aload_n 0, 1) := by decide +kernel
theorem dX13_orderByTime_31 : decode cX13_orderByTime 31 = .ok (.iload 4, 2) := by decide +kernel
theorem dX13_orderByTime_33 : decode cX13_orderByTime 33 = .ok (.invokevirtual 154, 3) := by decide +kernel
theorem dX13_orderByTime_36 : decode cX13_orderByTime 36 = .ok (.aload_n 0, 1) := by decide +kernel
theorem dX13_orderByTime_37 : decode cX13_orderByTime 37 = .ok (.iload_n 2, 1) := by decide +kernel
theorem dX13_orderByTime_38 : decode cX13_orderByTime 38 = .ok (.invokevirtual 154, 3) := by decide +kernel
theorem dX13_orderByTime_41 : decode cX13_orderByTime 41 = .ok (.isub, 1) := by decide +kernel
theorem dX13_orderByTime_42 : decode cX13_orderByTime 42 = .ok (.istore 5, 2) := by decide +kernel
theorem dX13_orderByTime_44 : decode cX13_orderByTime 44 = .ok (.iload_n 3, 1) := by decide +kernel
theorem dX13_orderByTime_45 : decode cX13_orderByTime 45 = .ok (.iload 5, 2) := by decide +kernel
theorem dX13_orderByTime_47 : decode cX13_orderByTime 47 = .ok (.ifCond .gt 14, 3) := by decide +kernel
theorem dX13_orderByTime_50 : decode cX13_orderByTime 50 = .ok (.iload 5, 2) := by decide +kernel
theorem dX13_orderByTime_52 : decode cX13_orderByTime 52 = .ok (.ifCond .ne 13, 3) := by decide +kernel
theorem dX13_orderByTime_55 : decode cX13_orderByTime 55 = .ok (.iload 4, 2) := by decide +kernel
theorem dX13_orderByTime_57 : decode cX13_orderByTime 57 = .ok (.iload_n 2, 1) := by decide +kernel
theorem dX13_orderByTime_58 : decode cX13_orderByTime 58 = .ok (.if_icmp .ge 7, 3) := by decide +kernel
theorem dX13_orderByTime_61 : decode cX13_orderByTime 61 = .ok (.iconst 1, 1) := by decide +kernel
theorem dX13_orderByTime_62 : decode cX13_orderByTime 62 = .ok (.goto 4, 3) := by decide +kernel
theorem dX13_orderByTime_65 : decode cX13_orderByTime 65 = .ok (.iconst 0, 1) := by decide +kernel
theorem dX13_orderByTime_66 : decode cX13_orderByTime 66 = .ok (.iadd, 1) := by decide +kernel
theorem dX13_orderByTime_67 : decode cX13_orderByTime 67 = .ok (.istore_n 3, 1) := by decide +kernel
theorem dX13_orderByTime_68 : decode cX13_orderByTime 68 = .ok (.iinc 4 1, 3) := by decide +kernel
theorem dX13_orderByTime_71 : decode cX13_orderByTime 71 = .ok (.goto (-53), 3) := by decide +kernel
theorem dX13_orderByTime_74 : decode cX13_orderByTime 74 = .ok (.iload_n 3, 1) := by decide +kernel
theorem dX13_orderByTime_75 : decode cX13_orderByTime 75 = .ok (.iload_n 1, 1) := by decide +kernel
theorem dX13_orderByTime_76 : decode cX13_orderByTime 76 = .ok (.if_icmp .ne 15, 3) := by decide +kernel
theorem dX13_orderByTime_79 : decode cX13_orderByTime 79 = .ok (.aload_n 0, 1) := by decide +kernel
theorem dX13_orderByTime_80 : decode cX13_orderByTime 80 = .ok (.iconst 0, 1) := by decide +kernel
theorem dX13_orderByTime_81 : decode cX13_orderByTime 81 = .ok (.putfield 44, 3) := by decide +kernel
theorem dX13_orderByTime_84 : decode cX13_orderByTime 84 = .ok (.aload_n 0, 1) := by decide +kernel
theorem dX13_orderByTime_85 : decode cX13_orderByTime 85 = .ok (.iload_n 2, 1) := by decide +kernel
theorem dX13_orderByTime_86 : decode cX13_orderByTime 86 = .ok (.iconst 0, 1) := by decide +kernel
theorem dX13_orderByTime_87 : decode cX13_orderByTime 87 = .ok (.invokevirtual 58, 3) := by decide +kernel
theorem dX13_orderByTime_90 : decode cX13_orderByTime 90 = .ok (.ireturn, 1) := by decide +kernel
theorem dX13_orderByTime_91 : decode cX13_orderByTime 91 = .ok (.iinc 2 1, 3) := by decide +kernel
theorem dX13_orderByTime_94 : decode cX13_orderByTime 94 = .ok (.goto (-92), 3) := by decide +kernel
theorem dX13_orderByTime_97 : decode cX13_orderByTime 97 = .ok (.aload_n 0, 1) := by decide +kernel
theorem dX13_orderByTime_98 : decode cX13_orderByTime 98 = .ok (.iconst 1, 1) := by decide +kernel
theorem dX13_orderByTime_99 : decode cX13_orderByTime 99 = .ok (.putfield 44, 3) := by decide +kernel
theorem dX13_orderByTime_102 : decode cX13_orderByTime 102 = .ok (.iconst 0, 1) := by decide +kernel
theorem dX13_orderByTime_103 : decode cX13_orderByTime 103 = .ok (.ireturn, 1) := by decide +kernel
theorem dX13_gives_0 : decode cX13_gives 0 = .ok (.iload_n 2, 1) := by decide +kernel
theorem dX13_gives_1 : decode cX13_gives 1 = .ok (.aload_n 0, 1) := by decide +kernel
theorem dX13_gives_2 : decode cX13_gives 2 = .ok (.getfield 160, 3) := by decide +kernel
theorem dX13_gives_5 : decode cX13_gives 5 = .ok (.if_icmp .lt 4, 3) := by decide +kernel
theorem dX13_gives_8 : decode cX13_gives 8 = .ok (.return_, 1) := by decide +kernel
theorem dX13_gives_9 : decode cX13_gives 9 = .ok (.iload_n 1, 1) := by decide +kernel
theorem dX13_gives_10 : decode cX13_gives 10 = .ok (.aload_n 0, 1) := by decide +kernel
theorem dX13_gives_11 : decode cX13_gives 11 = .ok (.getfield 9, 3) := by decide +kernel
theorem dX13_gives_14 : decode cX13_gives 14 = .ok (.bipush 12, 2) := by decide +kernel
theorem dX13_gives_16 : decode cX13_gives 16 = .ok (.iaload, 1) := by decide +kernel
theorem dX13_gives_17 : decode cX13_gives 17 = .ok (.if_icmp .ne 9, 3) := by decide +kernel
theorem dX13_gives_20 : decode cX13_gives 20 = .ok (.aload_n 0, 1) := by decide +kernel
theorem dX13_gives_21 : decode cX13_gives 21 = .ok (.iload_n 2, 1) := by decide +kernel
theorem dX13_gives_22 : decode cX13_gives 22 = .ok (.putfield 160, 3) := by decide +kernel
theorem dX13_gives_25 : decode cX13_gives 25 = .ok (.return_, 1) := by decide +kernel
theorem dX13_gives_26 : decode cX13_gives 26 = .ok (.iconst 0, 1) := by decide +kernel
theorem dX13_gives_27 : decode cX13_gives 27 = .ok (.istore_n 3, 1) := by decide +kernel
theorem dX13_gives_28 : decode cX13_gives 28 = .ok (.iload_n 3, 1) := by decide +kernel
theorem dX13_gives_29 : decode cX13_gives 29 = .ok (.aload_n 0, 1) := by decide +kernel
theorem dX13_gives_30 : decode cX13_gives 30 = .ok (.getfield 9, 3) := by decide +kernel
theorem dX13_gives_33 : decode cX13_gives 33 = .ok (.iconst 3, 1) := by decide +kernel
theorem dX13_gives_34 : decode cX13_gives 34 = .ok (.iaload, 1) := by decide +kernel
theorem dX13_gives_35 : decode cX13_gives 35 = .ok (.if_icmp .ge 64, 3) := by decide +kernel
theorem dX13_gives_38 : decode cX13_gives 38 = .ok (.aload_n 0, 1) := by decide +kernel
theorem dX13_gives_39 : decode cX13_gives 39 = .ok (.getfield 22, 3) := by decide +kernel
theorem dX13_gives_42 : decode cX13_gives 42 = .ok (.iload_n 3, 1) := by decide +kernel
theorem dX13_gives_43 : decode cX13_gives 43 = .ok (.dup2, 1) := by decide +kernel
theorem dX13_gives_44 : decode cX13_gives 44 = .ok (.iaload, 1) := by decide +kernel
theorem dX13_gives_45 : decode cX13_gives 45 = .ok (.aload_n 0, 1) := by decide +kernel
theorem dX13_gives_46 : decode cX13_gives 46 = .ok (.iload_n 1, 1) := by decide +kernel
theorem dX13_gives_47 : decode cX13_gives 47 = .ok (.invokevirtual 154, 3) := by decide +kernel
theorem dX13_gives_50 : decode cX13_gives 50 = .ok (.iadd, 1) := by decide +kernel
theorem dX13_gives_51 : decode cX13_gives 51 = .ok (.iastore, 1) := by decide +kernel
theorem dX13_gives_52 : decode cX13_gives 52 = .ok (.aload_n 0, 1) := by decide +kernel
theorem dX13_gives_53 : decode cX13_gives 53 = .ok (.iload_n 1, 1) := by decide +kernel
theorem dX13_gives_54 : decode cX13_gives 54 = .ok (.iconst 1, 1) := by decide +kernel
theorem dX13_gives_55 : decode cX13_gives 55 = .ok (.iadd, 1) := by decide +kernel
theorem dX13_gives_56 : decode cX13_gives 56 = .ok (.aload_n 0, 1) := by decide +kernel
theorem dX13_gives_57 : decode cX13_gives 57 = .ok (.getfield 22, 3) := by decide +kernel
theorem dX13_gives_60 : decode cX13_gives 60 = .ok (.iload_n 3, 1) := by decide +kernel
theorem dX13_gives_61 : decode cX13_gives 61 = .ok (.iaload, 1) := by decide +kernel
theorem dX13_gives_62 : decode cX13_gives 62 = .ok (.iload_n 2, 1) := by decide +kernel
theorem dX13_gives_63 : decode cX13_gives 63 = .ok (.if_icmp .le 12, 3) := by decide +kernel
theorem dX13_gives_66 : decode cX13_gives 66 = .ok (.aload_n 0, 1) := by decide +kernel
theorem dX13_gives_67 : decode cX13_gives 67 = .ok (.getfield 22, 3) := by decide +kernel
theorem dX13_gives_70 : decode cX13_gives 70 = .ok (.iload_n 3, 1) := by decide +kernel
theorem dX13_gives_71 : decode cX13_gives 71 = .ok (.iaload, 1) := by decide +kernel
theorem dX13_gives_72 : decode cX13_gives 72 = .ok (.goto 4, 3) := by decide +kernel
theorem dX13_gives_75 : decode cX13_gives 75 = .ok (.iload_n 2, 1) := by decide +kernel
theorem dX13_gives_76 : decode cX13_gives 76 = .ok (.invokevirtual 163, 3) := by decide +kernel
theorem dX13_gives_79 : decode cX13_gives 79 = .ok (.aload_n 0, 1) := by decide +kernel
theorem dX13_gives_80 : decode cX13_gives 80 = .ok (.getfield 22, 3) := by decide +kernel
theorem dX13_gives_83 : decode cX13_gives 83 = .ok (.iload_n 3, 1) := by decide +kernel
theorem dX13_gives_84 : decode cX13_gives 84 = .ok (.dup2, 1) := by decide +kernel
theorem dX13_gives_85 : decode cX13_gives 85 = .ok (.iaload, 1) := by decide +kernel
theorem dX13_gives_86 : decode cX13_gives 86 = .ok (.aload_n 0, 1) := by decide +kernel
theorem dX13_gives_87 : decode cX13_gives 87 = .ok (.iload_n 1, 1) := by decide +kernel
theorem dX13_gives_88 : decode cX13_gives 88 = .ok (.invokevirtual 154, 3) := by decide +kernel
theorem dX13_gives_91 : decode cX13_gives 91 = .ok (.isub, 1) := by decide +kernel
theorem dX13_gives_92 : decode cX13_gives 92 = .ok (.iastore, 1) := by decide +kernel
theorem dX13_gives_93 : decode cX13_gives 93 = .ok (.iinc 3 1, 3) := by decide +kernel
theorem dX13_gives_96 : decode cX13_gives 96 = .ok (.goto (-68), 3) := by decide +kernel
theorem dX13_gives_99 : decode cX13_gives 99 = .ok (.return_, 1) := by decide +kernel
theorem dX13_shortestTime_0 : decode cX13_shortestTime 0 = .ok (.aload_n 0, 1) := by decide +kernel
theorem dX13_shortestTime_1 : decode cX13_shortestTime 1 = .ok (.iconst 0, 1) := by decide +kernel
theorem dX13_shortestTime_2 : decode cX13_shortestTime 2 = .ok (.putfield 44, 3) := by decide +kernel
theorem dX13_shortestTime_5 : decode cX13_shortestTime 5 = .ok (.aload_n 0, 1) := by decide +kernel
theorem dX13_shortestTime_6 : decode cX13_shortestTime 6 = .ok (.ldc 125, 2) := by decide +kernel
theorem dX13_shortestTime_8 : decode cX13_shortestTime 8 = .ok (.putfield 160, 3) := by decide +kernel
theorem dX13_shortestTime_11 : decode cX13_shortestTime 11 = .ok (.aload_n 0, 1) := by decide +kernel
theorem dX13_shortestTime_12 : decode cX13_shortestTime 12 = .ok (.iconst 0, 1) := by decide +kernel
theorem dX13_shortestTime_13 : decode cX13_shortestTime 13 = .ok (.iconst 0, 1) := by decide +kernel
theorem dX13_shortestTime_14 : decode cX13_shortestTime 14 = .ok (.invokevirtual 163, 3) := by decide +kernel
theorem dX13_shortestTime_17 : decode cX13_shortestTime 17 = .ok (.aload_n 0, 1) := by decide +kernel
theorem dX13_shortestTime_18 : decode cX13_shortestTime 18 = .ok (.getfield 160, 3) := by decide +kernel
theorem dX13_shortestTime_21 : decode cX13_shortestTime 21 = .ok (.ireturn, 1) := by decide +kernel
theorem dX13_shortestTimeBySearch_0 : decode cX13_shortestTimeBySearch 0 = .ok (.aload_n 0, 1) := by decide +kernel
theorem dX13_shortestTimeBySearch_1 : decode cX13_shortestTimeBySearch 1 = .ok (.invokevirtual 167, 3) := by decide +kernel
theorem dX13_shortestTimeBySearch_4 : decode cX13_shortestTimeBySearch 4 = .ok (.ireturn, 1) := by decide +kernel
theorem dX13_pieceCount_0 : decode cX13_pieceCount 0 = .ok (.aload_n 0, 1) := by decide +kernel
theorem dX13_pieceCount_1 : decode cX13_pieceCount 1 = .ok (.iconst 0, 1) := by decide +kernel
theorem dX13_pieceCount_2 : decode cX13_pieceCount 2 = .ok (.putfield 44, 3) := by decide +kernel
theorem dX13_pieceCount_5 : decode cX13_pieceCount 5 = .ok (.aload_n 0, 1) := by decide +kernel
theorem dX13_pieceCount_6 : decode cX13_pieceCount 6 = .ok (.getfield 9, 3) := by decide +kernel
theorem dX13_pieceCount_9 : decode cX13_pieceCount 9 = .ok (.bipush 13, 2) := by decide +kernel
theorem dX13_pieceCount_11 : decode cX13_pieceCount 11 = .ok (.iaload, 1) := by decide +kernel
theorem dX13_pieceCount_12 : decode cX13_pieceCount 12 = .ok (.ireturn, 1) := by decide +kernel
theorem dX13_pieceLength_0 : decode cX13_pieceLength 0 = .ok (.aload_n 0, 1) := by decide +kernel
theorem dX13_pieceLength_1 : decode cX13_pieceLength 1 = .ok (.aload_n 0, 1) := by decide +kernel
theorem dX13_pieceLength_2 : decode cX13_pieceLength 2 = .ok (.iload_n 1, 1) := by decide +kernel
theorem dX13_pieceLength_3 : decode cX13_pieceLength 3 = .ok (.invokevirtual 118, 3) := by decide +kernel
theorem dX13_pieceLength_6 : decode cX13_pieceLength 6 = .ok (.ifCond .ne 7, 3) := by decide +kernel
theorem dX13_pieceLength_9 : decode cX13_pieceLength 9 = .ok (.iconst 1, 1) := by decide +kernel
theorem dX13_pieceLength_10 : decode cX13_pieceLength 10 = .ok (.goto 4, 3) := by decide +kernel
theorem dX13_pieceLength_13 : decode cX13_pieceLength 13 = .ok (.iconst 0, 1) := by decide +kernel
theorem dX13_pieceLength_14 : decode cX13_pieceLength 14 = .ok (.iconst 1, 1) := by decide +kernel
theorem dX13_pieceLength_15 : decode cX13_pieceLength 15 = .ok (.invokevirtual 65, 3) := by decide +kernel
theorem dX13_pieceLength_18 : decode cX13_pieceLength 18 = .ok (.ifCond .eq 7, 3) := by decide +kernel
theorem dX13_pieceLength_21 : decode cX13_pieceLength 21 = .ok (.iconst 0, 1) := by decide +kernel
theorem dX13_pieceLength_22 : decode cX13_pieceLength 22 = .ok (.goto 12, 3) := by decide +kernel
theorem dX13_pieceLength_25 : decode cX13_pieceLength 25 = .ok (.aload_n 0, 1) := by decide +kernel
theorem dX13_pieceLength_26 : decode cX13_pieceLength 26 = .ok (.getfield 9, 3) := by decide +kernel
theorem dX13_pieceLength_29 : decode cX13_pieceLength 29 = .ok (.bipush 78, 2) := by decide +kernel
theorem dX13_pieceLength_31 : decode cX13_pieceLength 31 = .ok (.iload_n 1, 1) := by decide +kernel
theorem dX13_pieceLength_32 : decode cX13_pieceLength 32 = .ok (.iadd, 1) := by decide +kernel
theorem dX13_pieceLength_33 : decode cX13_pieceLength 33 = .ok (.iaload, 1) := by decide +kernel
theorem dX13_pieceLength_34 : decode cX13_pieceLength 34 = .ok (.ireturn, 1) := by decide +kernel
theorem dX13_longestPiece_0 : decode cX13_longestPiece 0 = .ok (.iconst 0, 1) := by decide +kernel
theorem dX13_longestPiece_1 : decode cX13_longestPiece 1 = .ok (.istore_n 1, 1) := by decide +kernel
theorem dX13_longestPiece_2 : decode cX13_longestPiece 2 = .ok (.iconst 1, 1) := by decide +kernel
theorem dX13_longestPiece_3 : decode cX13_longestPiece 3 = .ok (.istore_n 2, 1) := by decide +kernel
theorem dX13_longestPiece_4 : decode cX13_longestPiece 4 = .ok (.iload_n 2, 1) := by decide +kernel
theorem dX13_longestPiece_5 : decode cX13_longestPiece 5 = .ok (.aload_n 0, 1) := by decide +kernel
theorem dX13_longestPiece_6 : decode cX13_longestPiece 6 = .ok (.getfield 9, 3) := by decide +kernel
theorem dX13_longestPiece_9 : decode cX13_longestPiece 9 = .ok (.bipush 13, 2) := by decide +kernel
theorem dX13_longestPiece_11 : decode cX13_longestPiece 11 = .ok (.iaload, 1) := by decide +kernel
theorem dX13_longestPiece_12 : decode cX13_longestPiece 12 = .ok (.if_icmp .ge 36, 3) := by decide +kernel
theorem dX13_longestPiece_15 : decode cX13_longestPiece 15 = .ok (.aload_n 0, 1) := by decide +kernel
theorem dX13_longestPiece_16 : decode cX13_longestPiece 16 = .ok (.getfield 9, 3) := by decide +kernel
theorem dX13_longestPiece_19 : decode cX13_longestPiece 19 = .ok (.bipush 78, 2) := by decide +kernel
theorem dX13_longestPiece_21 : decode cX13_longestPiece 21 = .ok (.iload_n 2, 1) := by decide +kernel
theorem dX13_longestPiece_22 : decode cX13_longestPiece 22 = .ok (.iadd, 1) := by decide +kernel
theorem dX13_longestPiece_23 : decode cX13_longestPiece 23 = .ok (.iaload, 1) := by decide +kernel
theorem dX13_longestPiece_24 : decode cX13_longestPiece 24 = .ok (.aload_n 0, 1) := by decide +kernel
theorem dX13_longestPiece_25 : decode cX13_longestPiece 25 = .ok (.getfield 9, 3) := by decide +kernel
theorem dX13_longestPiece_28 : decode cX13_longestPiece 28 = .ok (.bipush 78, 2) := by decide +kernel
theorem dX13_longestPiece_30 : decode cX13_longestPiece 30 = .ok (.iload_n 1, 1) := by decide +kernel
theorem dX13_longestPiece_31 : decode cX13_longestPiece 31 = .ok (.iadd, 1) := by decide +kernel
theorem dX13_longestPiece_32 : decode cX13_longestPiece 32 = .ok (.iaload, 1) := by decide +kernel
theorem dX13_longestPiece_33 : decode cX13_longestPiece 33 = .ok (.if_icmp .le 7, 3) := by decide +kernel
theorem dX13_longestPiece_36 : decode cX13_longestPiece 36 = .ok (.iload_n 2, 1) := by decide +kernel
theorem dX13_longestPiece_37 : decode cX13_longestPiece 37 = .ok (.goto 4, 3) := by decide +kernel
theorem dX13_longestPiece_40 : decode cX13_longestPiece 40 = .ok (.iload_n 1, 1) := by decide +kernel
theorem dX13_longestPiece_41 : decode cX13_longestPiece 41 = .ok (.istore_n 1, 1) := by decide +kernel
theorem dX13_longestPiece_42 : decode cX13_longestPiece 42 = .ok (.iinc 2 1, 3) := by decide +kernel
theorem dX13_longestPiece_45 : decode cX13_longestPiece 45 = .ok (.goto (-41), 3) := by decide +kernel
theorem dX13_longestPiece_48 : decode cX13_longestPiece 48 = .ok (.aload_n 0, 1) := by decide +kernel
theorem dX13_longestPiece_49 : decode cX13_longestPiece 49 = .ok (.aload_n 0, 1) := by decide +kernel
theorem dX13_longestPiece_50 : decode cX13_longestPiece 50 = .ok (.getfield 9, 3) := by decide +kernel
theorem dX13_longestPiece_53 : decode cX13_longestPiece 53 = .ok (.bipush 13, 2) := by decide +kernel
theorem dX13_longestPiece_55 : decode cX13_longestPiece 55 = .ok (.iaload, 1) := by decide +kernel
theorem dX13_longestPiece_56 : decode cX13_longestPiece 56 = .ok (.ifCond .ne 7, 3) := by decide +kernel
theorem dX13_longestPiece_59 : decode cX13_longestPiece 59 = .ok (.iconst 1, 1) := by decide +kernel
theorem dX13_longestPiece_60 : decode cX13_longestPiece 60 = .ok (.goto 4, 3) := by decide +kernel
theorem dX13_longestPiece_63 : decode cX13_longestPiece 63 = .ok (.iconst 0, 1) := by decide +kernel
theorem dX13_longestPiece_64 : decode cX13_longestPiece 64 = .ok (.iconst 1, 1) := by decide +kernel
theorem dX13_longestPiece_65 : decode cX13_longestPiece 65 = .ok (.invokevirtual 65, 3) := by decide +kernel
theorem dX13_longestPiece_68 : decode cX13_longestPiece 68 = .ok (.ifCond .eq 7, 3) := by decide +kernel
theorem dX13_longestPiece_71 : decode cX13_longestPiece 71 = .ok (.iconst 0, 1) := by decide +kernel
theorem dX13_longestPiece_72 : decode cX13_longestPiece 72 = .ok (.goto 4, 3) := by decide +kernel
theorem dX13_longestPiece_75 : decode cX13_longestPiece 75 = .ok (.iload_n 1, 1) := by decide +kernel
theorem dX13_longestPiece_76 : decode cX13_longestPiece 76 = .ok (.ireturn, 1) := by decide +kernel
theorem dX13_pieceByLength_0 : decode cX13_pieceByLength 0 = .ok (.iconst 0, 1) := by decide +kernel
theorem dX13_pieceByLength_1 : decode cX13_pieceByLength 1 = .ok (.istore_n 2, 1) := by decide +kernel
theorem dX13_pieceByLength_2 : decode cX13_pieceByLength 2 = .ok (.iload_n 2, 1) := by decide +kernel
theorem dX13_pieceByLength_3 : decode cX13_pieceByLength 3 = .ok (.aload_n 0, 1) := by decide +kernel
theorem dX13_pieceByLength_4 : decode cX13_pieceByLength 4 = .ok (.getfield 9, 3) := by decide +kernel
theorem dX13_pieceByLength_7 : decode cX13_pieceByLength 7 = .ok (.bipush 13, 2) := by decide +kernel
theorem dX13_pieceByLength_9 : decode cX13_pieceByLength 9 = .ok (.iaload, 1) := by decide +kernel
theorem dX13_pieceByLength_10 : decode cX13_pieceByLength 10 = .ok (.if_icmp .ge 90, 3) := by decide +kernel
theorem dX13_pieceByLength_13 : decode cX13_pieceByLength 13 = .ok (.iconst 0, 1) := by decide +kernel
theorem dX13_pieceByLength_14 : decode cX13_pieceByLength 14 = .ok (.istore_n 3, 1) := by decide +kernel
theorem dX13_pieceByLength_15 : decode cX13_pieceByLength 15 = .ok (.iconst 0, 1) := by decide +kernel
theorem dX13_pieceByLength_16 : decode cX13_pieceByLength 16 = .ok (.istore 4, 2) := by decide +kernel
theorem dX13_pieceByLength_18 : decode cX13_pieceByLength 18 = .ok (.iload 4, 2) := by decide +kernel
theorem dX13_pieceByLength_20 : decode cX13_pieceByLength 20 = .ok (.aload_n 0, 1) := by decide +kernel
theorem dX13_pieceByLength_21 : decode cX13_pieceByLength 21 = .ok (.getfield 9, 3) := by decide +kernel
theorem dX13_pieceByLength_24 : decode cX13_pieceByLength 24 = .ok (.bipush 13, 2) := by decide +kernel
theorem dX13_pieceByLength_26 : decode cX13_pieceByLength 26 = .ok (.iaload, 1) := by decide +kernel
theorem dX13_pieceByLength_27 : decode cX13_pieceByLength 27 = .ok (.if_icmp .ge 55, 3) := by decide +kernel
theorem dX13_pieceByLength_30 : decode cX13_pieceByLength 30 = .ok (.aload_n 0, 1) := by decide +kernel
theorem dX13_pieceByLength_31 : decode cX13_pieceByLength 31 = .ok (.getfield 9, 3) := by decide +kernel
theorem dX13_pieceByLength_34 : decode cX13_pieceByLength 34 = .ok (.bipush 78, 2) := by decide +kernel
theorem dX13_pieceByLength_36 : decode cX13_pieceByLength 36 = .ok (.iload_n 2, 1) := by decide +kernel
theorem dX13_pieceByLength_37 : decode cX13_pieceByLength 37 = .ok (.iadd, 1) := by decide +kernel
theorem dX13_pieceByLength_38 : decode cX13_pieceByLength 38 = .ok (.iaload, 1) := by decide +kernel
theorem dX13_pieceByLength_39 : decode cX13_pieceByLength 39 = .ok (.aload_n 0, 1) := by decide +kernel
theorem dX13_pieceByLength_40 : decode cX13_pieceByLength 40 = .ok (.getfield 9, 3) := by decide +kernel
theorem dX13_pieceByLength_43 : decode cX13_pieceByLength 43 = .ok (.bipush 78, 2) := by decide +kernel
theorem dX13_pieceByLength_45 : decode cX13_pieceByLength 45 = .ok (.iload 4, 2) := by decide +kernel
theorem dX13_pieceByLength_47 : decode cX13_pieceByLength 47 = .ok (.iadd, 1) := by decide +kernel
theorem dX13_pieceByLength_48 : decode cX13_pieceByLength 48 = .ok (.iaload, 1) := by decide +kernel
theorem dX13_pieceByLength_49 : decode cX13_pieceByLength 49 = .ok (.isub, 1) := by decide +kernel
theorem dX13_pieceByLength_50 : decode cX13_pieceByLength 50 = .ok (.istore 5, 2) := by decide +kernel
theorem dX13_pieceByLength_52 : decode cX13_pieceByLength 52 = .ok (.iload_n 3, 1) := by decide +kernel
theorem dX13_pieceByLength_53 : decode cX13_pieceByLength 53 = .ok (.iload 5, 2) := by decide +kernel
theorem dX13_pieceByLength_55 : decode cX13_pieceByLength 55 = .ok (.ifCond .gt 14, 3) := by decide +kernel
theorem dX13_pieceByLength_58 : decode cX13_pieceByLength 58 = .ok (.iload 5, 2) := by decide +kernel
theorem dX13_pieceByLength_60 : decode cX13_pieceByLength 60 = .ok (.ifCond .ne 13, 3) := by decide +kernel
theorem dX13_pieceByLength_63 : decode cX13_pieceByLength 63 = .ok (.iload 4, 2) := by decide +kernel
theorem dX13_pieceByLength_65 : decode cX13_pieceByLength 65 = .ok (.iload_n 2, 1) := by decide +kernel
theorem dX13_pieceByLength_66 : decode cX13_pieceByLength 66 = .ok (.if_icmp .ge 7, 3) := by decide +kernel
theorem dX13_pieceByLength_69 : decode cX13_pieceByLength 69 = .ok (.iconst 1, 1) := by decide +kernel
theorem dX13_pieceByLength_70 : decode cX13_pieceByLength 70 = .ok (.goto 4, 3) := by decide +kernel
theorem dX13_pieceByLength_73 : decode cX13_pieceByLength 73 = .ok (.iconst 0, 1) := by decide +kernel
theorem dX13_pieceByLength_74 : decode cX13_pieceByLength 74 = .ok (.iadd, 1) := by decide +kernel
theorem dX13_pieceByLength_75 : decode cX13_pieceByLength 75 = .ok (.istore_n 3, 1) := by decide +kernel
theorem dX13_pieceByLength_76 : decode cX13_pieceByLength 76 = .ok (.iinc 4 1, 3) := by decide +kernel
theorem dX13_pieceByLength_79 : decode cX13_pieceByLength 79 = .ok (.goto (-61), 3) := by decide +kernel
theorem dX13_pieceByLength_82 : decode cX13_pieceByLength 82 = .ok (.iload_n 3, 1) := by decide +kernel
theorem dX13_pieceByLength_83 : decode cX13_pieceByLength 83 = .ok (.iload_n 1, 1) := by decide +kernel
theorem dX13_pieceByLength_84 : decode cX13_pieceByLength 84 = .ok (.if_icmp .ne 10, 3) := by decide +kernel
theorem dX13_pieceByLength_87 : decode cX13_pieceByLength 87 = .ok (.aload_n 0, 1) := by decide +kernel
theorem dX13_pieceByLength_88 : decode cX13_pieceByLength 88 = .ok (.iconst 0, 1) := by decide +kernel
theorem dX13_pieceByLength_89 : decode cX13_pieceByLength 89 = .ok (.putfield 44, 3) := by decide +kernel
theorem dX13_pieceByLength_92 : decode cX13_pieceByLength 92 = .ok (.iload_n 2, 1) := by decide +kernel
theorem dX13_pieceByLength_93 : decode cX13_pieceByLength 93 = .ok (.ireturn, 1) := by decide +kernel
theorem dX13_pieceByLength_94 : decode cX13_pieceByLength 94 = .ok (.iinc 2 1, 3) := by decide +kernel
theorem dX13_pieceByLength_97 : decode cX13_pieceByLength 97 = .ok (.goto (-95), 3) := by decide +kernel
theorem dX13_pieceByLength_100 : decode cX13_pieceByLength 100 = .ok (.aload_n 0, 1) := by decide +kernel
theorem dX13_pieceByLength_101 : decode cX13_pieceByLength 101 = .ok (.iconst 1, 1) := by decide +kernel
theorem dX13_pieceByLength_102 : decode cX13_pieceByLength 102 = .ok (.putfield 44, 3) := by decide +kernel
theorem dX13_pieceByLength_105 : decode cX13_pieceByLength 105 = .ok (.iconst 0, 1) := by decide +kernel
theorem dX13_pieceByLength_106 : decode cX13_pieceByLength 106 = .ok (.ireturn, 1) := by decide +kernel
theorem dX13_worthOf_0 : decode cX13_worthOf 0 = .ok (.aload_n 0, 1) := by decide +kernel
theorem dX13_worthOf_1 : decode cX13_worthOf 1 = .ok (.aload_n 0, 1) := by decide +kernel
theorem dX13_worthOf_2 : decode cX13_worthOf 2 = .ok (.iload_n 1, 1) := by decide +kernel
theorem dX13_worthOf_3 : decode cX13_worthOf 3 = .ok (.invokevirtual 118, 3) := by decide +kernel
theorem dX13_worthOf_6 : decode cX13_worthOf 6 = .ok (.ifCond .ne 7, 3) := by decide +kernel
theorem dX13_worthOf_9 : decode cX13_worthOf 9 = .ok (.iconst 1, 1) := by decide +kernel
theorem dX13_worthOf_10 : decode cX13_worthOf 10 = .ok (.goto 4, 3) := by decide +kernel
theorem dX13_worthOf_13 : decode cX13_worthOf 13 = .ok (.iconst 0, 1) := by decide +kernel
theorem dX13_worthOf_14 : decode cX13_worthOf 14 = .ok (.iconst 1, 1) := by decide +kernel
theorem dX13_worthOf_15 : decode cX13_worthOf 15 = .ok (.invokevirtual 65, 3) := by decide +kernel
theorem dX13_worthOf_18 : decode cX13_worthOf 18 = .ok (.ifCond .eq 7, 3) := by decide +kernel
theorem dX13_worthOf_21 : decode cX13_worthOf 21 = .ok (.iconst 0, 1) := by decide +kernel
theorem dX13_worthOf_22 : decode cX13_worthOf 22 = .ok (.goto 8, 3) := by decide +kernel
theorem dX13_worthOf_25 : decode cX13_worthOf 25 = .ok (.aload_n 0, 1) := by decide +kernel
theorem dX13_worthOf_26 : decode cX13_worthOf 26 = .ok (.iload_n 1, 1) := by decide +kernel
theorem dX13_worthOf_27 : decode cX13_worthOf 27 = .ok (.invokevirtual 136, 3) := by decide +kernel
theorem dX13_worthOf_30 : decode cX13_worthOf 30 = .ok (.ireturn, 1) := by decide +kernel
theorem dX13_spliceCost_0 : decode cX13_spliceCost 0 = .ok (.aload_n 0, 1) := by decide +kernel
theorem dX13_spliceCost_1 : decode cX13_spliceCost 1 = .ok (.iconst 0, 1) := by decide +kernel
theorem dX13_spliceCost_2 : decode cX13_spliceCost 2 = .ok (.putfield 44, 3) := by decide +kernel
theorem dX13_spliceCost_5 : decode cX13_spliceCost 5 = .ok (.aload_n 0, 1) := by decide +kernel
theorem dX13_spliceCost_6 : decode cX13_spliceCost 6 = .ok (.invokevirtual 129, 3) := by decide +kernel
theorem dX13_spliceCost_9 : decode cX13_spliceCost 9 = .ok (.ireturn, 1) := by decide +kernel
theorem dX13_spliceCostByMemory_0 : decode cX13_spliceCostByMemory 0 = .ok (.aload_n 0, 1) := by decide +kernel
theorem dX13_spliceCostByMemory_1 : decode cX13_spliceCostByMemory 1 = .ok (.invokevirtual 170, 3) := by decide +kernel
theorem dX13_spliceCostByMemory_4 : decode cX13_spliceCostByMemory 4 = .ok (.ireturn, 1) := by decide +kernel
theorem dX13_roving_0 : decode cX13_roving 0 = .ok (.aload_n 0, 1) := by decide +kernel
theorem dX13_roving_1 : decode cX13_roving 1 = .ok (.iconst 0, 1) := by decide +kernel
theorem dX13_roving_2 : decode cX13_roving 2 = .ok (.putfield 44, 3) := by decide +kernel
theorem dX13_roving_5 : decode cX13_roving 5 = .ok (.aload_n 0, 1) := by decide +kernel
theorem dX13_roving_6 : decode cX13_roving 6 = .ok (.getfield 9, 3) := by decide +kernel
theorem dX13_roving_9 : decode cX13_roving 9 = .ok (.iconst 1, 1) := by decide +kernel
theorem dX13_roving_10 : decode cX13_roving 10 = .ok (.iaload, 1) := by decide +kernel
theorem dX13_roving_11 : decode cX13_roving 11 = .ok (.ireturn, 1) := by decide +kernel
theorem dX13_machines_0 : decode cX13_machines 0 = .ok (.aload_n 0, 1) := by decide +kernel
theorem dX13_machines_1 : decode cX13_machines 1 = .ok (.iconst 0, 1) := by decide +kernel
theorem dX13_machines_2 : decode cX13_machines 2 = .ok (.putfield 44, 3) := by decide +kernel
theorem dX13_machines_5 : decode cX13_machines 5 = .ok (.aload_n 0, 1) := by decide +kernel
theorem dX13_machines_6 : decode cX13_machines 6 = .ok (.getfield 9, 3) := by decide +kernel
theorem dX13_machines_9 : decode cX13_machines 9 = .ok (.iconst 3, 1) := by decide +kernel
theorem dX13_machines_10 : decode cX13_machines 10 = .ok (.iaload, 1) := by decide +kernel
theorem dX13_machines_11 : decode cX13_machines 11 = .ok (.ireturn, 1) := by decide +kernel
theorem dX13_clock_0 : decode cX13_clock 0 = .ok (.aload_n 0, 1) := by decide +kernel
theorem dX13_clock_1 : decode cX13_clock 1 = .ok (.iconst 0, 1) := by decide +kernel
theorem dX13_clock_2 : decode cX13_clock 2 = .ok (.putfield 44, 3) := by decide +kernel
theorem dX13_clock_5 : decode cX13_clock 5 = .ok (.aload_n 0, 1) := by decide +kernel
theorem dX13_clock_6 : decode cX13_clock 6 = .ok (.getfield 9, 3) := by decide +kernel
theorem dX13_clock_9 : decode cX13_clock 9 = .ok (.iconst 2, 1) := by decide +kernel
theorem dX13_clock_10 : decode cX13_clock 10 = .ok (.iaload, 1) := by decide +kernel
theorem dX13_clock_11 : decode cX13_clock 11 = .ok (.ireturn, 1) := by decide +kernel
theorem dX13_coins_0 : decode cX13_coins 0 = .ok (.aload_n 0, 1) := by decide +kernel
theorem dX13_coins_1 : decode cX13_coins 1 = .ok (.iconst 0, 1) := by decide +kernel
theorem dX13_coins_2 : decode cX13_coins 2 = .ok (.putfield 44, 3) := by decide +kernel
theorem dX13_coins_5 : decode cX13_coins 5 = .ok (.aload_n 0, 1) := by decide +kernel
theorem dX13_coins_6 : decode cX13_coins 6 = .ok (.getfield 9, 3) := by decide +kernel
theorem dX13_coins_9 : decode cX13_coins 9 = .ok (.iconst 0, 1) := by decide +kernel
theorem dX13_coins_10 : decode cX13_coins 10 = .ok (.iaload, 1) := by decide +kernel
theorem dX13_coins_11 : decode cX13_coins 11 = .ok (.ireturn, 1) := by decide +kernel
theorem dX13_coinsByAccounts_0 : decode cX13_coinsByAccounts 0 = .ok (.aload_n 0, 1) := by decide +kernel
theorem dX13_coinsByAccounts_1 : decode cX13_coinsByAccounts 1 = .ok (.iconst 0, 1) := by decide +kernel
theorem dX13_coinsByAccounts_2 : decode cX13_coinsByAccounts 2 = .ok (.putfield 44, 3) := by decide +kernel
theorem dX13_coinsByAccounts_5 : decode cX13_coinsByAccounts 5 = .ok (.sipush 1000, 3) := by decide +kernel
theorem dX13_coinsByAccounts_8 : decode cX13_coinsByAccounts 8 = .ok (.aload_n 0, 1) := by decide +kernel
theorem dX13_coinsByAccounts_9 : decode cX13_coinsByAccounts 9 = .ok (.getfield 9, 3) := by decide +kernel
theorem dX13_coinsByAccounts_12 : decode cX13_coinsByAccounts 12 = .ok (.iconst 4, 1) := by decide +kernel
theorem dX13_coinsByAccounts_13 : decode cX13_coinsByAccounts 13 = .ok (.iaload, 1) := by decide +kernel
theorem dX13_coinsByAccounts_14 : decode cX13_coinsByAccounts 14 = .ok (.isub, 1) := by decide +kernel
theorem dX13_coinsByAccounts_15 : decode cX13_coinsByAccounts 15 = .ok (.aload_n 0, 1) := by decide +kernel
theorem dX13_coinsByAccounts_16 : decode cX13_coinsByAccounts 16 = .ok (.getfield 9, 3) := by decide +kernel
theorem dX13_coinsByAccounts_19 : decode cX13_coinsByAccounts 19 = .ok (.iconst 5, 1) := by decide +kernel
theorem dX13_coinsByAccounts_20 : decode cX13_coinsByAccounts 20 = .ok (.iaload, 1) := by decide +kernel
theorem dX13_coinsByAccounts_21 : decode cX13_coinsByAccounts 21 = .ok (.iadd, 1) := by decide +kernel
theorem dX13_coinsByAccounts_22 : decode cX13_coinsByAccounts 22 = .ok (.ireturn, 1) := by decide +kernel
theorem dX13_spunTotal_0 : decode cX13_spunTotal 0 = .ok (.aload_n 0, 1) := by decide +kernel
theorem dX13_spunTotal_1 : decode cX13_spunTotal 1 = .ok (.iconst 0, 1) := by decide +kernel
theorem dX13_spunTotal_2 : decode cX13_spunTotal 2 = .ok (.putfield 44, 3) := by decide +kernel
theorem dX13_spunTotal_5 : decode cX13_spunTotal 5 = .ok (.aload_n 0, 1) := by decide +kernel
theorem dX13_spunTotal_6 : decode cX13_spunTotal 6 = .ok (.getfield 9, 3) := by decide +kernel
theorem dX13_spunTotal_9 : decode cX13_spunTotal 9 = .ok (.bipush 6, 2) := by decide +kernel
theorem dX13_spunTotal_11 : decode cX13_spunTotal 11 = .ok (.iaload, 1) := by decide +kernel
theorem dX13_spunTotal_12 : decode cX13_spunTotal 12 = .ok (.ireturn, 1) := by decide +kernel
theorem dX13_wasteTotal_0 : decode cX13_wasteTotal 0 = .ok (.aload_n 0, 1) := by decide +kernel
theorem dX13_wasteTotal_1 : decode cX13_wasteTotal 1 = .ok (.iconst 0, 1) := by decide +kernel
theorem dX13_wasteTotal_2 : decode cX13_wasteTotal 2 = .ok (.putfield 44, 3) := by decide +kernel
theorem dX13_wasteTotal_5 : decode cX13_wasteTotal 5 = .ok (.aload_n 0, 1) := by decide +kernel
theorem dX13_wasteTotal_6 : decode cX13_wasteTotal 6 = .ok (.getfield 9, 3) := by decide +kernel
theorem dX13_wasteTotal_9 : decode cX13_wasteTotal 9 = .ok (.bipush 7, 2) := by decide +kernel
theorem dX13_wasteTotal_11 : decode cX13_wasteTotal 11 = .ok (.iaload, 1) := by decide +kernel
theorem dX13_wasteTotal_12 : decode cX13_wasteTotal 12 = .ok (.ireturn, 1) := by decide +kernel
theorem dX13_soldTotal_0 : decode cX13_soldTotal 0 = .ok (.aload_n 0, 1) := by decide +kernel
theorem dX13_soldTotal_1 : decode cX13_soldTotal 1 = .ok (.iconst 0, 1) := by decide +kernel
theorem dX13_soldTotal_2 : decode cX13_soldTotal 2 = .ok (.putfield 44, 3) := by decide +kernel
theorem dX13_soldTotal_5 : decode cX13_soldTotal 5 = .ok (.aload_n 0, 1) := by decide +kernel
theorem dX13_soldTotal_6 : decode cX13_soldTotal 6 = .ok (.getfield 9, 3) := by decide +kernel
theorem dX13_soldTotal_9 : decode cX13_soldTotal 9 = .ok (.bipush 8, 2) := by decide +kernel
theorem dX13_soldTotal_11 : decode cX13_soldTotal 11 = .ok (.iaload, 1) := by decide +kernel
theorem dX13_soldTotal_12 : decode cX13_soldTotal 12 = .ok (.ireturn, 1) := by decide +kernel
theorem dX13_onShelf_0 : decode cX13_onShelf 0 = .ok (.iconst 0, 1) := by decide +kernel
theorem dX13_onShelf_1 : decode cX13_onShelf 1 = .ok (.istore_n 1, 1) := by decide +kernel
theorem dX13_onShelf_2 : decode cX13_onShelf 2 = .ok (.iconst 0, 1) := by decide +kernel
theorem dX13_onShelf_3 : decode cX13_onShelf 3 = .ok (.istore_n 2, 1) := by decide +kernel
theorem dX13_onShelf_4 : decode cX13_onShelf 4 = .ok (.iload_n 2, 1) := by decide +kernel
theorem dX13_onShelf_5 : decode cX13_onShelf 5 = .ok (.aload_n 0, 1) := by decide +kernel
theorem dX13_onShelf_6 : decode cX13_onShelf 6 = .ok (.getfield 9, 3) := by decide +kernel
theorem dX13_onShelf_9 : decode cX13_onShelf 9 = .ok (.bipush 13, 2) := by decide +kernel
theorem dX13_onShelf_11 : decode cX13_onShelf 11 = .ok (.iaload, 1) := by decide +kernel
theorem dX13_onShelf_12 : decode cX13_onShelf 12 = .ok (.if_icmp .ge 21, 3) := by decide +kernel
theorem dX13_onShelf_15 : decode cX13_onShelf 15 = .ok (.iload_n 1, 1) := by decide +kernel
theorem dX13_onShelf_16 : decode cX13_onShelf 16 = .ok (.aload_n 0, 1) := by decide +kernel
theorem dX13_onShelf_17 : decode cX13_onShelf 17 = .ok (.getfield 9, 3) := by decide +kernel
theorem dX13_onShelf_20 : decode cX13_onShelf 20 = .ok (.bipush 78, 2) := by decide +kernel
theorem dX13_onShelf_22 : decode cX13_onShelf 22 = .ok (.iload_n 2, 1) := by decide +kernel
theorem dX13_onShelf_23 : decode cX13_onShelf 23 = .ok (.iadd, 1) := by decide +kernel
theorem dX13_onShelf_24 : decode cX13_onShelf 24 = .ok (.iaload, 1) := by decide +kernel
theorem dX13_onShelf_25 : decode cX13_onShelf 25 = .ok (.iadd, 1) := by decide +kernel
theorem dX13_onShelf_26 : decode cX13_onShelf 26 = .ok (.istore_n 1, 1) := by decide +kernel
theorem dX13_onShelf_27 : decode cX13_onShelf 27 = .ok (.iinc 2 1, 3) := by decide +kernel
theorem dX13_onShelf_30 : decode cX13_onShelf 30 = .ok (.goto (-26), 3) := by decide +kernel
theorem dX13_onShelf_33 : decode cX13_onShelf 33 = .ok (.iload_n 1, 1) := by decide +kernel
theorem dX13_onShelf_34 : decode cX13_onShelf 34 = .ok (.ireturn, 1) := by decide +kernel
theorem dX13_shelfLength_0 : decode cX13_shelfLength 0 = .ok (.aload_n 0, 1) := by decide +kernel
theorem dX13_shelfLength_1 : decode cX13_shelfLength 1 = .ok (.iconst 0, 1) := by decide +kernel
theorem dX13_shelfLength_2 : decode cX13_shelfLength 2 = .ok (.putfield 44, 3) := by decide +kernel
theorem dX13_shelfLength_5 : decode cX13_shelfLength 5 = .ok (.aload_n 0, 1) := by decide +kernel
theorem dX13_shelfLength_6 : decode cX13_shelfLength 6 = .ok (.invokevirtual 173, 3) := by decide +kernel
theorem dX13_shelfLength_9 : decode cX13_shelfLength 9 = .ok (.ireturn, 1) := by decide +kernel
theorem dX13_shelfLengthByAccounts_0 : decode cX13_shelfLengthByAccounts 0 = .ok (.aload_n 0, 1) := by decide +kernel
theorem dX13_shelfLengthByAccounts_1 : decode cX13_shelfLengthByAccounts 1 = .ok (.iconst 0, 1) := by decide +kernel
theorem dX13_shelfLengthByAccounts_2 : decode cX13_shelfLengthByAccounts 2 = .ok (.putfield 44, 3) := by decide +kernel
theorem dX13_shelfLengthByAccounts_5 : decode cX13_shelfLengthByAccounts 5 = .ok (.aload_n 0, 1) := by decide +kernel
theorem dX13_shelfLengthByAccounts_6 : decode cX13_shelfLengthByAccounts 6 = .ok (.getfield 9, 3) := by decide +kernel
theorem dX13_shelfLengthByAccounts_9 : decode cX13_shelfLengthByAccounts 9 = .ok (.bipush 6, 2) := by decide +kernel
theorem dX13_shelfLengthByAccounts_11 : decode cX13_shelfLengthByAccounts 11 = .ok (.iaload, 1) := by decide +kernel
theorem dX13_shelfLengthByAccounts_12 : decode cX13_shelfLengthByAccounts 12 = .ok (.aload_n 0, 1) := by decide +kernel
theorem dX13_shelfLengthByAccounts_13 : decode cX13_shelfLengthByAccounts 13 = .ok (.getfield 9, 3) := by decide +kernel
theorem dX13_shelfLengthByAccounts_16 : decode cX13_shelfLengthByAccounts 16 = .ok (.bipush 8, 2) := by decide +kernel
theorem dX13_shelfLengthByAccounts_18 : decode cX13_shelfLengthByAccounts 18 = .ok (.iaload, 1) := by decide +kernel
theorem dX13_shelfLengthByAccounts_19 : decode cX13_shelfLengthByAccounts 19 = .ok (.isub, 1) := by decide +kernel
theorem dX13_shelfLengthByAccounts_20 : decode cX13_shelfLengthByAccounts 20 = .ok (.aload_n 0, 1) := by decide +kernel
theorem dX13_shelfLengthByAccounts_21 : decode cX13_shelfLengthByAccounts 21 = .ok (.getfield 9, 3) := by decide +kernel
theorem dX13_shelfLengthByAccounts_24 : decode cX13_shelfLengthByAccounts 24 = .ok (.bipush 7, 2) := by decide +kernel
theorem dX13_shelfLengthByAccounts_26 : decode cX13_shelfLengthByAccounts 26 = .ok (.iaload, 1) := by decide +kernel
theorem dX13_shelfLengthByAccounts_27 : decode cX13_shelfLengthByAccounts 27 = .ok (.isub, 1) := by decide +kernel
theorem dX13_shelfLengthByAccounts_28 : decode cX13_shelfLengthByAccounts 28 = .ok (.ireturn, 1) := by decide +kernel
theorem dX13_meanLength_0 : decode cX13_meanLength 0 = .ok (.aload_n 0, 1) := by decide +kernel
theorem dX13_meanLength_1 : decode cX13_meanLength 1 = .ok (.aload_n 0, 1) := by decide +kernel
theorem dX13_meanLength_2 : decode cX13_meanLength 2 = .ok (.getfield 9, 3) := by decide +kernel
theorem dX13_meanLength_5 : decode cX13_meanLength 5 = .ok (.bipush 13, 2) := by decide +kernel
theorem dX13_meanLength_7 : decode cX13_meanLength 7 = .ok (.iaload, 1) := by decide +kernel
theorem dX13_meanLength_8 : decode cX13_meanLength 8 = .ok (.ifCond .ne 7, 3) := by decide +kernel
theorem dX13_meanLength_11 : decode cX13_meanLength 11 = .ok (.iconst 1, 1) := by decide +kernel
theorem dX13_meanLength_12 : decode cX13_meanLength 12 = .ok (.goto 4, 3) := by decide +kernel
theorem dX13_meanLength_15 : decode cX13_meanLength 15 = .ok (.iconst 0, 1) := by decide +kernel
theorem dX13_meanLength_16 : decode cX13_meanLength 16 = .ok (.iconst 1, 1) := by decide +kernel
theorem dX13_meanLength_17 : decode cX13_meanLength 17 = .ok (.invokevirtual 65, 3) := by decide +kernel
theorem dX13_meanLength_20 : decode cX13_meanLength 20 = .ok (.ifCond .eq 7, 3) := by decide +kernel
theorem dX13_meanLength_23 : decode cX13_meanLength 23 = .ok (.dconst 0, 1) := by decide +kernel
theorem dX13_meanLength_24 : decode cX13_meanLength 24 = .ok (.goto 17, 3) := by decide +kernel
theorem dX13_meanLength_27 : decode cX13_meanLength 27 = .ok (.aload_n 0, 1) := by decide +kernel
theorem dX13_meanLength_28 : decode cX13_meanLength 28 = .ok (.invokevirtual 173, 3) := by decide +kernel
theorem dX13_meanLength_31 : decode cX13_meanLength 31 = .ok (.i2d, 1) := by decide +kernel
theorem dX13_meanLength_32 : decode cX13_meanLength 32 = .ok (.aload_n 0, 1) := by decide +kernel
theorem dX13_meanLength_33 : decode cX13_meanLength 33 = .ok (.getfield 9, 3) := by decide +kernel
theorem dX13_meanLength_36 : decode cX13_meanLength 36 = .ok (.bipush 13, 2) := by decide +kernel
theorem dX13_meanLength_38 : decode cX13_meanLength 38 = .ok (.iaload, 1) := by decide +kernel
theorem dX13_meanLength_39 : decode cX13_meanLength 39 = .ok (.i2d, 1) := by decide +kernel
theorem dX13_meanLength_40 : decode cX13_meanLength 40 = .ok (.ddiv, 1) := by decide +kernel
theorem dX13_meanLength_41 : decode cX13_meanLength 41 = .ok (.dreturn, 1) := by decide +kernel
theorem dX13_longShare_0 : decode cX13_longShare 0 = .ok (.iconst 0, 1) := by decide +kernel
theorem dX13_longShare_1 : decode cX13_longShare 1 = .ok (.istore_n 1, 1) := by decide +kernel
theorem dX13_longShare_2 : decode cX13_longShare 2 = .ok (.iconst 0, 1) := by decide +kernel
theorem dX13_longShare_3 : decode cX13_longShare 3 = .ok (.istore_n 2, 1) := by decide +kernel
theorem dX13_longShare_4 : decode cX13_longShare 4 = .ok (.iload_n 2, 1) := by decide +kernel
theorem dX13_longShare_5 : decode cX13_longShare 5 = .ok (.aload_n 0, 1) := by decide +kernel
theorem dX13_longShare_6 : decode cX13_longShare 6 = .ok (.getfield 9, 3) := by decide +kernel
theorem dX13_longShare_9 : decode cX13_longShare 9 = .ok (.bipush 13, 2) := by decide +kernel
theorem dX13_longShare_11 : decode cX13_longShare 11 = .ok (.iaload, 1) := by decide +kernel
theorem dX13_longShare_12 : decode cX13_longShare 12 = .ok (.if_icmp .ge 31, 3) := by decide +kernel
theorem dX13_longShare_15 : decode cX13_longShare 15 = .ok (.iload_n 1, 1) := by decide +kernel
theorem dX13_longShare_16 : decode cX13_longShare 16 = .ok (.aload_n 0, 1) := by decide +kernel
theorem dX13_longShare_17 : decode cX13_longShare 17 = .ok (.getfield 9, 3) := by decide +kernel
theorem dX13_longShare_20 : decode cX13_longShare 20 = .ok (.bipush 78, 2) := by decide +kernel
theorem dX13_longShare_22 : decode cX13_longShare 22 = .ok (.iload_n 2, 1) := by decide +kernel
theorem dX13_longShare_23 : decode cX13_longShare 23 = .ok (.iadd, 1) := by decide +kernel
theorem dX13_longShare_24 : decode cX13_longShare 24 = .ok (.iaload, 1) := by decide +kernel
theorem dX13_longShare_25 : decode cX13_longShare 25 = .ok (.bipush 10, 2) := by decide +kernel
theorem dX13_longShare_27 : decode cX13_longShare 27 = .ok (.if_icmp .lt 7, 3) := by decide +kernel
theorem dX13_longShare_30 : decode cX13_longShare 30 = .ok (.iconst 1, 1) := by decide +kernel
theorem dX13_longShare_31 : decode cX13_longShare 31 = .ok (.goto 4, 3) := by decide +kernel
theorem dX13_longShare_34 : decode cX13_longShare 34 = .ok (.iconst 0, 1) := by decide +kernel
theorem dX13_longShare_35 : decode cX13_longShare 35 = .ok (.iadd, 1) := by decide +kernel
theorem dX13_longShare_36 : decode cX13_longShare 36 = .ok (.istore_n 1, 1) := by decide +kernel
theorem dX13_longShare_37 : decode cX13_longShare 37 = .ok (.iinc 2 1, 3) := by decide +kernel
theorem dX13_longShare_40 : decode cX13_longShare 40 = .ok (.goto (-36), 3) := by decide +kernel
theorem dX13_longShare_43 : decode cX13_longShare 43 = .ok (.aload_n 0, 1) := by decide +kernel
theorem dX13_longShare_44 : decode cX13_longShare 44 = .ok (.aload_n 0, 1) := by decide +kernel
theorem dX13_longShare_45 : decode cX13_longShare 45 = .ok (.getfield 9, 3) := by decide +kernel
theorem dX13_longShare_48 : decode cX13_longShare 48 = .ok (.bipush 13, 2) := by decide +kernel
theorem dX13_longShare_50 : decode cX13_longShare 50 = .ok (.iaload, 1) := by decide +kernel
theorem dX13_longShare_51 : decode cX13_longShare 51 = .ok (.ifCond .ne 7, 3) := by decide +kernel
theorem dX13_longShare_54 : decode cX13_longShare 54 = .ok (.iconst 1, 1) := by decide +kernel
theorem dX13_longShare_55 : decode cX13_longShare 55 = .ok (.goto 4, 3) := by decide +kernel
theorem dX13_longShare_58 : decode cX13_longShare 58 = .ok (.iconst 0, 1) := by decide +kernel
theorem dX13_longShare_59 : decode cX13_longShare 59 = .ok (.iconst 1, 1) := by decide +kernel
theorem dX13_longShare_60 : decode cX13_longShare 60 = .ok (.invokevirtual 65, 3) := by decide +kernel
theorem dX13_longShare_63 : decode cX13_longShare 63 = .ok (.ifCond .eq 7, 3) := by decide +kernel
theorem dX13_longShare_66 : decode cX13_longShare 66 = .ok (.fconst 0, 1) := by decide +kernel
theorem dX13_longShare_67 : decode cX13_longShare 67 = .ok (.goto 14, 3) := by decide +kernel
theorem dX13_longShare_70 : decode cX13_longShare 70 = .ok (.iload_n 1, 1) := by decide +kernel
theorem dX13_longShare_71 : decode cX13_longShare 71 = .ok (.i2f, 1) := by decide +kernel
theorem dX13_longShare_72 : decode cX13_longShare 72 = .ok (.aload_n 0, 1) := by decide +kernel
theorem dX13_longShare_73 : decode cX13_longShare 73 = .ok (.getfield 9, 3) := by decide +kernel
theorem dX13_longShare_76 : decode cX13_longShare 76 = .ok (.bipush 13, 2) := by decide +kernel
theorem dX13_longShare_78 : decode cX13_longShare 78 = .ok (.iaload, 1) := by decide +kernel
theorem dX13_longShare_79 : decode cX13_longShare 79 = .ok (.i2f, 1) := by decide +kernel
theorem dX13_longShare_80 : decode cX13_longShare 80 = .ok (.fdiv, 1) := by decide +kernel
theorem dX13_longShare_81 : decode cX13_longShare 81 = .ok (.freturn, 1) := by decide +kernel
theorem dX13_isConsistent_0 : decode cX13_isConsistent 0 = .ok (.aload_n 0, 1) := by decide +kernel
theorem dX13_isConsistent_1 : decode cX13_isConsistent 1 = .ok (.iconst 0, 1) := by decide +kernel
theorem dX13_isConsistent_2 : decode cX13_isConsistent 2 = .ok (.putfield 44, 3) := by decide +kernel
theorem dX13_isConsistent_5 : decode cX13_isConsistent 5 = .ok (.aload_n 0, 1) := by decide +kernel
theorem dX13_isConsistent_6 : decode cX13_isConsistent 6 = .ok (.getfield 9, 3) := by decide +kernel
theorem dX13_isConsistent_9 : decode cX13_isConsistent 9 = .ok (.iconst 0, 1) := by decide +kernel
theorem dX13_isConsistent_10 : decode cX13_isConsistent 10 = .ok (.iaload, 1) := by decide +kernel
theorem dX13_isConsistent_11 : decode cX13_isConsistent 11 = .ok (.sipush 1000, 3) := by decide +kernel
theorem dX13_isConsistent_14 : decode cX13_isConsistent 14 = .ok (.aload_n 0, 1) := by decide +kernel
theorem dX13_isConsistent_15 : decode cX13_isConsistent 15 = .ok (.getfield 9, 3) := by decide +kernel
theorem dX13_isConsistent_18 : decode cX13_isConsistent 18 = .ok (.iconst 4, 1) := by decide +kernel
theorem dX13_isConsistent_19 : decode cX13_isConsistent 19 = .ok (.iaload, 1) := by decide +kernel
theorem dX13_isConsistent_20 : decode cX13_isConsistent 20 = .ok (.isub, 1) := by decide +kernel
theorem dX13_isConsistent_21 : decode cX13_isConsistent 21 = .ok (.aload_n 0, 1) := by decide +kernel
theorem dX13_isConsistent_22 : decode cX13_isConsistent 22 = .ok (.getfield 9, 3) := by decide +kernel
theorem dX13_isConsistent_25 : decode cX13_isConsistent 25 = .ok (.iconst 5, 1) := by decide +kernel
theorem dX13_isConsistent_26 : decode cX13_isConsistent 26 = .ok (.iaload, 1) := by decide +kernel
theorem dX13_isConsistent_27 : decode cX13_isConsistent 27 = .ok (.iadd, 1) := by decide +kernel
theorem dX13_isConsistent_28 : decode cX13_isConsistent 28 = .ok (.if_icmp .ne 37, 3) := by decide +kernel
theorem dX13_isConsistent_31 : decode cX13_isConsistent 31 = .ok (.aload_n 0, 1) := by decide +kernel
theorem dX13_isConsistent_32 : decode cX13_isConsistent 32 = .ok (.invokevirtual 173, 3) := by decide +kernel
theorem dX13_isConsistent_35 : decode cX13_isConsistent 35 = .ok (.aload_n 0, 1) := by decide +kernel
theorem dX13_isConsistent_36 : decode cX13_isConsistent 36 = .ok (.getfield 9, 3) := by decide +kernel
theorem dX13_isConsistent_39 : decode cX13_isConsistent 39 = .ok (.bipush 6, 2) := by decide +kernel
theorem dX13_isConsistent_41 : decode cX13_isConsistent 41 = .ok (.iaload, 1) := by decide +kernel
theorem dX13_isConsistent_42 : decode cX13_isConsistent 42 = .ok (.aload_n 0, 1) := by decide +kernel
theorem dX13_isConsistent_43 : decode cX13_isConsistent 43 = .ok (.getfield 9, 3) := by decide +kernel
theorem dX13_isConsistent_46 : decode cX13_isConsistent 46 = .ok (.bipush 8, 2) := by decide +kernel
theorem dX13_isConsistent_48 : decode cX13_isConsistent 48 = .ok (.iaload, 1) := by decide +kernel
theorem dX13_isConsistent_49 : decode cX13_isConsistent 49 = .ok (.isub, 1) := by decide +kernel
theorem dX13_isConsistent_50 : decode cX13_isConsistent 50 = .ok (.aload_n 0, 1) := by decide +kernel
theorem dX13_isConsistent_51 : decode cX13_isConsistent 51 = .ok (.getfield 9, 3) := by decide +kernel
theorem dX13_isConsistent_54 : decode cX13_isConsistent 54 = .ok (.bipush 7, 2) := by decide +kernel
theorem dX13_isConsistent_56 : decode cX13_isConsistent 56 = .ok (.iaload, 1) := by decide +kernel
theorem dX13_isConsistent_57 : decode cX13_isConsistent 57 = .ok (.isub, 1) := by decide +kernel
theorem dX13_isConsistent_58 : decode cX13_isConsistent 58 = .ok (.if_icmp .ne 7, 3) := by decide +kernel
theorem dX13_isConsistent_61 : decode cX13_isConsistent 61 = .ok (.iconst 1, 1) := by decide +kernel
theorem dX13_isConsistent_62 : decode cX13_isConsistent 62 = .ok (.goto 4, 3) := by decide +kernel
theorem dX13_isConsistent_65 : decode cX13_isConsistent 65 = .ok (.iconst 0, 1) := by decide +kernel
theorem dX13_isConsistent_66 : decode cX13_isConsistent 66 = .ok (.ireturn, 1) := by decide +kernel
theorem dX13_puts_0 : decode cX13_puts 0 = .ok (.aload_n 0, 1) := by decide +kernel
theorem dX13_puts_1 : decode cX13_puts 1 = .ok (.getfield 35, 3) := by decide +kernel
theorem dX13_puts_4 : decode cX13_puts 4 = .ok (.aload_n 0, 1) := by decide +kernel
theorem dX13_puts_5 : decode cX13_puts 5 = .ok (.getfield 176, 3) := by decide +kernel
theorem dX13_puts_8 : decode cX13_puts 8 = .ok (.iload_n 1, 1) := by decide +kernel
theorem dX13_puts_9 : decode cX13_puts 9 = .ok (.iastore, 1) := by decide +kernel
theorem dX13_puts_10 : decode cX13_puts 10 = .ok (.aload_n 0, 1) := by decide +kernel
theorem dX13_puts_11 : decode cX13_puts 11 = .ok (.dup, 1) := by decide +kernel
theorem dX13_puts_12 : decode cX13_puts 12 = .ok (.getfield 176, 3) := by decide +kernel
theorem dX13_puts_15 : decode cX13_puts 15 = .ok (.iconst 1, 1) := by decide +kernel
theorem dX13_puts_16 : decode cX13_puts 16 = .ok (.iadd, 1) := by decide +kernel
theorem dX13_puts_17 : decode cX13_puts 17 = .ok (.putfield 176, 3) := by decide +kernel
theorem dX13_puts_20 : decode cX13_puts 20 = .ok (.return_, 1) := by decide +kernel
theorem dX13_number_0 : decode cX13_number 0 = .ok (.iload_n 1, 1) := by decide +kernel
theorem dX13_number_1 : decode cX13_number 1 = .ok (.bipush 10, 2) := by decide +kernel
theorem dX13_number_3 : decode cX13_number 3 = .ok (.if_icmp .lt 11, 3) := by decide +kernel
theorem dX13_number_6 : decode cX13_number 6 = .ok (.aload_n 0, 1) := by decide +kernel
theorem dX13_number_7 : decode cX13_number 7 = .ok (.iload_n 1, 1) := by decide +kernel
theorem dX13_number_8 : decode cX13_number 8 = .ok (.bipush 10, 2) := by decide +kernel
theorem dX13_number_10 : decode cX13_number 10 = .ok (.idiv, 1) := by decide +kernel
theorem dX13_number_11 : decode cX13_number 11 = .ok (.invokevirtual 179, 3) := by decide +kernel
theorem dX13_number_14 : decode cX13_number 14 = .ok (.aload_n 0, 1) := by decide +kernel
theorem dX13_number_15 : decode cX13_number 15 = .ok (.bipush 48, 2) := by decide +kernel
theorem dX13_number_17 : decode cX13_number 17 = .ok (.iload_n 1, 1) := by decide +kernel
theorem dX13_number_18 : decode cX13_number 18 = .ok (.bipush 10, 2) := by decide +kernel
theorem dX13_number_20 : decode cX13_number 20 = .ok (.irem, 1) := by decide +kernel
theorem dX13_number_21 : decode cX13_number 21 = .ok (.iadd, 1) := by decide +kernel
theorem dX13_number_22 : decode cX13_number 22 = .ok (.invokevirtual 183, 3) := by decide +kernel
theorem dX13_number_25 : decode cX13_number 25 = .ok (.return_, 1) := by decide +kernel
theorem dX13_renderShelf_0 : decode cX13_renderShelf 0 = .ok (.aload_n 0, 1) := by decide +kernel
theorem dX13_renderShelf_1 : decode cX13_renderShelf 1 = .ok (.iconst 0, 1) := by decide +kernel
theorem dX13_renderShelf_2 : decode cX13_renderShelf 2 = .ok (.putfield 44, 3) := by decide +kernel
theorem dX13_renderShelf_5 : decode cX13_renderShelf 5 = .ok (.aload_n 0, 1) := by decide +kernel
theorem dX13_renderShelf_6 : decode cX13_renderShelf 6 = .ok (.iconst 0, 1) := by decide +kernel
theorem dX13_renderShelf_7 : decode cX13_renderShelf 7 = .ok (.putfield 176, 3) := by decide +kernel
theorem dX13_renderShelf_10 : decode cX13_renderShelf 10 = .ok (.iconst 0, 1) := by decide +kernel
theorem dX13_renderShelf_11 : decode cX13_renderShelf 11 = .ok (.istore_n 1, 1) := by decide +kernel
theorem dX13_renderShelf_12 : decode cX13_renderShelf 12 = .ok (.iload_n 1, 1) := by decide +kernel
theorem dX13_renderShelf_13 : decode cX13_renderShelf 13 = .ok (.aload_n 0, 1) := by decide +kernel
theorem dX13_renderShelf_14 : decode cX13_renderShelf 14 = .ok (.getfield 9, 3) := by decide +kernel
theorem dX13_renderShelf_17 : decode cX13_renderShelf 17 = .ok (.bipush 13, 2) := by decide +kernel
theorem dX13_renderShelf_19 : decode cX13_renderShelf 19 = .ok (.iaload, 1) := by decide +kernel
theorem dX13_renderShelf_20 : decode cX13_renderShelf 20 = .ok (.if_icmp .ge 32, 3) := by decide +kernel
theorem dX13_renderShelf_23 : decode cX13_renderShelf 23 = .ok (.iload_n 1, 1) := by decide +kernel
theorem dX13_renderShelf_24 : decode cX13_renderShelf 24 = .ok (.ifCond .le 9, 3) := by decide +kernel
theorem dX13_renderShelf_27 : decode cX13_renderShelf 27 = .ok (.aload_n 0, 1) := by decide +kernel
theorem dX13_renderShelf_28 : decode cX13_renderShelf 28 = .ok (.bipush 45, 2) := by decide +kernel
theorem dX13_renderShelf_30 : decode cX13_renderShelf 30 = .ok (.invokevirtual 183, 3) := by decide +kernel
theorem dX13_renderShelf_33 : decode cX13_renderShelf 33 = .ok (.aload_n 0, 1) := by decide +kernel
theorem dX13_renderShelf_34 : decode cX13_renderShelf 34 = .ok (.aload_n 0, 1) := by decide +kernel
theorem dX13_renderShelf_35 : decode cX13_renderShelf 35 = .ok (.getfield 9, 3) := by decide +kernel
theorem dX13_renderShelf_38 : decode cX13_renderShelf 38 = .ok (.bipush 78, 2) := by decide +kernel
theorem dX13_renderShelf_40 : decode cX13_renderShelf 40 = .ok (.iload_n 1, 1) := by decide +kernel
theorem dX13_renderShelf_41 : decode cX13_renderShelf 41 = .ok (.iadd, 1) := by decide +kernel
theorem dX13_renderShelf_42 : decode cX13_renderShelf 42 = .ok (.iaload, 1) := by decide +kernel
theorem dX13_renderShelf_43 : decode cX13_renderShelf 43 = .ok (.invokevirtual 179, 3) := by decide +kernel
theorem dX13_renderShelf_46 : decode cX13_renderShelf 46 = .ok (.iinc 1 1, 3) := by decide +kernel
theorem dX13_renderShelf_49 : decode cX13_renderShelf 49 = .ok (.goto (-37), 3) := by decide +kernel
theorem dX13_renderShelf_52 : decode cX13_renderShelf 52 = .ok (.aload_n 0, 1) := by decide +kernel
theorem dX13_renderShelf_53 : decode cX13_renderShelf 53 = .ok (.getfield 176, 3) := by decide +kernel
theorem dX13_renderShelf_56 : decode cX13_renderShelf 56 = .ok (.ireturn, 1) := by decide +kernel
theorem dX13_renderOrder_0 : decode cX13_renderOrder 0 = .ok (.aload_n 0, 1) := by decide +kernel
theorem dX13_renderOrder_1 : decode cX13_renderOrder 1 = .ok (.iload_n 1, 1) := by decide +kernel
theorem dX13_renderOrder_2 : decode cX13_renderOrder 2 = .ok (.invokevirtual 103, 3) := by decide +kernel
theorem dX13_renderOrder_5 : decode cX13_renderOrder 5 = .ok (.istore_n 2, 1) := by decide +kernel
theorem dX13_renderOrder_6 : decode cX13_renderOrder 6 = .ok (.aload_n 0, 1) := by decide +kernel
theorem dX13_renderOrder_7 : decode cX13_renderOrder 7 = .ok (.iload_n 2, 1) := by decide +kernel
theorem dX13_renderOrder_8 : decode cX13_renderOrder 8 = .ok (.ifCond .ge 7, 3) := by decide +kernel
theorem dX13_renderOrder_11 : decode cX13_renderOrder 11 = .ok (.iconst 1, 1) := by decide +kernel
theorem dX13_renderOrder_12 : decode cX13_renderOrder 12 = .ok (.goto 4, 3) := by decide +kernel
theorem dX13_renderOrder_15 : decode cX13_renderOrder 15 = .ok (.iconst 0, 1) := by decide +kernel
theorem dX13_renderOrder_16 : decode cX13_renderOrder 16 = .ok (.iconst 1, 1) := by decide +kernel
theorem dX13_renderOrder_17 : decode cX13_renderOrder 17 = .ok (.invokevirtual 65, 3) := by decide +kernel
theorem dX13_renderOrder_20 : decode cX13_renderOrder 20 = .ok (.ifCond .eq 5, 3) := by decide +kernel
theorem dX13_renderOrder_23 : decode cX13_renderOrder 23 = .ok (.iconst 0, 1) := by decide +kernel
theorem dX13_renderOrder_24 : decode cX13_renderOrder 24 = .ok (.ireturn, 1) := by decide +kernel
theorem dX13_renderOrder_25 : decode cX13_renderOrder 25 = .ok (.aload_n 0, 1) := by decide +kernel
theorem dX13_renderOrder_26 : decode cX13_renderOrder 26 = .ok (.iconst 0, 1) := by decide +kernel
theorem dX13_renderOrder_27 : decode cX13_renderOrder 27 = .ok (.putfield 176, 3) := by decide +kernel
theorem dX13_renderOrder_30 : decode cX13_renderOrder 30 = .ok (.aload_n 0, 1) := by decide +kernel
theorem dX13_renderOrder_31 : decode cX13_renderOrder 31 = .ok (.iload_n 1, 1) := by decide +kernel
theorem dX13_renderOrder_32 : decode cX13_renderOrder 32 = .ok (.invokevirtual 179, 3) := by decide +kernel
theorem dX13_renderOrder_35 : decode cX13_renderOrder 35 = .ok (.aload_n 0, 1) := by decide +kernel
theorem dX13_renderOrder_36 : decode cX13_renderOrder 36 = .ok (.bipush 58, 2) := by decide +kernel
theorem dX13_renderOrder_38 : decode cX13_renderOrder 38 = .ok (.invokevirtual 183, 3) := by decide +kernel
theorem dX13_renderOrder_41 : decode cX13_renderOrder 41 = .ok (.aload_n 0, 1) := by decide +kernel
theorem dX13_renderOrder_42 : decode cX13_renderOrder 42 = .ok (.aload_n 0, 1) := by decide +kernel
theorem dX13_renderOrder_43 : decode cX13_renderOrder 43 = .ok (.iload_n 2, 1) := by decide +kernel
theorem dX13_renderOrder_44 : decode cX13_renderOrder 44 = .ok (.iconst 1, 1) := by decide +kernel
theorem dX13_renderOrder_45 : decode cX13_renderOrder 45 = .ok (.invokevirtual 58, 3) := by decide +kernel
theorem dX13_renderOrder_48 : decode cX13_renderOrder 48 = .ok (.invokevirtual 179, 3) := by decide +kernel
theorem dX13_renderOrder_51 : decode cX13_renderOrder 51 = .ok (.aload_n 0, 1) := by decide +kernel
theorem dX13_renderOrder_52 : decode cX13_renderOrder 52 = .ok (.bipush 107, 2) := by decide +kernel
theorem dX13_renderOrder_54 : decode cX13_renderOrder 54 = .ok (.invokevirtual 183, 3) := by decide +kernel
theorem dX13_renderOrder_57 : decode cX13_renderOrder 57 = .ok (.aload_n 0, 1) := by decide +kernel
theorem dX13_renderOrder_58 : decode cX13_renderOrder 58 = .ok (.bipush 109, 2) := by decide +kernel
theorem dX13_renderOrder_60 : decode cX13_renderOrder 60 = .ok (.invokevirtual 183, 3) := by decide +kernel
theorem dX13_renderOrder_63 : decode cX13_renderOrder 63 = .ok (.aload_n 0, 1) := by decide +kernel
theorem dX13_renderOrder_64 : decode cX13_renderOrder 64 = .ok (.bipush 116, 2) := by decide +kernel
theorem dX13_renderOrder_66 : decode cX13_renderOrder 66 = .ok (.invokevirtual 183, 3) := by decide +kernel
theorem dX13_renderOrder_69 : decode cX13_renderOrder 69 = .ok (.aload_n 0, 1) := by decide +kernel
theorem dX13_renderOrder_70 : decode cX13_renderOrder 70 = .ok (.aload_n 0, 1) := by decide +kernel
theorem dX13_renderOrder_71 : decode cX13_renderOrder 71 = .ok (.iload_n 2, 1) := by decide +kernel
theorem dX13_renderOrder_72 : decode cX13_renderOrder 72 = .ok (.iconst 2, 1) := by decide +kernel
theorem dX13_renderOrder_73 : decode cX13_renderOrder 73 = .ok (.invokevirtual 58, 3) := by decide +kernel
theorem dX13_renderOrder_76 : decode cX13_renderOrder 76 = .ok (.invokevirtual 179, 3) := by decide +kernel
theorem dX13_renderOrder_79 : decode cX13_renderOrder 79 = .ok (.aload_n 0, 1) := by decide +kernel
theorem dX13_renderOrder_80 : decode cX13_renderOrder 80 = .ok (.iload_n 2, 1) := by decide +kernel
theorem dX13_renderOrder_81 : decode cX13_renderOrder 81 = .ok (.invokevirtual 157, 3) := by decide +kernel
theorem dX13_renderOrder_84 : decode cX13_renderOrder 84 = .ok (.ifCond .ne 9, 3) := by decide +kernel
theorem dX13_renderOrder_87 : decode cX13_renderOrder 87 = .ok (.aload_n 0, 1) := by decide +kernel
theorem dX13_renderOrder_88 : decode cX13_renderOrder 88 = .ok (.bipush 33, 2) := by decide +kernel
theorem dX13_renderOrder_90 : decode cX13_renderOrder 90 = .ok (.invokevirtual 183, 3) := by decide +kernel
theorem dX13_renderOrder_93 : decode cX13_renderOrder 93 = .ok (.aload_n 0, 1) := by decide +kernel
theorem dX13_renderOrder_94 : decode cX13_renderOrder 94 = .ok (.getfield 176, 3) := by decide +kernel
theorem dX13_renderOrder_97 : decode cX13_renderOrder 97 = .ok (.ireturn, 1) := by decide +kernel
theorem dX13_outputAt_0 : decode cX13_outputAt 0 = .ok (.aload_n 0, 1) := by decide +kernel
theorem dX13_outputAt_1 : decode cX13_outputAt 1 = .ok (.iload_n 1, 1) := by decide +kernel
theorem dX13_outputAt_2 : decode cX13_outputAt 2 = .ok (.iconst 0, 1) := by decide +kernel
theorem dX13_outputAt_3 : decode cX13_outputAt 3 = .ok (.aload_n 0, 1) := by decide +kernel
theorem dX13_outputAt_4 : decode cX13_outputAt 4 = .ok (.getfield 176, 3) := by decide +kernel
theorem dX13_outputAt_7 : decode cX13_outputAt 7 = .ok (.iconst 1, 1) := by decide +kernel
theorem dX13_outputAt_8 : decode cX13_outputAt 8 = .ok (.isub, 1) := by decide +kernel
theorem dX13_outputAt_9 : decode cX13_outputAt 9 = .ok (.invokestatic 61, 3) := by decide +kernel
theorem dX13_outputAt_12 : decode cX13_outputAt 12 = .ok (.ifCond .ne 7, 3) := by decide +kernel
theorem dX13_outputAt_15 : decode cX13_outputAt 15 = .ok (.iconst 1, 1) := by decide +kernel
theorem dX13_outputAt_16 : decode cX13_outputAt 16 = .ok (.goto 4, 3) := by decide +kernel
theorem dX13_outputAt_19 : decode cX13_outputAt 19 = .ok (.iconst 0, 1) := by decide +kernel
theorem dX13_outputAt_20 : decode cX13_outputAt 20 = .ok (.iconst 1, 1) := by decide +kernel
theorem dX13_outputAt_21 : decode cX13_outputAt 21 = .ok (.invokevirtual 65, 3) := by decide +kernel
theorem dX13_outputAt_24 : decode cX13_outputAt 24 = .ok (.ifCond .eq 7, 3) := by decide +kernel
theorem dX13_outputAt_27 : decode cX13_outputAt 27 = .ok (.iconst 0, 1) := by decide +kernel
theorem dX13_outputAt_28 : decode cX13_outputAt 28 = .ok (.goto 10, 3) := by decide +kernel
theorem dX13_outputAt_31 : decode cX13_outputAt 31 = .ok (.aload_n 0, 1) := by decide +kernel
theorem dX13_outputAt_32 : decode cX13_outputAt 32 = .ok (.getfield 35, 3) := by decide +kernel
theorem dX13_outputAt_35 : decode cX13_outputAt 35 = .ok (.iload_n 1, 1) := by decide +kernel
theorem dX13_outputAt_36 : decode cX13_outputAt 36 = .ok (.iaload, 1) := by decide +kernel
theorem dX13_outputAt_37 : decode cX13_outputAt 37 = .ok (.i2c, 1) := by decide +kernel
theorem dX13_outputAt_38 : decode cX13_outputAt 38 = .ok (.ireturn, 1) := by decide +kernel
theorem dX13_type_0 : decode cX13_type 0 = .ok (.aload_n 0, 1) := by decide +kernel
theorem dX13_type_1 : decode cX13_type 1 = .ok (.iload_n 1, 1) := by decide +kernel
theorem dX13_type_2 : decode cX13_type 2 = .ok (.bipush 32, 2) := by decide +kernel
theorem dX13_type_4 : decode cX13_type 4 = .ok (.bipush 126, 2) := by decide +kernel
theorem dX13_type_6 : decode cX13_type 6 = .ok (.invokestatic 61, 3) := by decide +kernel
theorem dX13_type_9 : decode cX13_type 9 = .ok (.ifCond .ne 7, 3) := by decide +kernel
theorem dX13_type_12 : decode cX13_type 12 = .ok (.iconst 1, 1) := by decide +kernel
theorem dX13_type_13 : decode cX13_type 13 = .ok (.goto 4, 3) := by decide +kernel
theorem dX13_type_16 : decode cX13_type 16 = .ok (.iconst 0, 1) := by decide +kernel
theorem dX13_type_17 : decode cX13_type 17 = .ok (.iconst 1, 1) := by decide +kernel
theorem dX13_type_18 : decode cX13_type 18 = .ok (.invokevirtual 65, 3) := by decide +kernel
theorem dX13_type_21 : decode cX13_type 21 = .ok (.ifCond .ne 25, 3) := by decide +kernel
theorem dX13_type_24 : decode cX13_type 24 = .ok (.aload_n 0, 1) := by decide +kernel
theorem dX13_type_25 : decode cX13_type 25 = .ok (.aload_n 0, 1) := by decide +kernel
theorem dX13_type_26 : decode cX13_type 26 = .ok (.getfield 186, 3) := by decide +kernel
theorem dX13_type_29 : decode cX13_type 29 = .ok (.bipush 60, 2) := by decide +kernel
theorem dX13_type_31 : decode cX13_type 31 = .ok (.if_icmp .ne 7, 3) := by decide +kernel
theorem dX13_type_34 : decode cX13_type 34 = .ok (.iconst 1, 1) := by decide +kernel
theorem dX13_type_35 : decode cX13_type 35 = .ok (.goto 4, 3) := by decide +kernel
theorem dX13_type_38 : decode cX13_type 38 = .ok (.iconst 0, 1) := by decide +kernel
theorem dX13_type_39 : decode cX13_type 39 = .ok (.iconst 2, 1) := by decide +kernel
theorem dX13_type_40 : decode cX13_type 40 = .ok (.invokevirtual 65, 3) := by decide +kernel
theorem dX13_type_43 : decode cX13_type 43 = .ok (.ifCond .eq 5, 3) := by decide +kernel
theorem dX13_type_46 : decode cX13_type 46 = .ok (.iconst 0, 1) := by decide +kernel
theorem dX13_type_47 : decode cX13_type 47 = .ok (.ireturn, 1) := by decide +kernel
theorem dX13_type_48 : decode cX13_type 48 = .ok (.aload_n 0, 1) := by decide +kernel
theorem dX13_type_49 : decode cX13_type 49 = .ok (.getfield 38, 3) := by decide +kernel
theorem dX13_type_52 : decode cX13_type 52 = .ok (.aload_n 0, 1) := by decide +kernel
theorem dX13_type_53 : decode cX13_type 53 = .ok (.getfield 186, 3) := by decide +kernel
theorem dX13_type_56 : decode cX13_type 56 = .ok (.iload_n 1, 1) := by decide +kernel
theorem dX13_type_57 : decode cX13_type 57 = .ok (.iastore, 1) := by decide +kernel
theorem dX13_type_58 : decode cX13_type 58 = .ok (.aload_n 0, 1) := by decide +kernel
theorem dX13_type_59 : decode cX13_type 59 = .ok (.dup, 1) := by decide +kernel
theorem dX13_type_60 : decode cX13_type 60 = .ok (.getfield 186, 3) := by decide +kernel
theorem dX13_type_63 : decode cX13_type 63 = .ok (.iconst 1, 1) := by decide +kernel
theorem dX13_type_64 : decode cX13_type 64 = .ok (.iadd, 1) := by decide +kernel
theorem dX13_type_65 : decode cX13_type 65 = .ok (.putfield 186, 3) := by decide +kernel
theorem dX13_type_68 : decode cX13_type 68 = .ok (.aload_n 0, 1) := by decide +kernel
theorem dX13_type_69 : decode cX13_type 69 = .ok (.getfield 186, 3) := by decide +kernel
theorem dX13_type_72 : decode cX13_type 72 = .ok (.ireturn, 1) := by decide +kernel
theorem dX13_now_0 : decode cX13_now 0 = .ok (.aload_n 0, 1) := by decide +kernel
theorem dX13_now_1 : decode cX13_now 1 = .ok (.getfield 189, 3) := by decide +kernel
theorem dX13_now_4 : decode cX13_now 4 = .ok (.aload_n 0, 1) := by decide +kernel
theorem dX13_now_5 : decode cX13_now 5 = .ok (.getfield 186, 3) := by decide +kernel
theorem dX13_now_8 : decode cX13_now 8 = .ok (.if_icmp .ge 15, 3) := by decide +kernel
theorem dX13_now_11 : decode cX13_now 11 = .ok (.aload_n 0, 1) := by decide +kernel
theorem dX13_now_12 : decode cX13_now 12 = .ok (.getfield 38, 3) := by decide +kernel
theorem dX13_now_15 : decode cX13_now 15 = .ok (.aload_n 0, 1) := by decide +kernel
theorem dX13_now_16 : decode cX13_now 16 = .ok (.getfield 189, 3) := by decide +kernel
theorem dX13_now_19 : decode cX13_now 19 = .ok (.iaload, 1) := by decide +kernel
theorem dX13_now_20 : decode cX13_now 20 = .ok (.goto 4, 3) := by decide +kernel
theorem dX13_now_23 : decode cX13_now 23 = .ok (.iconst (-1), 1) := by decide +kernel
theorem dX13_now_24 : decode cX13_now 24 = .ok (.ireturn, 1) := by decide +kernel
theorem dX13_isSign_0 : decode cX13_isSign 0 = .ok (.aload_n 0, 1) := by decide +kernel
theorem dX13_isSign_1 : decode cX13_isSign 1 = .ok (.invokevirtual 192, 3) := by decide +kernel
theorem dX13_isSign_4 : decode cX13_isSign 4 = .ok (.iload_n 1, 1) := by decide +kernel
theorem dX13_isSign_5 : decode cX13_isSign 5 = .ok (.if_icmp .ne 7, 3) := by decide +kernel
theorem dX13_isSign_8 : decode cX13_isSign 8 = .ok (.iconst 1, 1) := by decide +kernel
theorem dX13_isSign_9 : decode cX13_isSign 9 = .ok (.goto 4, 3) := by decide +kernel
theorem dX13_isSign_12 : decode cX13_isSign 12 = .ok (.iconst 0, 1) := by decide +kernel
theorem dX13_isSign_13 : decode cX13_isSign 13 = .ok (.istore_n 2, 1) := by decide +kernel
theorem dX13_isSign_14 : decode cX13_isSign 14 = .ok (.aload_n 0, 1) := by decide +kernel
theorem dX13_isSign_15 : decode cX13_isSign 15 = .ok (.dup, 1) := by decide +kernel
theorem dX13_isSign_16 : decode cX13_isSign 16 = .ok (.getfield 189, 3) := by decide +kernel
theorem dX13_isSign_19 : decode cX13_isSign 19 = .ok (.iload_n 2, 1) := by decide +kernel
theorem dX13_isSign_20 : decode cX13_isSign 20 = .ok (.ifCond .eq 7, 3) := by decide +kernel
theorem dX13_isSign_23 : decode cX13_isSign 23 = .ok (.iconst 1, 1) := by decide +kernel
theorem dX13_isSign_24 : decode cX13_isSign 24 = .ok (.goto 4, 3) := by decide +kernel
theorem dX13_isSign_27 : decode cX13_isSign 27 = .ok (.iconst 0, 1) := by decide +kernel
theorem dX13_isSign_28 : decode cX13_isSign 28 = .ok (.iadd, 1) := by decide +kernel
theorem dX13_isSign_29 : decode cX13_isSign 29 = .ok (.putfield 189, 3) := by decide +kernel
theorem dX13_isSign_32 : decode cX13_isSign 32 = .ok (.iload_n 2, 1) := by decide +kernel
theorem dX13_isSign_33 : decode cX13_isSign 33 = .ok (.ireturn, 1) := by decide +kernel
theorem dX13_isSpaced_0 : decode cX13_isSpaced 0 = .ok (.aload_n 0, 1) := by decide +kernel
theorem dX13_isSpaced_1 : decode cX13_isSpaced 1 = .ok (.bipush 32, 2) := by decide +kernel
theorem dX13_isSpaced_3 : decode cX13_isSpaced 3 = .ok (.invokevirtual 195, 3) := by decide +kernel
theorem dX13_isSpaced_6 : decode cX13_isSpaced 6 = .ok (.ifCond .ne 5, 3) := by decide +kernel
theorem dX13_isSpaced_9 : decode cX13_isSpaced 9 = .ok (.iconst 0, 1) := by decide +kernel
theorem dX13_isSpaced_10 : decode cX13_isSpaced 10 = .ok (.ireturn, 1) := by decide +kernel
theorem dX13_isSpaced_11 : decode cX13_isSpaced 11 = .ok (.iconst 0, 1) := by decide +kernel
theorem dX13_isSpaced_12 : decode cX13_isSpaced 12 = .ok (.istore_n 3, 1) := by decide +kernel
theorem dX13_isSpaced_13 : decode cX13_isSpaced 13 = .ok (.iconst 0, 1) := by decide +kernel
theorem dX13_isSpaced_14 : decode cX13_isSpaced 14 = .ok (.istore 4, 2) := by decide +kernel
theorem dX13_isSpaced_16 : decode cX13_isSpaced 16 = .ok (.iload 4, 2) := by decide +kernel
theorem dX13_isSpaced_18 : decode cX13_isSpaced 18 = .ok (.iload_n 1, 1) := by decide +kernel
theorem dX13_isSpaced_19 : decode cX13_isSpaced 19 = .ok (.if_icmp .ge 46, 3) := by decide +kernel
theorem dX13_isSpaced_22 : decode cX13_isSpaced 22 = .ok (.aload_n 0, 1) := by decide +kernel
theorem dX13_isSpaced_23 : decode cX13_isSpaced 23 = .ok (.invokevirtual 192, 3) := by decide +kernel
theorem dX13_isSpaced_26 : decode cX13_isSpaced 26 = .ok (.bipush 48, 2) := by decide +kernel
theorem dX13_isSpaced_28 : decode cX13_isSpaced 28 = .ok (.bipush 57, 2) := by decide +kernel
theorem dX13_isSpaced_30 : decode cX13_isSpaced 30 = .ok (.invokestatic 61, 3) := by decide +kernel
theorem dX13_isSpaced_33 : decode cX13_isSpaced 33 = .ok (.ifCond .eq 32, 3) := by decide +kernel
theorem dX13_isSpaced_36 : decode cX13_isSpaced 36 = .ok (.bipush 10, 2) := by decide +kernel
theorem dX13_isSpaced_38 : decode cX13_isSpaced 38 = .ok (.iload_n 3, 1) := by decide +kernel
theorem dX13_isSpaced_39 : decode cX13_isSpaced 39 = .ok (.imul, 1) := by decide +kernel
theorem dX13_isSpaced_40 : decode cX13_isSpaced 40 = .ok (.aload_n 0, 1) := by decide +kernel
theorem dX13_isSpaced_41 : decode cX13_isSpaced 41 = .ok (.invokevirtual 192, 3) := by decide +kernel
theorem dX13_isSpaced_44 : decode cX13_isSpaced 44 = .ok (.iadd, 1) := by decide +kernel
theorem dX13_isSpaced_45 : decode cX13_isSpaced 45 = .ok (.bipush 48, 2) := by decide +kernel
theorem dX13_isSpaced_47 : decode cX13_isSpaced 47 = .ok (.isub, 1) := by decide +kernel
theorem dX13_isSpaced_48 : decode cX13_isSpaced 48 = .ok (.istore_n 3, 1) := by decide +kernel
theorem dX13_isSpaced_49 : decode cX13_isSpaced 49 = .ok (.aload_n 0, 1) := by decide +kernel
theorem dX13_isSpaced_50 : decode cX13_isSpaced 50 = .ok (.dup, 1) := by decide +kernel
theorem dX13_isSpaced_51 : decode cX13_isSpaced 51 = .ok (.getfield 189, 3) := by decide +kernel
theorem dX13_isSpaced_54 : decode cX13_isSpaced 54 = .ok (.iconst 1, 1) := by decide +kernel
theorem dX13_isSpaced_55 : decode cX13_isSpaced 55 = .ok (.iadd, 1) := by decide +kernel
theorem dX13_isSpaced_56 : decode cX13_isSpaced 56 = .ok (.putfield 189, 3) := by decide +kernel
theorem dX13_isSpaced_59 : decode cX13_isSpaced 59 = .ok (.iinc 4 1, 3) := by decide +kernel
theorem dX13_isSpaced_62 : decode cX13_isSpaced 62 = .ok (.goto (-46), 3) := by decide +kernel
theorem dX13_isSpaced_65 : decode cX13_isSpaced 65 = .ok (.aload_n 0, 1) := by decide +kernel
theorem dX13_isSpaced_66 : decode cX13_isSpaced 66 = .ok (.getfield 41, 3) := by decide +kernel
theorem dX13_isSpaced_69 : decode cX13_isSpaced 69 = .ok (.iload_n 2, 1) := by decide +kernel
theorem dX13_isSpaced_70 : decode cX13_isSpaced 70 = .ok (.iload_n 3, 1) := by decide +kernel
theorem dX13_isSpaced_71 : decode cX13_isSpaced 71 = .ok (.iastore, 1) := by decide +kernel
theorem dX13_isSpaced_72 : decode cX13_isSpaced 72 = .ok (.iload 4, 2) := by decide +kernel
theorem dX13_isSpaced_74 : decode cX13_isSpaced 74 = .ok (.ifCond .le 7, 3) := by decide +kernel
theorem dX13_isSpaced_77 : decode cX13_isSpaced 77 = .ok (.iconst 1, 1) := by decide +kernel
theorem dX13_isSpaced_78 : decode cX13_isSpaced 78 = .ok (.goto 4, 3) := by decide +kernel
theorem dX13_isSpaced_81 : decode cX13_isSpaced 81 = .ok (.iconst 0, 1) := by decide +kernel
theorem dX13_isSpaced_82 : decode cX13_isSpaced 82 = .ok (.ireturn, 1) := by decide +kernel
theorem dX13_isWord_0 : decode cX13_isWord 0 = .ok (.iconst 0, 1) := by decide +kernel
theorem dX13_isWord_1 : decode cX13_isWord 1 = .ok (.istore_n 2, 1) := by decide +kernel
theorem dX13_isWord_2 : decode cX13_isWord 2 = .ok (.iload_n 2, 1) := by decide +kernel
theorem dX13_isWord_3 : decode cX13_isWord 3 = .ok (.aload_n 1, 1) := by decide +kernel
theorem dX13_isWord_4 : decode cX13_isWord 4 = .ok (.invokevirtual 198, 3) := by decide +kernel
theorem dX13_isWord_7 : decode cX13_isWord 7 = .ok (.if_icmp .ge 23, 3) := by decide +kernel
theorem dX13_isWord_10 : decode cX13_isWord 10 = .ok (.aload_n 0, 1) := by decide +kernel
theorem dX13_isWord_11 : decode cX13_isWord 11 = .ok (.aload_n 1, 1) := by decide +kernel
theorem dX13_isWord_12 : decode cX13_isWord 12 = .ok (.iload_n 2, 1) := by decide +kernel
theorem dX13_isWord_13 : decode cX13_isWord 13 = .ok (.invokevirtual 203, 3) := by decide +kernel
theorem dX13_isWord_16 : decode cX13_isWord 16 = .ok (.invokevirtual 195, 3) := by decide +kernel
theorem dX13_isWord_19 : decode cX13_isWord 19 = .ok (.ifCond .ne 5, 3) := by decide +kernel
theorem dX13_isWord_22 : decode cX13_isWord 22 = .ok (.iconst 0, 1) := by decide +kernel
theorem dX13_isWord_23 : decode cX13_isWord 23 = .ok (.ireturn, 1) := by decide +kernel
theorem dX13_isWord_24 : decode cX13_isWord 24 = .ok (.iinc 2 1, 3) := by decide +kernel
theorem dX13_isWord_27 : decode cX13_isWord 27 = .ok (.goto (-25), 3) := by decide +kernel
theorem dX13_isWord_30 : decode cX13_isWord 30 = .ok (.iconst 1, 1) := by decide +kernel
theorem dX13_isWord_31 : decode cX13_isWord 31 = .ok (.ireturn, 1) := by decide +kernel
theorem dX13_readsB_0 : decode cX13_readsB 0 = .ok (.aload_n 0, 1) := by decide +kernel
theorem dX13_readsB_1 : decode cX13_readsB 1 = .ok (.bipush 97, 2) := by decide +kernel
theorem dX13_readsB_3 : decode cX13_readsB 3 = .ok (.invokevirtual 195, 3) := by decide +kernel
theorem dX13_readsB_6 : decode cX13_readsB 6 = .ok (.ifCond .eq 51, 3) := by decide +kernel
theorem dX13_readsB_9 : decode cX13_readsB 9 = .ok (.aload_n 0, 1) := by decide +kernel
theorem dX13_readsB_10 : decode cX13_readsB 10 = .ok (.ldc 207, 2) := by decide +kernel
theorem dX13_readsB_12 : decode cX13_readsB 12 = .ok (.invokevirtual 209, 3) := by decide +kernel
theorem dX13_readsB_15 : decode cX13_readsB 15 = .ok (.ifCond .eq 40, 3) := by decide +kernel
theorem dX13_readsB_18 : decode cX13_readsB 18 = .ok (.aload_n 0, 1) := by decide +kernel
theorem dX13_readsB_19 : decode cX13_readsB 19 = .ok (.iconst 3, 1) := by decide +kernel
theorem dX13_readsB_20 : decode cX13_readsB 20 = .ok (.iload_n 1, 1) := by decide +kernel
theorem dX13_readsB_21 : decode cX13_readsB 21 = .ok (.iconst 1, 1) := by decide +kernel
theorem dX13_readsB_22 : decode cX13_readsB 22 = .ok (.iadd, 1) := by decide +kernel
theorem dX13_readsB_23 : decode cX13_readsB 23 = .ok (.invokevirtual 213, 3) := by decide +kernel
theorem dX13_readsB_26 : decode cX13_readsB 26 = .ok (.ifCond .eq 29, 3) := by decide +kernel
theorem dX13_readsB_29 : decode cX13_readsB 29 = .ok (.aload_n 0, 1) := by decide +kernel
theorem dX13_readsB_30 : decode cX13_readsB 30 = .ok (.iconst 3, 1) := by decide +kernel
theorem dX13_readsB_31 : decode cX13_readsB 31 = .ok (.iload_n 1, 1) := by decide +kernel
theorem dX13_readsB_32 : decode cX13_readsB 32 = .ok (.iconst 2, 1) := by decide +kernel
theorem dX13_readsB_33 : decode cX13_readsB 33 = .ok (.iadd, 1) := by decide +kernel
theorem dX13_readsB_34 : decode cX13_readsB 34 = .ok (.invokevirtual 213, 3) := by decide +kernel
theorem dX13_readsB_37 : decode cX13_readsB 37 = .ok (.ifCond .eq 18, 3) := by decide +kernel
theorem dX13_readsB_40 : decode cX13_readsB 40 = .ok (.aload_n 0, 1) := by decide +kernel
theorem dX13_readsB_41 : decode cX13_readsB 41 = .ok (.iconst 3, 1) := by decide +kernel
theorem dX13_readsB_42 : decode cX13_readsB 42 = .ok (.iload_n 1, 1) := by decide +kernel
theorem dX13_readsB_43 : decode cX13_readsB 43 = .ok (.iconst 3, 1) := by decide +kernel
theorem dX13_readsB_44 : decode cX13_readsB 44 = .ok (.iadd, 1) := by decide +kernel
theorem dX13_readsB_45 : decode cX13_readsB 45 = .ok (.invokevirtual 213, 3) := by decide +kernel
theorem dX13_readsB_48 : decode cX13_readsB 48 = .ok (.ifCond .eq 7, 3) := by decide +kernel
theorem dX13_readsB_51 : decode cX13_readsB 51 = .ok (.iconst 1, 1) := by decide +kernel
theorem dX13_readsB_52 : decode cX13_readsB 52 = .ok (.goto 4, 3) := by decide +kernel
theorem dX13_readsB_55 : decode cX13_readsB 55 = .ok (.iconst 0, 1) := by decide +kernel
theorem dX13_readsB_56 : decode cX13_readsB 56 = .ok (.ireturn, 1) := by decide +kernel
theorem dX13_readsB_57 : decode cX13_readsB 57 = .ok (.aload_n 0, 1) := by decide +kernel
theorem dX13_readsB_58 : decode cX13_readsB 58 = .ok (.getfield 41, 3) := by decide +kernel
theorem dX13_readsB_61 : decode cX13_readsB 61 = .ok (.iload_n 1, 1) := by decide +kernel
theorem dX13_readsB_62 : decode cX13_readsB 62 = .ok (.bipush 108, 2) := by decide +kernel
theorem dX13_readsB_64 : decode cX13_readsB 64 = .ok (.iastore, 1) := by decide +kernel
theorem dX13_readsB_65 : decode cX13_readsB 65 = .ok (.aload_n 0, 1) := by decide +kernel
theorem dX13_readsB_66 : decode cX13_readsB 66 = .ok (.ldc 216, 2) := by decide +kernel
theorem dX13_readsB_68 : decode cX13_readsB 68 = .ok (.invokevirtual 209, 3) := by decide +kernel
theorem dX13_readsB_71 : decode cX13_readsB 71 = .ok (.ifCond .eq 29, 3) := by decide +kernel
theorem dX13_readsB_74 : decode cX13_readsB 74 = .ok (.aload_n 0, 1) := by decide +kernel
theorem dX13_readsB_75 : decode cX13_readsB 75 = .ok (.iconst 3, 1) := by decide +kernel
theorem dX13_readsB_76 : decode cX13_readsB 76 = .ok (.iload_n 1, 1) := by decide +kernel
theorem dX13_readsB_77 : decode cX13_readsB 77 = .ok (.iconst 1, 1) := by decide +kernel
theorem dX13_readsB_78 : decode cX13_readsB 78 = .ok (.iadd, 1) := by decide +kernel
theorem dX13_readsB_79 : decode cX13_readsB 79 = .ok (.invokevirtual 213, 3) := by decide +kernel
theorem dX13_readsB_82 : decode cX13_readsB 82 = .ok (.ifCond .eq 18, 3) := by decide +kernel
theorem dX13_readsB_85 : decode cX13_readsB 85 = .ok (.aload_n 0, 1) := by decide +kernel
theorem dX13_readsB_86 : decode cX13_readsB 86 = .ok (.iconst 3, 1) := by decide +kernel
theorem dX13_readsB_87 : decode cX13_readsB 87 = .ok (.iload_n 1, 1) := by decide +kernel
theorem dX13_readsB_88 : decode cX13_readsB 88 = .ok (.iconst 2, 1) := by decide +kernel
theorem dX13_readsB_89 : decode cX13_readsB 89 = .ok (.iadd, 1) := by decide +kernel
theorem dX13_readsB_90 : decode cX13_readsB 90 = .ok (.invokevirtual 213, 3) := by decide +kernel
theorem dX13_readsB_93 : decode cX13_readsB 93 = .ok (.ifCond .eq 7, 3) := by decide +kernel
theorem dX13_readsB_96 : decode cX13_readsB 96 = .ok (.iconst 1, 1) := by decide +kernel
theorem dX13_readsB_97 : decode cX13_readsB 97 = .ok (.goto 4, 3) := by decide +kernel
theorem dX13_readsB_100 : decode cX13_readsB 100 = .ok (.iconst 0, 1) := by decide +kernel
theorem dX13_readsB_101 : decode cX13_readsB 101 = .ok (.ireturn, 1) := by decide +kernel
theorem dX13_readsS_0 : decode cX13_readsS 0 = .ok (.aload_n 0, 1) := by decide +kernel
theorem dX13_readsS_1 : decode cX13_readsS 1 = .ok (.bipush 101, 2) := by decide +kernel
theorem dX13_readsS_3 : decode cX13_readsS 3 = .ok (.invokevirtual 195, 3) := by decide +kernel
theorem dX13_readsS_6 : decode cX13_readsS 6 = .ok (.ifCond .eq 29, 3) := by decide +kernel
theorem dX13_readsS_9 : decode cX13_readsS 9 = .ok (.aload_n 0, 1) := by decide +kernel
theorem dX13_readsS_10 : decode cX13_readsS 10 = .ok (.ldc 218, 2) := by decide +kernel
theorem dX13_readsS_12 : decode cX13_readsS 12 = .ok (.invokevirtual 209, 3) := by decide +kernel
theorem dX13_readsS_15 : decode cX13_readsS 15 = .ok (.ifCond .eq 18, 3) := by decide +kernel
theorem dX13_readsS_18 : decode cX13_readsS 18 = .ok (.aload_n 0, 1) := by decide +kernel
theorem dX13_readsS_19 : decode cX13_readsS 19 = .ok (.iconst 3, 1) := by decide +kernel
theorem dX13_readsS_20 : decode cX13_readsS 20 = .ok (.iload_n 1, 1) := by decide +kernel
theorem dX13_readsS_21 : decode cX13_readsS 21 = .ok (.iconst 1, 1) := by decide +kernel
theorem dX13_readsS_22 : decode cX13_readsS 22 = .ok (.iadd, 1) := by decide +kernel
theorem dX13_readsS_23 : decode cX13_readsS 23 = .ok (.invokevirtual 213, 3) := by decide +kernel
theorem dX13_readsS_26 : decode cX13_readsS 26 = .ok (.ifCond .eq 7, 3) := by decide +kernel
theorem dX13_readsS_29 : decode cX13_readsS 29 = .ok (.iconst 1, 1) := by decide +kernel
theorem dX13_readsS_30 : decode cX13_readsS 30 = .ok (.goto 4, 3) := by decide +kernel
theorem dX13_readsS_33 : decode cX13_readsS 33 = .ok (.iconst 0, 1) := by decide +kernel
theorem dX13_readsS_34 : decode cX13_readsS 34 = .ok (.ireturn, 1) := by decide +kernel
theorem dX13_readsS_35 : decode cX13_readsS 35 = .ok (.aload_n 0, 1) := by decide +kernel
theorem dX13_readsS_36 : decode cX13_readsS 36 = .ok (.bipush 112, 2) := by decide +kernel
theorem dX13_readsS_38 : decode cX13_readsS 38 = .ok (.invokevirtual 195, 3) := by decide +kernel
theorem dX13_readsS_41 : decode cX13_readsS 41 = .ok (.ifCond .ne 5, 3) := by decide +kernel
theorem dX13_readsS_44 : decode cX13_readsS 44 = .ok (.iconst 0, 1) := by decide +kernel
theorem dX13_readsS_45 : decode cX13_readsS 45 = .ok (.ireturn, 1) := by decide +kernel
theorem dX13_readsS_46 : decode cX13_readsS 46 = .ok (.aload_n 0, 1) := by decide +kernel
theorem dX13_readsS_47 : decode cX13_readsS 47 = .ok (.bipush 105, 2) := by decide +kernel
theorem dX13_readsS_49 : decode cX13_readsS 49 = .ok (.invokevirtual 195, 3) := by decide +kernel
theorem dX13_readsS_52 : decode cX13_readsS 52 = .ok (.ifCond .eq 37, 3) := by decide +kernel
theorem dX13_readsS_55 : decode cX13_readsS 55 = .ok (.aload_n 0, 1) := by decide +kernel
theorem dX13_readsS_56 : decode cX13_readsS 56 = .ok (.getfield 41, 3) := by decide +kernel
theorem dX13_readsS_59 : decode cX13_readsS 59 = .ok (.iload_n 1, 1) := by decide +kernel
theorem dX13_readsS_60 : decode cX13_readsS 60 = .ok (.bipush 105, 2) := by decide +kernel
theorem dX13_readsS_62 : decode cX13_readsS 62 = .ok (.iastore, 1) := by decide +kernel
theorem dX13_readsS_63 : decode cX13_readsS 63 = .ok (.aload_n 0, 1) := by decide +kernel
theorem dX13_readsS_64 : decode cX13_readsS 64 = .ok (.ldc 220, 2) := by decide +kernel
theorem dX13_readsS_66 : decode cX13_readsS 66 = .ok (.invokevirtual 209, 3) := by decide +kernel
theorem dX13_readsS_69 : decode cX13_readsS 69 = .ok (.ifCond .eq 18, 3) := by decide +kernel
theorem dX13_readsS_72 : decode cX13_readsS 72 = .ok (.aload_n 0, 1) := by decide +kernel
theorem dX13_readsS_73 : decode cX13_readsS 73 = .ok (.iconst 3, 1) := by decide +kernel
theorem dX13_readsS_74 : decode cX13_readsS 74 = .ok (.iload_n 1, 1) := by decide +kernel
theorem dX13_readsS_75 : decode cX13_readsS 75 = .ok (.iconst 1, 1) := by decide +kernel
theorem dX13_readsS_76 : decode cX13_readsS 76 = .ok (.iadd, 1) := by decide +kernel
theorem dX13_readsS_77 : decode cX13_readsS 77 = .ok (.invokevirtual 213, 3) := by decide +kernel
theorem dX13_readsS_80 : decode cX13_readsS 80 = .ok (.ifCond .eq 7, 3) := by decide +kernel
theorem dX13_readsS_83 : decode cX13_readsS 83 = .ok (.iconst 1, 1) := by decide +kernel
theorem dX13_readsS_84 : decode cX13_readsS 84 = .ok (.goto 4, 3) := by decide +kernel
theorem dX13_readsS_87 : decode cX13_readsS 87 = .ok (.iconst 0, 1) := by decide +kernel
theorem dX13_readsS_88 : decode cX13_readsS 88 = .ok (.ireturn, 1) := by decide +kernel
theorem dX13_readsS_89 : decode cX13_readsS 89 = .ok (.aload_n 0, 1) := by decide +kernel
theorem dX13_readsS_90 : decode cX13_readsS 90 = .ok (.getfield 41, 3) := by decide +kernel
theorem dX13_readsS_93 : decode cX13_readsS 93 = .ok (.iload_n 1, 1) := by decide +kernel
theorem dX13_readsS_94 : decode cX13_readsS 94 = .ok (.bipush 112, 2) := by decide +kernel
theorem dX13_readsS_96 : decode cX13_readsS 96 = .ok (.iastore, 1) := by decide +kernel
theorem dX13_readsS_97 : decode cX13_readsS 97 = .ok (.aload_n 0, 1) := by decide +kernel
theorem dX13_readsS_98 : decode cX13_readsS 98 = .ok (.ldc 222, 2) := by decide +kernel
theorem dX13_readsS_100 : decode cX13_readsS 100 = .ok (.invokevirtual 209, 3) := by decide +kernel
theorem dX13_readsS_103 : decode cX13_readsS 103 = .ok (.ifCond .eq 18, 3) := by decide +kernel
theorem dX13_readsS_106 : decode cX13_readsS 106 = .ok (.aload_n 0, 1) := by decide +kernel
theorem dX13_readsS_107 : decode cX13_readsS 107 = .ok (.iconst 3, 1) := by decide +kernel
theorem dX13_readsS_108 : decode cX13_readsS 108 = .ok (.iload_n 1, 1) := by decide +kernel
theorem dX13_readsS_109 : decode cX13_readsS 109 = .ok (.iconst 1, 1) := by decide +kernel
theorem dX13_readsS_110 : decode cX13_readsS 110 = .ok (.iadd, 1) := by decide +kernel
theorem dX13_readsS_111 : decode cX13_readsS 111 = .ok (.invokevirtual 213, 3) := by decide +kernel
theorem dX13_readsS_114 : decode cX13_readsS 114 = .ok (.ifCond .eq 7, 3) := by decide +kernel
theorem dX13_readsS_117 : decode cX13_readsS 117 = .ok (.iconst 1, 1) := by decide +kernel
theorem dX13_readsS_118 : decode cX13_readsS 118 = .ok (.goto 4, 3) := by decide +kernel
theorem dX13_readsS_121 : decode cX13_readsS 121 = .ok (.iconst 0, 1) := by decide +kernel
theorem dX13_readsS_122 : decode cX13_readsS 122 = .ok (.ireturn, 1) := by decide +kernel
theorem dX13_readsRest_0 : decode cX13_readsRest 0 = .ok (.iload_n 1, 1) := by decide +kernel
theorem dX13_readsRest_1 : decode cX13_readsRest 1 = .ok (.lookupswitch 152 #[(98, 51), (99, 100), (109, 126), (111, 63), (115, 57)], 51) := by decide +kernel
theorem dX13_readsRest_52 : decode cX13_readsRest 52 = .ok (.aload_n 0, 1) := by decide +kernel
theorem dX13_readsRest_53 : decode cX13_readsRest 53 = .ok (.iload_n 2, 1) := by decide +kernel
theorem dX13_readsRest_54 : decode cX13_readsRest 54 = .ok (.invokevirtual 224, 3) := by decide +kernel
theorem dX13_readsRest_57 : decode cX13_readsRest 57 = .ok (.ireturn, 1) := by decide +kernel
theorem dX13_readsRest_58 : decode cX13_readsRest 58 = .ok (.aload_n 0, 1) := by decide +kernel
theorem dX13_readsRest_59 : decode cX13_readsRest 59 = .ok (.iload_n 2, 1) := by decide +kernel
theorem dX13_readsRest_60 : decode cX13_readsRest 60 = .ok (.invokevirtual 227, 3) := by decide +kernel
theorem dX13_readsRest_63 : decode cX13_readsRest 63 = .ok (.ireturn, 1) := by decide +kernel
theorem dX13_readsRest_64 : decode cX13_readsRest 64 = .ok (.aload_n 0, 1) := by decide +kernel
theorem dX13_readsRest_65 : decode cX13_readsRest 65 = .ok (.ldc 230, 2) := by decide +kernel
theorem dX13_readsRest_67 : decode cX13_readsRest 67 = .ok (.invokevirtual 209, 3) := by decide +kernel
theorem dX13_readsRest_70 : decode cX13_readsRest 70 = .ok (.ifCond .eq 29, 3) := by decide +kernel
theorem dX13_readsRest_73 : decode cX13_readsRest 73 = .ok (.aload_n 0, 1) := by decide +kernel
theorem dX13_readsRest_74 : decode cX13_readsRest 74 = .ok (.iconst 3, 1) := by decide +kernel
theorem dX13_readsRest_75 : decode cX13_readsRest 75 = .ok (.iload_n 2, 1) := by decide +kernel
theorem dX13_readsRest_76 : decode cX13_readsRest 76 = .ok (.iconst 1, 1) := by decide +kernel
theorem dX13_readsRest_77 : decode cX13_readsRest 77 = .ok (.iadd, 1) := by decide +kernel
theorem dX13_readsRest_78 : decode cX13_readsRest 78 = .ok (.invokevirtual 213, 3) := by decide +kernel
theorem dX13_readsRest_81 : decode cX13_readsRest 81 = .ok (.ifCond .eq 18, 3) := by decide +kernel
theorem dX13_readsRest_84 : decode cX13_readsRest 84 = .ok (.aload_n 0, 1) := by decide +kernel
theorem dX13_readsRest_85 : decode cX13_readsRest 85 = .ok (.iconst 3, 1) := by decide +kernel
theorem dX13_readsRest_86 : decode cX13_readsRest 86 = .ok (.iload_n 2, 1) := by decide +kernel
theorem dX13_readsRest_87 : decode cX13_readsRest 87 = .ok (.iconst 2, 1) := by decide +kernel
theorem dX13_readsRest_88 : decode cX13_readsRest 88 = .ok (.iadd, 1) := by decide +kernel
theorem dX13_readsRest_89 : decode cX13_readsRest 89 = .ok (.invokevirtual 213, 3) := by decide +kernel
theorem dX13_readsRest_92 : decode cX13_readsRest 92 = .ok (.ifCond .eq 7, 3) := by decide +kernel
theorem dX13_readsRest_95 : decode cX13_readsRest 95 = .ok (.iconst 1, 1) := by decide +kernel
theorem dX13_readsRest_96 : decode cX13_readsRest 96 = .ok (.goto 4, 3) := by decide +kernel
theorem dX13_readsRest_99 : decode cX13_readsRest 99 = .ok (.iconst 0, 1) := by decide +kernel
theorem dX13_readsRest_100 : decode cX13_readsRest 100 = .ok (.ireturn, 1) := by decide +kernel
theorem dX13_readsRest_101 : decode cX13_readsRest 101 = .ok (.aload_n 0, 1) := by decide +kernel
theorem dX13_readsRest_102 : decode cX13_readsRest 102 = .ok (.ldc 232, 2) := by decide +kernel
theorem dX13_readsRest_104 : decode cX13_readsRest 104 = .ok (.invokevirtual 209, 3) := by decide +kernel
theorem dX13_readsRest_107 : decode cX13_readsRest 107 = .ok (.ifCond .eq 18, 3) := by decide +kernel
theorem dX13_readsRest_110 : decode cX13_readsRest 110 = .ok (.aload_n 0, 1) := by decide +kernel
theorem dX13_readsRest_111 : decode cX13_readsRest 111 = .ok (.iconst 3, 1) := by decide +kernel
theorem dX13_readsRest_112 : decode cX13_readsRest 112 = .ok (.iload_n 2, 1) := by decide +kernel
theorem dX13_readsRest_113 : decode cX13_readsRest 113 = .ok (.iconst 1, 1) := by decide +kernel
theorem dX13_readsRest_114 : decode cX13_readsRest 114 = .ok (.iadd, 1) := by decide +kernel
theorem dX13_readsRest_115 : decode cX13_readsRest 115 = .ok (.invokevirtual 213, 3) := by decide +kernel
theorem dX13_readsRest_118 : decode cX13_readsRest 118 = .ok (.ifCond .eq 7, 3) := by decide +kernel
theorem dX13_readsRest_121 : decode cX13_readsRest 121 = .ok (.iconst 1, 1) := by decide +kernel
theorem dX13_readsRest_122 : decode cX13_readsRest 122 = .ok (.goto 4, 3) := by decide +kernel
theorem dX13_readsRest_125 : decode cX13_readsRest 125 = .ok (.iconst 0, 1) := by decide +kernel
theorem dX13_readsRest_126 : decode cX13_readsRest 126 = .ok (.ireturn, 1) := by decide +kernel
theorem dX13_readsRest_127 : decode cX13_readsRest 127 = .ok (.aload_n 0, 1) := by decide +kernel
theorem dX13_readsRest_128 : decode cX13_readsRest 128 = .ok (.ldc 234, 2) := by decide +kernel
theorem dX13_readsRest_130 : decode cX13_readsRest 130 = .ok (.invokevirtual 209, 3) := by decide +kernel
theorem dX13_readsRest_133 : decode cX13_readsRest 133 = .ok (.ifCond .eq 18, 3) := by decide +kernel
theorem dX13_readsRest_136 : decode cX13_readsRest 136 = .ok (.aload_n 0, 1) := by decide +kernel
theorem dX13_readsRest_137 : decode cX13_readsRest 137 = .ok (.iconst 1, 1) := by decide +kernel
theorem dX13_readsRest_138 : decode cX13_readsRest 138 = .ok (.iload_n 2, 1) := by decide +kernel
theorem dX13_readsRest_139 : decode cX13_readsRest 139 = .ok (.iconst 1, 1) := by decide +kernel
theorem dX13_readsRest_140 : decode cX13_readsRest 140 = .ok (.iadd, 1) := by decide +kernel
theorem dX13_readsRest_141 : decode cX13_readsRest 141 = .ok (.invokevirtual 213, 3) := by decide +kernel
theorem dX13_readsRest_144 : decode cX13_readsRest 144 = .ok (.ifCond .eq 7, 3) := by decide +kernel
theorem dX13_readsRest_147 : decode cX13_readsRest 147 = .ok (.iconst 1, 1) := by decide +kernel
theorem dX13_readsRest_148 : decode cX13_readsRest 148 = .ok (.goto 4, 3) := by decide +kernel
theorem dX13_readsRest_151 : decode cX13_readsRest 151 = .ok (.iconst 0, 1) := by decide +kernel
theorem dX13_readsRest_152 : decode cX13_readsRest 152 = .ok (.ireturn, 1) := by decide +kernel
theorem dX13_readsRest_153 : decode cX13_readsRest 153 = .ok (.aload_n 0, 1) := by decide +kernel
theorem dX13_readsRest_154 : decode cX13_readsRest 154 = .ok (.ldc 236, 2) := by decide +kernel
theorem dX13_readsRest_156 : decode cX13_readsRest 156 = .ok (.invokevirtual 209, 3) := by decide +kernel
theorem dX13_readsRest_159 : decode cX13_readsRest 159 = .ok (.ireturn, 1) := by decide +kernel
theorem dX13_isFirst_0 : decode cX13_isFirst 0 = .ok (.iload_n 0, 1) := by decide +kernel
theorem dX13_isFirst_1 : decode cX13_isFirst 1 = .ok (.bipush 98, 2) := by decide +kernel
theorem dX13_isFirst_3 : decode cX13_isFirst 3 = .ok (.if_icmp .eq 33, 3) := by decide +kernel
theorem dX13_isFirst_6 : decode cX13_isFirst 6 = .ok (.iload_n 0, 1) := by decide +kernel
theorem dX13_isFirst_7 : decode cX13_isFirst 7 = .ok (.bipush 115, 2) := by decide +kernel
theorem dX13_isFirst_9 : decode cX13_isFirst 9 = .ok (.if_icmp .eq 27, 3) := by decide +kernel
theorem dX13_isFirst_12 : decode cX13_isFirst 12 = .ok (.iload_n 0, 1) := by decide +kernel
theorem dX13_isFirst_13 : decode cX13_isFirst 13 = .ok (.bipush 111, 2) := by decide +kernel
theorem dX13_isFirst_15 : decode cX13_isFirst 15 = .ok (.if_icmp .eq 21, 3) := by decide +kernel
theorem dX13_isFirst_18 : decode cX13_isFirst 18 = .ok (.iload_n 0, 1) := by decide +kernel
theorem dX13_isFirst_19 : decode cX13_isFirst 19 = .ok (.bipush 99, 2) := by decide +kernel
theorem dX13_isFirst_21 : decode cX13_isFirst 21 = .ok (.if_icmp .eq 15, 3) := by decide +kernel
theorem dX13_isFirst_24 : decode cX13_isFirst 24 = .ok (.iload_n 0, 1) := by decide +kernel
theorem dX13_isFirst_25 : decode cX13_isFirst 25 = .ok (.bipush 109, 2) := by decide +kernel
theorem dX13_isFirst_27 : decode cX13_isFirst 27 = .ok (.if_icmp .eq 9, 3) := by decide +kernel
theorem dX13_isFirst_30 : decode cX13_isFirst 30 = .ok (.iload_n 0, 1) := by decide +kernel
theorem dX13_isFirst_31 : decode cX13_isFirst 31 = .ok (.bipush 106, 2) := by decide +kernel
theorem dX13_isFirst_33 : decode cX13_isFirst 33 = .ok (.if_icmp .ne 7, 3) := by decide +kernel
theorem dX13_isFirst_36 : decode cX13_isFirst 36 = .ok (.iconst 1, 1) := by decide +kernel
theorem dX13_isFirst_37 : decode cX13_isFirst 37 = .ok (.goto 4, 3) := by decide +kernel
theorem dX13_isFirst_40 : decode cX13_isFirst 40 = .ok (.iconst 0, 1) := by decide +kernel
theorem dX13_isFirst_41 : decode cX13_isFirst 41 = .ok (.ireturn, 1) := by decide +kernel
theorem dX13_readsCommand_0 : decode cX13_readsCommand 0 = .ok (.iconst 4, 1) := by decide +kernel
theorem dX13_readsCommand_1 : decode cX13_readsCommand 1 = .ok (.aload_n 0, 1) := by decide +kernel
theorem dX13_readsCommand_2 : decode cX13_readsCommand 2 = .ok (.getfield 238, 3) := by decide +kernel
theorem dX13_readsCommand_5 : decode cX13_readsCommand 5 = .ok (.imul, 1) := by decide +kernel
theorem dX13_readsCommand_6 : decode cX13_readsCommand 6 = .ok (.istore_n 1, 1) := by decide +kernel
theorem dX13_readsCommand_7 : decode cX13_readsCommand 7 = .ok (.aload_n 0, 1) := by decide +kernel
theorem dX13_readsCommand_8 : decode cX13_readsCommand 8 = .ok (.invokevirtual 192, 3) := by decide +kernel
theorem dX13_readsCommand_11 : decode cX13_readsCommand 11 = .ok (.istore_n 2, 1) := by decide +kernel
theorem dX13_readsCommand_12 : decode cX13_readsCommand 12 = .ok (.iload_n 2, 1) := by decide +kernel
theorem dX13_readsCommand_13 : decode cX13_readsCommand 13 = .ok (.invokestatic 241, 3) := by decide +kernel
theorem dX13_readsCommand_16 : decode cX13_readsCommand 16 = .ok (.ifCond .ne 5, 3) := by decide +kernel
theorem dX13_readsCommand_19 : decode cX13_readsCommand 19 = .ok (.iconst 0, 1) := by decide +kernel
theorem dX13_readsCommand_20 : decode cX13_readsCommand 20 = .ok (.ireturn, 1) := by decide +kernel
theorem dX13_readsCommand_21 : decode cX13_readsCommand 21 = .ok (.aload_n 0, 1) := by decide +kernel
theorem dX13_readsCommand_22 : decode cX13_readsCommand 22 = .ok (.getfield 41, 3) := by decide +kernel
theorem dX13_readsCommand_25 : decode cX13_readsCommand 25 = .ok (.iload_n 1, 1) := by decide +kernel
theorem dX13_readsCommand_26 : decode cX13_readsCommand 26 = .ok (.iload_n 2, 1) := by decide +kernel
theorem dX13_readsCommand_27 : decode cX13_readsCommand 27 = .ok (.iastore, 1) := by decide +kernel
theorem dX13_readsCommand_28 : decode cX13_readsCommand 28 = .ok (.aload_n 0, 1) := by decide +kernel
theorem dX13_readsCommand_29 : decode cX13_readsCommand 29 = .ok (.dup, 1) := by decide +kernel
theorem dX13_readsCommand_30 : decode cX13_readsCommand 30 = .ok (.getfield 189, 3) := by decide +kernel
theorem dX13_readsCommand_33 : decode cX13_readsCommand 33 = .ok (.iconst 1, 1) := by decide +kernel
theorem dX13_readsCommand_34 : decode cX13_readsCommand 34 = .ok (.iadd, 1) := by decide +kernel
theorem dX13_readsCommand_35 : decode cX13_readsCommand 35 = .ok (.putfield 189, 3) := by decide +kernel
theorem dX13_readsCommand_38 : decode cX13_readsCommand 38 = .ok (.aload_n 0, 1) := by decide +kernel
theorem dX13_readsCommand_39 : decode cX13_readsCommand 39 = .ok (.dup, 1) := by decide +kernel
theorem dX13_readsCommand_40 : decode cX13_readsCommand 40 = .ok (.getfield 238, 3) := by decide +kernel
theorem dX13_readsCommand_43 : decode cX13_readsCommand 43 = .ok (.iconst 1, 1) := by decide +kernel
theorem dX13_readsCommand_44 : decode cX13_readsCommand 44 = .ok (.iadd, 1) := by decide +kernel
theorem dX13_readsCommand_45 : decode cX13_readsCommand 45 = .ok (.putfield 238, 3) := by decide +kernel
theorem dX13_readsCommand_48 : decode cX13_readsCommand 48 = .ok (.aload_n 0, 1) := by decide +kernel
theorem dX13_readsCommand_49 : decode cX13_readsCommand 49 = .ok (.iload_n 2, 1) := by decide +kernel
theorem dX13_readsCommand_50 : decode cX13_readsCommand 50 = .ok (.iload_n 1, 1) := by decide +kernel
theorem dX13_readsCommand_51 : decode cX13_readsCommand 51 = .ok (.invokevirtual 244, 3) := by decide +kernel
theorem dX13_readsCommand_54 : decode cX13_readsCommand 54 = .ok (.ireturn, 1) := by decide +kernel
theorem dX13_isScript_0 : decode cX13_isScript 0 = .ok (.aload_n 0, 1) := by decide +kernel
theorem dX13_isScript_1 : decode cX13_isScript 1 = .ok (.iconst 0, 1) := by decide +kernel
theorem dX13_isScript_2 : decode cX13_isScript 2 = .ok (.putfield 189, 3) := by decide +kernel
theorem dX13_isScript_5 : decode cX13_isScript 5 = .ok (.aload_n 0, 1) := by decide +kernel
theorem dX13_isScript_6 : decode cX13_isScript 6 = .ok (.iconst 0, 1) := by decide +kernel
theorem dX13_isScript_7 : decode cX13_isScript 7 = .ok (.putfield 238, 3) := by decide +kernel
theorem dX13_isScript_10 : decode cX13_isScript 10 = .ok (.aload_n 0, 1) := by decide +kernel
theorem dX13_isScript_11 : decode cX13_isScript 11 = .ok (.invokevirtual 247, 3) := by decide +kernel
theorem dX13_isScript_14 : decode cX13_isScript 14 = .ok (.istore_n 1, 1) := by decide +kernel
theorem dX13_isScript_15 : decode cX13_isScript 15 = .ok (.iload_n 1, 1) := by decide +kernel
theorem dX13_isScript_16 : decode cX13_isScript 16 = .ok (.ifCond .eq 20, 3) := by decide +kernel
theorem dX13_isScript_19 : decode cX13_isScript 19 = .ok (.aload_n 0, 1) := by decide +kernel
theorem dX13_isScript_20 : decode cX13_isScript 20 = .ok (.bipush 59, 2) := by decide +kernel
theorem dX13_isScript_22 : decode cX13_isScript 22 = .ok (.invokevirtual 195, 3) := by decide +kernel
theorem dX13_isScript_25 : decode cX13_isScript 25 = .ok (.ifCond .eq 11, 3) := by decide +kernel
theorem dX13_isScript_28 : decode cX13_isScript 28 = .ok (.aload_n 0, 1) := by decide +kernel
theorem dX13_isScript_29 : decode cX13_isScript 29 = .ok (.invokevirtual 247, 3) := by decide +kernel
theorem dX13_isScript_32 : decode cX13_isScript 32 = .ok (.istore_n 1, 1) := by decide +kernel
theorem dX13_isScript_33 : decode cX13_isScript 33 = .ok (.goto (-18), 3) := by decide +kernel
theorem dX13_isScript_36 : decode cX13_isScript 36 = .ok (.iload_n 1, 1) := by decide +kernel
theorem dX13_isScript_37 : decode cX13_isScript 37 = .ok (.ifCond .eq 18, 3) := by decide +kernel
theorem dX13_isScript_40 : decode cX13_isScript 40 = .ok (.aload_n 0, 1) := by decide +kernel
theorem dX13_isScript_41 : decode cX13_isScript 41 = .ok (.getfield 189, 3) := by decide +kernel
theorem dX13_isScript_44 : decode cX13_isScript 44 = .ok (.aload_n 0, 1) := by decide +kernel
theorem dX13_isScript_45 : decode cX13_isScript 45 = .ok (.getfield 186, 3) := by decide +kernel
theorem dX13_isScript_48 : decode cX13_isScript 48 = .ok (.if_icmp .ne 7, 3) := by decide +kernel
theorem dX13_isScript_51 : decode cX13_isScript 51 = .ok (.iconst 1, 1) := by decide +kernel
theorem dX13_isScript_52 : decode cX13_isScript 52 = .ok (.goto 4, 3) := by decide +kernel
theorem dX13_isScript_55 : decode cX13_isScript 55 = .ok (.iconst 0, 1) := by decide +kernel
theorem dX13_isScript_56 : decode cX13_isScript 56 = .ok (.ireturn, 1) := by decide +kernel
theorem dX13_does_0 : decode cX13_does 0 = .ok (.aload_n 0, 1) := by decide +kernel
theorem dX13_does_1 : decode cX13_does 1 = .ok (.getfield 41, 3) := by decide +kernel
theorem dX13_does_4 : decode cX13_does 4 = .ok (.iload_n 1, 1) := by decide +kernel
theorem dX13_does_5 : decode cX13_does 5 = .ok (.iconst 1, 1) := by decide +kernel
theorem dX13_does_6 : decode cX13_does 6 = .ok (.iadd, 1) := by decide +kernel
theorem dX13_does_7 : decode cX13_does 7 = .ok (.iaload, 1) := by decide +kernel
theorem dX13_does_8 : decode cX13_does 8 = .ok (.istore_n 2, 1) := by decide +kernel
theorem dX13_does_9 : decode cX13_does 9 = .ok (.aload_n 0, 1) := by decide +kernel
theorem dX13_does_10 : decode cX13_does 10 = .ok (.getfield 41, 3) := by decide +kernel
theorem dX13_does_13 : decode cX13_does 13 = .ok (.iload_n 1, 1) := by decide +kernel
theorem dX13_does_14 : decode cX13_does 14 = .ok (.iconst 2, 1) := by decide +kernel
theorem dX13_does_15 : decode cX13_does 15 = .ok (.iadd, 1) := by decide +kernel
theorem dX13_does_16 : decode cX13_does 16 = .ok (.iaload, 1) := by decide +kernel
theorem dX13_does_17 : decode cX13_does 17 = .ok (.istore_n 3, 1) := by decide +kernel
theorem dX13_does_18 : decode cX13_does 18 = .ok (.aload_n 0, 1) := by decide +kernel
theorem dX13_does_19 : decode cX13_does 19 = .ok (.getfield 41, 3) := by decide +kernel
theorem dX13_does_22 : decode cX13_does 22 = .ok (.iload_n 1, 1) := by decide +kernel
theorem dX13_does_23 : decode cX13_does 23 = .ok (.iaload, 1) := by decide +kernel
theorem dX13_does_24 : decode cX13_does 24 = .ok (.tableswitch 147 98 115 #[88, 135, 147, 147, 147, 147, 147, 116, 147, 147, 103, 141, 147, 128, 122, 147, 147, 110], 88) := by decide +kernel
theorem dX13_does_112 : decode cX13_does 112 = .ok (.aload_n 0, 1) := by decide +kernel
theorem dX13_does_113 : decode cX13_does 113 = .ok (.iload_n 2, 1) := by decide +kernel
theorem dX13_does_114 : decode cX13_does 114 = .ok (.iload_n 3, 1) := by decide +kernel
theorem dX13_does_115 : decode cX13_does 115 = .ok (.aload_n 0, 1) := by decide +kernel
theorem dX13_does_116 : decode cX13_does 116 = .ok (.getfield 41, 3) := by decide +kernel
theorem dX13_does_119 : decode cX13_does 119 = .ok (.iload_n 1, 1) := by decide +kernel
theorem dX13_does_120 : decode cX13_does 120 = .ok (.iconst 3, 1) := by decide +kernel
theorem dX13_does_121 : decode cX13_does 121 = .ok (.iadd, 1) := by decide +kernel
theorem dX13_does_122 : decode cX13_does 122 = .ok (.iaload, 1) := by decide +kernel
theorem dX13_does_123 : decode cX13_does 123 = .ok (.invokevirtual 72, 3) := by decide +kernel
theorem dX13_does_126 : decode cX13_does 126 = .ok (.ireturn, 1) := by decide +kernel
theorem dX13_does_127 : decode cX13_does 127 = .ok (.aload_n 0, 1) := by decide +kernel
theorem dX13_does_128 : decode cX13_does 128 = .ok (.iload_n 2, 1) := by decide +kernel
theorem dX13_does_129 : decode cX13_does 129 = .ok (.iload_n 3, 1) := by decide +kernel
theorem dX13_does_130 : decode cX13_does 130 = .ok (.invokevirtual 97, 3) := by decide +kernel
theorem dX13_does_133 : decode cX13_does 133 = .ok (.ireturn, 1) := by decide +kernel
theorem dX13_does_134 : decode cX13_does 134 = .ok (.aload_n 0, 1) := by decide +kernel
theorem dX13_does_135 : decode cX13_does 135 = .ok (.iload_n 2, 1) := by decide +kernel
theorem dX13_does_136 : decode cX13_does 136 = .ok (.invokevirtual 139, 3) := by decide +kernel
theorem dX13_does_139 : decode cX13_does 139 = .ok (.ireturn, 1) := by decide +kernel
theorem dX13_does_140 : decode cX13_does 140 = .ok (.aload_n 0, 1) := by decide +kernel
theorem dX13_does_141 : decode cX13_does 141 = .ok (.iload_n 2, 1) := by decide +kernel
theorem dX13_does_142 : decode cX13_does 142 = .ok (.invokevirtual 115, 3) := by decide +kernel
theorem dX13_does_145 : decode cX13_does 145 = .ok (.ireturn, 1) := by decide +kernel
theorem dX13_does_146 : decode cX13_does 146 = .ok (.aload_n 0, 1) := by decide +kernel
theorem dX13_does_147 : decode cX13_does 147 = .ok (.iload_n 2, 1) := by decide +kernel
theorem dX13_does_148 : decode cX13_does 148 = .ok (.invokevirtual 122, 3) := by decide +kernel
theorem dX13_does_151 : decode cX13_does 151 = .ok (.ireturn, 1) := by decide +kernel
theorem dX13_does_152 : decode cX13_does 152 = .ok (.aload_n 0, 1) := by decide +kernel
theorem dX13_does_153 : decode cX13_does 153 = .ok (.iload_n 2, 1) := by decide +kernel
theorem dX13_does_154 : decode cX13_does 154 = .ok (.iload_n 3, 1) := by decide +kernel
theorem dX13_does_155 : decode cX13_does 155 = .ok (.invokevirtual 100, 3) := by decide +kernel
theorem dX13_does_158 : decode cX13_does 158 = .ok (.ireturn, 1) := by decide +kernel
theorem dX13_does_159 : decode cX13_does 159 = .ok (.aload_n 0, 1) := by decide +kernel
theorem dX13_does_160 : decode cX13_does 160 = .ok (.iload_n 2, 1) := by decide +kernel
theorem dX13_does_161 : decode cX13_does 161 = .ok (.invokevirtual 106, 3) := by decide +kernel
theorem dX13_does_164 : decode cX13_does 164 = .ok (.ireturn, 1) := by decide +kernel
theorem dX13_does_165 : decode cX13_does 165 = .ok (.aload_n 0, 1) := by decide +kernel
theorem dX13_does_166 : decode cX13_does 166 = .ok (.iload_n 2, 1) := by decide +kernel
theorem dX13_does_167 : decode cX13_does 167 = .ok (.invokevirtual 109, 3) := by decide +kernel
theorem dX13_does_170 : decode cX13_does 170 = .ok (.ireturn, 1) := by decide +kernel
theorem dX13_does_171 : decode cX13_does 171 = .ok (.aload_n 0, 1) := by decide +kernel
theorem dX13_does_172 : decode cX13_does 172 = .ok (.invokevirtual 133, 3) := by decide +kernel
theorem dX13_does_175 : decode cX13_does 175 = .ok (.ireturn, 1) := by decide +kernel
theorem dX13_runScript_0 : decode cX13_runScript 0 = .ok (.aload_n 0, 1) := by decide +kernel
theorem dX13_runScript_1 : decode cX13_runScript 1 = .ok (.invokevirtual 251, 3) := by decide +kernel
theorem dX13_runScript_4 : decode cX13_runScript 4 = .ok (.istore_n 1, 1) := by decide +kernel
theorem dX13_runScript_5 : decode cX13_runScript 5 = .ok (.aload_n 0, 1) := by decide +kernel
theorem dX13_runScript_6 : decode cX13_runScript 6 = .ok (.iconst 0, 1) := by decide +kernel
theorem dX13_runScript_7 : decode cX13_runScript 7 = .ok (.putfield 186, 3) := by decide +kernel
theorem dX13_runScript_10 : decode cX13_runScript 10 = .ok (.aload_n 0, 1) := by decide +kernel
theorem dX13_runScript_11 : decode cX13_runScript 11 = .ok (.iload_n 1, 1) := by decide +kernel
theorem dX13_runScript_12 : decode cX13_runScript 12 = .ok (.ifCond .ne 7, 3) := by decide +kernel
theorem dX13_runScript_15 : decode cX13_runScript 15 = .ok (.iconst 1, 1) := by decide +kernel
theorem dX13_runScript_16 : decode cX13_runScript 16 = .ok (.goto 4, 3) := by decide +kernel
theorem dX13_runScript_19 : decode cX13_runScript 19 = .ok (.iconst 0, 1) := by decide +kernel
theorem dX13_runScript_20 : decode cX13_runScript 20 = .ok (.iconst 1, 1) := by decide +kernel
theorem dX13_runScript_21 : decode cX13_runScript 21 = .ok (.invokevirtual 65, 3) := by decide +kernel
theorem dX13_runScript_24 : decode cX13_runScript 24 = .ok (.ifCond .eq 13, 3) := by decide +kernel
theorem dX13_runScript_27 : decode cX13_runScript 27 = .ok (.aload_n 0, 1) := by decide +kernel
theorem dX13_runScript_28 : decode cX13_runScript 28 = .ok (.aload_n 0, 1) := by decide +kernel
theorem dX13_runScript_29 : decode cX13_runScript 29 = .ok (.getfield 189, 3) := by decide +kernel
theorem dX13_runScript_32 : decode cX13_runScript 32 = .ok (.putfield 28, 3) := by decide +kernel
theorem dX13_runScript_35 : decode cX13_runScript 35 = .ok (.iconst 0, 1) := by decide +kernel
theorem dX13_runScript_36 : decode cX13_runScript 36 = .ok (.ireturn, 1) := by decide +kernel
theorem dX13_runScript_37 : decode cX13_runScript 37 = .ok (.aload_n 0, 1) := by decide +kernel
theorem dX13_runScript_38 : decode cX13_runScript 38 = .ok (.invokevirtual 69, 3) := by decide +kernel
theorem dX13_runScript_41 : decode cX13_runScript 41 = .ok (.iconst 0, 1) := by decide +kernel
theorem dX13_runScript_42 : decode cX13_runScript 42 = .ok (.istore_n 2, 1) := by decide +kernel
theorem dX13_runScript_43 : decode cX13_runScript 43 = .ok (.iload_n 2, 1) := by decide +kernel
theorem dX13_runScript_44 : decode cX13_runScript 44 = .ok (.aload_n 0, 1) := by decide +kernel
theorem dX13_runScript_45 : decode cX13_runScript 45 = .ok (.getfield 238, 3) := by decide +kernel
theorem dX13_runScript_48 : decode cX13_runScript 48 = .ok (.if_icmp .ge 57, 3) := by decide +kernel
theorem dX13_runScript_51 : decode cX13_runScript 51 = .ok (.aload_n 0, 1) := by decide +kernel
theorem dX13_runScript_52 : decode cX13_runScript 52 = .ok (.iconst 0, 1) := by decide +kernel
theorem dX13_runScript_53 : decode cX13_runScript 53 = .ok (.putfield 44, 3) := by decide +kernel
theorem dX13_runScript_56 : decode cX13_runScript 56 = .ok (.aload_n 0, 1) := by decide +kernel
theorem dX13_runScript_57 : decode cX13_runScript 57 = .ok (.aload_n 0, 1) := by decide +kernel
theorem dX13_runScript_58 : decode cX13_runScript 58 = .ok (.iconst 4, 1) := by decide +kernel
theorem dX13_runScript_59 : decode cX13_runScript 59 = .ok (.iload_n 2, 1) := by decide +kernel
theorem dX13_runScript_60 : decode cX13_runScript 60 = .ok (.imul, 1) := by decide +kernel
theorem dX13_runScript_61 : decode cX13_runScript 61 = .ok (.invokevirtual 254, 3) := by decide +kernel
theorem dX13_runScript_64 : decode cX13_runScript 64 = .ok (.putfield 257, 3) := by decide +kernel
theorem dX13_runScript_67 : decode cX13_runScript 67 = .ok (.aload_n 0, 1) := by decide +kernel
theorem dX13_runScript_68 : decode cX13_runScript 68 = .ok (.getfield 44, 3) := by decide +kernel
theorem dX13_runScript_71 : decode cX13_runScript 71 = .ok (.ifCond .eq 28, 3) := by decide +kernel
theorem dX13_runScript_74 : decode cX13_runScript 74 = .ok (.aload_n 0, 1) := by decide +kernel
theorem dX13_runScript_75 : decode cX13_runScript 75 = .ok (.getfield 13, 3) := by decide +kernel
theorem dX13_runScript_78 : decode cX13_runScript 78 = .ok (.iconst 0, 1) := by decide +kernel
theorem dX13_runScript_79 : decode cX13_runScript 79 = .ok (.aload_n 0, 1) := by decide +kernel
theorem dX13_runScript_80 : decode cX13_runScript 80 = .ok (.getfield 9, 3) := by decide +kernel
theorem dX13_runScript_83 : decode cX13_runScript 83 = .ok (.iconst 0, 1) := by decide +kernel
theorem dX13_runScript_84 : decode cX13_runScript 84 = .ok (.invokestatic 47, 3) := by decide +kernel
theorem dX13_runScript_87 : decode cX13_runScript 87 = .ok (.aload_n 0, 1) := by decide +kernel
theorem dX13_runScript_88 : decode cX13_runScript 88 = .ok (.iload_n 2, 1) := by decide +kernel
theorem dX13_runScript_89 : decode cX13_runScript 89 = .ok (.putfield 32, 3) := by decide +kernel
theorem dX13_runScript_92 : decode cX13_runScript 92 = .ok (.aload_n 0, 1) := by decide +kernel
theorem dX13_runScript_93 : decode cX13_runScript 93 = .ok (.iconst 2, 1) := by decide +kernel
theorem dX13_runScript_94 : decode cX13_runScript 94 = .ok (.putfield 44, 3) := by decide +kernel
theorem dX13_runScript_97 : decode cX13_runScript 97 = .ok (.iconst 0, 1) := by decide +kernel
theorem dX13_runScript_98 : decode cX13_runScript 98 = .ok (.ireturn, 1) := by decide +kernel
theorem dX13_runScript_99 : decode cX13_runScript 99 = .ok (.iinc 2 1, 3) := by decide +kernel
theorem dX13_runScript_102 : decode cX13_runScript 102 = .ok (.goto (-59), 3) := by decide +kernel
theorem dX13_runScript_105 : decode cX13_runScript 105 = .ok (.aload_n 0, 1) := by decide +kernel
theorem dX13_runScript_106 : decode cX13_runScript 106 = .ok (.aload_n 0, 1) := by decide +kernel
theorem dX13_runScript_107 : decode cX13_runScript 107 = .ok (.getfield 238, 3) := by decide +kernel
theorem dX13_runScript_110 : decode cX13_runScript 110 = .ok (.invokevirtual 76, 3) := by decide +kernel
theorem dX13_runScript_113 : decode cX13_runScript 113 = .ok (.ireturn, 1) := by decide +kernel
theorem dX13_errorPosition_0 : decode cX13_errorPosition 0 = .ok (.aload_n 0, 1) := by decide +kernel
theorem dX13_errorPosition_1 : decode cX13_errorPosition 1 = .ok (.aload_n 0, 1) := by decide +kernel
theorem dX13_errorPosition_2 : decode cX13_errorPosition 2 = .ok (.getfield 28, 3) := by decide +kernel
theorem dX13_errorPosition_5 : decode cX13_errorPosition 5 = .ok (.ifCond .ge 7, 3) := by decide +kernel
theorem dX13_errorPosition_8 : decode cX13_errorPosition 8 = .ok (.iconst 1, 1) := by decide +kernel
theorem dX13_errorPosition_9 : decode cX13_errorPosition 9 = .ok (.goto 4, 3) := by decide +kernel
theorem dX13_errorPosition_12 : decode cX13_errorPosition 12 = .ok (.iconst 0, 1) := by decide +kernel
theorem dX13_errorPosition_13 : decode cX13_errorPosition 13 = .ok (.iconst 1, 1) := by decide +kernel
theorem dX13_errorPosition_14 : decode cX13_errorPosition 14 = .ok (.invokevirtual 65, 3) := by decide +kernel
theorem dX13_errorPosition_17 : decode cX13_errorPosition 17 = .ok (.ifCond .eq 7, 3) := by decide +kernel
theorem dX13_errorPosition_20 : decode cX13_errorPosition 20 = .ok (.iconst 0, 1) := by decide +kernel
theorem dX13_errorPosition_21 : decode cX13_errorPosition 21 = .ok (.goto 7, 3) := by decide +kernel
theorem dX13_errorPosition_24 : decode cX13_errorPosition 24 = .ok (.aload_n 0, 1) := by decide +kernel
theorem dX13_errorPosition_25 : decode cX13_errorPosition 25 = .ok (.getfield 28, 3) := by decide +kernel
theorem dX13_errorPosition_28 : decode cX13_errorPosition 28 = .ok (.ireturn, 1) := by decide +kernel
theorem dX13_failedCommand_0 : decode cX13_failedCommand 0 = .ok (.aload_n 0, 1) := by decide +kernel
theorem dX13_failedCommand_1 : decode cX13_failedCommand 1 = .ok (.aload_n 0, 1) := by decide +kernel
theorem dX13_failedCommand_2 : decode cX13_failedCommand 2 = .ok (.getfield 32, 3) := by decide +kernel
theorem dX13_failedCommand_5 : decode cX13_failedCommand 5 = .ok (.ifCond .ge 7, 3) := by decide +kernel
theorem dX13_failedCommand_8 : decode cX13_failedCommand 8 = .ok (.iconst 1, 1) := by decide +kernel
theorem dX13_failedCommand_9 : decode cX13_failedCommand 9 = .ok (.goto 4, 3) := by decide +kernel
theorem dX13_failedCommand_12 : decode cX13_failedCommand 12 = .ok (.iconst 0, 1) := by decide +kernel
theorem dX13_failedCommand_13 : decode cX13_failedCommand 13 = .ok (.iconst 1, 1) := by decide +kernel
theorem dX13_failedCommand_14 : decode cX13_failedCommand 14 = .ok (.invokevirtual 65, 3) := by decide +kernel
theorem dX13_failedCommand_17 : decode cX13_failedCommand 17 = .ok (.ifCond .eq 7, 3) := by decide +kernel
theorem dX13_failedCommand_20 : decode cX13_failedCommand 20 = .ok (.iconst 0, 1) := by decide +kernel
theorem dX13_failedCommand_21 : decode cX13_failedCommand 21 = .ok (.goto 7, 3) := by decide +kernel
theorem dX13_failedCommand_24 : decode cX13_failedCommand 24 = .ok (.aload_n 0, 1) := by decide +kernel
theorem dX13_failedCommand_25 : decode cX13_failedCommand 25 = .ok (.getfield 32, 3) := by decide +kernel
theorem dX13_failedCommand_28 : decode cX13_failedCommand 28 = .ok (.ireturn, 1) := by decide +kernel
theorem dX13_undo_0 : decode cX13_undo 0 = .ok (.aload_n 0, 1) := by decide +kernel
theorem dX13_undo_1 : decode cX13_undo 1 = .ok (.aload_n 0, 1) := by decide +kernel
theorem dX13_undo_2 : decode cX13_undo 2 = .ok (.getfield 51, 3) := by decide +kernel
theorem dX13_undo_5 : decode cX13_undo 5 = .ok (.ifCond .ne 7, 3) := by decide +kernel
theorem dX13_undo_8 : decode cX13_undo 8 = .ok (.iconst 1, 1) := by decide +kernel
theorem dX13_undo_9 : decode cX13_undo 9 = .ok (.goto 4, 3) := by decide +kernel
theorem dX13_undo_12 : decode cX13_undo 12 = .ok (.iconst 0, 1) := by decide +kernel
theorem dX13_undo_13 : decode cX13_undo 13 = .ok (.iconst 1, 1) := by decide +kernel
theorem dX13_undo_14 : decode cX13_undo 14 = .ok (.invokevirtual 65, 3) := by decide +kernel
theorem dX13_undo_17 : decode cX13_undo 17 = .ok (.ifCond .eq 5, 3) := by decide +kernel
theorem dX13_undo_20 : decode cX13_undo 20 = .ok (.iconst 0, 1) := by decide +kernel
theorem dX13_undo_21 : decode cX13_undo 21 = .ok (.ireturn, 1) := by decide +kernel
theorem dX13_undo_22 : decode cX13_undo 22 = .ok (.aload_n 0, 1) := by decide +kernel
theorem dX13_undo_23 : decode cX13_undo 23 = .ok (.dup, 1) := by decide +kernel
theorem dX13_undo_24 : decode cX13_undo 24 = .ok (.getfield 51, 3) := by decide +kernel
theorem dX13_undo_27 : decode cX13_undo 27 = .ok (.iconst 1, 1) := by decide +kernel
theorem dX13_undo_28 : decode cX13_undo 28 = .ok (.isub, 1) := by decide +kernel
theorem dX13_undo_29 : decode cX13_undo 29 = .ok (.putfield 51, 3) := by decide +kernel
theorem dX13_undo_32 : decode cX13_undo 32 = .ok (.aload_n 0, 1) := by decide +kernel
theorem dX13_undo_33 : decode cX13_undo 33 = .ok (.getfield 19, 3) := by decide +kernel
theorem dX13_undo_36 : decode cX13_undo 36 = .ok (.bipush 90, 2) := by decide +kernel
theorem dX13_undo_38 : decode cX13_undo 38 = .ok (.aload_n 0, 1) := by decide +kernel
theorem dX13_undo_39 : decode cX13_undo 39 = .ok (.getfield 51, 3) := by decide +kernel
theorem dX13_undo_42 : decode cX13_undo 42 = .ok (.imul, 1) := by decide +kernel
theorem dX13_undo_43 : decode cX13_undo 43 = .ok (.aload_n 0, 1) := by decide +kernel
theorem dX13_undo_44 : decode cX13_undo 44 = .ok (.getfield 9, 3) := by decide +kernel
theorem dX13_undo_47 : decode cX13_undo 47 = .ok (.iconst 0, 1) := by decide +kernel
theorem dX13_undo_48 : decode cX13_undo 48 = .ok (.invokestatic 47, 3) := by decide +kernel
theorem dX13_undo_51 : decode cX13_undo 51 = .ok (.aload_n 0, 1) := by decide +kernel
theorem dX13_undo_52 : decode cX13_undo 52 = .ok (.getfield 51, 3) := by decide +kernel
theorem dX13_undo_55 : decode cX13_undo 55 = .ok (.ireturn, 1) := by decide +kernel
theorem dX13_save_0 : decode cX13_save 0 = .ok (.aload_n 0, 1) := by decide +kernel
theorem dX13_save_1 : decode cX13_save 1 = .ok (.iconst 0, 1) := by decide +kernel
theorem dX13_save_2 : decode cX13_save 2 = .ok (.putfield 44, 3) := by decide +kernel
theorem dX13_save_5 : decode cX13_save 5 = .ok (.aload_n 0, 1) := by decide +kernel
theorem dX13_save_6 : decode cX13_save 6 = .ok (.getfield 9, 3) := by decide +kernel
theorem dX13_save_9 : decode cX13_save 9 = .ok (.iconst 0, 1) := by decide +kernel
theorem dX13_save_10 : decode cX13_save 10 = .ok (.aload_n 0, 1) := by decide +kernel
theorem dX13_save_11 : decode cX13_save 11 = .ok (.getfield 16, 3) := by decide +kernel
theorem dX13_save_14 : decode cX13_save 14 = .ok (.iconst 0, 1) := by decide +kernel
theorem dX13_save_15 : decode cX13_save 15 = .ok (.invokestatic 47, 3) := by decide +kernel
theorem dX13_save_18 : decode cX13_save 18 = .ok (.aload_n 0, 1) := by decide +kernel
theorem dX13_save_19 : decode cX13_save 19 = .ok (.iconst 1, 1) := by decide +kernel
theorem dX13_save_20 : decode cX13_save 20 = .ok (.putfield 260, 3) := by decide +kernel
theorem dX13_save_23 : decode cX13_save 23 = .ok (.aload_n 0, 1) := by decide +kernel
theorem dX13_save_24 : decode cX13_save 24 = .ok (.getfield 9, 3) := by decide +kernel
theorem dX13_save_27 : decode cX13_save 27 = .ok (.bipush 13, 2) := by decide +kernel
theorem dX13_save_29 : decode cX13_save 29 = .ok (.iaload, 1) := by decide +kernel
theorem dX13_save_30 : decode cX13_save 30 = .ok (.ireturn, 1) := by decide +kernel
theorem dX13_restore_0 : decode cX13_restore 0 = .ok (.aload_n 0, 1) := by decide +kernel
theorem dX13_restore_1 : decode cX13_restore 1 = .ok (.aload_n 0, 1) := by decide +kernel
theorem dX13_restore_2 : decode cX13_restore 2 = .ok (.getfield 260, 3) := by decide +kernel
theorem dX13_restore_5 : decode cX13_restore 5 = .ok (.ifCond .ne 7, 3) := by decide +kernel
theorem dX13_restore_8 : decode cX13_restore 8 = .ok (.iconst 1, 1) := by decide +kernel
theorem dX13_restore_9 : decode cX13_restore 9 = .ok (.goto 4, 3) := by decide +kernel
theorem dX13_restore_12 : decode cX13_restore 12 = .ok (.iconst 0, 1) := by decide +kernel
theorem dX13_restore_13 : decode cX13_restore 13 = .ok (.iconst 1, 1) := by decide +kernel
theorem dX13_restore_14 : decode cX13_restore 14 = .ok (.invokevirtual 65, 3) := by decide +kernel
theorem dX13_restore_17 : decode cX13_restore 17 = .ok (.ifCond .eq 5, 3) := by decide +kernel
theorem dX13_restore_20 : decode cX13_restore 20 = .ok (.iconst 0, 1) := by decide +kernel
theorem dX13_restore_21 : decode cX13_restore 21 = .ok (.ireturn, 1) := by decide +kernel
theorem dX13_restore_22 : decode cX13_restore 22 = .ok (.aload_n 0, 1) := by decide +kernel
theorem dX13_restore_23 : decode cX13_restore 23 = .ok (.getfield 16, 3) := by decide +kernel
theorem dX13_restore_26 : decode cX13_restore 26 = .ok (.iconst 0, 1) := by decide +kernel
theorem dX13_restore_27 : decode cX13_restore 27 = .ok (.aload_n 0, 1) := by decide +kernel
theorem dX13_restore_28 : decode cX13_restore 28 = .ok (.getfield 9, 3) := by decide +kernel
theorem dX13_restore_31 : decode cX13_restore 31 = .ok (.iconst 0, 1) := by decide +kernel
theorem dX13_restore_32 : decode cX13_restore 32 = .ok (.invokestatic 47, 3) := by decide +kernel
theorem dX13_restore_35 : decode cX13_restore 35 = .ok (.aload_n 0, 1) := by decide +kernel
theorem dX13_restore_36 : decode cX13_restore 36 = .ok (.iconst 0, 1) := by decide +kernel
theorem dX13_restore_37 : decode cX13_restore 37 = .ok (.putfield 51, 3) := by decide +kernel
theorem dX13_restore_40 : decode cX13_restore 40 = .ok (.aload_n 0, 1) := by decide +kernel
theorem dX13_restore_41 : decode cX13_restore 41 = .ok (.getfield 9, 3) := by decide +kernel
theorem dX13_restore_44 : decode cX13_restore 44 = .ok (.bipush 13, 2) := by decide +kernel
theorem dX13_restore_46 : decode cX13_restore 46 = .ok (.iaload, 1) := by decide +kernel
theorem dX13_restore_47 : decode cX13_restore 47 = .ok (.ireturn, 1) := by decide +kernel
theorem dJ5_init_d00df_0 : decode cJ5_init_d00df 0 = .ok (.aload_n 0, 1) := by decide +kernel
theorem dJ5_init_d00df_1 : decode cJ5_init_d00df 1 = .ok (.invokespecial 3, 3) := by decide +kernel
theorem dJ5_init_d00df_4 : decode cJ5_init_d00df 4 = .ok (.getstatic 18, 3) := by decide +kernel
theorem dJ5_init_d00df_7 : decode cJ5_init_d00df 7 = .ok (.ifCond .eq 18, 3) := by decide +kernel
theorem dJ5_init_d00df_10 : decode cJ5_init_d00df 10 = .ok (.aload_n 0, 1) := by decide +kernel
theorem dJ5_init_d00df_11 : decode cJ5_init_d00df 11 = .ok (.iload_n 1, 1) := by decide +kernel
theorem dJ5_init_d00df_12 : decode cJ5_init_d00df 12 = .ok (.newarray .byte, 2) := by decide +kernel
theorem dJ5_init_d00df_14 : decode cJ5_init_d00df 14 = .ok (.putfield 15, 3) := by decide +kernel
theorem dJ5_init_d00df_17 : decode cJ5_init_d00df 17 = .ok (.aload_n 0, 1) := by decide +kernel
theorem dJ5_init_d00df_18 : decode cJ5_init_d00df 18 = .ok (.iconst 0, 1) := by decide +kernel
theorem dJ5_init_d00df_19 : decode cJ5_init_d00df 19 = .ok (.putfield 22, 3) := by decide +kernel
theorem dJ5_init_d00df_22 : decode cJ5_init_d00df 22 = .ok (.goto 16, 3) := by decide +kernel
theorem dJ5_init_d00df_25 : decode cJ5_init_d00df 25 = .ok (.aload_n 0, 1) := by decide +kernel
theorem dJ5_init_d00df_26 : decode cJ5_init_d00df 26 = .ok (.iload_n 1, 1) := by decide +kernel
theorem dJ5_init_d00df_27 : decode cJ5_init_d00df 27 = .ok (.invokestatic 26, 3) := by decide +kernel
theorem dJ5_init_d00df_30 : decode cJ5_init_d00df 30 = .ok (.putfield 15, 3) := by decide +kernel
theorem dJ5_init_d00df_33 : decode cJ5_init_d00df 33 = .ok (.aload_n 0, 1) := by decide +kernel
theorem dJ5_init_d00df_34 : decode cJ5_init_d00df 34 = .ok (.iconst 1, 1) := by decide +kernel
theorem dJ5_init_d00df_35 : decode cJ5_init_d00df 35 = .ok (.putfield 22, 3) := by decide +kernel
theorem dJ5_init_d00df_38 : decode cJ5_init_d00df 38 = .ok (.return_, 1) := by decide +kernel
theorem dJ5_length_8abf5_0 : decode cJ5_length_8abf5 0 = .ok (.aload_n 0, 1) := by decide +kernel
theorem dJ5_length_8abf5_1 : decode cJ5_length_8abf5 1 = .ok (.getfield 79, 3) := by decide +kernel
theorem dJ5_length_8abf5_4 : decode cJ5_length_8abf5 4 = .ok (.ireturn, 1) := by decide +kernel
theorem dJ5_ensureCapacityInternal_d00df_0 : decode cJ5_ensureCapacityInternal_d00df 0 = .ok (.aload_n 0, 1) := by decide +kernel
theorem dJ5_ensureCapacityInternal_d00df_1 : decode cJ5_ensureCapacityInternal_d00df 1 = .ok (.getfield 15, 3) := by decide +kernel
theorem dJ5_ensureCapacityInternal_d00df_4 : decode cJ5_ensureCapacityInternal_d00df 4 = .ok (.arraylength, 1) := by decide +kernel
theorem dJ5_ensureCapacityInternal_d00df_5 : decode cJ5_ensureCapacityInternal_d00df 5 = .ok (.aload_n 0, 1) := by decide +kernel
theorem dJ5_ensureCapacityInternal_d00df_6 : decode cJ5_ensureCapacityInternal_d00df 6 = .ok (.getfield 22, 3) := by decide +kernel
theorem dJ5_ensureCapacityInternal_d00df_9 : decode cJ5_ensureCapacityInternal_d00df 9 = .ok (.ishr, 1) := by decide +kernel
theorem dJ5_ensureCapacityInternal_d00df_10 : decode cJ5_ensureCapacityInternal_d00df 10 = .ok (.istore_n 2, 1) := by decide +kernel
theorem dJ5_ensureCapacityInternal_d00df_11 : decode cJ5_ensureCapacityInternal_d00df 11 = .ok (.iload_n 1, 1) := by decide +kernel
theorem dJ5_ensureCapacityInternal_d00df_12 : decode cJ5_ensureCapacityInternal_d00df 12 = .ok (.iload_n 2, 1) := by decide +kernel
theorem dJ5_ensureCapacityInternal_d00df_13 : decode cJ5_ensureCapacityInternal_d00df 13 = .ok (.isub, 1) := by decide +kernel
theorem dJ5_ensureCapacityInternal_d00df_14 : decode cJ5_ensureCapacityInternal_d00df 14 = .ok (.ifCond .le 24, 3) := by decide +kernel
theorem dJ5_ensureCapacityInternal_d00df_17 : decode cJ5_ensureCapacityInternal_d00df 17 = .ok (.aload_n 0, 1) := by decide +kernel
theorem dJ5_ensureCapacityInternal_d00df_18 : decode cJ5_ensureCapacityInternal_d00df 18 = .ok (.aload_n 0, 1) := by decide +kernel
theorem dJ5_ensureCapacityInternal_d00df_19 : decode cJ5_ensureCapacityInternal_d00df 19 = .ok (.getfield 15, 3) := by decide +kernel
theorem dJ5_ensureCapacityInternal_d00df_22 : decode cJ5_ensureCapacityInternal_d00df 22 = .ok (.aload_n 0, 1) := by decide +kernel
theorem dJ5_ensureCapacityInternal_d00df_23 : decode cJ5_ensureCapacityInternal_d00df 23 = .ok (.iload_n 1, 1) := by decide +kernel
theorem dJ5_ensureCapacityInternal_d00df_24 : decode cJ5_ensureCapacityInternal_d00df 24 = .ok (.invokevirtual 104, 3) := by decide +kernel
theorem dJ5_ensureCapacityInternal_d00df_27 : decode cJ5_ensureCapacityInternal_d00df 27 = .ok (.aload_n 0, 1) := by decide +kernel
theorem dJ5_ensureCapacityInternal_d00df_28 : decode cJ5_ensureCapacityInternal_d00df 28 = .ok (.getfield 22, 3) := by decide +kernel
theorem dJ5_ensureCapacityInternal_d00df_31 : decode cJ5_ensureCapacityInternal_d00df 31 = .ok (.ishl, 1) := by decide +kernel
theorem dJ5_ensureCapacityInternal_d00df_32 : decode cJ5_ensureCapacityInternal_d00df 32 = .ok (.invokestatic 108, 3) := by decide +kernel
theorem dJ5_ensureCapacityInternal_d00df_35 : decode cJ5_ensureCapacityInternal_d00df 35 = .ok (.putfield 15, 3) := by decide +kernel
theorem dJ5_ensureCapacityInternal_d00df_38 : decode cJ5_ensureCapacityInternal_d00df 38 = .ok (.return_, 1) := by decide +kernel
theorem dJ5_newCapacity_0f7a4_0 : decode cJ5_newCapacity_0f7a4 0 = .ok (.aload_n 0, 1) := by decide +kernel
theorem dJ5_newCapacity_0f7a4_1 : decode cJ5_newCapacity_0f7a4 1 = .ok (.getfield 15, 3) := by decide +kernel
theorem dJ5_newCapacity_0f7a4_4 : decode cJ5_newCapacity_0f7a4 4 = .ok (.arraylength, 1) := by decide +kernel
theorem dJ5_newCapacity_0f7a4_5 : decode cJ5_newCapacity_0f7a4 5 = .ok (.istore_n 2, 1) := by decide +kernel
theorem dJ5_newCapacity_0f7a4_6 : decode cJ5_newCapacity_0f7a4 6 = .ok (.iload_n 1, 1) := by decide +kernel
theorem dJ5_newCapacity_0f7a4_7 : decode cJ5_newCapacity_0f7a4 7 = .ok (.aload_n 0, 1) := by decide +kernel
theorem dJ5_newCapacity_0f7a4_8 : decode cJ5_newCapacity_0f7a4 8 = .ok (.getfield 22, 3) := by decide +kernel
theorem dJ5_newCapacity_0f7a4_11 : decode cJ5_newCapacity_0f7a4 11 = .ok (.ishl, 1) := by decide +kernel
theorem dJ5_newCapacity_0f7a4_12 : decode cJ5_newCapacity_0f7a4 12 = .ok (.istore_n 3, 1) := by decide +kernel
theorem dJ5_newCapacity_0f7a4_13 : decode cJ5_newCapacity_0f7a4 13 = .ok (.iload_n 3, 1) := by decide +kernel
theorem dJ5_newCapacity_0f7a4_14 : decode cJ5_newCapacity_0f7a4 14 = .ok (.iload_n 2, 1) := by decide +kernel
theorem dJ5_newCapacity_0f7a4_15 : decode cJ5_newCapacity_0f7a4 15 = .ok (.isub, 1) := by decide +kernel
theorem dJ5_newCapacity_0f7a4_16 : decode cJ5_newCapacity_0f7a4 16 = .ok (.istore 4, 2) := by decide +kernel
theorem dJ5_newCapacity_0f7a4_18 : decode cJ5_newCapacity_0f7a4 18 = .ok (.iload_n 2, 1) := by decide +kernel
theorem dJ5_newCapacity_0f7a4_19 : decode cJ5_newCapacity_0f7a4 19 = .ok (.iload 4, 2) := by decide +kernel
theorem dJ5_newCapacity_0f7a4_21 : decode cJ5_newCapacity_0f7a4 21 = .ok (.iload_n 2, 1) := by decide +kernel
theorem dJ5_newCapacity_0f7a4_22 : decode cJ5_newCapacity_0f7a4 22 = .ok (.iconst 2, 1) := by decide +kernel
theorem dJ5_newCapacity_0f7a4_23 : decode cJ5_newCapacity_0f7a4 23 = .ok (.aload_n 0, 1) := by decide +kernel
theorem dJ5_newCapacity_0f7a4_24 : decode cJ5_newCapacity_0f7a4 24 = .ok (.getfield 22, 3) := by decide +kernel
theorem dJ5_newCapacity_0f7a4_27 : decode cJ5_newCapacity_0f7a4 27 = .ok (.ishl, 1) := by decide +kernel
theorem dJ5_newCapacity_0f7a4_28 : decode cJ5_newCapacity_0f7a4 28 = .ok (.iadd, 1) := by decide +kernel
theorem dJ5_newCapacity_0f7a4_29 : decode cJ5_newCapacity_0f7a4 29 = .ok (.invokestatic 114, 3) := by decide +kernel
theorem dJ5_newCapacity_0f7a4_32 : decode cJ5_newCapacity_0f7a4 32 = .ok (.istore 5, 2) := by decide +kernel
theorem dJ5_newCapacity_0f7a4_34 : decode cJ5_newCapacity_0f7a4 34 = .ok (.iload 5, 2) := by decide +kernel
theorem dJ5_newCapacity_0f7a4_36 : decode cJ5_newCapacity_0f7a4 36 = .ok (.ldc 39, 2) := by decide +kernel
theorem dJ5_newCapacity_0f7a4_38 : decode cJ5_newCapacity_0f7a4 38 = .ok (.if_icmp .ne 13, 3) := by decide +kernel
theorem dJ5_newCapacity_0f7a4_41 : decode cJ5_newCapacity_0f7a4 41 = .ok (.new 120, 3) := by decide +kernel
theorem dJ5_newCapacity_0f7a4_44 : decode cJ5_newCapacity_0f7a4 44 = .ok (.dup, 1) := by decide +kernel
theorem dJ5_newCapacity_0f7a4_45 : decode cJ5_newCapacity_0f7a4 45 = .ok (.ldc 122, 2) := by decide +kernel
theorem dJ5_newCapacity_0f7a4_47 : decode cJ5_newCapacity_0f7a4 47 = .ok (.invokespecial 124, 3) := by decide +kernel
theorem dJ5_newCapacity_0f7a4_50 : decode cJ5_newCapacity_0f7a4 50 = .ok (.athrow, 1) := by decide +kernel
theorem dJ5_newCapacity_0f7a4_51 : decode cJ5_newCapacity_0f7a4 51 = .ok (.iload 5, 2) := by decide +kernel
theorem dJ5_newCapacity_0f7a4_53 : decode cJ5_newCapacity_0f7a4 53 = .ok (.aload_n 0, 1) := by decide +kernel
theorem dJ5_newCapacity_0f7a4_54 : decode cJ5_newCapacity_0f7a4 54 = .ok (.getfield 22, 3) := by decide +kernel
theorem dJ5_newCapacity_0f7a4_57 : decode cJ5_newCapacity_0f7a4 57 = .ok (.ishr, 1) := by decide +kernel
theorem dJ5_newCapacity_0f7a4_58 : decode cJ5_newCapacity_0f7a4 58 = .ok (.ireturn, 1) := by decide +kernel
theorem dJ5_inflate_da8c8_0 : decode cJ5_inflate_da8c8 0 = .ok (.aload_n 0, 1) := by decide +kernel
theorem dJ5_inflate_da8c8_1 : decode cJ5_inflate_da8c8 1 = .ok (.invokevirtual 83, 3) := by decide +kernel
theorem dJ5_inflate_da8c8_4 : decode cJ5_inflate_da8c8 4 = .ok (.ifCond .ne 4, 3) := by decide +kernel
theorem dJ5_inflate_da8c8_7 : decode cJ5_inflate_da8c8 7 = .ok (.return_, 1) := by decide +kernel
theorem dJ5_inflate_da8c8_8 : decode cJ5_inflate_da8c8 8 = .ok (.aload_n 0, 1) := by decide +kernel
theorem dJ5_inflate_da8c8_9 : decode cJ5_inflate_da8c8 9 = .ok (.getfield 15, 3) := by decide +kernel
theorem dJ5_inflate_da8c8_12 : decode cJ5_inflate_da8c8 12 = .ok (.arraylength, 1) := by decide +kernel
theorem dJ5_inflate_da8c8_13 : decode cJ5_inflate_da8c8 13 = .ok (.invokestatic 26, 3) := by decide +kernel
theorem dJ5_inflate_da8c8_16 : decode cJ5_inflate_da8c8 16 = .ok (.astore_n 1, 1) := by decide +kernel
theorem dJ5_inflate_da8c8_17 : decode cJ5_inflate_da8c8 17 = .ok (.aload_n 0, 1) := by decide +kernel
theorem dJ5_inflate_da8c8_18 : decode cJ5_inflate_da8c8 18 = .ok (.getfield 15, 3) := by decide +kernel
theorem dJ5_inflate_da8c8_21 : decode cJ5_inflate_da8c8 21 = .ok (.iconst 0, 1) := by decide +kernel
theorem dJ5_inflate_da8c8_22 : decode cJ5_inflate_da8c8 22 = .ok (.aload_n 1, 1) := by decide +kernel
theorem dJ5_inflate_da8c8_23 : decode cJ5_inflate_da8c8 23 = .ok (.iconst 0, 1) := by decide +kernel
theorem dJ5_inflate_da8c8_24 : decode cJ5_inflate_da8c8 24 = .ok (.aload_n 0, 1) := by decide +kernel
theorem dJ5_inflate_da8c8_25 : decode cJ5_inflate_da8c8 25 = .ok (.getfield 79, 3) := by decide +kernel
theorem dJ5_inflate_da8c8_28 : decode cJ5_inflate_da8c8 28 = .ok (.invokestatic 125, 3) := by decide +kernel
theorem dJ5_inflate_da8c8_31 : decode cJ5_inflate_da8c8 31 = .ok (.aload_n 0, 1) := by decide +kernel
theorem dJ5_inflate_da8c8_32 : decode cJ5_inflate_da8c8 32 = .ok (.aload_n 1, 1) := by decide +kernel
theorem dJ5_inflate_da8c8_33 : decode cJ5_inflate_da8c8 33 = .ok (.putfield 15, 3) := by decide +kernel
theorem dJ5_inflate_da8c8_36 : decode cJ5_inflate_da8c8 36 = .ok (.aload_n 0, 1) := by decide +kernel
theorem dJ5_inflate_da8c8_37 : decode cJ5_inflate_da8c8 37 = .ok (.iconst 1, 1) := by decide +kernel
theorem dJ5_inflate_da8c8_38 : decode cJ5_inflate_da8c8 38 = .ok (.putfield 22, 3) := by decide +kernel
theorem dJ5_inflate_da8c8_41 : decode cJ5_inflate_da8c8 41 = .ok (.return_, 1) := by decide +kernel
theorem dJ5_setLength_d00df_0 : decode cJ5_setLength_d00df 0 = .ok (.iload_n 1, 1) := by decide +kernel
theorem dJ5_setLength_d00df_1 : decode cJ5_setLength_d00df 1 = .ok (.ifCond .ge 12, 3) := by decide +kernel
theorem dJ5_setLength_d00df_4 : decode cJ5_setLength_d00df 4 = .ok (.new 129, 3) := by decide +kernel
theorem dJ5_setLength_d00df_7 : decode cJ5_setLength_d00df 7 = .ok (.dup, 1) := by decide +kernel
theorem dJ5_setLength_d00df_8 : decode cJ5_setLength_d00df 8 = .ok (.iload_n 1, 1) := by decide +kernel
theorem dJ5_setLength_d00df_9 : decode cJ5_setLength_d00df 9 = .ok (.invokespecial 131, 3) := by decide +kernel
theorem dJ5_setLength_d00df_12 : decode cJ5_setLength_d00df 12 = .ok (.athrow, 1) := by decide +kernel
theorem dJ5_setLength_d00df_13 : decode cJ5_setLength_d00df 13 = .ok (.aload_n 0, 1) := by decide +kernel
