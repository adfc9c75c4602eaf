theorem dX9_stripsFor_6 : decode cX9_stripsFor 6 = .ok (.imul, 1) := by decide +kernel
theorem dX9_stripsFor_7 : decode cX9_stripsFor 7 = .ok (.ireturn, 1) := by decide +kernel
theorem dX9_strengthOf_0 : decode cX9_strengthOf 0 = .ok (.bipush 12, 2) := by decide +kernel
theorem dX9_strengthOf_2 : decode cX9_strengthOf 2 = .ok (.aload_n 0, 1) := by decide +kernel
theorem dX9_strengthOf_3 : decode cX9_strengthOf 3 = .ok (.getfield 15, 3) := by decide +kernel
theorem dX9_strengthOf_6 : decode cX9_strengthOf 6 = .ok (.iload_n 1, 1) := by decide +kernel
theorem dX9_strengthOf_7 : decode cX9_strengthOf 7 = .ok (.invokestatic 34, 3) := by decide +kernel
theorem dX9_strengthOf_10 : decode cX9_strengthOf 10 = .ok (.bipush 6, 2) := by decide +kernel
theorem dX9_strengthOf_12 : decode cX9_strengthOf 12 = .ok (.idiv, 1) := by decide +kernel
theorem dX9_strengthOf_13 : decode cX9_strengthOf 13 = .ok (.isub, 1) := by decide +kernel
theorem dX9_strengthOf_14 : decode cX9_strengthOf 14 = .ok (.aload_n 0, 1) := by decide +kernel
theorem dX9_strengthOf_15 : decode cX9_strengthOf 15 = .ok (.getfield 9, 3) := by decide +kernel
theorem dX9_strengthOf_18 : decode cX9_strengthOf 18 = .ok (.iload_n 1, 1) := by decide +kernel
theorem dX9_strengthOf_19 : decode cX9_strengthOf 19 = .ok (.invokestatic 34, 3) := by decide +kernel
theorem dX9_strengthOf_22 : decode cX9_strengthOf 22 = .ok (.iadd, 1) := by decide +kernel
theorem dX9_strengthOf_23 : decode cX9_strengthOf 23 = .ok (.aload_n 0, 1) := by decide +kernel
theorem dX9_strengthOf_24 : decode cX9_strengthOf 24 = .ok (.getfield 18, 3) := by decide +kernel
theorem dX9_strengthOf_27 : decode cX9_strengthOf 27 = .ok (.iload_n 1, 1) := by decide +kernel
theorem dX9_strengthOf_28 : decode cX9_strengthOf 28 = .ok (.invokestatic 34, 3) := by decide +kernel
theorem dX9_strengthOf_31 : decode cX9_strengthOf 31 = .ok (.iconst 5, 1) := by decide +kernel
theorem dX9_strengthOf_32 : decode cX9_strengthOf 32 = .ok (.idiv, 1) := by decide +kernel
theorem dX9_strengthOf_33 : decode cX9_strengthOf 33 = .ok (.isub, 1) := by decide +kernel
theorem dX9_strengthOf_34 : decode cX9_strengthOf 34 = .ok (.iload_n 1, 1) := by decide +kernel
theorem dX9_strengthOf_35 : decode cX9_strengthOf 35 = .ok (.iconst 2, 1) := by decide +kernel
theorem dX9_strengthOf_36 : decode cX9_strengthOf 36 = .ok (.idiv, 1) := by decide +kernel
theorem dX9_strengthOf_37 : decode cX9_strengthOf 37 = .ok (.isub, 1) := by decide +kernel
theorem dX9_strengthOf_38 : decode cX9_strengthOf 38 = .ok (.istore_n 2, 1) := by decide +kernel
theorem dX9_strengthOf_39 : decode cX9_strengthOf 39 = .ok (.iload_n 2, 1) := by decide +kernel
theorem dX9_strengthOf_40 : decode cX9_strengthOf 40 = .ok (.iconst 0, 1) := by decide +kernel
theorem dX9_strengthOf_41 : decode cX9_strengthOf 41 = .ok (.invokestatic 45, 3) := by decide +kernel
theorem dX9_strengthOf_44 : decode cX9_strengthOf 44 = .ok (.ireturn, 1) := by decide +kernel
theorem dX9_strengthByStepsOf_0 : decode cX9_strengthByStepsOf 0 = .ok (.bipush 12, 2) := by decide +kernel
theorem dX9_strengthByStepsOf_2 : decode cX9_strengthByStepsOf 2 = .ok (.aload_n 0, 1) := by decide +kernel
theorem dX9_strengthByStepsOf_3 : decode cX9_strengthByStepsOf 3 = .ok (.iload_n 1, 1) := by decide +kernel
theorem dX9_strengthByStepsOf_4 : decode cX9_strengthByStepsOf 4 = .ok (.invokevirtual 51, 3) := by decide +kernel
theorem dX9_strengthByStepsOf_7 : decode cX9_strengthByStepsOf 7 = .ok (.bipush 6, 2) := by decide +kernel
theorem dX9_strengthByStepsOf_9 : decode cX9_strengthByStepsOf 9 = .ok (.idiv, 1) := by decide +kernel
theorem dX9_strengthByStepsOf_10 : decode cX9_strengthByStepsOf 10 = .ok (.isub, 1) := by decide +kernel
theorem dX9_strengthByStepsOf_11 : decode cX9_strengthByStepsOf 11 = .ok (.istore_n 2, 1) := by decide +kernel
theorem dX9_strengthByStepsOf_12 : decode cX9_strengthByStepsOf 12 = .ok (.iconst 1, 1) := by decide +kernel
theorem dX9_strengthByStepsOf_13 : decode cX9_strengthByStepsOf 13 = .ok (.istore_n 3, 1) := by decide +kernel
theorem dX9_strengthByStepsOf_14 : decode cX9_strengthByStepsOf 14 = .ok (.iload_n 3, 1) := by decide +kernel
theorem dX9_strengthByStepsOf_15 : decode cX9_strengthByStepsOf 15 = .ok (.aload_n 0, 1) := by decide +kernel
theorem dX9_strengthByStepsOf_16 : decode cX9_strengthByStepsOf 16 = .ok (.iload_n 1, 1) := by decide +kernel
theorem dX9_strengthByStepsOf_17 : decode cX9_strengthByStepsOf 17 = .ok (.invokevirtual 42, 3) := by decide +kernel
theorem dX9_strengthByStepsOf_20 : decode cX9_strengthByStepsOf 20 = .ok (.if_icmp .gt 12, 3) := by decide +kernel
theorem dX9_strengthByStepsOf_23 : decode cX9_strengthByStepsOf 23 = .ok (.iinc 2 1, 3) := by decide +kernel
theorem dX9_strengthByStepsOf_26 : decode cX9_strengthByStepsOf 26 = .ok (.iinc 3 1, 3) := by decide +kernel
theorem dX9_strengthByStepsOf_29 : decode cX9_strengthByStepsOf 29 = .ok (.goto (-15), 3) := by decide +kernel
theorem dX9_strengthByStepsOf_32 : decode cX9_strengthByStepsOf 32 = .ok (.iconst 5, 1) := by decide +kernel
theorem dX9_strengthByStepsOf_33 : decode cX9_strengthByStepsOf 33 = .ok (.istore_n 3, 1) := by decide +kernel
theorem dX9_strengthByStepsOf_34 : decode cX9_strengthByStepsOf 34 = .ok (.iload_n 3, 1) := by decide +kernel
theorem dX9_strengthByStepsOf_35 : decode cX9_strengthByStepsOf 35 = .ok (.aload_n 0, 1) := by decide +kernel
theorem dX9_strengthByStepsOf_36 : decode cX9_strengthByStepsOf 36 = .ok (.iload_n 1, 1) := by decide +kernel
theorem dX9_strengthByStepsOf_37 : decode cX9_strengthByStepsOf 37 = .ok (.invokevirtual 54, 3) := by decide +kernel
theorem dX9_strengthByStepsOf_40 : decode cX9_strengthByStepsOf 40 = .ok (.if_icmp .gt 12, 3) := by decide +kernel
theorem dX9_strengthByStepsOf_43 : decode cX9_strengthByStepsOf 43 = .ok (.iinc 2 (-1), 3) := by decide +kernel
theorem dX9_strengthByStepsOf_46 : decode cX9_strengthByStepsOf 46 = .ok (.iinc 3 5, 3) := by decide +kernel
theorem dX9_strengthByStepsOf_49 : decode cX9_strengthByStepsOf 49 = .ok (.goto (-15), 3) := by decide +kernel
theorem dX9_strengthByStepsOf_52 : decode cX9_strengthByStepsOf 52 = .ok (.iconst 2, 1) := by decide +kernel
theorem dX9_strengthByStepsOf_53 : decode cX9_strengthByStepsOf 53 = .ok (.istore_n 3, 1) := by decide +kernel
theorem dX9_strengthByStepsOf_54 : decode cX9_strengthByStepsOf 54 = .ok (.iload_n 3, 1) := by decide +kernel
theorem dX9_strengthByStepsOf_55 : decode cX9_strengthByStepsOf 55 = .ok (.iload_n 1, 1) := by decide +kernel
theorem dX9_strengthByStepsOf_56 : decode cX9_strengthByStepsOf 56 = .ok (.if_icmp .gt 12, 3) := by decide +kernel
theorem dX9_strengthByStepsOf_59 : decode cX9_strengthByStepsOf 59 = .ok (.iinc 2 (-1), 3) := by decide +kernel
theorem dX9_strengthByStepsOf_62 : decode cX9_strengthByStepsOf 62 = .ok (.iinc 3 2, 3) := by decide +kernel
theorem dX9_strengthByStepsOf_65 : decode cX9_strengthByStepsOf 65 = .ok (.goto (-11), 3) := by decide +kernel
theorem dX9_strengthByStepsOf_68 : decode cX9_strengthByStepsOf 68 = .ok (.iload_n 2, 1) := by decide +kernel
theorem dX9_strengthByStepsOf_69 : decode cX9_strengthByStepsOf 69 = .ok (.ifCond .ge 7, 3) := by decide +kernel
theorem dX9_strengthByStepsOf_72 : decode cX9_strengthByStepsOf 72 = .ok (.iconst 0, 1) := by decide +kernel
theorem dX9_strengthByStepsOf_73 : decode cX9_strengthByStepsOf 73 = .ok (.goto 4, 3) := by decide +kernel
theorem dX9_strengthByStepsOf_76 : decode cX9_strengthByStepsOf 76 = .ok (.iload_n 2, 1) := by decide +kernel
theorem dX9_strengthByStepsOf_77 : decode cX9_strengthByStepsOf 77 = .ok (.ireturn, 1) := by decide +kernel
theorem dX9_allStrength_0 : decode cX9_allStrength 0 = .ok (.iconst 0, 1) := by decide +kernel
theorem dX9_allStrength_1 : decode cX9_allStrength 1 = .ok (.istore_n 1, 1) := by decide +kernel
theorem dX9_allStrength_2 : decode cX9_allStrength 2 = .ok (.iconst 0, 1) := by decide +kernel
theorem dX9_allStrength_3 : decode cX9_allStrength 3 = .ok (.istore_n 2, 1) := by decide +kernel
theorem dX9_allStrength_4 : decode cX9_allStrength 4 = .ok (.iload_n 2, 1) := by decide +kernel
theorem dX9_allStrength_5 : decode cX9_allStrength 5 = .ok (.aload_n 0, 1) := by decide +kernel
theorem dX9_allStrength_6 : decode cX9_allStrength 6 = .ok (.getfield 30, 3) := by decide +kernel
theorem dX9_allStrength_9 : decode cX9_allStrength 9 = .ok (.if_icmp .ge 17, 3) := by decide +kernel
theorem dX9_allStrength_12 : decode cX9_allStrength 12 = .ok (.iload_n 1, 1) := by decide +kernel
theorem dX9_allStrength_13 : decode cX9_allStrength 13 = .ok (.aload_n 0, 1) := by decide +kernel
theorem dX9_allStrength_14 : decode cX9_allStrength 14 = .ok (.iload_n 2, 1) := by decide +kernel
theorem dX9_allStrength_15 : decode cX9_allStrength 15 = .ok (.invokevirtual 57, 3) := by decide +kernel
theorem dX9_allStrength_18 : decode cX9_allStrength 18 = .ok (.iadd, 1) := by decide +kernel
theorem dX9_allStrength_19 : decode cX9_allStrength 19 = .ok (.istore_n 1, 1) := by decide +kernel
theorem dX9_allStrength_20 : decode cX9_allStrength 20 = .ok (.iinc 2 1, 3) := by decide +kernel
theorem dX9_allStrength_23 : decode cX9_allStrength 23 = .ok (.goto (-19), 3) := by decide +kernel
theorem dX9_allStrength_26 : decode cX9_allStrength 26 = .ok (.iload_n 1, 1) := by decide +kernel
theorem dX9_allStrength_27 : decode cX9_allStrength 27 = .ok (.ireturn, 1) := by decide +kernel
theorem dX9_allHours_0 : decode cX9_allHours 0 = .ok (.aload_n 0, 1) := by decide +kernel
theorem dX9_allHours_1 : decode cX9_allHours 1 = .ok (.getfield 21, 3) := by decide +kernel
theorem dX9_allHours_4 : decode cX9_allHours 4 = .ok (.aload_n 0, 1) := by decide +kernel
theorem dX9_allHours_5 : decode cX9_allHours 5 = .ok (.getfield 30, 3) := by decide +kernel
theorem dX9_allHours_8 : decode cX9_allHours 8 = .ok (.invokestatic 60, 3) := by decide +kernel
theorem dX9_allHours_11 : decode cX9_allHours 11 = .ok (.ireturn, 1) := by decide +kernel
theorem dX9_allLoads_0 : decode cX9_allLoads 0 = .ok (.aload_n 0, 1) := by decide +kernel
theorem dX9_allLoads_1 : decode cX9_allLoads 1 = .ok (.getfield 24, 3) := by decide +kernel
theorem dX9_allLoads_4 : decode cX9_allLoads 4 = .ok (.aload_n 0, 1) := by decide +kernel
theorem dX9_allLoads_5 : decode cX9_allLoads 5 = .ok (.getfield 30, 3) := by decide +kernel
theorem dX9_allLoads_8 : decode cX9_allLoads 8 = .ok (.invokestatic 60, 3) := by decide +kernel
theorem dX9_allLoads_11 : decode cX9_allLoads 11 = .ok (.ireturn, 1) := by decide +kernel
theorem dX9_howManyShut_0 : decode cX9_howManyShut 0 = .ok (.iconst 0, 1) := by decide +kernel
theorem dX9_howManyShut_1 : decode cX9_howManyShut 1 = .ok (.istore_n 1, 1) := by decide +kernel
theorem dX9_howManyShut_2 : decode cX9_howManyShut 2 = .ok (.iconst 0, 1) := by decide +kernel
theorem dX9_howManyShut_3 : decode cX9_howManyShut 3 = .ok (.istore_n 2, 1) := by decide +kernel
theorem dX9_howManyShut_4 : decode cX9_howManyShut 4 = .ok (.iload_n 2, 1) := by decide +kernel
theorem dX9_howManyShut_5 : decode cX9_howManyShut 5 = .ok (.aload_n 0, 1) := by decide +kernel
theorem dX9_howManyShut_6 : decode cX9_howManyShut 6 = .ok (.getfield 30, 3) := by decide +kernel
theorem dX9_howManyShut_9 : decode cX9_howManyShut 9 = .ok (.if_icmp .ge 25, 3) := by decide +kernel
theorem dX9_howManyShut_12 : decode cX9_howManyShut 12 = .ok (.iload_n 1, 1) := by decide +kernel
theorem dX9_howManyShut_13 : decode cX9_howManyShut 13 = .ok (.aload_n 0, 1) := by decide +kernel
theorem dX9_howManyShut_14 : decode cX9_howManyShut 14 = .ok (.iload_n 2, 1) := by decide +kernel
theorem dX9_howManyShut_15 : decode cX9_howManyShut 15 = .ok (.invokevirtual 63, 3) := by decide +kernel
theorem dX9_howManyShut_18 : decode cX9_howManyShut 18 = .ok (.ifCond .eq 7, 3) := by decide +kernel
theorem dX9_howManyShut_21 : decode cX9_howManyShut 21 = .ok (.iconst 1, 1) := by decide +kernel
theorem dX9_howManyShut_22 : decode cX9_howManyShut 22 = .ok (.goto 4, 3) := by decide +kernel
theorem dX9_howManyShut_25 : decode cX9_howManyShut 25 = .ok (.iconst 0, 1) := by decide +kernel
theorem dX9_howManyShut_26 : decode cX9_howManyShut 26 = .ok (.iadd, 1) := by decide +kernel
theorem dX9_howManyShut_27 : decode cX9_howManyShut 27 = .ok (.istore_n 1, 1) := by decide +kernel
theorem dX9_howManyShut_28 : decode cX9_howManyShut 28 = .ok (.iinc 2 1, 3) := by decide +kernel
theorem dX9_howManyShut_31 : decode cX9_howManyShut 31 = .ok (.goto (-27), 3) := by decide +kernel
theorem dX9_howManyShut_34 : decode cX9_howManyShut 34 = .ok (.iload_n 1, 1) := by decide +kernel
theorem dX9_howManyShut_35 : decode cX9_howManyShut 35 = .ok (.ireturn, 1) := by decide +kernel
theorem dX9_howManyShutBy_0 : decode cX9_howManyShutBy 0 = .ok (.iconst 0, 1) := by decide +kernel
theorem dX9_howManyShutBy_1 : decode cX9_howManyShutBy 1 = .ok (.istore_n 2, 1) := by decide +kernel
theorem dX9_howManyShutBy_2 : decode cX9_howManyShutBy 2 = .ok (.iconst 0, 1) := by decide +kernel
theorem dX9_howManyShutBy_3 : decode cX9_howManyShutBy 3 = .ok (.istore_n 3, 1) := by decide +kernel
theorem dX9_howManyShutBy_4 : decode cX9_howManyShutBy 4 = .ok (.iload_n 3, 1) := by decide +kernel
theorem dX9_howManyShutBy_5 : decode cX9_howManyShutBy 5 = .ok (.aload_n 0, 1) := by decide +kernel
theorem dX9_howManyShutBy_6 : decode cX9_howManyShutBy 6 = .ok (.getfield 30, 3) := by decide +kernel
theorem dX9_howManyShutBy_9 : decode cX9_howManyShutBy 9 = .ok (.if_icmp .ge 26, 3) := by decide +kernel
theorem dX9_howManyShutBy_12 : decode cX9_howManyShutBy 12 = .ok (.iload_n 2, 1) := by decide +kernel
theorem dX9_howManyShutBy_13 : decode cX9_howManyShutBy 13 = .ok (.aload_n 0, 1) := by decide +kernel
theorem dX9_howManyShutBy_14 : decode cX9_howManyShutBy 14 = .ok (.iload_n 3, 1) := by decide +kernel
theorem dX9_howManyShutBy_15 : decode cX9_howManyShutBy 15 = .ok (.invokevirtual 38, 3) := by decide +kernel
theorem dX9_howManyShutBy_18 : decode cX9_howManyShutBy 18 = .ok (.iload_n 1, 1) := by decide +kernel
theorem dX9_howManyShutBy_19 : decode cX9_howManyShutBy 19 = .ok (.if_icmp .ne 7, 3) := by decide +kernel
theorem dX9_howManyShutBy_22 : decode cX9_howManyShutBy 22 = .ok (.iconst 1, 1) := by decide +kernel
theorem dX9_howManyShutBy_23 : decode cX9_howManyShutBy 23 = .ok (.goto 4, 3) := by decide +kernel
theorem dX9_howManyShutBy_26 : decode cX9_howManyShutBy 26 = .ok (.iconst 0, 1) := by decide +kernel
theorem dX9_howManyShutBy_27 : decode cX9_howManyShutBy 27 = .ok (.iadd, 1) := by decide +kernel
theorem dX9_howManyShutBy_28 : decode cX9_howManyShutBy 28 = .ok (.istore_n 2, 1) := by decide +kernel
theorem dX9_howManyShutBy_29 : decode cX9_howManyShutBy 29 = .ok (.iinc 3 1, 3) := by decide +kernel
theorem dX9_howManyShutBy_32 : decode cX9_howManyShutBy 32 = .ok (.goto (-28), 3) := by decide +kernel
theorem dX9_howManyShutBy_35 : decode cX9_howManyShutBy 35 = .ok (.iload_n 2, 1) := by decide +kernel
theorem dX9_howManyShutBy_36 : decode cX9_howManyShutBy 36 = .ok (.ireturn, 1) := by decide +kernel
theorem dX9_howManyOld_0 : decode cX9_howManyOld 0 = .ok (.iconst 0, 1) := by decide +kernel
theorem dX9_howManyOld_1 : decode cX9_howManyOld 1 = .ok (.istore_n 1, 1) := by decide +kernel
theorem dX9_howManyOld_2 : decode cX9_howManyOld 2 = .ok (.iconst 0, 1) := by decide +kernel
theorem dX9_howManyOld_3 : decode cX9_howManyOld 3 = .ok (.istore_n 2, 1) := by decide +kernel
theorem dX9_howManyOld_4 : decode cX9_howManyOld 4 = .ok (.iload_n 2, 1) := by decide +kernel
theorem dX9_howManyOld_5 : decode cX9_howManyOld 5 = .ok (.aload_n 0, 1) := by decide +kernel
theorem dX9_howManyOld_6 : decode cX9_howManyOld 6 = .ok (.getfield 30, 3) := by decide +kernel
theorem dX9_howManyOld_9 : decode cX9_howManyOld 9 = .ok (.if_icmp .ge 25, 3) := by decide +kernel
theorem dX9_howManyOld_12 : decode cX9_howManyOld 12 = .ok (.iload_n 1, 1) := by decide +kernel
theorem dX9_howManyOld_13 : decode cX9_howManyOld 13 = .ok (.aload_n 0, 1) := by decide +kernel
theorem dX9_howManyOld_14 : decode cX9_howManyOld 14 = .ok (.iload_n 2, 1) := by decide +kernel
theorem dX9_howManyOld_15 : decode cX9_howManyOld 15 = .ok (.invokevirtual 67, 3) := by decide +kernel
theorem dX9_howManyOld_18 : decode cX9_howManyOld 18 = .ok (.ifCond .eq 7, 3) := by decide +kernel
theorem dX9_howManyOld_21 : decode cX9_howManyOld 21 = .ok (.iconst 1, 1) := by decide +kernel
theorem dX9_howManyOld_22 : decode cX9_howManyOld 22 = .ok (.goto 4, 3) := by decide +kernel
theorem dX9_howManyOld_25 : decode cX9_howManyOld 25 = .ok (.iconst 0, 1) := by decide +kernel
theorem dX9_howManyOld_26 : decode cX9_howManyOld 26 = .ok (.iadd, 1) := by decide +kernel
theorem dX9_howManyOld_27 : decode cX9_howManyOld 27 = .ok (.istore_n 1, 1) := by decide +kernel
theorem dX9_howManyOld_28 : decode cX9_howManyOld 28 = .ok (.iinc 2 1, 3) := by decide +kernel
theorem dX9_howManyOld_31 : decode cX9_howManyOld 31 = .ok (.goto (-27), 3) := by decide +kernel
theorem dX9_howManyOld_34 : decode cX9_howManyOld 34 = .ok (.iload_n 1, 1) := by decide +kernel
theorem dX9_howManyOld_35 : decode cX9_howManyOld 35 = .ok (.ireturn, 1) := by decide +kernel
theorem dX9_lowestOldUpTo_0 : decode cX9_lowestOldUpTo 0 = .ok (.iconst 0, 1) := by decide +kernel
theorem dX9_lowestOldUpTo_1 : decode cX9_lowestOldUpTo 1 = .ok (.istore_n 2, 1) := by decide +kernel
theorem dX9_lowestOldUpTo_2 : decode cX9_lowestOldUpTo 2 = .ok (.iload_n 2, 1) := by decide +kernel
theorem dX9_lowestOldUpTo_3 : decode cX9_lowestOldUpTo 3 = .ok (.iload_n 1, 1) := by decide +kernel
theorem dX9_lowestOldUpTo_4 : decode cX9_lowestOldUpTo 4 = .ok (.if_icmp .gt 32, 3) := by decide +kernel
theorem dX9_lowestOldUpTo_7 : decode cX9_lowestOldUpTo 7 = .ok (.iload_n 2, 1) := by decide +kernel
theorem dX9_lowestOldUpTo_8 : decode cX9_lowestOldUpTo 8 = .ok (.aload_n 0, 1) := by decide +kernel
theorem dX9_lowestOldUpTo_9 : decode cX9_lowestOldUpTo 9 = .ok (.getfield 30, 3) := by decide +kernel
theorem dX9_lowestOldUpTo_12 : decode cX9_lowestOldUpTo 12 = .ok (.if_icmp .ge 24, 3) := by decide +kernel
theorem dX9_lowestOldUpTo_15 : decode cX9_lowestOldUpTo 15 = .ok (.aload_n 0, 1) := by decide +kernel
theorem dX9_lowestOldUpTo_16 : decode cX9_lowestOldUpTo 16 = .ok (.getfield 18, 3) := by decide +kernel
theorem dX9_lowestOldUpTo_19 : decode cX9_lowestOldUpTo 19 = .ok (.iload_n 2, 1) := by decide +kernel
theorem dX9_lowestOldUpTo_20 : decode cX9_lowestOldUpTo 20 = .ok (.invokestatic 34, 3) := by decide +kernel
theorem dX9_lowestOldUpTo_23 : decode cX9_lowestOldUpTo 23 = .ok (.bipush 20, 2) := by decide +kernel
theorem dX9_lowestOldUpTo_25 : decode cX9_lowestOldUpTo 25 = .ok (.if_icmp .le 5, 3) := by decide +kernel
theorem dX9_lowestOldUpTo_28 : decode cX9_lowestOldUpTo 28 = .ok (.iload_n 2, 1) := by decide +kernel
theorem dX9_lowestOldUpTo_29 : decode cX9_lowestOldUpTo 29 = .ok (.ireturn, 1) := by decide +kernel
theorem dX9_lowestOldUpTo_30 : decode cX9_lowestOldUpTo 30 = .ok (.iinc 2 1, 3) := by decide +kernel
theorem dX9_lowestOldUpTo_33 : decode cX9_lowestOldUpTo 33 = .ok (.goto (-31), 3) := by decide +kernel
theorem dX9_lowestOldUpTo_36 : decode cX9_lowestOldUpTo 36 = .ok (.bipush (-4), 2) := by decide +kernel
theorem dX9_lowestOldUpTo_38 : decode cX9_lowestOldUpTo 38 = .ok (.ireturn, 1) := by decide +kernel
theorem dX9_lowestWeakerThan_0 : decode cX9_lowestWeakerThan 0 = .ok (.iconst 0, 1) := by decide +kernel
theorem dX9_lowestWeakerThan_1 : decode cX9_lowestWeakerThan 1 = .ok (.istore_n 2, 1) := by decide +kernel
theorem dX9_lowestWeakerThan_2 : decode cX9_lowestWeakerThan 2 = .ok (.iload_n 2, 1) := by decide +kernel
theorem dX9_lowestWeakerThan_3 : decode cX9_lowestWeakerThan 3 = .ok (.aload_n 0, 1) := by decide +kernel
theorem dX9_lowestWeakerThan_4 : decode cX9_lowestWeakerThan 4 = .ok (.getfield 30, 3) := by decide +kernel
theorem dX9_lowestWeakerThan_7 : decode cX9_lowestWeakerThan 7 = .ok (.if_icmp .ge 20, 3) := by decide +kernel
theorem dX9_lowestWeakerThan_10 : decode cX9_lowestWeakerThan 10 = .ok (.aload_n 0, 1) := by decide +kernel
theorem dX9_lowestWeakerThan_11 : decode cX9_lowestWeakerThan 11 = .ok (.iload_n 2, 1) := by decide +kernel
theorem dX9_lowestWeakerThan_12 : decode cX9_lowestWeakerThan 12 = .ok (.invokevirtual 57, 3) := by decide +kernel
theorem dX9_lowestWeakerThan_15 : decode cX9_lowestWeakerThan 15 = .ok (.iload_n 1, 1) := by decide +kernel
theorem dX9_lowestWeakerThan_16 : decode cX9_lowestWeakerThan 16 = .ok (.if_icmp .ge 5, 3) := by decide +kernel
theorem dX9_lowestWeakerThan_19 : decode cX9_lowestWeakerThan 19 = .ok (.iload_n 2, 1) := by decide +kernel
theorem dX9_lowestWeakerThan_20 : decode cX9_lowestWeakerThan 20 = .ok (.ireturn, 1) := by decide +kernel
theorem dX9_lowestWeakerThan_21 : decode cX9_lowestWeakerThan 21 = .ok (.iinc 2 1, 3) := by decide +kernel
theorem dX9_lowestWeakerThan_24 : decode cX9_lowestWeakerThan 24 = .ok (.goto (-22), 3) := by decide +kernel
theorem dX9_lowestWeakerThan_27 : decode cX9_lowestWeakerThan 27 = .ok (.bipush (-4), 2) := by decide +kernel
theorem dX9_lowestWeakerThan_29 : decode cX9_lowestWeakerThan 29 = .ok (.ireturn, 1) := by decide +kernel
theorem dX9_leastStrong_0 : decode cX9_leastStrong 0 = .ok (.bipush (-4), 2) := by decide +kernel
theorem dX9_leastStrong_2 : decode cX9_leastStrong 2 = .ok (.istore_n 1, 1) := by decide +kernel
theorem dX9_leastStrong_3 : decode cX9_leastStrong 3 = .ok (.iconst 0, 1) := by decide +kernel
theorem dX9_leastStrong_4 : decode cX9_leastStrong 4 = .ok (.istore_n 2, 1) := by decide +kernel
theorem dX9_leastStrong_5 : decode cX9_leastStrong 5 = .ok (.iload_n 2, 1) := by decide +kernel
theorem dX9_leastStrong_6 : decode cX9_leastStrong 6 = .ok (.aload_n 0, 1) := by decide +kernel
theorem dX9_leastStrong_7 : decode cX9_leastStrong 7 = .ok (.getfield 30, 3) := by decide +kernel
theorem dX9_leastStrong_10 : decode cX9_leastStrong 10 = .ok (.if_icmp .ge 30, 3) := by decide +kernel
theorem dX9_leastStrong_13 : decode cX9_leastStrong 13 = .ok (.iload_n 1, 1) := by decide +kernel
theorem dX9_leastStrong_14 : decode cX9_leastStrong 14 = .ok (.bipush (-4), 2) := by decide +kernel
theorem dX9_leastStrong_16 : decode cX9_leastStrong 16 = .ok (.if_icmp .eq 16, 3) := by decide +kernel
theorem dX9_leastStrong_19 : decode cX9_leastStrong 19 = .ok (.aload_n 0, 1) := by decide +kernel
theorem dX9_leastStrong_20 : decode cX9_leastStrong 20 = .ok (.iload_n 2, 1) := by decide +kernel
theorem dX9_leastStrong_21 : decode cX9_leastStrong 21 = .ok (.invokevirtual 57, 3) := by decide +kernel
theorem dX9_leastStrong_24 : decode cX9_leastStrong 24 = .ok (.aload_n 0, 1) := by decide +kernel
theorem dX9_leastStrong_25 : decode cX9_leastStrong 25 = .ok (.iload_n 1, 1) := by decide +kernel
theorem dX9_leastStrong_26 : decode cX9_leastStrong 26 = .ok (.invokevirtual 57, 3) := by decide +kernel
theorem dX9_leastStrong_29 : decode cX9_leastStrong 29 = .ok (.if_icmp .ge 5, 3) := by decide +kernel
theorem dX9_leastStrong_32 : decode cX9_leastStrong 32 = .ok (.iload_n 2, 1) := by decide +kernel
theorem dX9_leastStrong_33 : decode cX9_leastStrong 33 = .ok (.istore_n 1, 1) := by decide +kernel
theorem dX9_leastStrong_34 : decode cX9_leastStrong 34 = .ok (.iinc 2 1, 3) := by decide +kernel
theorem dX9_leastStrong_37 : decode cX9_leastStrong 37 = .ok (.goto (-32), 3) := by decide +kernel
theorem dX9_leastStrong_40 : decode cX9_leastStrong 40 = .ok (.iload_n 1, 1) := by decide +kernel
theorem dX9_leastStrong_41 : decode cX9_leastStrong 41 = .ok (.ireturn, 1) := by decide +kernel
theorem dX9_highestOpen_0 : decode cX9_highestOpen 0 = .ok (.bipush (-4), 2) := by decide +kernel
theorem dX9_highestOpen_2 : decode cX9_highestOpen 2 = .ok (.istore_n 1, 1) := by decide +kernel
theorem dX9_highestOpen_3 : decode cX9_highestOpen 3 = .ok (.iconst 0, 1) := by decide +kernel
theorem dX9_highestOpen_4 : decode cX9_highestOpen 4 = .ok (.istore_n 2, 1) := by decide +kernel
theorem dX9_highestOpen_5 : decode cX9_highestOpen 5 = .ok (.iload_n 2, 1) := by decide +kernel
theorem dX9_highestOpen_6 : decode cX9_highestOpen 6 = .ok (.aload_n 0, 1) := by decide +kernel
theorem dX9_highestOpen_7 : decode cX9_highestOpen 7 = .ok (.getfield 30, 3) := by decide +kernel
theorem dX9_highestOpen_10 : decode cX9_highestOpen 10 = .ok (.if_icmp .ge 27, 3) := by decide +kernel
theorem dX9_highestOpen_13 : decode cX9_highestOpen 13 = .ok (.aload_n 0, 1) := by decide +kernel
theorem dX9_highestOpen_14 : decode cX9_highestOpen 14 = .ok (.iload_n 2, 1) := by decide +kernel
theorem dX9_highestOpen_15 : decode cX9_highestOpen 15 = .ok (.invokevirtual 67, 3) := by decide +kernel
theorem dX9_highestOpen_18 : decode cX9_highestOpen 18 = .ok (.ifCond .ne 19, 3) := by decide +kernel
theorem dX9_highestOpen_21 : decode cX9_highestOpen 21 = .ok (.aload_n 0, 1) := by decide +kernel
theorem dX9_highestOpen_22 : decode cX9_highestOpen 22 = .ok (.iload_n 2, 1) := by decide +kernel
theorem dX9_highestOpen_23 : decode cX9_highestOpen 23 = .ok (.invokevirtual 63, 3) := by decide +kernel
theorem dX9_highestOpen_26 : decode cX9_highestOpen 26 = .ok (.ifCond .ne 5, 3) := by decide +kernel
theorem dX9_highestOpen_29 : decode cX9_highestOpen 29 = .ok (.iload_n 2, 1) := by decide +kernel
theorem dX9_highestOpen_30 : decode cX9_highestOpen 30 = .ok (.istore_n 1, 1) := by decide +kernel
theorem dX9_highestOpen_31 : decode cX9_highestOpen 31 = .ok (.iinc 2 1, 3) := by decide +kernel
theorem dX9_highestOpen_34 : decode cX9_highestOpen 34 = .ok (.goto (-29), 3) := by decide +kernel
theorem dX9_highestOpen_37 : decode cX9_highestOpen 37 = .ok (.iload_n 1, 1) := by decide +kernel
theorem dX9_highestOpen_38 : decode cX9_highestOpen 38 = .ok (.ireturn, 1) := by decide +kernel
theorem dX9_atPlaceByTie_0 : decode cX9_atPlaceByTie 0 = .ok (.iconst 0, 1) := by decide +kernel
theorem dX9_atPlaceByTie_1 : decode cX9_atPlaceByTie 1 = .ok (.istore_n 2, 1) := by decide +kernel
theorem dX9_atPlaceByTie_2 : decode cX9_atPlaceByTie 2 = .ok (.iload_n 2, 1) := by decide +kernel
theorem dX9_atPlaceByTie_3 : decode cX9_atPlaceByTie 3 = .ok (.aload_n 0, 1) := by decide +kernel
theorem dX9_atPlaceByTie_4 : decode cX9_atPlaceByTie 4 = .ok (.getfield 30, 3) := by decide +kernel
theorem dX9_atPlaceByTie_7 : decode cX9_atPlaceByTie 7 = .ok (.if_icmp .ge 20, 3) := by decide +kernel
theorem dX9_atPlaceByTie_10 : decode cX9_atPlaceByTie 10 = .ok (.aload_n 0, 1) := by decide +kernel
theorem dX9_atPlaceByTie_11 : decode cX9_atPlaceByTie 11 = .ok (.iload_n 2, 1) := by decide +kernel
theorem dX9_atPlaceByTie_12 : decode cX9_atPlaceByTie 12 = .ok (.invokevirtual 70, 3) := by decide +kernel
theorem dX9_atPlaceByTie_15 : decode cX9_atPlaceByTie 15 = .ok (.iload_n 1, 1) := by decide +kernel
theorem dX9_atPlaceByTie_16 : decode cX9_atPlaceByTie 16 = .ok (.if_icmp .ne 5, 3) := by decide +kernel
theorem dX9_atPlaceByTie_19 : decode cX9_atPlaceByTie 19 = .ok (.iload_n 2, 1) := by decide +kernel
theorem dX9_atPlaceByTie_20 : decode cX9_atPlaceByTie 20 = .ok (.ireturn, 1) := by decide +kernel
theorem dX9_atPlaceByTie_21 : decode cX9_atPlaceByTie 21 = .ok (.iinc 2 1, 3) := by decide +kernel
theorem dX9_atPlaceByTie_24 : decode cX9_atPlaceByTie 24 = .ok (.goto (-22), 3) := by decide +kernel
theorem dX9_atPlaceByTie_27 : decode cX9_atPlaceByTie 27 = .ok (.iconst (-1), 1) := by decide +kernel
theorem dX9_atPlaceByTie_28 : decode cX9_atPlaceByTie 28 = .ok (.ireturn, 1) := by decide +kernel
theorem dX9_placeByTieOf_0 : decode cX9_placeByTieOf 0 = .ok (.iconst 0, 1) := by decide +kernel
theorem dX9_placeByTieOf_1 : decode cX9_placeByTieOf 1 = .ok (.istore_n 2, 1) := by decide +kernel
theorem dX9_placeByTieOf_2 : decode cX9_placeByTieOf 2 = .ok (.iconst 0, 1) := by decide +kernel
theorem dX9_placeByTieOf_3 : decode cX9_placeByTieOf 3 = .ok (.istore_n 3, 1) := by decide +kernel
theorem dX9_placeByTieOf_4 : decode cX9_placeByTieOf 4 = .ok (.iload_n 3, 1) := by decide +kernel
theorem dX9_placeByTieOf_5 : decode cX9_placeByTieOf 5 = .ok (.aload_n 0, 1) := by decide +kernel
theorem dX9_placeByTieOf_6 : decode cX9_placeByTieOf 6 = .ok (.getfield 30, 3) := by decide +kernel
theorem dX9_placeByTieOf_9 : decode cX9_placeByTieOf 9 = .ok (.if_icmp .ge 60, 3) := by decide +kernel
theorem dX9_placeByTieOf_12 : decode cX9_placeByTieOf 12 = .ok (.aload_n 0, 1) := by decide +kernel
theorem dX9_placeByTieOf_13 : decode cX9_placeByTieOf 13 = .ok (.iload_n 3, 1) := by decide +kernel
theorem dX9_placeByTieOf_14 : decode cX9_placeByTieOf 14 = .ok (.invokevirtual 54, 3) := by decide +kernel
theorem dX9_placeByTieOf_17 : decode cX9_placeByTieOf 17 = .ok (.aload_n 0, 1) := by decide +kernel
theorem dX9_placeByTieOf_18 : decode cX9_placeByTieOf 18 = .ok (.iload_n 1, 1) := by decide +kernel
theorem dX9_placeByTieOf_19 : decode cX9_placeByTieOf 19 = .ok (.invokevirtual 54, 3) := by decide +kernel
theorem dX9_placeByTieOf_22 : decode cX9_placeByTieOf 22 = .ok (.if_icmp .ne 12, 3) := by decide +kernel
theorem dX9_placeByTieOf_25 : decode cX9_placeByTieOf 25 = .ok (.iload_n 3, 1) := by decide +kernel
theorem dX9_placeByTieOf_26 : decode cX9_placeByTieOf 26 = .ok (.iload_n 1, 1) := by decide +kernel
theorem dX9_placeByTieOf_27 : decode cX9_placeByTieOf 27 = .ok (.if_icmp .le 7, 3) := by decide +kernel
theorem dX9_placeByTieOf_30 : decode cX9_placeByTieOf 30 = .ok (.iconst 1, 1) := by decide +kernel
theorem dX9_placeByTieOf_31 : decode cX9_placeByTieOf 31 = .ok (.goto 4, 3) := by decide +kernel
theorem dX9_placeByTieOf_34 : decode cX9_placeByTieOf 34 = .ok (.iconst 0, 1) := by decide +kernel
theorem dX9_placeByTieOf_35 : decode cX9_placeByTieOf 35 = .ok (.istore 4, 2) := by decide +kernel
theorem dX9_placeByTieOf_37 : decode cX9_placeByTieOf 37 = .ok (.iload_n 2, 1) := by decide +kernel
theorem dX9_placeByTieOf_38 : decode cX9_placeByTieOf 38 = .ok (.aload_n 0, 1) := by decide +kernel
theorem dX9_placeByTieOf_39 : decode cX9_placeByTieOf 39 = .ok (.iload_n 3, 1) := by decide +kernel
theorem dX9_placeByTieOf_40 : decode cX9_placeByTieOf 40 = .ok (.invokevirtual 54, 3) := by decide +kernel
theorem dX9_placeByTieOf_43 : decode cX9_placeByTieOf 43 = .ok (.aload_n 0, 1) := by decide +kernel
theorem dX9_placeByTieOf_44 : decode cX9_placeByTieOf 44 = .ok (.iload_n 1, 1) := by decide +kernel
theorem dX9_placeByTieOf_45 : decode cX9_placeByTieOf 45 = .ok (.invokevirtual 54, 3) := by decide +kernel
theorem dX9_placeByTieOf_48 : decode cX9_placeByTieOf 48 = .ok (.if_icmp .gt 8, 3) := by decide +kernel
theorem dX9_placeByTieOf_51 : decode cX9_placeByTieOf 51 = .ok (.iload 4, 2) := by decide +kernel
theorem dX9_placeByTieOf_53 : decode cX9_placeByTieOf 53 = .ok (.ifCond .eq 7, 3) := by decide +kernel
theorem dX9_placeByTieOf_56 : decode cX9_placeByTieOf 56 = .ok (.iconst 1, 1) := by decide +kernel
theorem dX9_placeByTieOf_57 : decode cX9_placeByTieOf 57 = .ok (.goto 4, 3) := by decide +kernel
theorem dX9_placeByTieOf_60 : decode cX9_placeByTieOf 60 = .ok (.iconst 0, 1) := by decide +kernel
theorem dX9_placeByTieOf_61 : decode cX9_placeByTieOf 61 = .ok (.iadd, 1) := by decide +kernel
theorem dX9_placeByTieOf_62 : decode cX9_placeByTieOf 62 = .ok (.istore_n 2, 1) := by decide +kernel
theorem dX9_placeByTieOf_63 : decode cX9_placeByTieOf 63 = .ok (.iinc 3 1, 3) := by decide +kernel
theorem dX9_placeByTieOf_66 : decode cX9_placeByTieOf 66 = .ok (.goto (-62), 3) := by decide +kernel
theorem dX9_placeByTieOf_69 : decode cX9_placeByTieOf 69 = .ok (.iload_n 2, 1) := by decide +kernel
theorem dX9_placeByTieOf_70 : decode cX9_placeByTieOf 70 = .ok (.ireturn, 1) := by decide +kernel
theorem dX9_add_0 : decode cX9_add 0 = .ok (.aload_n 0, 1) := by decide +kernel
theorem dX9_add_1 : decode cX9_add 1 = .ok (.getfield 9, 3) := by decide +kernel
theorem dX9_add_4 : decode cX9_add 4 = .ok (.aload_n 0, 1) := by decide +kernel
theorem dX9_add_5 : decode cX9_add 5 = .ok (.getfield 30, 3) := by decide +kernel
theorem dX9_add_8 : decode cX9_add 8 = .ok (.iload_n 1, 1) := by decide +kernel
theorem dX9_add_9 : decode cX9_add 9 = .ok (.invokestatic 73, 3) := by decide +kernel
theorem dX9_add_12 : decode cX9_add 12 = .ok (.aload_n 0, 1) := by decide +kernel
theorem dX9_add_13 : decode cX9_add 13 = .ok (.getfield 15, 3) := by decide +kernel
theorem dX9_add_16 : decode cX9_add 16 = .ok (.aload_n 0, 1) := by decide +kernel
theorem dX9_add_17 : decode cX9_add 17 = .ok (.getfield 30, 3) := by decide +kernel
theorem dX9_add_20 : decode cX9_add 20 = .ok (.iload_n 2, 1) := by decide +kernel
theorem dX9_add_21 : decode cX9_add 21 = .ok (.invokestatic 73, 3) := by decide +kernel
theorem dX9_add_24 : decode cX9_add 24 = .ok (.aload_n 0, 1) := by decide +kernel
theorem dX9_add_25 : decode cX9_add 25 = .ok (.getfield 21, 3) := by decide +kernel
theorem dX9_add_28 : decode cX9_add 28 = .ok (.aload_n 0, 1) := by decide +kernel
theorem dX9_add_29 : decode cX9_add 29 = .ok (.getfield 30, 3) := by decide +kernel
theorem dX9_add_32 : decode cX9_add 32 = .ok (.iload_n 3, 1) := by decide +kernel
theorem dX9_add_33 : decode cX9_add 33 = .ok (.invokestatic 73, 3) := by decide +kernel
theorem dX9_add_36 : decode cX9_add 36 = .ok (.aload_n 0, 1) := by decide +kernel
theorem dX9_add_37 : decode cX9_add 37 = .ok (.getfield 24, 3) := by decide +kernel
theorem dX9_add_40 : decode cX9_add 40 = .ok (.aload_n 0, 1) := by decide +kernel
theorem dX9_add_41 : decode cX9_add 41 = .ok (.getfield 30, 3) := by decide +kernel
theorem dX9_add_44 : decode cX9_add 44 = .ok (.iconst 0, 1) := by decide +kernel
theorem dX9_add_45 : decode cX9_add 45 = .ok (.invokestatic 73, 3) := by decide +kernel
theorem dX9_add_48 : decode cX9_add 48 = .ok (.aload_n 0, 1) := by decide +kernel
theorem dX9_add_49 : decode cX9_add 49 = .ok (.aload_n 0, 1) := by decide +kernel
theorem dX9_add_50 : decode cX9_add 50 = .ok (.getfield 30, 3) := by decide +kernel
theorem dX9_add_53 : decode cX9_add 53 = .ok (.invokevirtual 77, 3) := by decide +kernel
theorem dX9_add_56 : decode cX9_add 56 = .ok (.aload_n 0, 1) := by decide +kernel
theorem dX9_add_57 : decode cX9_add 57 = .ok (.dup, 1) := by decide +kernel
theorem dX9_add_58 : decode cX9_add 58 = .ok (.getfield 30, 3) := by decide +kernel
theorem dX9_add_61 : decode cX9_add 61 = .ok (.iconst 1, 1) := by decide +kernel
theorem dX9_add_62 : decode cX9_add 62 = .ok (.iadd, 1) := by decide +kernel
theorem dX9_add_63 : decode cX9_add 63 = .ok (.putfield 30, 3) := by decide +kernel
theorem dX9_add_66 : decode cX9_add 66 = .ok (.aload_n 0, 1) := by decide +kernel
theorem dX9_add_67 : decode cX9_add 67 = .ok (.getfield 30, 3) := by decide +kernel
theorem dX9_add_70 : decode cX9_add 70 = .ok (.iconst 1, 1) := by decide +kernel
theorem dX9_add_71 : decode cX9_add 71 = .ok (.isub, 1) := by decide +kernel
theorem dX9_add_72 : decode cX9_add 72 = .ok (.ireturn, 1) := by decide +kernel
theorem dX9_bind_0 : decode cX9_bind 0 = .ok (.aload_n 0, 1) := by decide +kernel
theorem dX9_bind_1 : decode cX9_bind 1 = .ok (.getfield 18, 3) := by decide +kernel
theorem dX9_bind_4 : decode cX9_bind 4 = .ok (.iload_n 1, 1) := by decide +kernel
theorem dX9_bind_5 : decode cX9_bind 5 = .ok (.iconst 0, 1) := by decide +kernel
theorem dX9_bind_6 : decode cX9_bind 6 = .ok (.invokestatic 73, 3) := by decide +kernel
theorem dX9_bind_9 : decode cX9_bind 9 = .ok (.aload_n 0, 1) := by decide +kernel
theorem dX9_bind_10 : decode cX9_bind 10 = .ok (.getfield 27, 3) := by decide +kernel
theorem dX9_bind_13 : decode cX9_bind 13 = .ok (.iload_n 1, 1) := by decide +kernel
theorem dX9_bind_14 : decode cX9_bind 14 = .ok (.bipush (-4), 2) := by decide +kernel
theorem dX9_bind_16 : decode cX9_bind 16 = .ok (.invokestatic 73, 3) := by decide +kernel
theorem dX9_bind_19 : decode cX9_bind 19 = .ok (.return_, 1) := by decide +kernel
theorem dX9_shut_0 : decode cX9_shut 0 = .ok (.aload_n 0, 1) := by decide +kernel
theorem dX9_shut_1 : decode cX9_shut 1 = .ok (.getfield 27, 3) := by decide +kernel
theorem dX9_shut_4 : decode cX9_shut 4 = .ok (.iload_n 1, 1) := by decide +kernel
theorem dX9_shut_5 : decode cX9_shut 5 = .ok (.iload_n 2, 1) := by decide +kernel
theorem dX9_shut_6 : decode cX9_shut 6 = .ok (.invokestatic 73, 3) := by decide +kernel
theorem dX9_shut_9 : decode cX9_shut 9 = .ok (.return_, 1) := by decide +kernel
theorem dX9_addLoads_0 : decode cX9_addLoads 0 = .ok (.aload_n 0, 1) := by decide +kernel
theorem dX9_addLoads_1 : decode cX9_addLoads 1 = .ok (.getfield 24, 3) := by decide +kernel
theorem dX9_addLoads_4 : decode cX9_addLoads 4 = .ok (.iload_n 1, 1) := by decide +kernel
theorem dX9_addLoads_5 : decode cX9_addLoads 5 = .ok (.aload_n 0, 1) := by decide +kernel
theorem dX9_addLoads_6 : decode cX9_addLoads 6 = .ok (.iload_n 1, 1) := by decide +kernel
theorem dX9_addLoads_7 : decode cX9_addLoads 7 = .ok (.invokevirtual 81, 3) := by decide +kernel
theorem dX9_addLoads_10 : decode cX9_addLoads 10 = .ok (.iload_n 2, 1) := by decide +kernel
theorem dX9_addLoads_11 : decode cX9_addLoads 11 = .ok (.iadd, 1) := by decide +kernel
theorem dX9_addLoads_12 : decode cX9_addLoads 12 = .ok (.invokestatic 73, 3) := by decide +kernel
theorem dX9_addLoads_15 : decode cX9_addLoads 15 = .ok (.return_, 1) := by decide +kernel
theorem dX9_workOff_0 : decode cX9_workOff 0 = .ok (.aload_n 0, 1) := by decide +kernel
theorem dX9_workOff_1 : decode cX9_workOff 1 = .ok (.getfield 21, 3) := by decide +kernel
theorem dX9_workOff_4 : decode cX9_workOff 4 = .ok (.iload_n 1, 1) := by decide +kernel
theorem dX9_workOff_5 : decode cX9_workOff 5 = .ok (.aload_n 0, 1) := by decide +kernel
theorem dX9_workOff_6 : decode cX9_workOff 6 = .ok (.getfield 21, 3) := by decide +kernel
theorem dX9_workOff_9 : decode cX9_workOff 9 = .ok (.iload_n 1, 1) := by decide +kernel
theorem dX9_workOff_10 : decode cX9_workOff 10 = .ok (.invokestatic 34, 3) := by decide +kernel
theorem dX9_workOff_13 : decode cX9_workOff 13 = .ok (.iload_n 2, 1) := by decide +kernel
theorem dX9_workOff_14 : decode cX9_workOff 14 = .ok (.isub, 1) := by decide +kernel
theorem dX9_workOff_15 : decode cX9_workOff 15 = .ok (.invokestatic 73, 3) := by decide +kernel
theorem dX9_workOff_18 : decode cX9_workOff 18 = .ok (.aload_n 0, 1) := by decide +kernel
theorem dX9_workOff_19 : decode cX9_workOff 19 = .ok (.getfield 24, 3) := by decide +kernel
theorem dX9_workOff_22 : decode cX9_workOff 22 = .ok (.iload_n 1, 1) := by decide +kernel
theorem dX9_workOff_23 : decode cX9_workOff 23 = .ok (.aload_n 0, 1) := by decide +kernel
theorem dX9_workOff_24 : decode cX9_workOff 24 = .ok (.getfield 24, 3) := by decide +kernel
theorem dX9_workOff_27 : decode cX9_workOff 27 = .ok (.iload_n 1, 1) := by decide +kernel
theorem dX9_workOff_28 : decode cX9_workOff 28 = .ok (.invokestatic 34, 3) := by decide +kernel
theorem dX9_workOff_31 : decode cX9_workOff 31 = .ok (.iconst 1, 1) := by decide +kernel
theorem dX9_workOff_32 : decode cX9_workOff 32 = .ok (.isub, 1) := by decide +kernel
theorem dX9_workOff_33 : decode cX9_workOff 33 = .ok (.invokestatic 73, 3) := by decide +kernel
theorem dX9_workOff_36 : decode cX9_workOff 36 = .ok (.return_, 1) := by decide +kernel
theorem dX9_makeTiesOlder_0 : decode cX9_makeTiesOlder 0 = .ok (.aload_n 0, 1) := by decide +kernel
theorem dX9_makeTiesOlder_1 : decode cX9_makeTiesOlder 1 = .ok (.getfield 18, 3) := by decide +kernel
theorem dX9_makeTiesOlder_4 : decode cX9_makeTiesOlder 4 = .ok (.aload_n 0, 1) := by decide +kernel
theorem dX9_makeTiesOlder_5 : decode cX9_makeTiesOlder 5 = .ok (.getfield 30, 3) := by decide +kernel
theorem dX9_makeTiesOlder_8 : decode cX9_makeTiesOlder 8 = .ok (.iload_n 1, 1) := by decide +kernel
theorem dX9_makeTiesOlder_9 : decode cX9_makeTiesOlder 9 = .ok (.bipush 99, 2) := by decide +kernel
theorem dX9_makeTiesOlder_11 : decode cX9_makeTiesOlder 11 = .ok (.invokestatic 84, 3) := by decide +kernel
theorem dX9_makeTiesOlder_14 : decode cX9_makeTiesOlder 14 = .ok (.return_, 1) := by decide +kernel
theorem dX9_makePolesOlder_0 : decode cX9_makePolesOlder 0 = .ok (.aload_n 0, 1) := by decide +kernel
theorem dX9_makePolesOlder_1 : decode cX9_makePolesOlder 1 = .ok (.getfield 15, 3) := by decide +kernel
theorem dX9_makePolesOlder_4 : decode cX9_makePolesOlder 4 = .ok (.aload_n 0, 1) := by decide +kernel
theorem dX9_makePolesOlder_5 : decode cX9_makePolesOlder 5 = .ok (.getfield 30, 3) := by decide +kernel
theorem dX9_makePolesOlder_8 : decode cX9_makePolesOlder 8 = .ok (.iconst 1, 1) := by decide +kernel
theorem dX9_makePolesOlder_9 : decode cX9_makePolesOlder 9 = .ok (.bipush 60, 2) := by decide +kernel
theorem dX9_makePolesOlder_11 : decode cX9_makePolesOlder 11 = .ok (.invokestatic 84, 3) := by decide +kernel
theorem dX9_makePolesOlder_14 : decode cX9_makePolesOlder 14 = .ok (.return_, 1) := by decide +kernel
theorem dX9_cutTo_0 : decode cX9_cutTo 0 = .ok (.aload_n 0, 1) := by decide +kernel
theorem dX9_cutTo_1 : decode cX9_cutTo 1 = .ok (.aload_n 0, 1) := by decide +kernel
theorem dX9_cutTo_2 : decode cX9_cutTo 2 = .ok (.getfield 30, 3) := by decide +kernel
theorem dX9_cutTo_5 : decode cX9_cutTo 5 = .ok (.iload_n 1, 1) := by decide +kernel
theorem dX9_cutTo_6 : decode cX9_cutTo 6 = .ok (.invokestatic 88, 3) := by decide +kernel
theorem dX9_cutTo_9 : decode cX9_cutTo 9 = .ok (.iconst 0, 1) := by decide +kernel
theorem dX9_cutTo_10 : decode cX9_cutTo 10 = .ok (.invokestatic 45, 3) := by decide +kernel
theorem dX9_cutTo_13 : decode cX9_cutTo 13 = .ok (.putfield 30, 3) := by decide +kernel
theorem dX9_cutTo_16 : decode cX9_cutTo 16 = .ok (.return_, 1) := by decide +kernel
theorem dX9_take_0 : decode cX9_take 0 = .ok (.aload_n 1, 1) := by decide +kernel
theorem dX9_take_1 : decode cX9_take 1 = .ok (.getfield 9, 3) := by decide +kernel
theorem dX9_take_4 : decode cX9_take 4 = .ok (.aload_n 0, 1) := by decide +kernel
theorem dX9_take_5 : decode cX9_take 5 = .ok (.getfield 9, 3) := by decide +kernel
theorem dX9_take_8 : decode cX9_take 8 = .ok (.invokestatic 91, 3) := by decide +kernel
theorem dX9_take_11 : decode cX9_take 11 = .ok (.aload_n 1, 1) := by decide +kernel
theorem dX9_take_12 : decode cX9_take 12 = .ok (.getfield 15, 3) := by decide +kernel
theorem dX9_take_15 : decode cX9_take 15 = .ok (.aload_n 0, 1) := by decide +kernel
theorem dX9_take_16 : decode cX9_take 16 = .ok (.getfield 15, 3) := by decide +kernel
theorem dX9_take_19 : decode cX9_take 19 = .ok (.invokestatic 91, 3) := by decide +kernel
theorem dX9_take_22 : decode cX9_take 22 = .ok (.aload_n 1, 1) := by decide +kernel
theorem dX9_take_23 : decode cX9_take 23 = .ok (.getfield 18, 3) := by decide +kernel
theorem dX9_take_26 : decode cX9_take 26 = .ok (.aload_n 0, 1) := by decide +kernel
theorem dX9_take_27 : decode cX9_take 27 = .ok (.getfield 18, 3) := by decide +kernel
theorem dX9_take_30 : decode cX9_take 30 = .ok (.invokestatic 91, 3) := by decide +kernel
theorem dX9_take_33 : decode cX9_take 33 = .ok (.aload_n 1, 1) := by decide +kernel
theorem dX9_take_34 : decode cX9_take 34 = .ok (.getfield 21, 3) := by decide +kernel
theorem dX9_take_37 : decode cX9_take 37 = .ok (.aload_n 0, 1) := by decide +kernel
theorem dX9_take_38 : decode cX9_take 38 = .ok (.getfield 21, 3) := by decide +kernel
theorem dX9_take_41 : decode cX9_take 41 = .ok (.invokestatic 91, 3) := by decide +kernel
theorem dX9_take_44 : decode cX9_take 44 = .ok (.aload_n 1, 1) := by decide +kernel
theorem dX9_take_45 : decode cX9_take 45 = .ok (.getfield 24, 3) := by decide +kernel
theorem dX9_take_48 : decode cX9_take 48 = .ok (.aload_n 0, 1) := by decide +kernel
theorem dX9_take_49 : decode cX9_take 49 = .ok (.getfield 24, 3) := by decide +kernel
theorem dX9_take_52 : decode cX9_take 52 = .ok (.invokestatic 91, 3) := by decide +kernel
theorem dX9_take_55 : decode cX9_take 55 = .ok (.aload_n 1, 1) := by decide +kernel
theorem dX9_take_56 : decode cX9_take 56 = .ok (.getfield 27, 3) := by decide +kernel
theorem dX9_take_59 : decode cX9_take 59 = .ok (.aload_n 0, 1) := by decide +kernel
theorem dX9_take_60 : decode cX9_take 60 = .ok (.getfield 27, 3) := by decide +kernel
theorem dX9_take_63 : decode cX9_take 63 = .ok (.invokestatic 91, 3) := by decide +kernel
theorem dX9_take_66 : decode cX9_take 66 = .ok (.aload_n 0, 1) := by decide +kernel
theorem dX9_take_67 : decode cX9_take 67 = .ok (.aload_n 1, 1) := by decide +kernel
theorem dX9_take_68 : decode cX9_take 68 = .ok (.getfield 30, 3) := by decide +kernel
theorem dX9_take_71 : decode cX9_take 71 = .ok (.putfield 30, 3) := by decide +kernel
theorem dX9_take_74 : decode cX9_take 74 = .ok (.return_, 1) := by decide +kernel
theorem dX10_init_0 : decode cX10_init 0 = .ok (.aload_n 0, 1) := by decide +kernel
theorem dX10_init_1 : decode cX10_init 1 = .ok (.invokespecial 1, 3) := by decide +kernel
theorem dX10_init_4 : decode cX10_init 4 = .ok (.aload_n 0, 1) := by decide +kernel
theorem dX10_init_5 : decode cX10_init 5 = .ok (.new 7, 3) := by decide +kernel
theorem dX10_init_8 : decode cX10_init 8 = .ok (.dup, 1) := by decide +kernel
theorem dX10_init_9 : decode cX10_init 9 = .ok (.invokespecial 9, 3) := by decide +kernel
theorem dX10_init_12 : decode cX10_init 12 = .ok (.putfield 10, 3) := by decide +kernel
theorem dX10_init_15 : decode cX10_init 15 = .ok (.aload_n 0, 1) := by decide +kernel
theorem dX10_init_16 : decode cX10_init 16 = .ok (.aload_n 0, 1) := by decide +kernel
theorem dX10_init_17 : decode cX10_init 17 = .ok (.getfield 10, 3) := by decide +kernel
theorem dX10_init_20 : decode cX10_init 20 = .ok (.getfield 16, 3) := by decide +kernel
theorem dX10_init_23 : decode cX10_init 23 = .ok (.putfield 20, 3) := by decide +kernel
theorem dX10_init_26 : decode cX10_init 26 = .ok (.aload_n 0, 1) := by decide +kernel
theorem dX10_init_27 : decode cX10_init 27 = .ok (.new 23, 3) := by decide +kernel
theorem dX10_init_30 : decode cX10_init 30 = .ok (.dup, 1) := by decide +kernel
theorem dX10_init_31 : decode cX10_init 31 = .ok (.invokespecial 25, 3) := by decide +kernel
theorem dX10_init_34 : decode cX10_init 34 = .ok (.putfield 26, 3) := by decide +kernel
theorem dX10_init_37 : decode cX10_init 37 = .ok (.aload_n 0, 1) := by decide +kernel
theorem dX10_init_38 : decode cX10_init 38 = .ok (.new 23, 3) := by decide +kernel
theorem dX10_init_41 : decode cX10_init 41 = .ok (.dup, 1) := by decide +kernel
theorem dX10_init_42 : decode cX10_init 42 = .ok (.invokespecial 25, 3) := by decide +kernel
theorem dX10_init_45 : decode cX10_init 45 = .ok (.putfield 29, 3) := by decide +kernel
theorem dX10_init_48 : decode cX10_init 48 = .ok (.aload_n 0, 1) := by decide +kernel
theorem dX10_init_49 : decode cX10_init 49 = .ok (.new 32, 3) := by decide +kernel
theorem dX10_init_52 : decode cX10_init 52 = .ok (.dup, 1) := by decide +kernel
theorem dX10_init_53 : decode cX10_init 53 = .ok (.invokespecial 34, 3) := by decide +kernel
theorem dX10_init_56 : decode cX10_init 56 = .ok (.putfield 35, 3) := by decide +kernel
theorem dX10_init_59 : decode cX10_init 59 = .ok (.aload_n 0, 1) := by decide +kernel
theorem dX10_init_60 : decode cX10_init 60 = .ok (.new 39, 3) := by decide +kernel
theorem dX10_init_63 : decode cX10_init 63 = .ok (.dup, 1) := by decide +kernel
theorem dX10_init_64 : decode cX10_init 64 = .ok (.bipush 60, 2) := by decide +kernel
theorem dX10_init_66 : decode cX10_init 66 = .ok (.invokespecial 41, 3) := by decide +kernel
theorem dX10_init_69 : decode cX10_init 69 = .ok (.putfield 44, 3) := by decide +kernel
theorem dX10_init_72 : decode cX10_init 72 = .ok (.aload_n 0, 1) := by decide +kernel
theorem dX10_init_73 : decode cX10_init 73 = .ok (.new 39, 3) := by decide +kernel
theorem dX10_init_76 : decode cX10_init 76 = .ok (.dup, 1) := by decide +kernel
theorem dX10_init_77 : decode cX10_init 77 = .ok (.sipush 200, 3) := by decide +kernel
theorem dX10_init_80 : decode cX10_init 80 = .ok (.invokespecial 41, 3) := by decide +kernel
theorem dX10_init_83 : decode cX10_init 83 = .ok (.putfield 48, 3) := by decide +kernel
theorem dX10_init_86 : decode cX10_init 86 = .ok (.aload_n 0, 1) := by decide +kernel
theorem dX10_init_87 : decode cX10_init 87 = .ok (.new 51, 3) := by decide +kernel
theorem dX10_init_90 : decode cX10_init 90 = .ok (.dup, 1) := by decide +kernel
theorem dX10_init_91 : decode cX10_init 91 = .ok (.invokespecial 53, 3) := by decide +kernel
theorem dX10_init_94 : decode cX10_init 94 = .ok (.putfield 54, 3) := by decide +kernel
theorem dX10_init_97 : decode cX10_init 97 = .ok (.aload_n 0, 1) := by decide +kernel
theorem dX10_init_98 : decode cX10_init 98 = .ok (.iconst 0, 1) := by decide +kernel
theorem dX10_init_99 : decode cX10_init 99 = .ok (.putfield 58, 3) := by decide +kernel
theorem dX10_init_102 : decode cX10_init 102 = .ok (.aload_n 0, 1) := by decide +kernel
theorem dX10_init_103 : decode cX10_init 103 = .ok (.bipush (-4), 2) := by decide +kernel
theorem dX10_init_105 : decode cX10_init 105 = .ok (.putfield 62, 3) := by decide +kernel
theorem dX10_init_108 : decode cX10_init 108 = .ok (.return_, 1) := by decide +kernel
theorem dX10_clear_0 : decode cX10_clear 0 = .ok (.aload_n 0, 1) := by decide +kernel
theorem dX10_clear_1 : decode cX10_clear 1 = .ok (.getfield 20, 3) := by decide +kernel
theorem dX10_clear_4 : decode cX10_clear 4 = .ok (.getfield 66, 3) := by decide +kernel
theorem dX10_clear_7 : decode cX10_clear 7 = .ok (.istore_n 1, 1) := by decide +kernel
theorem dX10_clear_8 : decode cX10_clear 8 = .ok (.aload_n 0, 1) := by decide +kernel
theorem dX10_clear_9 : decode cX10_clear 9 = .ok (.getfield 20, 3) := by decide +kernel
theorem dX10_clear_12 : decode cX10_clear 12 = .ok (.invokevirtual 69, 3) := by decide +kernel
theorem dX10_clear_15 : decode cX10_clear 15 = .ok (.aload_n 0, 1) := by decide +kernel
theorem dX10_clear_16 : decode cX10_clear 16 = .ok (.getfield 35, 3) := by decide +kernel
theorem dX10_clear_19 : decode cX10_clear 19 = .ok (.invokevirtual 72, 3) := by decide +kernel
theorem dX10_clear_22 : decode cX10_clear 22 = .ok (.iload_n 1, 1) := by decide +kernel
theorem dX10_clear_23 : decode cX10_clear 23 = .ok (.ireturn, 1) := by decide +kernel
theorem dX10_append_0 : decode cX10_append 0 = .ok (.iload_n 1, 1) := by decide +kernel
theorem dX10_append_1 : decode cX10_append 1 = .ok (.bipush 32, 2) := by decide +kernel
theorem dX10_append_3 : decode cX10_append 3 = .ok (.bipush 126, 2) := by decide +kernel
theorem dX10_append_5 : decode cX10_append 5 = .ok (.invokestatic 75, 3) := by decide +kernel
theorem dX10_append_8 : decode cX10_append 8 = .ok (.ifCond .eq 15, 3) := by decide +kernel
theorem dX10_append_11 : decode cX10_append 11 = .ok (.aload_n 0, 1) := by decide +kernel
theorem dX10_append_12 : decode cX10_append 12 = .ok (.getfield 44, 3) := by decide +kernel
theorem dX10_append_15 : decode cX10_append 15 = .ok (.getfield 79, 3) := by decide +kernel
theorem dX10_append_18 : decode cX10_append 18 = .ok (.bipush 60, 2) := by decide +kernel
theorem dX10_append_20 : decode cX10_append 20 = .ok (.if_icmp .lt 6, 3) := by decide +kernel
theorem dX10_append_23 : decode cX10_append 23 = .ok (.bipush (-2), 2) := by decide +kernel
theorem dX10_append_25 : decode cX10_append 25 = .ok (.ireturn, 1) := by decide +kernel
theorem dX10_append_26 : decode cX10_append 26 = .ok (.aload_n 0, 1) := by decide +kernel
theorem dX10_append_27 : decode cX10_append 27 = .ok (.getfield 44, 3) := by decide +kernel
theorem dX10_append_30 : decode cX10_append 30 = .ok (.iload_n 1, 1) := by decide +kernel
theorem dX10_append_31 : decode cX10_append 31 = .ok (.invokevirtual 82, 3) := by decide +kernel
theorem dX10_append_34 : decode cX10_append 34 = .ok (.aload_n 0, 1) := by decide +kernel
theorem dX10_append_35 : decode cX10_append 35 = .ok (.getfield 44, 3) := by decide +kernel
theorem dX10_append_38 : decode cX10_append 38 = .ok (.getfield 79, 3) := by decide +kernel
theorem dX10_append_41 : decode cX10_append 41 = .ok (.ireturn, 1) := by decide +kernel
theorem dX10_bundle_0 : decode cX10_bundle 0 = .ok (.aload_n 0, 1) := by decide +kernel
theorem dX10_bundle_1 : decode cX10_bundle 1 = .ok (.getfield 35, 3) := by decide +kernel
theorem dX10_bundle_4 : decode cX10_bundle 4 = .ok (.aload_n 0, 1) := by decide +kernel
theorem dX10_bundle_5 : decode cX10_bundle 5 = .ok (.getfield 20, 3) := by decide +kernel
theorem dX10_bundle_8 : decode cX10_bundle 8 = .ok (.invokevirtual 86, 3) := by decide +kernel
theorem dX10_bundle_11 : decode cX10_bundle 11 = .ok (.aload_n 0, 1) := by decide +kernel
theorem dX10_bundle_12 : decode cX10_bundle 12 = .ok (.aload_n 0, 1) := by decide +kernel
theorem dX10_bundle_13 : decode cX10_bundle 13 = .ok (.getfield 10, 3) := by decide +kernel
theorem dX10_bundle_16 : decode cX10_bundle 16 = .ok (.iload_n 1, 1) := by decide +kernel
theorem dX10_bundle_17 : decode cX10_bundle 17 = .ok (.iload_n 2, 1) := by decide +kernel
theorem dX10_bundle_18 : decode cX10_bundle 18 = .ok (.invokevirtual 90, 3) := by decide +kernel
theorem dX10_bundle_21 : decode cX10_bundle 21 = .ok (.invokevirtual 94, 3) := by decide +kernel
theorem dX10_bundle_24 : decode cX10_bundle 24 = .ok (.ireturn, 1) := by decide +kernel
theorem dX10_strips_0 : decode cX10_strips 0 = .ok (.aload_n 0, 1) := by decide +kernel
theorem dX10_strips_1 : decode cX10_strips 1 = .ok (.getfield 35, 3) := by decide +kernel
theorem dX10_strips_4 : decode cX10_strips 4 = .ok (.aload_n 0, 1) := by decide +kernel
theorem dX10_strips_5 : decode cX10_strips 5 = .ok (.getfield 20, 3) := by decide +kernel
theorem dX10_strips_8 : decode cX10_strips 8 = .ok (.invokevirtual 86, 3) := by decide +kernel
theorem dX10_strips_11 : decode cX10_strips 11 = .ok (.aload_n 0, 1) := by decide +kernel
theorem dX10_strips_12 : decode cX10_strips 12 = .ok (.aload_n 0, 1) := by decide +kernel
theorem dX10_strips_13 : decode cX10_strips 13 = .ok (.getfield 10, 3) := by decide +kernel
theorem dX10_strips_16 : decode cX10_strips 16 = .ok (.iload_n 1, 1) := by decide +kernel
theorem dX10_strips_17 : decode cX10_strips 17 = .ok (.invokevirtual 98, 3) := by decide +kernel
theorem dX10_strips_20 : decode cX10_strips 20 = .ok (.invokevirtual 94, 3) := by decide +kernel
theorem dX10_strips_23 : decode cX10_strips 23 = .ok (.ireturn, 1) := by decide +kernel
theorem dX10_build_0 : decode cX10_build 0 = .ok (.aload_n 0, 1) := by decide +kernel
theorem dX10_build_1 : decode cX10_build 1 = .ok (.getfield 35, 3) := by decide +kernel
theorem dX10_build_4 : decode cX10_build 4 = .ok (.aload_n 0, 1) := by decide +kernel
theorem dX10_build_5 : decode cX10_build 5 = .ok (.getfield 20, 3) := by decide +kernel
theorem dX10_build_8 : decode cX10_build 8 = .ok (.invokevirtual 86, 3) := by decide +kernel
theorem dX10_build_11 : decode cX10_build 11 = .ok (.aload_n 0, 1) := by decide +kernel
theorem dX10_build_12 : decode cX10_build 12 = .ok (.aload_n 0, 1) := by decide +kernel
theorem dX10_build_13 : decode cX10_build 13 = .ok (.getfield 10, 3) := by decide +kernel
theorem dX10_build_16 : decode cX10_build 16 = .ok (.iload_n 1, 1) := by decide +kernel
theorem dX10_build_17 : decode cX10_build 17 = .ok (.iload_n 2, 1) := by decide +kernel
theorem dX10_build_18 : decode cX10_build 18 = .ok (.iload_n 3, 1) := by decide +kernel
theorem dX10_build_19 : decode cX10_build 19 = .ok (.invokevirtual 101, 3) := by decide +kernel
theorem dX10_build_22 : decode cX10_build 22 = .ok (.invokevirtual 94, 3) := by decide +kernel
theorem dX10_build_25 : decode cX10_build 25 = .ok (.ireturn, 1) := by decide +kernel
theorem dX10_tie_0 : decode cX10_tie 0 = .ok (.aload_n 0, 1) := by decide +kernel
theorem dX10_tie_1 : decode cX10_tie 1 = .ok (.getfield 35, 3) := by decide +kernel
theorem dX10_tie_4 : decode cX10_tie 4 = .ok (.aload_n 0, 1) := by decide +kernel
theorem dX10_tie_5 : decode cX10_tie 5 = .ok (.getfield 20, 3) := by decide +kernel
theorem dX10_tie_8 : decode cX10_tie 8 = .ok (.invokevirtual 86, 3) := by decide +kernel
theorem dX10_tie_11 : decode cX10_tie 11 = .ok (.aload_n 0, 1) := by decide +kernel
theorem dX10_tie_12 : decode cX10_tie 12 = .ok (.aload_n 0, 1) := by decide +kernel
theorem dX10_tie_13 : decode cX10_tie 13 = .ok (.getfield 10, 3) := by decide +kernel
theorem dX10_tie_16 : decode cX10_tie 16 = .ok (.iload_n 1, 1) := by decide +kernel
theorem dX10_tie_17 : decode cX10_tie 17 = .ok (.invokevirtual 105, 3) := by decide +kernel
theorem dX10_tie_20 : decode cX10_tie 20 = .ok (.invokevirtual 94, 3) := by decide +kernel
theorem dX10_tie_23 : decode cX10_tie 23 = .ok (.ireturn, 1) := by decide +kernel
theorem dX10_crew_0 : decode cX10_crew 0 = .ok (.aload_n 0, 1) := by decide +kernel
theorem dX10_crew_1 : decode cX10_crew 1 = .ok (.getfield 35, 3) := by decide +kernel
theorem dX10_crew_4 : decode cX10_crew 4 = .ok (.aload_n 0, 1) := by decide +kernel
theorem dX10_crew_5 : decode cX10_crew 5 = .ok (.getfield 20, 3) := by decide +kernel
theorem dX10_crew_8 : decode cX10_crew 8 = .ok (.invokevirtual 86, 3) := by decide +kernel
theorem dX10_crew_11 : decode cX10_crew 11 = .ok (.aload_n 0, 1) := by decide +kernel
theorem dX10_crew_12 : decode cX10_crew 12 = .ok (.aload_n 0, 1) := by decide +kernel
theorem dX10_crew_13 : decode cX10_crew 13 = .ok (.getfield 10, 3) := by decide +kernel
theorem dX10_crew_16 : decode cX10_crew 16 = .ok (.iload_n 1, 1) := by decide +kernel
theorem dX10_crew_17 : decode cX10_crew 17 = .ok (.invokevirtual 108, 3) := by decide +kernel
theorem dX10_crew_20 : decode cX10_crew 20 = .ok (.invokevirtual 94, 3) := by decide +kernel
theorem dX10_crew_23 : decode cX10_crew 23 = .ok (.ireturn, 1) := by decide +kernel
theorem dX10_up_0 : decode cX10_up 0 = .ok (.aload_n 0, 1) := by decide +kernel
theorem dX10_up_1 : decode cX10_up 1 = .ok (.getfield 35, 3) := by decide +kernel
theorem dX10_up_4 : decode cX10_up 4 = .ok (.aload_n 0, 1) := by decide +kernel
theorem dX10_up_5 : decode cX10_up 5 = .ok (.getfield 20, 3) := by decide +kernel
theorem dX10_up_8 : decode cX10_up 8 = .ok (.invokevirtual 86, 3) := by decide +kernel
theorem dX10_up_11 : decode cX10_up 11 = .ok (.aload_n 0, 1) := by decide +kernel
theorem dX10_up_12 : decode cX10_up 12 = .ok (.aload_n 0, 1) := by decide +kernel
theorem dX10_up_13 : decode cX10_up 13 = .ok (.getfield 10, 3) := by decide +kernel
theorem dX10_up_16 : decode cX10_up 16 = .ok (.iload_n 1, 1) := by decide +kernel
theorem dX10_up_17 : decode cX10_up 17 = .ok (.iload_n 2, 1) := by decide +kernel
theorem dX10_up_18 : decode cX10_up 18 = .ok (.invokevirtual 111, 3) := by decide +kernel
theorem dX10_up_21 : decode cX10_up 21 = .ok (.invokevirtual 94, 3) := by decide +kernel
theorem dX10_up_24 : decode cX10_up 24 = .ok (.ireturn, 1) := by decide +kernel
theorem dX10_down_0 : decode cX10_down 0 = .ok (.aload_n 0, 1) := by decide +kernel
theorem dX10_down_1 : decode cX10_down 1 = .ok (.getfield 35, 3) := by decide +kernel
theorem dX10_down_4 : decode cX10_down 4 = .ok (.aload_n 0, 1) := by decide +kernel
theorem dX10_down_5 : decode cX10_down 5 = .ok (.getfield 20, 3) := by decide +kernel
theorem dX10_down_8 : decode cX10_down 8 = .ok (.invokevirtual 86, 3) := by decide +kernel
theorem dX10_down_11 : decode cX10_down 11 = .ok (.aload_n 0, 1) := by decide +kernel
theorem dX10_down_12 : decode cX10_down 12 = .ok (.aload_n 0, 1) := by decide +kernel
theorem dX10_down_13 : decode cX10_down 13 = .ok (.getfield 10, 3) := by decide +kernel
theorem dX10_down_16 : decode cX10_down 16 = .ok (.iload_n 1, 1) := by decide +kernel
theorem dX10_down_17 : decode cX10_down 17 = .ok (.invokevirtual 114, 3) := by decide +kernel
theorem dX10_down_20 : decode cX10_down 20 = .ok (.invokevirtual 94, 3) := by decide +kernel
theorem dX10_down_23 : decode cX10_down 23 = .ok (.ireturn, 1) := by decide +kernel
theorem dX10_lift_0 : decode cX10_lift 0 = .ok (.aload_n 0, 1) := by decide +kernel
theorem dX10_lift_1 : decode cX10_lift 1 = .ok (.getfield 35, 3) := by decide +kernel
theorem dX10_lift_4 : decode cX10_lift 4 = .ok (.aload_n 0, 1) := by decide +kernel
theorem dX10_lift_5 : decode cX10_lift 5 = .ok (.getfield 20, 3) := by decide +kernel
theorem dX10_lift_8 : decode cX10_lift 8 = .ok (.invokevirtual 86, 3) := by decide +kernel
theorem dX10_lift_11 : decode cX10_lift 11 = .ok (.aload_n 0, 1) := by decide +kernel
theorem dX10_lift_12 : decode cX10_lift 12 = .ok (.aload_n 0, 1) := by decide +kernel
theorem dX10_lift_13 : decode cX10_lift 13 = .ok (.getfield 10, 3) := by decide +kernel
theorem dX10_lift_16 : decode cX10_lift 16 = .ok (.iload_n 1, 1) := by decide +kernel
theorem dX10_lift_17 : decode cX10_lift 17 = .ok (.iload_n 2, 1) := by decide +kernel
theorem dX10_lift_18 : decode cX10_lift 18 = .ok (.invokevirtual 117, 3) := by decide +kernel
theorem dX10_lift_21 : decode cX10_lift 21 = .ok (.invokevirtual 94, 3) := by decide +kernel
theorem dX10_lift_24 : decode cX10_lift 24 = .ok (.ireturn, 1) := by decide +kernel
theorem dX10_signal_0 : decode cX10_signal 0 = .ok (.aload_n 0, 1) := by decide +kernel
theorem dX10_signal_1 : decode cX10_signal 1 = .ok (.getfield 35, 3) := by decide +kernel
theorem dX10_signal_4 : decode cX10_signal 4 = .ok (.aload_n 0, 1) := by decide +kernel
theorem dX10_signal_5 : decode cX10_signal 5 = .ok (.getfield 20, 3) := by decide +kernel
theorem dX10_signal_8 : decode cX10_signal 8 = .ok (.invokevirtual 86, 3) := by decide +kernel
theorem dX10_signal_11 : decode cX10_signal 11 = .ok (.aload_n 0, 1) := by decide +kernel
theorem dX10_signal_12 : decode cX10_signal 12 = .ok (.aload_n 0, 1) := by decide +kernel
theorem dX10_signal_13 : decode cX10_signal 13 = .ok (.getfield 10, 3) := by decide +kernel
theorem dX10_signal_16 : decode cX10_signal 16 = .ok (.iload_n 1, 1) := by decide +kernel
theorem dX10_signal_17 : decode cX10_signal 17 = .ok (.invokevirtual 120, 3) := by decide +kernel
theorem dX10_signal_20 : decode cX10_signal 20 = .ok (.invokevirtual 94, 3) := by decide +kernel
theorem dX10_signal_23 : decode cX10_signal 23 = .ok (.ireturn, 1) := by decide +kernel
theorem dX10_inspector_0 : decode cX10_inspector 0 = .ok (.aload_n 0, 1) := by decide +kernel
theorem dX10_inspector_1 : decode cX10_inspector 1 = .ok (.getfield 35, 3) := by decide +kernel
theorem dX10_inspector_4 : decode cX10_inspector 4 = .ok (.aload_n 0, 1) := by decide +kernel
theorem dX10_inspector_5 : decode cX10_inspector 5 = .ok (.getfield 20, 3) := by decide +kernel
theorem dX10_inspector_8 : decode cX10_inspector 8 = .ok (.invokevirtual 86, 3) := by decide +kernel
theorem dX10_inspector_11 : decode cX10_inspector 11 = .ok (.aload_n 0, 1) := by decide +kernel
theorem dX10_inspector_12 : decode cX10_inspector 12 = .ok (.aload_n 0, 1) := by decide +kernel
theorem dX10_inspector_13 : decode cX10_inspector 13 = .ok (.getfield 10, 3) := by decide +kernel
theorem dX10_inspector_16 : decode cX10_inspector 16 = .ok (.iload_n 1, 1) := by decide +kernel
theorem dX10_inspector_17 : decode cX10_inspector 17 = .ok (.invokevirtual 123, 3) := by decide +kernel
theorem dX10_inspector_20 : decode cX10_inspector 20 = .ok (.invokevirtual 94, 3) := by decide +kernel
theorem dX10_inspector_23 : decode cX10_inspector 23 = .ok (.ireturn, 1) := by decide +kernel
theorem dX10_inspect_0 : decode cX10_inspect 0 = .ok (.aload_n 0, 1) := by decide +kernel
theorem dX10_inspect_1 : decode cX10_inspect 1 = .ok (.getfield 35, 3) := by decide +kernel
theorem dX10_inspect_4 : decode cX10_inspect 4 = .ok (.aload_n 0, 1) := by decide +kernel
theorem dX10_inspect_5 : decode cX10_inspect 5 = .ok (.getfield 20, 3) := by decide +kernel
theorem dX10_inspect_8 : decode cX10_inspect 8 = .ok (.invokevirtual 86, 3) := by decide +kernel
theorem dX10_inspect_11 : decode cX10_inspect 11 = .ok (.aload_n 0, 1) := by decide +kernel
theorem dX10_inspect_12 : decode cX10_inspect 12 = .ok (.aload_n 0, 1) := by decide +kernel
theorem dX10_inspect_13 : decode cX10_inspect 13 = .ok (.getfield 10, 3) := by decide +kernel
theorem dX10_inspect_16 : decode cX10_inspect 16 = .ok (.iload_n 1, 1) := by decide +kernel
theorem dX10_inspect_17 : decode cX10_inspect 17 = .ok (.iload_n 2, 1) := by decide +kernel
theorem dX10_inspect_18 : decode cX10_inspect 18 = .ok (.invokevirtual 126, 3) := by decide +kernel
theorem dX10_inspect_21 : decode cX10_inspect 21 = .ok (.invokevirtual 94, 3) := by decide +kernel
theorem dX10_inspect_24 : decode cX10_inspect 24 = .ok (.ireturn, 1) := by decide +kernel
theorem dX10_day_0 : decode cX10_day 0 = .ok (.aload_n 0, 1) := by decide +kernel
theorem dX10_day_1 : decode cX10_day 1 = .ok (.getfield 35, 3) := by decide +kernel
theorem dX10_day_4 : decode cX10_day 4 = .ok (.aload_n 0, 1) := by decide +kernel
theorem dX10_day_5 : decode cX10_day 5 = .ok (.getfield 20, 3) := by decide +kernel
theorem dX10_day_8 : decode cX10_day 8 = .ok (.invokevirtual 86, 3) := by decide +kernel
theorem dX10_day_11 : decode cX10_day 11 = .ok (.aload_n 0, 1) := by decide +kernel
theorem dX10_day_12 : decode cX10_day 12 = .ok (.aload_n 0, 1) := by decide +kernel
theorem dX10_day_13 : decode cX10_day 13 = .ok (.getfield 10, 3) := by decide +kernel
theorem dX10_day_16 : decode cX10_day 16 = .ok (.iload_n 1, 1) := by decide +kernel
theorem dX10_day_17 : decode cX10_day 17 = .ok (.invokevirtual 129, 3) := by decide +kernel
theorem dX10_day_20 : decode cX10_day 20 = .ok (.invokevirtual 94, 3) := by decide +kernel
theorem dX10_day_23 : decode cX10_day 23 = .ok (.ireturn, 1) := by decide +kernel
theorem dX10_script_0 : decode cX10_script 0 = .ok (.aload_n 0, 1) := by decide +kernel
theorem dX10_script_1 : decode cX10_script 1 = .ok (.getfield 54, 3) := by decide +kernel
theorem dX10_script_4 : decode cX10_script 4 = .ok (.aload_n 0, 1) := by decide +kernel
theorem dX10_script_5 : decode cX10_script 5 = .ok (.getfield 44, 3) := by decide +kernel
theorem dX10_script_8 : decode cX10_script 8 = .ok (.invokevirtual 132, 3) := by decide +kernel
theorem dX10_script_11 : decode cX10_script 11 = .ok (.istore_n 1, 1) := by decide +kernel
theorem dX10_script_12 : decode cX10_script 12 = .ok (.aload_n 0, 1) := by decide +kernel
theorem dX10_script_13 : decode cX10_script 13 = .ok (.getfield 44, 3) := by decide +kernel
theorem dX10_script_16 : decode cX10_script 16 = .ok (.invokevirtual 136, 3) := by decide +kernel
theorem dX10_script_19 : decode cX10_script 19 = .ok (.iload_n 1, 1) := by decide +kernel
theorem dX10_script_20 : decode cX10_script 20 = .ok (.bipush (-4), 2) := by decide +kernel
theorem dX10_script_22 : decode cX10_script 22 = .ok (.if_icmp .eq 11, 3) := by decide +kernel
theorem dX10_script_25 : decode cX10_script 25 = .ok (.aload_n 0, 1) := by decide +kernel
theorem dX10_script_26 : decode cX10_script 26 = .ok (.iload_n 1, 1) := by decide +kernel
theorem dX10_script_27 : decode cX10_script 27 = .ok (.putfield 62, 3) := by decide +kernel
theorem dX10_script_30 : decode cX10_script 30 = .ok (.bipush (-2), 2) := by decide +kernel
theorem dX10_script_32 : decode cX10_script 32 = .ok (.ireturn, 1) := by decide +kernel
theorem dX10_script_33 : decode cX10_script 33 = .ok (.aload_n 0, 1) := by decide +kernel
theorem dX10_script_34 : decode cX10_script 34 = .ok (.getfield 35, 3) := by decide +kernel
theorem dX10_script_37 : decode cX10_script 37 = .ok (.aload_n 0, 1) := by decide +kernel
theorem dX10_script_38 : decode cX10_script 38 = .ok (.getfield 20, 3) := by decide +kernel
theorem dX10_script_41 : decode cX10_script 41 = .ok (.invokevirtual 86, 3) := by decide +kernel
theorem dX10_script_44 : decode cX10_script 44 = .ok (.iconst 0, 1) := by decide +kernel
theorem dX10_script_45 : decode cX10_script 45 = .ok (.istore_n 2, 1) := by decide +kernel
theorem dX10_script_46 : decode cX10_script 46 = .ok (.iload_n 2, 1) := by decide +kernel
theorem dX10_script_47 : decode cX10_script 47 = .ok (.aload_n 0, 1) := by decide +kernel
theorem dX10_script_48 : decode cX10_script 48 = .ok (.getfield 54, 3) := by decide +kernel
theorem dX10_script_51 : decode cX10_script 51 = .ok (.getfield 139, 3) := by decide +kernel
theorem dX10_script_54 : decode cX10_script 54 = .ok (.if_icmp .ge 56, 3) := by decide +kernel
theorem dX10_script_57 : decode cX10_script 57 = .ok (.aload_n 0, 1) := by decide +kernel
theorem dX10_script_58 : decode cX10_script 58 = .ok (.iload_n 2, 1) := by decide +kernel
theorem dX10_script_59 : decode cX10_script 59 = .ok (.invokevirtual 142, 3) := by decide +kernel
theorem dX10_script_62 : decode cX10_script 62 = .ok (.istore_n 3, 1) := by decide +kernel
theorem dX10_script_63 : decode cX10_script 63 = .ok (.iload_n 3, 1) := by decide +kernel
theorem dX10_script_64 : decode cX10_script 64 = .ok (.ifCond .ge 40, 3) := by decide +kernel
theorem dX10_script_67 : decode cX10_script 67 = .ok (.aload_n 0, 1) := by decide +kernel
theorem dX10_script_68 : decode cX10_script 68 = .ok (.getfield 20, 3) := by decide +kernel
theorem dX10_script_71 : decode cX10_script 71 = .ok (.aload_n 0, 1) := by decide +kernel
theorem dX10_script_72 : decode cX10_script 72 = .ok (.getfield 35, 3) := by decide +kernel
theorem dX10_script_75 : decode cX10_script 75 = .ok (.invokevirtual 145, 3) := by decide +kernel
theorem dX10_script_78 : decode cX10_script 78 = .ok (.invokevirtual 149, 3) := by decide +kernel
theorem dX10_script_81 : decode cX10_script 81 = .ok (.aload_n 0, 1) := by decide +kernel
theorem dX10_script_82 : decode cX10_script 82 = .ok (.getfield 10, 3) := by decide +kernel
theorem dX10_script_85 : decode cX10_script 85 = .ok (.getfield 152, 3) := by decide +kernel
theorem dX10_script_88 : decode cX10_script 88 = .ok (.iload_n 2, 1) := by decide +kernel
theorem dX10_script_89 : decode cX10_script 89 = .ok (.iload_n 3, 1) := by decide +kernel
theorem dX10_script_90 : decode cX10_script 90 = .ok (.bipush (-3), 2) := by decide +kernel
theorem dX10_script_92 : decode cX10_script 92 = .ok (.if_icmp .ne 7, 3) := by decide +kernel
theorem dX10_script_95 : decode cX10_script 95 = .ok (.iconst 1, 1) := by decide +kernel
theorem dX10_script_96 : decode cX10_script 96 = .ok (.goto 4, 3) := by decide +kernel
theorem dX10_script_99 : decode cX10_script 99 = .ok (.iconst 0, 1) := by decide +kernel
theorem dX10_script_100 : decode cX10_script 100 = .ok (.invokevirtual 156, 3) := by decide +kernel
theorem dX10_script_103 : decode cX10_script 103 = .ok (.ireturn, 1) := by decide +kernel
theorem dX10_script_104 : decode cX10_script 104 = .ok (.iinc 2 1, 3) := by decide +kernel
theorem dX10_script_107 : decode cX10_script 107 = .ok (.goto (-61), 3) := by decide +kernel
theorem dX10_script_110 : decode cX10_script 110 = .ok (.aload_n 0, 1) := by decide +kernel
theorem dX10_script_111 : decode cX10_script 111 = .ok (.aload_n 0, 1) := by decide +kernel
theorem dX10_script_112 : decode cX10_script 112 = .ok (.getfield 54, 3) := by decide +kernel
theorem dX10_script_115 : decode cX10_script 115 = .ok (.getfield 139, 3) := by decide +kernel
theorem dX10_script_118 : decode cX10_script 118 = .ok (.invokevirtual 94, 3) := by decide +kernel
theorem dX10_script_121 : decode cX10_script 121 = .ok (.ireturn, 1) := by decide +kernel
theorem dX10_fault_0 : decode cX10_fault 0 = .ok (.aload_n 0, 1) := by decide +kernel
theorem dX10_fault_1 : decode cX10_fault 1 = .ok (.getfield 62, 3) := by decide +kernel
theorem dX10_fault_4 : decode cX10_fault 4 = .ok (.ireturn, 1) := by decide +kernel
theorem dX10_reason_0 : decode cX10_reason 0 = .ok (.aload_n 0, 1) := by decide +kernel
theorem dX10_reason_1 : decode cX10_reason 1 = .ok (.getfield 10, 3) := by decide +kernel
theorem dX10_reason_4 : decode cX10_reason 4 = .ok (.getfield 152, 3) := by decide +kernel
theorem dX10_reason_7 : decode cX10_reason 7 = .ok (.iload_n 1, 1) := by decide +kernel
theorem dX10_reason_8 : decode cX10_reason 8 = .ok (.iload_n 2, 1) := by decide +kernel
theorem dX10_reason_9 : decode cX10_reason 9 = .ok (.invokevirtual 162, 3) := by decide +kernel
theorem dX10_reason_12 : decode cX10_reason 12 = .ok (.ireturn, 1) := by decide +kernel
theorem dX10_bundleOf_0 : decode cX10_bundleOf 0 = .ok (.aload_n 0, 1) := by decide +kernel
theorem dX10_bundleOf_1 : decode cX10_bundleOf 1 = .ok (.getfield 20, 3) := by decide +kernel
theorem dX10_bundleOf_4 : decode cX10_bundleOf 4 = .ok (.getfield 165, 3) := by decide +kernel
theorem dX10_bundleOf_7 : decode cX10_bundleOf 7 = .ok (.iload_n 1, 1) := by decide +kernel
theorem dX10_bundleOf_8 : decode cX10_bundleOf 8 = .ok (.invokevirtual 169, 3) := by decide +kernel
theorem dX10_bundleOf_11 : decode cX10_bundleOf 11 = .ok (.ifCond .ne 5, 3) := by decide +kernel
theorem dX10_bundleOf_14 : decode cX10_bundleOf 14 = .ok (.iconst (-1), 1) := by decide +kernel
theorem dX10_bundleOf_15 : decode cX10_bundleOf 15 = .ok (.ireturn, 1) := by decide +kernel
theorem dX10_bundleOf_16 : decode cX10_bundleOf 16 = .ok (.iload_n 2, 1) := by decide +kernel
theorem dX10_bundleOf_17 : decode cX10_bundleOf 17 = .ok (.ifCond .eq 17, 3) := by decide +kernel
theorem dX10_bundleOf_20 : decode cX10_bundleOf 20 = .ok (.aload_n 0, 1) := by decide +kernel
theorem dX10_bundleOf_21 : decode cX10_bundleOf 21 = .ok (.getfield 20, 3) := by decide +kernel
theorem dX10_bundleOf_24 : decode cX10_bundleOf 24 = .ok (.getfield 165, 3) := by decide +kernel
theorem dX10_bundleOf_27 : decode cX10_bundleOf 27 = .ok (.iload_n 1, 1) := by decide +kernel
theorem dX10_bundleOf_28 : decode cX10_bundleOf 28 = .ok (.invokevirtual 175, 3) := by decide +kernel
theorem dX10_bundleOf_31 : decode cX10_bundleOf 31 = .ok (.goto 14, 3) := by decide +kernel
theorem dX10_bundleOf_34 : decode cX10_bundleOf 34 = .ok (.aload_n 0, 1) := by decide +kernel
theorem dX10_bundleOf_35 : decode cX10_bundleOf 35 = .ok (.getfield 20, 3) := by decide +kernel
theorem dX10_bundleOf_38 : decode cX10_bundleOf 38 = .ok (.getfield 165, 3) := by decide +kernel
theorem dX10_bundleOf_41 : decode cX10_bundleOf 41 = .ok (.iload_n 1, 1) := by decide +kernel
theorem dX10_bundleOf_42 : decode cX10_bundleOf 42 = .ok (.invokevirtual 178, 3) := by decide +kernel
theorem dX10_bundleOf_45 : decode cX10_bundleOf 45 = .ok (.ireturn, 1) := by decide +kernel
theorem dX10_storeyOf_0 : decode cX10_storeyOf 0 = .ok (.aload_n 0, 1) := by decide +kernel
theorem dX10_storeyOf_1 : decode cX10_storeyOf 1 = .ok (.getfield 20, 3) := by decide +kernel
theorem dX10_storeyOf_4 : decode cX10_storeyOf 4 = .ok (.getfield 181, 3) := by decide +kernel
theorem dX10_storeyOf_7 : decode cX10_storeyOf 7 = .ok (.astore_n 3, 1) := by decide +kernel
theorem dX10_storeyOf_8 : decode cX10_storeyOf 8 = .ok (.aload_n 3, 1) := by decide +kernel
theorem dX10_storeyOf_9 : decode cX10_storeyOf 9 = .ok (.iload_n 1, 1) := by decide +kernel
theorem dX10_storeyOf_10 : decode cX10_storeyOf 10 = .ok (.invokevirtual 185, 3) := by decide +kernel
theorem dX10_storeyOf_13 : decode cX10_storeyOf 13 = .ok (.ifCond .ne 5, 3) := by decide +kernel
theorem dX10_storeyOf_16 : decode cX10_storeyOf 16 = .ok (.iconst (-1), 1) := by decide +kernel
theorem dX10_storeyOf_17 : decode cX10_storeyOf 17 = .ok (.ireturn, 1) := by decide +kernel
theorem dX10_storeyOf_18 : decode cX10_storeyOf 18 = .ok (.iload_n 2, 1) := by decide +kernel
theorem dX10_storeyOf_19 : decode cX10_storeyOf 19 = .ok (.tableswitch 97 0 6 #[41, 47, 53, 59, 65, 71, 85], 41) := by decide +kernel
theorem dX10_storeyOf_60 : decode cX10_storeyOf 60 = .ok (.aload_n 3, 1) := by decide +kernel
theorem dX10_storeyOf_61 : decode cX10_storeyOf 61 = .ok (.iload_n 1, 1) := by decide +kernel
theorem dX10_storeyOf_62 : decode cX10_storeyOf 62 = .ok (.invokevirtual 188, 3) := by decide +kernel
theorem dX10_storeyOf_65 : decode cX10_storeyOf 65 = .ok (.ireturn, 1) := by decide +kernel
theorem dX10_storeyOf_66 : decode cX10_storeyOf 66 = .ok (.aload_n 3, 1) := by decide +kernel
theorem dX10_storeyOf_67 : decode cX10_storeyOf 67 = .ok (.iload_n 1, 1) := by decide +kernel
theorem dX10_storeyOf_68 : decode cX10_storeyOf 68 = .ok (.invokevirtual 189, 3) := by decide +kernel
theorem dX10_storeyOf_71 : decode cX10_storeyOf 71 = .ok (.ireturn, 1) := by decide +kernel
theorem dX10_storeyOf_72 : decode cX10_storeyOf 72 = .ok (.aload_n 3, 1) := by decide +kernel
theorem dX10_storeyOf_73 : decode cX10_storeyOf 73 = .ok (.iload_n 1, 1) := by decide +kernel
theorem dX10_storeyOf_74 : decode cX10_storeyOf 74 = .ok (.invokevirtual 190, 3) := by decide +kernel
theorem dX10_storeyOf_77 : decode cX10_storeyOf 77 = .ok (.ireturn, 1) := by decide +kernel
theorem dX10_storeyOf_78 : decode cX10_storeyOf 78 = .ok (.aload_n 3, 1) := by decide +kernel
theorem dX10_storeyOf_79 : decode cX10_storeyOf 79 = .ok (.iload_n 1, 1) := by decide +kernel
theorem dX10_storeyOf_80 : decode cX10_storeyOf 80 = .ok (.invokevirtual 193, 3) := by decide +kernel
theorem dX10_storeyOf_83 : decode cX10_storeyOf 83 = .ok (.ireturn, 1) := by decide +kernel
theorem dX10_storeyOf_84 : decode cX10_storeyOf 84 = .ok (.aload_n 3, 1) := by decide +kernel
theorem dX10_storeyOf_85 : decode cX10_storeyOf 85 = .ok (.iload_n 1, 1) := by decide +kernel
theorem dX10_storeyOf_86 : decode cX10_storeyOf 86 = .ok (.invokevirtual 196, 3) := by decide +kernel
theorem dX10_storeyOf_89 : decode cX10_storeyOf 89 = .ok (.ireturn, 1) := by decide +kernel
theorem dX10_storeyOf_90 : decode cX10_storeyOf 90 = .ok (.aload_n 3, 1) := by decide +kernel
theorem dX10_storeyOf_91 : decode cX10_storeyOf 91 = .ok (.iload_n 1, 1) := by decide +kernel
theorem dX10_storeyOf_92 : decode cX10_storeyOf 92 = .ok (.invokevirtual 199, 3) := by decide +kernel
theorem dX10_storeyOf_95 : decode cX10_storeyOf 95 = .ok (.ifCond .eq 7, 3) := by decide +kernel
theorem dX10_storeyOf_98 : decode cX10_storeyOf 98 = .ok (.iconst 1, 1) := by decide +kernel
theorem dX10_storeyOf_99 : decode cX10_storeyOf 99 = .ok (.goto 4, 3) := by decide +kernel
theorem dX10_storeyOf_102 : decode cX10_storeyOf 102 = .ok (.iconst 0, 1) := by decide +kernel
theorem dX10_storeyOf_103 : decode cX10_storeyOf 103 = .ok (.ireturn, 1) := by decide +kernel
theorem dX10_storeyOf_104 : decode cX10_storeyOf 104 = .ok (.aload_n 0, 1) := by decide +kernel
theorem dX10_storeyOf_105 : decode cX10_storeyOf 105 = .ok (.getfield 20, 3) := by decide +kernel
theorem dX10_storeyOf_108 : decode cX10_storeyOf 108 = .ok (.getfield 202, 3) := by decide +kernel
theorem dX10_storeyOf_111 : decode cX10_storeyOf 111 = .ok (.iload_n 1, 1) := by decide +kernel
theorem dX10_storeyOf_112 : decode cX10_storeyOf 112 = .ok (.invokevirtual 206, 3) := by decide +kernel
theorem dX10_storeyOf_115 : decode cX10_storeyOf 115 = .ok (.ireturn, 1) := by decide +kernel
theorem dX10_storeyOf_116 : decode cX10_storeyOf 116 = .ok (.bipush (-2), 2) := by decide +kernel
theorem dX10_storeyOf_118 : decode cX10_storeyOf 118 = .ok (.ireturn, 1) := by decide +kernel
theorem dX10_strength_0 : decode cX10_strength 0 = .ok (.aload_n 0, 1) := by decide +kernel
theorem dX10_strength_1 : decode cX10_strength 1 = .ok (.getfield 20, 3) := by decide +kernel
theorem dX10_strength_4 : decode cX10_strength 4 = .ok (.getfield 181, 3) := by decide +kernel
theorem dX10_strength_7 : decode cX10_strength 7 = .ok (.iload_n 1, 1) := by decide +kernel
theorem dX10_strength_8 : decode cX10_strength 8 = .ok (.invokevirtual 185, 3) := by decide +kernel
theorem dX10_strength_11 : decode cX10_strength 11 = .ok (.ifCond .ne 5, 3) := by decide +kernel
theorem dX10_strength_14 : decode cX10_strength 14 = .ok (.iconst (-1), 1) := by decide +kernel
theorem dX10_strength_15 : decode cX10_strength 15 = .ok (.ireturn, 1) := by decide +kernel
theorem dX10_strength_16 : decode cX10_strength 16 = .ok (.iload_n 2, 1) := by decide +kernel
theorem dX10_strength_17 : decode cX10_strength 17 = .ok (.ifCond .eq 17, 3) := by decide +kernel
theorem dX10_strength_20 : decode cX10_strength 20 = .ok (.aload_n 0, 1) := by decide +kernel
theorem dX10_strength_21 : decode cX10_strength 21 = .ok (.getfield 20, 3) := by decide +kernel
theorem dX10_strength_24 : decode cX10_strength 24 = .ok (.getfield 181, 3) := by decide +kernel
theorem dX10_strength_27 : decode cX10_strength 27 = .ok (.iload_n 1, 1) := by decide +kernel
theorem dX10_strength_28 : decode cX10_strength 28 = .ok (.invokevirtual 211, 3) := by decide +kernel
theorem dX10_strength_31 : decode cX10_strength 31 = .ok (.goto 14, 3) := by decide +kernel
theorem dX10_strength_34 : decode cX10_strength 34 = .ok (.aload_n 0, 1) := by decide +kernel
theorem dX10_strength_35 : decode cX10_strength 35 = .ok (.getfield 20, 3) := by decide +kernel
theorem dX10_strength_38 : decode cX10_strength 38 = .ok (.getfield 181, 3) := by decide +kernel
theorem dX10_strength_41 : decode cX10_strength 41 = .ok (.iload_n 1, 1) := by decide +kernel
theorem dX10_strength_42 : decode cX10_strength 42 = .ok (.invokevirtual 214, 3) := by decide +kernel
theorem dX10_strength_45 : decode cX10_strength 45 = .ok (.ireturn, 1) := by decide +kernel
theorem dX10_weakest_0 : decode cX10_weakest 0 = .ok (.aload_n 0, 1) := by decide +kernel
theorem dX10_weakest_1 : decode cX10_weakest 1 = .ok (.getfield 20, 3) := by decide +kernel
theorem dX10_weakest_4 : decode cX10_weakest 4 = .ok (.getfield 181, 3) := by decide +kernel
theorem dX10_weakest_7 : decode cX10_weakest 7 = .ok (.invokevirtual 217, 3) := by decide +kernel
theorem dX10_weakest_10 : decode cX10_weakest 10 = .ok (.ireturn, 1) := by decide +kernel
theorem dX10_oldest_0 : decode cX10_oldest 0 = .ok (.aload_n 0, 1) := by decide +kernel
theorem dX10_oldest_1 : decode cX10_oldest 1 = .ok (.getfield 20, 3) := by decide +kernel
theorem dX10_oldest_4 : decode cX10_oldest 4 = .ok (.getfield 181, 3) := by decide +kernel
theorem dX10_oldest_7 : decode cX10_oldest 7 = .ok (.iload_n 1, 1) := by decide +kernel
theorem dX10_oldest_8 : decode cX10_oldest 8 = .ok (.invokevirtual 221, 3) := by decide +kernel
theorem dX10_oldest_11 : decode cX10_oldest 11 = .ok (.ireturn, 1) := by decide +kernel
theorem dX10_crewOf_0 : decode cX10_crewOf 0 = .ok (.aload_n 0, 1) := by decide +kernel
theorem dX10_crewOf_1 : decode cX10_crewOf 1 = .ok (.getfield 20, 3) := by decide +kernel
theorem dX10_crewOf_4 : decode cX10_crewOf 4 = .ok (.getfield 202, 3) := by decide +kernel
theorem dX10_crewOf_7 : decode cX10_crewOf 7 = .ok (.astore_n 3, 1) := by decide +kernel
theorem dX10_crewOf_8 : decode cX10_crewOf 8 = .ok (.aload_n 3, 1) := by decide +kernel
theorem dX10_crewOf_9 : decode cX10_crewOf 9 = .ok (.iload_n 1, 1) := by decide +kernel
theorem dX10_crewOf_10 : decode cX10_crewOf 10 = .ok (.invokevirtual 224, 3) := by decide +kernel
theorem dX10_crewOf_13 : decode cX10_crewOf 13 = .ok (.ifCond .ne 5, 3) := by decide +kernel
theorem dX10_crewOf_16 : decode cX10_crewOf 16 = .ok (.iconst (-1), 1) := by decide +kernel
theorem dX10_crewOf_17 : decode cX10_crewOf 17 = .ok (.ireturn, 1) := by decide +kernel
theorem dX10_crewOf_18 : decode cX10_crewOf 18 = .ok (.iload_n 2, 1) := by decide +kernel
theorem dX10_crewOf_19 : decode cX10_crewOf 19 = .ok (.tableswitch 61 0 3 #[29, 35, 41, 55], 29) := by decide +kernel
theorem dX10_crewOf_48 : decode cX10_crewOf 48 = .ok (.aload_n 3, 1) := by decide +kernel
theorem dX10_crewOf_49 : decode cX10_crewOf 49 = .ok (.iload_n 1, 1) := by decide +kernel
theorem dX10_crewOf_50 : decode cX10_crewOf 50 = .ok (.invokevirtual 225, 3) := by decide +kernel
theorem dX10_crewOf_53 : decode cX10_crewOf 53 = .ok (.ireturn, 1) := by decide +kernel
theorem dX10_crewOf_54 : decode cX10_crewOf 54 = .ok (.aload_n 3, 1) := by decide +kernel
theorem dX10_crewOf_55 : decode cX10_crewOf 55 = .ok (.iload_n 1, 1) := by decide +kernel
theorem dX10_crewOf_56 : decode cX10_crewOf 56 = .ok (.invokevirtual 228, 3) := by decide +kernel
theorem dX10_crewOf_59 : decode cX10_crewOf 59 = .ok (.ireturn, 1) := by decide +kernel
theorem dX10_crewOf_60 : decode cX10_crewOf 60 = .ok (.aload_n 0, 1) := by decide +kernel
theorem dX10_crewOf_61 : decode cX10_crewOf 61 = .ok (.iload_n 1, 1) := by decide +kernel
theorem dX10_crewOf_62 : decode cX10_crewOf 62 = .ok (.invokevirtual 231, 3) := by decide +kernel
theorem dX10_crewOf_65 : decode cX10_crewOf 65 = .ok (.ifCond .eq 7, 3) := by decide +kernel
theorem dX10_crewOf_68 : decode cX10_crewOf 68 = .ok (.iconst 1, 1) := by decide +kernel
theorem dX10_crewOf_69 : decode cX10_crewOf 69 = .ok (.goto 4, 3) := by decide +kernel
theorem dX10_crewOf_72 : decode cX10_crewOf 72 = .ok (.iconst 0, 1) := by decide +kernel
theorem dX10_crewOf_73 : decode cX10_crewOf 73 = .ok (.ireturn, 1) := by decide +kernel
theorem dX10_crewOf_74 : decode cX10_crewOf 74 = .ok (.aload_n 3, 1) := by decide +kernel
theorem dX10_crewOf_75 : decode cX10_crewOf 75 = .ok (.iload_n 1, 1) := by decide +kernel
theorem dX10_crewOf_76 : decode cX10_crewOf 76 = .ok (.invokevirtual 234, 3) := by decide +kernel
theorem dX10_crewOf_79 : decode cX10_crewOf 79 = .ok (.ireturn, 1) := by decide +kernel
theorem dX10_crewOf_80 : decode cX10_crewOf 80 = .ok (.bipush (-2), 2) := by decide +kernel
theorem dX10_crewOf_82 : decode cX10_crewOf 82 = .ok (.ireturn, 1) := by decide +kernel
theorem dX10_inspectorOf_0 : decode cX10_inspectorOf 0 = .ok (.aload_n 0, 1) := by decide +kernel
theorem dX10_inspectorOf_1 : decode cX10_inspectorOf 1 = .ok (.getfield 20, 3) := by decide +kernel
theorem dX10_inspectorOf_4 : decode cX10_inspectorOf 4 = .ok (.getfield 235, 3) := by decide +kernel
theorem dX10_inspectorOf_7 : decode cX10_inspectorOf 7 = .ok (.astore_n 3, 1) := by decide +kernel
theorem dX10_inspectorOf_8 : decode cX10_inspectorOf 8 = .ok (.aload_n 3, 1) := by decide +kernel
theorem dX10_inspectorOf_9 : decode cX10_inspectorOf 9 = .ok (.iload_n 1, 1) := by decide +kernel
theorem dX10_inspectorOf_10 : decode cX10_inspectorOf 10 = .ok (.invokevirtual 239, 3) := by decide +kernel
theorem dX10_inspectorOf_13 : decode cX10_inspectorOf 13 = .ok (.ifCond .ne 5, 3) := by decide +kernel
theorem dX10_inspectorOf_16 : decode cX10_inspectorOf 16 = .ok (.iconst (-1), 1) := by decide +kernel
theorem dX10_inspectorOf_17 : decode cX10_inspectorOf 17 = .ok (.ireturn, 1) := by decide +kernel
theorem dX10_inspectorOf_18 : decode cX10_inspectorOf 18 = .ok (.iload_n 2, 1) := by decide +kernel
theorem dX10_inspectorOf_19 : decode cX10_inspectorOf 19 = .ok (.tableswitch 49 0 2 #[25, 31, 43], 25) := by decide +kernel
theorem dX10_inspectorOf_44 : decode cX10_inspectorOf 44 = .ok (.aload_n 3, 1) := by decide +kernel
theorem dX10_inspectorOf_45 : decode cX10_inspectorOf 45 = .ok (.iload_n 1, 1) := by decide +kernel
theorem dX10_inspectorOf_46 : decode cX10_inspectorOf 46 = .ok (.invokevirtual 242, 3) := by decide +kernel
theorem dX10_inspectorOf_49 : decode cX10_inspectorOf 49 = .ok (.ireturn, 1) := by decide +kernel
theorem dX10_inspectorOf_50 : decode cX10_inspectorOf 50 = .ok (.aload_n 0, 1) := by decide +kernel
theorem dX10_inspectorOf_51 : decode cX10_inspectorOf 51 = .ok (.getfield 20, 3) := by decide +kernel
theorem dX10_inspectorOf_54 : decode cX10_inspectorOf 54 = .ok (.getfield 181, 3) := by decide +kernel
theorem dX10_inspectorOf_57 : decode cX10_inspectorOf 57 = .ok (.iload_n 1, 1) := by decide +kernel
theorem dX10_inspectorOf_58 : decode cX10_inspectorOf 58 = .ok (.invokevirtual 245, 3) := by decide +kernel
theorem dX10_inspectorOf_61 : decode cX10_inspectorOf 61 = .ok (.ireturn, 1) := by decide +kernel
theorem dX10_inspectorOf_62 : decode cX10_inspectorOf 62 = .ok (.aload_n 3, 1) := by decide +kernel
theorem dX10_inspectorOf_63 : decode cX10_inspectorOf 63 = .ok (.iload_n 1, 1) := by decide +kernel
theorem dX10_inspectorOf_64 : decode cX10_inspectorOf 64 = .ok (.invokevirtual 248, 3) := by decide +kernel
theorem dX10_inspectorOf_67 : decode cX10_inspectorOf 67 = .ok (.ireturn, 1) := by decide +kernel
theorem dX10_inspectorOf_68 : decode cX10_inspectorOf 68 = .ok (.bipush (-2), 2) := by decide +kernel
theorem dX10_inspectorOf_70 : decode cX10_inspectorOf 70 = .ok (.ireturn, 1) := by decide +kernel
theorem dX10_highest_0 : decode cX10_highest 0 = .ok (.aload_n 0, 1) := by decide +kernel
theorem dX10_highest_1 : decode cX10_highest 1 = .ok (.getfield 20, 3) := by decide +kernel
theorem dX10_highest_4 : decode cX10_highest 4 = .ok (.invokevirtual 251, 3) := by decide +kernel
theorem dX10_highest_7 : decode cX10_highest 7 = .ok (.ifCond .eq 8, 3) := by decide +kernel
theorem dX10_highest_10 : decode cX10_highest 10 = .ok (.bipush (-4), 2) := by decide +kernel
theorem dX10_highest_12 : decode cX10_highest 12 = .ok (.goto 13, 3) := by decide +kernel
theorem dX10_highest_15 : decode cX10_highest 15 = .ok (.aload_n 0, 1) := by decide +kernel
theorem dX10_highest_16 : decode cX10_highest 16 = .ok (.getfield 20, 3) := by decide +kernel
theorem dX10_highest_19 : decode cX10_highest 19 = .ok (.getfield 181, 3) := by decide +kernel
theorem dX10_highest_22 : decode cX10_highest 22 = .ok (.invokevirtual 255, 3) := by decide +kernel
theorem dX10_highest_25 : decode cX10_highest 25 = .ok (.ireturn, 1) := by decide +kernel
theorem dX10_wouldFall_0 : decode cX10_wouldFall 0 = .ok (.iload_n 1, 1) := by decide +kernel
theorem dX10_wouldFall_1 : decode cX10_wouldFall 1 = .ok (.bipush 8, 2) := by decide +kernel
theorem dX10_wouldFall_3 : decode cX10_wouldFall 3 = .ok (.bipush 10, 2) := by decide +kernel
theorem dX10_wouldFall_5 : decode cX10_wouldFall 5 = .ok (.invokestatic 75, 3) := by decide +kernel
theorem dX10_wouldFall_8 : decode cX10_wouldFall 8 = .ok (.ifCond .ne 6, 3) := by decide +kernel
theorem dX10_wouldFall_11 : decode cX10_wouldFall 11 = .ok (.bipush (-2), 2) := by decide +kernel
theorem dX10_wouldFall_13 : decode cX10_wouldFall 13 = .ok (.ireturn, 1) := by decide +kernel
theorem dX10_wouldFall_14 : decode cX10_wouldFall 14 = .ok (.aload_n 0, 1) := by decide +kernel
theorem dX10_wouldFall_15 : decode cX10_wouldFall 15 = .ok (.getfield 20, 3) := by decide +kernel
theorem dX10_wouldFall_18 : decode cX10_wouldFall 18 = .ok (.getfield 181, 3) := by decide +kernel
theorem dX10_wouldFall_21 : decode cX10_wouldFall 21 = .ok (.iload_n 1, 1) := by decide +kernel
theorem dX10_wouldFall_22 : decode cX10_wouldFall 22 = .ok (.invokevirtual 258, 3) := by decide +kernel
theorem dX10_wouldFall_25 : decode cX10_wouldFall 25 = .ok (.ireturn, 1) := by decide +kernel
theorem dX10_oldIn_0 : decode cX10_oldIn 0 = .ok (.aload_n 0, 1) := by decide +kernel
theorem dX10_oldIn_1 : decode cX10_oldIn 1 = .ok (.getfield 20, 3) := by decide +kernel
theorem dX10_oldIn_4 : decode cX10_oldIn 4 = .ok (.getfield 181, 3) := by decide +kernel
theorem dX10_oldIn_7 : decode cX10_oldIn 7 = .ok (.iload_n 1, 1) := by decide +kernel
theorem dX10_oldIn_8 : decode cX10_oldIn 8 = .ok (.invokevirtual 185, 3) := by decide +kernel
theorem dX10_oldIn_11 : decode cX10_oldIn 11 = .ok (.ifCond .ne 5, 3) := by decide +kernel
theorem dX10_oldIn_14 : decode cX10_oldIn 14 = .ok (.iconst (-1), 1) := by decide +kernel
theorem dX10_oldIn_15 : decode cX10_oldIn 15 = .ok (.ireturn, 1) := by decide +kernel
theorem dX10_oldIn_16 : decode cX10_oldIn 16 = .ok (.aload_n 0, 1) := by decide +kernel
theorem dX10_oldIn_17 : decode cX10_oldIn 17 = .ok (.getfield 26, 3) := by decide +kernel
theorem dX10_oldIn_20 : decode cX10_oldIn 20 = .ok (.aload_n 0, 1) := by decide +kernel
theorem dX10_oldIn_21 : decode cX10_oldIn 21 = .ok (.getfield 20, 3) := by decide +kernel
theorem dX10_oldIn_24 : decode cX10_oldIn 24 = .ok (.invokevirtual 149, 3) := by decide +kernel
theorem dX10_oldIn_27 : decode cX10_oldIn 27 = .ok (.iconst 0, 1) := by decide +kernel
theorem dX10_oldIn_28 : decode cX10_oldIn 28 = .ok (.istore_n 2, 1) := by decide +kernel
theorem dX10_oldIn_29 : decode cX10_oldIn 29 = .ok (.iload_n 2, 1) := by decide +kernel
theorem dX10_oldIn_30 : decode cX10_oldIn 30 = .ok (.bipush 60, 2) := by decide +kernel
theorem dX10_oldIn_32 : decode cX10_oldIn 32 = .ok (.if_icmp .gt 49, 3) := by decide +kernel
theorem dX10_oldIn_35 : decode cX10_oldIn 35 = .ok (.aload_n 0, 1) := by decide +kernel
theorem dX10_oldIn_36 : decode cX10_oldIn 36 = .ok (.getfield 26, 3) := by decide +kernel
theorem dX10_oldIn_39 : decode cX10_oldIn 39 = .ok (.getfield 181, 3) := by decide +kernel
theorem dX10_oldIn_42 : decode cX10_oldIn 42 = .ok (.iload_n 1, 1) := by decide +kernel
theorem dX10_oldIn_43 : decode cX10_oldIn 43 = .ok (.invokevirtual 185, 3) := by decide +kernel
theorem dX10_oldIn_46 : decode cX10_oldIn 46 = .ok (.ifCond .ne 6, 3) := by decide +kernel
theorem dX10_oldIn_49 : decode cX10_oldIn 49 = .ok (.bipush (-4), 2) := by decide +kernel
theorem dX10_oldIn_51 : decode cX10_oldIn 51 = .ok (.ireturn, 1) := by decide +kernel
theorem dX10_oldIn_52 : decode cX10_oldIn 52 = .ok (.aload_n 0, 1) := by decide +kernel
theorem dX10_oldIn_53 : decode cX10_oldIn 53 = .ok (.getfield 26, 3) := by decide +kernel
theorem dX10_oldIn_56 : decode cX10_oldIn 56 = .ok (.getfield 181, 3) := by decide +kernel
theorem dX10_oldIn_59 : decode cX10_oldIn 59 = .ok (.iload_n 1, 1) := by decide +kernel
theorem dX10_oldIn_60 : decode cX10_oldIn 60 = .ok (.invokevirtual 261, 3) := by decide +kernel
theorem dX10_oldIn_63 : decode cX10_oldIn 63 = .ok (.ifCond .eq 5, 3) := by decide +kernel
theorem dX10_oldIn_66 : decode cX10_oldIn 66 = .ok (.iload_n 2, 1) := by decide +kernel
theorem dX10_oldIn_67 : decode cX10_oldIn 67 = .ok (.ireturn, 1) := by decide +kernel
theorem dX10_oldIn_68 : decode cX10_oldIn 68 = .ok (.aload_n 0, 1) := by decide +kernel
theorem dX10_oldIn_69 : decode cX10_oldIn 69 = .ok (.getfield 26, 3) := by decide +kernel
theorem dX10_oldIn_72 : decode cX10_oldIn 72 = .ok (.invokevirtual 264, 3) := by decide +kernel
theorem dX10_oldIn_75 : decode cX10_oldIn 75 = .ok (.iinc 2 1, 3) := by decide +kernel
theorem dX10_oldIn_78 : decode cX10_oldIn 78 = .ok (.goto (-49), 3) := by decide +kernel
theorem dX10_oldIn_81 : decode cX10_oldIn 81 = .ok (.bipush (-4), 2) := by decide +kernel
theorem dX10_oldIn_83 : decode cX10_oldIn 83 = .ok (.ireturn, 1) := by decide +kernel
theorem dX10_doneIn_0 : decode cX10_doneIn 0 = .ok (.aload_n 0, 1) := by decide +kernel
theorem dX10_doneIn_1 : decode cX10_doneIn 1 = .ok (.getfield 20, 3) := by decide +kernel
theorem dX10_doneIn_4 : decode cX10_doneIn 4 = .ok (.getfield 181, 3) := by decide +kernel
theorem dX10_doneIn_7 : decode cX10_doneIn 7 = .ok (.iload_n 1, 1) := by decide +kernel
theorem dX10_doneIn_8 : decode cX10_doneIn 8 = .ok (.invokevirtual 185, 3) := by decide +kernel
theorem dX10_doneIn_11 : decode cX10_doneIn 11 = .ok (.ifCond .ne 5, 3) := by decide +kernel
theorem dX10_doneIn_14 : decode cX10_doneIn 14 = .ok (.iconst (-1), 1) := by decide +kernel
theorem dX10_doneIn_15 : decode cX10_doneIn 15 = .ok (.ireturn, 1) := by decide +kernel
theorem dX10_doneIn_16 : decode cX10_doneIn 16 = .ok (.aload_n 0, 1) := by decide +kernel
theorem dX10_doneIn_17 : decode cX10_doneIn 17 = .ok (.getfield 26, 3) := by decide +kernel
theorem dX10_doneIn_20 : decode cX10_doneIn 20 = .ok (.aload_n 0, 1) := by decide +kernel
theorem dX10_doneIn_21 : decode cX10_doneIn 21 = .ok (.getfield 20, 3) := by decide +kernel
theorem dX10_doneIn_24 : decode cX10_doneIn 24 = .ok (.invokevirtual 149, 3) := by decide +kernel
theorem dX10_doneIn_27 : decode cX10_doneIn 27 = .ok (.iconst 0, 1) := by decide +kernel
theorem dX10_doneIn_28 : decode cX10_doneIn 28 = .ok (.istore_n 2, 1) := by decide +kernel
theorem dX10_doneIn_29 : decode cX10_doneIn 29 = .ok (.iload_n 2, 1) := by decide +kernel
theorem dX10_doneIn_30 : decode cX10_doneIn 30 = .ok (.bipush 60, 2) := by decide +kernel
theorem dX10_doneIn_32 : decode cX10_doneIn 32 = .ok (.if_icmp .gt 49, 3) := by decide +kernel
theorem dX10_doneIn_35 : decode cX10_doneIn 35 = .ok (.aload_n 0, 1) := by decide +kernel
theorem dX10_doneIn_36 : decode cX10_doneIn 36 = .ok (.getfield 26, 3) := by decide +kernel
theorem dX10_doneIn_39 : decode cX10_doneIn 39 = .ok (.getfield 181, 3) := by decide +kernel
theorem dX10_doneIn_42 : decode cX10_doneIn 42 = .ok (.iload_n 1, 1) := by decide +kernel
theorem dX10_doneIn_43 : decode cX10_doneIn 43 = .ok (.invokevirtual 185, 3) := by decide +kernel
theorem dX10_doneIn_46 : decode cX10_doneIn 46 = .ok (.ifCond .ne 6, 3) := by decide +kernel
theorem dX10_doneIn_49 : decode cX10_doneIn 49 = .ok (.bipush (-4), 2) := by decide +kernel
theorem dX10_doneIn_51 : decode cX10_doneIn 51 = .ok (.ireturn, 1) := by decide +kernel
theorem dX10_doneIn_52 : decode cX10_doneIn 52 = .ok (.aload_n 0, 1) := by decide +kernel
theorem dX10_doneIn_53 : decode cX10_doneIn 53 = .ok (.getfield 26, 3) := by decide +kernel
theorem dX10_doneIn_56 : decode cX10_doneIn 56 = .ok (.getfield 181, 3) := by decide +kernel
theorem dX10_doneIn_59 : decode cX10_doneIn 59 = .ok (.iload_n 1, 1) := by decide +kernel
theorem dX10_doneIn_60 : decode cX10_doneIn 60 = .ok (.invokevirtual 193, 3) := by decide +kernel
theorem dX10_doneIn_63 : decode cX10_doneIn 63 = .ok (.ifCond .ne 5, 3) := by decide +kernel
theorem dX10_doneIn_66 : decode cX10_doneIn 66 = .ok (.iload_n 2, 1) := by decide +kernel
theorem dX10_doneIn_67 : decode cX10_doneIn 67 = .ok (.ireturn, 1) := by decide +kernel
theorem dX10_doneIn_68 : decode cX10_doneIn 68 = .ok (.aload_n 0, 1) := by decide +kernel
theorem dX10_doneIn_69 : decode cX10_doneIn 69 = .ok (.getfield 26, 3) := by decide +kernel
theorem dX10_doneIn_72 : decode cX10_doneIn 72 = .ok (.invokevirtual 264, 3) := by decide +kernel
theorem dX10_doneIn_75 : decode cX10_doneIn 75 = .ok (.iinc 2 1, 3) := by decide +kernel
theorem dX10_doneIn_78 : decode cX10_doneIn 78 = .ok (.goto (-49), 3) := by decide +kernel
theorem dX10_doneIn_81 : decode cX10_doneIn 81 = .ok (.bipush (-4), 2) := by decide +kernel
theorem dX10_doneIn_83 : decode cX10_doneIn 83 = .ok (.ireturn, 1) := by decide +kernel
theorem dX10_describe_0 : decode cX10_describe 0 = .ok (.aload_n 0, 1) := by decide +kernel
theorem dX10_describe_1 : decode cX10_describe 1 = .ok (.getfield 48, 3) := by decide +kernel
theorem dX10_describe_4 : decode cX10_describe 4 = .ok (.invokevirtual 136, 3) := by decide +kernel
theorem dX10_describe_7 : decode cX10_describe 7 = .ok (.aload_n 0, 1) := by decide +kernel
theorem dX10_describe_8 : decode cX10_describe 8 = .ok (.getfield 20, 3) := by decide +kernel
theorem dX10_describe_11 : decode cX10_describe 11 = .ok (.getfield 181, 3) := by decide +kernel
theorem dX10_describe_14 : decode cX10_describe 14 = .ok (.getfield 267, 3) := by decide +kernel
theorem dX10_describe_17 : decode cX10_describe 17 = .ok (.iconst 1, 1) := by decide +kernel
theorem dX10_describe_18 : decode cX10_describe 18 = .ok (.isub, 1) := by decide +kernel
theorem dX10_describe_19 : decode cX10_describe 19 = .ok (.istore_n 1, 1) := by decide +kernel
theorem dX10_describe_20 : decode cX10_describe 20 = .ok (.iload_n 1, 1) := by decide +kernel
theorem dX10_describe_21 : decode cX10_describe 21 = .ok (.ifCond .lt 27, 3) := by decide +kernel
theorem dX10_describe_24 : decode cX10_describe 24 = .ok (.aload_n 0, 1) := by decide +kernel
theorem dX10_describe_25 : decode cX10_describe 25 = .ok (.iload_n 1, 1) := by decide +kernel
theorem dX10_describe_26 : decode cX10_describe 26 = .ok (.invokevirtual 268, 3) := by decide +kernel
theorem dX10_describe_29 : decode cX10_describe 29 = .ok (.iload_n 1, 1) := by decide +kernel
theorem dX10_describe_30 : decode cX10_describe 30 = .ok (.ifCond .le 12, 3) := by decide +kernel
theorem dX10_describe_33 : decode cX10_describe 33 = .ok (.aload_n 0, 1) := by decide +kernel
theorem dX10_describe_34 : decode cX10_describe 34 = .ok (.getfield 48, 3) := by decide +kernel
theorem dX10_describe_37 : decode cX10_describe 37 = .ok (.bipush 32, 2) := by decide +kernel
theorem dX10_describe_39 : decode cX10_describe 39 = .ok (.invokevirtual 82, 3) := by decide +kernel
theorem dX10_describe_42 : decode cX10_describe 42 = .ok (.iinc 1 (-1), 3) := by decide +kernel
theorem dX10_describe_45 : decode cX10_describe 45 = .ok (.goto (-25), 3) := by decide +kernel
theorem dX10_describe_48 : decode cX10_describe 48 = .ok (.aload_n 0, 1) := by decide +kernel
theorem dX10_describe_49 : decode cX10_describe 49 = .ok (.getfield 20, 3) := by decide +kernel
theorem dX10_describe_52 : decode cX10_describe 52 = .ok (.getfield 181, 3) := by decide +kernel
theorem dX10_describe_55 : decode cX10_describe 55 = .ok (.getfield 267, 3) := by decide +kernel
theorem dX10_describe_58 : decode cX10_describe 58 = .ok (.ifCond .ne 7, 3) := by decide +kernel
theorem dX10_describe_61 : decode cX10_describe 61 = .ok (.aload_n 0, 1) := by decide +kernel
theorem dX10_describe_62 : decode cX10_describe 62 = .ok (.invokevirtual 271, 3) := by decide +kernel
theorem dX10_describe_65 : decode cX10_describe 65 = .ok (.aload_n 0, 1) := by decide +kernel
theorem dX10_describe_66 : decode cX10_describe 66 = .ok (.getfield 48, 3) := by decide +kernel
theorem dX10_describe_69 : decode cX10_describe 69 = .ok (.getfield 79, 3) := by decide +kernel
theorem dX10_describe_72 : decode cX10_describe 72 = .ok (.ireturn, 1) := by decide +kernel
theorem dX10_written_0 : decode cX10_written 0 = .ok (.iload_n 1, 1) := by decide +kernel
theorem dX10_written_1 : decode cX10_written 1 = .ok (.ifCond .lt 14, 3) := by decide +kernel
theorem dX10_written_4 : decode cX10_written 4 = .ok (.iload_n 1, 1) := by decide +kernel
theorem dX10_written_5 : decode cX10_written 5 = .ok (.aload_n 0, 1) := by decide +kernel
theorem dX10_written_6 : decode cX10_written 6 = .ok (.getfield 48, 3) := by decide +kernel
theorem dX10_written_9 : decode cX10_written 9 = .ok (.getfield 79, 3) := by decide +kernel
theorem dX10_written_12 : decode cX10_written 12 = .ok (.if_icmp .lt 7, 3) := by decide +kernel
theorem dX10_written_15 : decode cX10_written 15 = .ok (.iconst (-1), 1) := by decide +kernel
theorem dX10_written_16 : decode cX10_written 16 = .ok (.goto 11, 3) := by decide +kernel
theorem dX10_written_19 : decode cX10_written 19 = .ok (.aload_n 0, 1) := by decide +kernel
theorem dX10_written_20 : decode cX10_written 20 = .ok (.getfield 48, 3) := by decide +kernel
theorem dX10_written_23 : decode cX10_written 23 = .ok (.iload_n 1, 1) := by decide +kernel
theorem dX10_written_24 : decode cX10_written 24 = .ok (.invokevirtual 274, 3) := by decide +kernel
theorem dX10_written_27 : decode cX10_written 27 = .ok (.ireturn, 1) := by decide +kernel
theorem dX10_work_0 : decode cX10_work 0 = .ok (.iload_n 1, 1) := by decide +kernel
theorem dX10_work_1 : decode cX10_work 1 = .ok (.ifCond .eq 29, 3) := by decide +kernel
theorem dX10_work_4 : decode cX10_work 4 = .ok (.aload_n 0, 1) := by decide +kernel
theorem dX10_work_5 : decode cX10_work 5 = .ok (.getfield 20, 3) := by decide +kernel
theorem dX10_work_8 : decode cX10_work 8 = .ok (.getfield 278, 3) := by decide +kernel
theorem dX10_work_11 : decode cX10_work 11 = .ok (.aload_n 0, 1) := by decide +kernel
theorem dX10_work_12 : decode cX10_work 12 = .ok (.getfield 20, 3) := by decide +kernel
theorem dX10_work_15 : decode cX10_work 15 = .ok (.getfield 281, 3) := by decide +kernel
theorem dX10_work_18 : decode cX10_work 18 = .ok (.isub, 1) := by decide +kernel
theorem dX10_work_19 : decode cX10_work 19 = .ok (.aload_n 0, 1) := by decide +kernel
theorem dX10_work_20 : decode cX10_work 20 = .ok (.getfield 20, 3) := by decide +kernel
theorem dX10_work_23 : decode cX10_work 23 = .ok (.getfield 284, 3) := by decide +kernel
theorem dX10_work_26 : decode cX10_work 26 = .ok (.isub, 1) := by decide +kernel
theorem dX10_work_27 : decode cX10_work 27 = .ok (.goto 13, 3) := by decide +kernel
theorem dX10_work_30 : decode cX10_work 30 = .ok (.aload_n 0, 1) := by decide +kernel
theorem dX10_work_31 : decode cX10_work 31 = .ok (.getfield 20, 3) := by decide +kernel
theorem dX10_work_34 : decode cX10_work 34 = .ok (.getfield 181, 3) := by decide +kernel
theorem dX10_work_37 : decode cX10_work 37 = .ok (.invokevirtual 287, 3) := by decide +kernel
theorem dX10_work_40 : decode cX10_work 40 = .ok (.ireturn, 1) := by decide +kernel
theorem dX10_meanStrength_0 : decode cX10_meanStrength 0 = .ok (.aload_n 0, 1) := by decide +kernel
theorem dX10_meanStrength_1 : decode cX10_meanStrength 1 = .ok (.getfield 20, 3) := by decide +kernel
theorem dX10_meanStrength_4 : decode cX10_meanStrength 4 = .ok (.getfield 181, 3) := by decide +kernel
theorem dX10_meanStrength_7 : decode cX10_meanStrength 7 = .ok (.getfield 267, 3) := by decide +kernel
theorem dX10_meanStrength_10 : decode cX10_meanStrength 10 = .ok (.istore_n 1, 1) := by decide +kernel
theorem dX10_meanStrength_11 : decode cX10_meanStrength 11 = .ok (.iload_n 1, 1) := by decide +kernel
theorem dX10_meanStrength_12 : decode cX10_meanStrength 12 = .ok (.ifCond .ne 7, 3) := by decide +kernel
theorem dX10_meanStrength_15 : decode cX10_meanStrength 15 = .ok (.fconst 0, 1) := by decide +kernel
theorem dX10_meanStrength_16 : decode cX10_meanStrength 16 = .ok (.goto 17, 3) := by decide +kernel
theorem dX10_meanStrength_19 : decode cX10_meanStrength 19 = .ok (.aload_n 0, 1) := by decide +kernel
theorem dX10_meanStrength_20 : decode cX10_meanStrength 20 = .ok (.getfield 20, 3) := by decide +kernel
theorem dX10_meanStrength_23 : decode cX10_meanStrength 23 = .ok (.getfield 181, 3) := by decide +kernel
theorem dX10_meanStrength_26 : decode cX10_meanStrength 26 = .ok (.invokevirtual 290, 3) := by decide +kernel
theorem dX10_meanStrength_29 : decode cX10_meanStrength 29 = .ok (.i2f, 1) := by decide +kernel
theorem dX10_meanStrength_30 : decode cX10_meanStrength 30 = .ok (.iload_n 1, 1) := by decide +kernel
theorem dX10_meanStrength_31 : decode cX10_meanStrength 31 = .ok (.i2f, 1) := by decide +kernel
theorem dX10_meanStrength_32 : decode cX10_meanStrength 32 = .ok (.fdiv, 1) := by decide +kernel
theorem dX10_meanStrength_33 : decode cX10_meanStrength 33 = .ok (.freturn, 1) := by decide +kernel
theorem dX10_doneShare_0 : decode cX10_doneShare 0 = .ok (.aload_n 0, 1) := by decide +kernel
theorem dX10_doneShare_1 : decode cX10_doneShare 1 = .ok (.getfield 20, 3) := by decide +kernel
theorem dX10_doneShare_4 : decode cX10_doneShare 4 = .ok (.getfield 278, 3) := by decide +kernel
theorem dX10_doneShare_7 : decode cX10_doneShare 7 = .ok (.ifCond .ne 7, 3) := by decide +kernel
theorem dX10_doneShare_10 : decode cX10_doneShare 10 = .ok (.dconst 0, 1) := by decide +kernel
theorem dX10_doneShare_11 : decode cX10_doneShare 11 = .ok (.goto 20, 3) := by decide +kernel
theorem dX10_doneShare_14 : decode cX10_doneShare 14 = .ok (.aload_n 0, 1) := by decide +kernel
theorem dX10_doneShare_15 : decode cX10_doneShare 15 = .ok (.getfield 20, 3) := by decide +kernel
theorem dX10_doneShare_18 : decode cX10_doneShare 18 = .ok (.getfield 281, 3) := by decide +kernel
theorem dX10_doneShare_21 : decode cX10_doneShare 21 = .ok (.i2d, 1) := by decide +kernel
theorem dX10_doneShare_22 : decode cX10_doneShare 22 = .ok (.aload_n 0, 1) := by decide +kernel
theorem dX10_doneShare_23 : decode cX10_doneShare 23 = .ok (.getfield 20, 3) := by decide +kernel
theorem dX10_doneShare_26 : decode cX10_doneShare 26 = .ok (.getfield 278, 3) := by decide +kernel
theorem dX10_doneShare_29 : decode cX10_doneShare 29 = .ok (.i2d, 1) := by decide +kernel
theorem dX10_doneShare_30 : decode cX10_doneShare 30 = .ok (.ddiv, 1) := by decide +kernel
theorem dX10_doneShare_31 : decode cX10_doneShare 31 = .ok (.dreturn, 1) := by decide +kernel
theorem dX10_account_0 : decode cX10_account 0 = .ok (.iload_n 1, 1) := by decide +kernel
theorem dX10_account_1 : decode cX10_account 1 = .ok (.tableswitch 270 0 18 #[91, 99, 107, 118, 129, 140, 151, 162, 173, 184, 192, 200, 211, 222, 230, 238, 246, 254, 262], 91) := by decide +kernel
theorem dX10_account_92 : decode cX10_account 92 = .ok (.aload_n 0, 1) := by decide +kernel
theorem dX10_account_93 : decode cX10_account 93 = .ok (.getfield 20, 3) := by decide +kernel
theorem dX10_account_96 : decode cX10_account 96 = .ok (.getfield 66, 3) := by decide +kernel
theorem dX10_account_99 : decode cX10_account 99 = .ok (.ireturn, 1) := by decide +kernel
theorem dX10_account_100 : decode cX10_account 100 = .ok (.aload_n 0, 1) := by decide +kernel
theorem dX10_account_101 : decode cX10_account 101 = .ok (.getfield 20, 3) := by decide +kernel
theorem dX10_account_104 : decode cX10_account 104 = .ok (.getfield 293, 3) := by decide +kernel
theorem dX10_account_107 : decode cX10_account 107 = .ok (.ireturn, 1) := by decide +kernel
theorem dX10_account_108 : decode cX10_account 108 = .ok (.aload_n 0, 1) := by decide +kernel
theorem dX10_account_109 : decode cX10_account 109 = .ok (.getfield 20, 3) := by decide +kernel
theorem dX10_account_112 : decode cX10_account 112 = .ok (.getfield 165, 3) := by decide +kernel
theorem dX10_account_115 : decode cX10_account 115 = .ok (.getfield 296, 3) := by decide +kernel
theorem dX10_account_118 : decode cX10_account 118 = .ok (.ireturn, 1) := by decide +kernel
theorem dX10_account_119 : decode cX10_account 119 = .ok (.aload_n 0, 1) := by decide +kernel
theorem dX10_account_120 : decode cX10_account 120 = .ok (.getfield 20, 3) := by decide +kernel
theorem dX10_account_123 : decode cX10_account 123 = .ok (.getfield 165, 3) := by decide +kernel
theorem dX10_account_126 : decode cX10_account 126 = .ok (.invokevirtual 297, 3) := by decide +kernel
theorem dX10_account_129 : decode cX10_account 129 = .ok (.ireturn, 1) := by decide +kernel
theorem dX10_account_130 : decode cX10_account 130 = .ok (.aload_n 0, 1) := by decide +kernel
theorem dX10_account_131 : decode cX10_account 131 = .ok (.getfield 20, 3) := by decide +kernel
theorem dX10_account_134 : decode cX10_account 134 = .ok (.getfield 181, 3) := by decide +kernel
theorem dX10_account_137 : decode cX10_account 137 = .ok (.getfield 267, 3) := by decide +kernel
theorem dX10_account_140 : decode cX10_account 140 = .ok (.ireturn, 1) := by decide +kernel
theorem dX10_account_141 : decode cX10_account 141 = .ok (.aload_n 0, 1) := by decide +kernel
theorem dX10_account_142 : decode cX10_account 142 = .ok (.getfield 20, 3) := by decide +kernel
theorem dX10_account_145 : decode cX10_account 145 = .ok (.getfield 181, 3) := by decide +kernel
theorem dX10_account_148 : decode cX10_account 148 = .ok (.invokevirtual 300, 3) := by decide +kernel
theorem dX10_account_151 : decode cX10_account 151 = .ok (.ireturn, 1) := by decide +kernel
theorem dX10_account_152 : decode cX10_account 152 = .ok (.aload_n 0, 1) := by decide +kernel
theorem dX10_account_153 : decode cX10_account 153 = .ok (.getfield 20, 3) := by decide +kernel
theorem dX10_account_156 : decode cX10_account 156 = .ok (.getfield 181, 3) := by decide +kernel
theorem dX10_account_159 : decode cX10_account 159 = .ok (.invokevirtual 303, 3) := by decide +kernel
theorem dX10_account_162 : decode cX10_account 162 = .ok (.ireturn, 1) := by decide +kernel
theorem dX10_account_163 : decode cX10_account 163 = .ok (.aload_n 0, 1) := by decide +kernel
theorem dX10_account_164 : decode cX10_account 164 = .ok (.getfield 20, 3) := by decide +kernel
theorem dX10_account_167 : decode cX10_account 167 = .ok (.getfield 202, 3) := by decide +kernel
theorem dX10_account_170 : decode cX10_account 170 = .ok (.getfield 306, 3) := by decide +kernel
theorem dX10_account_173 : decode cX10_account 173 = .ok (.ireturn, 1) := by decide +kernel
theorem dX10_account_174 : decode cX10_account 174 = .ok (.aload_n 0, 1) := by decide +kernel
theorem dX10_account_175 : decode cX10_account 175 = .ok (.getfield 20, 3) := by decide +kernel
theorem dX10_account_178 : decode cX10_account 178 = .ok (.getfield 202, 3) := by decide +kernel
theorem dX10_account_181 : decode cX10_account 181 = .ok (.invokevirtual 307, 3) := by decide +kernel
theorem dX10_account_184 : decode cX10_account 184 = .ok (.ireturn, 1) := by decide +kernel
theorem dX10_account_185 : decode cX10_account 185 = .ok (.aload_n 0, 1) := by decide +kernel
theorem dX10_account_186 : decode cX10_account 186 = .ok (.getfield 20, 3) := by decide +kernel
theorem dX10_account_189 : decode cX10_account 189 = .ok (.getfield 310, 3) := by decide +kernel
theorem dX10_account_192 : decode cX10_account 192 = .ok (.ireturn, 1) := by decide +kernel
theorem dX10_account_193 : decode cX10_account 193 = .ok (.aload_n 0, 1) := by decide +kernel
theorem dX10_account_194 : decode cX10_account 194 = .ok (.getfield 20, 3) := by decide +kernel
theorem dX10_account_197 : decode cX10_account 197 = .ok (.getfield 313, 3) := by decide +kernel
theorem dX10_account_200 : decode cX10_account 200 = .ok (.ireturn, 1) := by decide +kernel
theorem dX10_account_201 : decode cX10_account 201 = .ok (.aload_n 0, 1) := by decide +kernel
theorem dX10_account_202 : decode cX10_account 202 = .ok (.getfield 20, 3) := by decide +kernel
theorem dX10_account_205 : decode cX10_account 205 = .ok (.getfield 181, 3) := by decide +kernel
theorem dX10_account_208 : decode cX10_account 208 = .ok (.invokevirtual 316, 3) := by decide +kernel
theorem dX10_account_211 : decode cX10_account 211 = .ok (.ireturn, 1) := by decide +kernel
theorem dX10_account_212 : decode cX10_account 212 = .ok (.aload_n 0, 1) := by decide +kernel
theorem dX10_account_213 : decode cX10_account 213 = .ok (.getfield 20, 3) := by decide +kernel
theorem dX10_account_216 : decode cX10_account 216 = .ok (.getfield 235, 3) := by decide +kernel
theorem dX10_account_219 : decode cX10_account 219 = .ok (.getfield 319, 3) := by decide +kernel
theorem dX10_account_222 : decode cX10_account 222 = .ok (.ireturn, 1) := by decide +kernel
theorem dX10_account_223 : decode cX10_account 223 = .ok (.aload_n 0, 1) := by decide +kernel
theorem dX10_account_224 : decode cX10_account 224 = .ok (.getfield 20, 3) := by decide +kernel
theorem dX10_account_227 : decode cX10_account 227 = .ok (.getfield 320, 3) := by decide +kernel
theorem dX10_account_230 : decode cX10_account 230 = .ok (.ireturn, 1) := by decide +kernel
theorem dX10_account_231 : decode cX10_account 231 = .ok (.aload_n 0, 1) := by decide +kernel
theorem dX10_account_232 : decode cX10_account 232 = .ok (.getfield 20, 3) := by decide +kernel
theorem dX10_account_235 : decode cX10_account 235 = .ok (.getfield 281, 3) := by decide +kernel
theorem dX10_account_238 : decode cX10_account 238 = .ok (.ireturn, 1) := by decide +kernel
theorem dX10_account_239 : decode cX10_account 239 = .ok (.aload_n 0, 1) := by decide +kernel
theorem dX10_account_240 : decode cX10_account 240 = .ok (.getfield 20, 3) := by decide +kernel
theorem dX10_account_243 : decode cX10_account 243 = .ok (.getfield 323, 3) := by decide +kernel
theorem dX10_account_246 : decode cX10_account 246 = .ok (.ireturn, 1) := by decide +kernel
theorem dX10_account_247 : decode cX10_account 247 = .ok (.aload_n 0, 1) := by decide +kernel
theorem dX10_account_248 : decode cX10_account 248 = .ok (.getfield 20, 3) := by decide +kernel
theorem dX10_account_251 : decode cX10_account 251 = .ok (.getfield 326, 3) := by decide +kernel
theorem dX10_account_254 : decode cX10_account 254 = .ok (.ireturn, 1) := by decide +kernel
theorem dX10_account_255 : decode cX10_account 255 = .ok (.aload_n 0, 1) := by decide +kernel
theorem dX10_account_256 : decode cX10_account 256 = .ok (.getfield 44, 3) := by decide +kernel
theorem dX10_account_259 : decode cX10_account 259 = .ok (.getfield 79, 3) := by decide +kernel
theorem dX10_account_262 : decode cX10_account 262 = .ok (.ireturn, 1) := by decide +kernel
theorem dX10_account_263 : decode cX10_account 263 = .ok (.aload_n 0, 1) := by decide +kernel
theorem dX10_account_264 : decode cX10_account 264 = .ok (.getfield 35, 3) := by decide +kernel
theorem dX10_account_267 : decode cX10_account 267 = .ok (.getfield 329, 3) := by decide +kernel
theorem dX10_account_270 : decode cX10_account 270 = .ok (.ireturn, 1) := by decide +kernel
theorem dX10_account_271 : decode cX10_account 271 = .ok (.bipush (-2), 2) := by decide +kernel
theorem dX10_account_273 : decode cX10_account 273 = .ok (.ireturn, 1) := by decide +kernel
theorem dX10_undo_0 : decode cX10_undo 0 = .ok (.aload_n 0, 1) := by decide +kernel
theorem dX10_undo_1 : decode cX10_undo 1 = .ok (.getfield 35, 3) := by decide +kernel
theorem dX10_undo_4 : decode cX10_undo 4 = .ok (.getfield 329, 3) := by decide +kernel
theorem dX10_undo_7 : decode cX10_undo 7 = .ok (.ifCond .ne 6, 3) := by decide +kernel
theorem dX10_undo_10 : decode cX10_undo 10 = .ok (.bipush (-4), 2) := by decide +kernel
theorem dX10_undo_12 : decode cX10_undo 12 = .ok (.ireturn, 1) := by decide +kernel
theorem dX10_undo_13 : decode cX10_undo 13 = .ok (.aload_n 0, 1) := by decide +kernel
theorem dX10_undo_14 : decode cX10_undo 14 = .ok (.getfield 20, 3) := by decide +kernel
theorem dX10_undo_17 : decode cX10_undo 17 = .ok (.aload_n 0, 1) := by decide +kernel
theorem dX10_undo_18 : decode cX10_undo 18 = .ok (.getfield 35, 3) := by decide +kernel
theorem dX10_undo_21 : decode cX10_undo 21 = .ok (.invokevirtual 330, 3) := by decide +kernel
theorem dX10_undo_24 : decode cX10_undo 24 = .ok (.invokevirtual 149, 3) := by decide +kernel
theorem dX10_undo_27 : decode cX10_undo 27 = .ok (.aload_n 0, 1) := by decide +kernel
theorem dX10_undo_28 : decode cX10_undo 28 = .ok (.getfield 35, 3) := by decide +kernel
theorem dX10_undo_31 : decode cX10_undo 31 = .ok (.getfield 329, 3) := by decide +kernel
theorem dX10_undo_34 : decode cX10_undo 34 = .ok (.ireturn, 1) := by decide +kernel
theorem dX10_save_0 : decode cX10_save 0 = .ok (.aload_n 0, 1) := by decide +kernel
theorem dX10_save_1 : decode cX10_save 1 = .ok (.getfield 29, 3) := by decide +kernel
theorem dX10_save_4 : decode cX10_save 4 = .ok (.aload_n 0, 1) := by decide +kernel
theorem dX10_save_5 : decode cX10_save 5 = .ok (.getfield 20, 3) := by decide +kernel
theorem dX10_save_8 : decode cX10_save 8 = .ok (.invokevirtual 149, 3) := by decide +kernel
theorem dX10_save_11 : decode cX10_save 11 = .ok (.aload_n 0, 1) := by decide +kernel
theorem dX10_save_12 : decode cX10_save 12 = .ok (.iconst 1, 1) := by decide +kernel
theorem dX10_save_13 : decode cX10_save 13 = .ok (.putfield 58, 3) := by decide +kernel
theorem dX10_save_16 : decode cX10_save 16 = .ok (.aload_n 0, 1) := by decide +kernel
theorem dX10_save_17 : decode cX10_save 17 = .ok (.getfield 20, 3) := by decide +kernel
theorem dX10_save_20 : decode cX10_save 20 = .ok (.getfield 66, 3) := by decide +kernel
theorem dX10_save_23 : decode cX10_save 23 = .ok (.ireturn, 1) := by decide +kernel
theorem dX10_restore_0 : decode cX10_restore 0 = .ok (.aload_n 0, 1) := by decide +kernel
theorem dX10_restore_1 : decode cX10_restore 1 = .ok (.getfield 58, 3) := by decide +kernel
theorem dX10_restore_4 : decode cX10_restore 4 = .ok (.ifCond .ne 6, 3) := by decide +kernel
theorem dX10_restore_7 : decode cX10_restore 7 = .ok (.bipush (-4), 2) := by decide +kernel
theorem dX10_restore_9 : decode cX10_restore 9 = .ok (.ireturn, 1) := by decide +kernel
theorem dX10_restore_10 : decode cX10_restore 10 = .ok (.aload_n 0, 1) := by decide +kernel
theorem dX10_restore_11 : decode cX10_restore 11 = .ok (.getfield 20, 3) := by decide +kernel
theorem dX10_restore_14 : decode cX10_restore 14 = .ok (.aload_n 0, 1) := by decide +kernel
theorem dX10_restore_15 : decode cX10_restore 15 = .ok (.getfield 29, 3) := by decide +kernel
theorem dX10_restore_18 : decode cX10_restore 18 = .ok (.invokevirtual 149, 3) := by decide +kernel
theorem dX10_restore_21 : decode cX10_restore 21 = .ok (.aload_n 0, 1) := by decide +kernel
theorem dX10_restore_22 : decode cX10_restore 22 = .ok (.getfield 35, 3) := by decide +kernel
theorem dX10_restore_25 : decode cX10_restore 25 = .ok (.invokevirtual 72, 3) := by decide +kernel
theorem dX10_restore_28 : decode cX10_restore 28 = .ok (.aload_n 0, 1) := by decide +kernel
theorem dX10_restore_29 : decode cX10_restore 29 = .ok (.getfield 20, 3) := by decide +kernel
theorem dX10_restore_32 : decode cX10_restore 32 = .ok (.getfield 66, 3) := by decide +kernel
theorem dX10_restore_35 : decode cX10_restore 35 = .ok (.ireturn, 1) := by decide +kernel
theorem dX10_kept_0 : decode cX10_kept 0 = .ok (.iload_n 1, 1) := by decide +kernel
theorem dX10_kept_1 : decode cX10_kept 1 = .ok (.ifCond .lt 10, 3) := by decide +kernel
theorem dX10_kept_4 : decode cX10_kept 4 = .ok (.aload_n 0, 1) := by decide +kernel
theorem dX10_kept_5 : decode cX10_kept 5 = .ok (.getfield 35, 3) := by decide +kernel
theorem dX10_kept_8 : decode cX10_kept 8 = .ok (.invokevirtual 333, 3) := by decide +kernel
theorem dX10_kept_11 : decode cX10_kept 11 = .ok (.iload_n 1, 1) := by decide +kernel
theorem dX10_kept_12 : decode cX10_kept 12 = .ok (.ireturn, 1) := by decide +kernel
theorem dX10_obey_0 : decode cX10_obey 0 = .ok (.aload_n 0, 1) := by decide +kernel
theorem dX10_obey_1 : decode cX10_obey 1 = .ok (.getfield 54, 3) := by decide +kernel
theorem dX10_obey_4 : decode cX10_obey 4 = .ok (.iload_n 1, 1) := by decide +kernel
theorem dX10_obey_5 : decode cX10_obey 5 = .ok (.iconst 0, 1) := by decide +kernel
theorem dX10_obey_6 : decode cX10_obey 6 = .ok (.invokevirtual 336, 3) := by decide +kernel
theorem dX10_obey_9 : decode cX10_obey 9 = .ok (.istore_n 2, 1) := by decide +kernel
theorem dX10_obey_10 : decode cX10_obey 10 = .ok (.aload_n 0, 1) := by decide +kernel
theorem dX10_obey_11 : decode cX10_obey 11 = .ok (.getfield 54, 3) := by decide +kernel
theorem dX10_obey_14 : decode cX10_obey 14 = .ok (.iload_n 1, 1) := by decide +kernel
theorem dX10_obey_15 : decode cX10_obey 15 = .ok (.iconst 1, 1) := by decide +kernel
theorem dX10_obey_16 : decode cX10_obey 16 = .ok (.invokevirtual 336, 3) := by decide +kernel
theorem dX10_obey_19 : decode cX10_obey 19 = .ok (.istore_n 3, 1) := by decide +kernel
theorem dX10_obey_20 : decode cX10_obey 20 = .ok (.aload_n 0, 1) := by decide +kernel
theorem dX10_obey_21 : decode cX10_obey 21 = .ok (.getfield 54, 3) := by decide +kernel
theorem dX10_obey_24 : decode cX10_obey 24 = .ok (.iload_n 1, 1) := by decide +kernel
theorem dX10_obey_25 : decode cX10_obey 25 = .ok (.invokevirtual 339, 3) := by decide +kernel
theorem dX10_obey_28 : decode cX10_obey 28 = .ok (.tableswitch 181 98 117 #[96, 181, 134, 181, 181, 153, 181, 162, 181, 181, 143, 181, 172, 181, 181, 181, 181, 181, 115, 124], 96) := by decide +kernel
theorem dX10_obey_124 : decode cX10_obey 124 = .ok (.aload_n 0, 1) := by decide +kernel
theorem dX10_obey_125 : decode cX10_obey 125 = .ok (.getfield 10, 3) := by decide +kernel
theorem dX10_obey_128 : decode cX10_obey 128 = .ok (.iload_n 2, 1) := by decide +kernel
theorem dX10_obey_129 : decode cX10_obey 129 = .ok (.iload_n 3, 1) := by decide +kernel
theorem dX10_obey_130 : decode cX10_obey 130 = .ok (.aload_n 0, 1) := by decide +kernel
theorem dX10_obey_131 : decode cX10_obey 131 = .ok (.getfield 54, 3) := by decide +kernel
theorem dX10_obey_134 : decode cX10_obey 134 = .ok (.iload_n 1, 1) := by decide +kernel
theorem dX10_obey_135 : decode cX10_obey 135 = .ok (.iconst 2, 1) := by decide +kernel
theorem dX10_obey_136 : decode cX10_obey 136 = .ok (.invokevirtual 336, 3) := by decide +kernel
theorem dX10_obey_139 : decode cX10_obey 139 = .ok (.invokevirtual 101, 3) := by decide +kernel
theorem dX10_obey_142 : decode cX10_obey 142 = .ok (.ireturn, 1) := by decide +kernel
theorem dX10_obey_143 : decode cX10_obey 143 = .ok (.aload_n 0, 1) := by decide +kernel
theorem dX10_obey_144 : decode cX10_obey 144 = .ok (.getfield 10, 3) := by decide +kernel
theorem dX10_obey_147 : decode cX10_obey 147 = .ok (.iload_n 2, 1) := by decide +kernel
theorem dX10_obey_148 : decode cX10_obey 148 = .ok (.invokevirtual 105, 3) := by decide +kernel
theorem dX10_obey_151 : decode cX10_obey 151 = .ok (.ireturn, 1) := by decide +kernel
theorem dX10_obey_152 : decode cX10_obey 152 = .ok (.aload_n 0, 1) := by decide +kernel
theorem dX10_obey_153 : decode cX10_obey 153 = .ok (.getfield 10, 3) := by decide +kernel
theorem dX10_obey_156 : decode cX10_obey 156 = .ok (.iload_n 2, 1) := by decide +kernel
theorem dX10_obey_157 : decode cX10_obey 157 = .ok (.iload_n 3, 1) := by decide +kernel
theorem dX10_obey_158 : decode cX10_obey 158 = .ok (.invokevirtual 111, 3) := by decide +kernel
theorem dX10_obey_161 : decode cX10_obey 161 = .ok (.ireturn, 1) := by decide +kernel
theorem dX10_obey_162 : decode cX10_obey 162 = .ok (.aload_n 0, 1) := by decide +kernel
theorem dX10_obey_163 : decode cX10_obey 163 = .ok (.getfield 10, 3) := by decide +kernel
theorem dX10_obey_166 : decode cX10_obey 166 = .ok (.iload_n 2, 1) := by decide +kernel
theorem dX10_obey_167 : decode cX10_obey 167 = .ok (.invokevirtual 114, 3) := by decide +kernel
theorem dX10_obey_170 : decode cX10_obey 170 = .ok (.ireturn, 1) := by decide +kernel
theorem dX10_obey_171 : decode cX10_obey 171 = .ok (.aload_n 0, 1) := by decide +kernel
theorem dX10_obey_172 : decode cX10_obey 172 = .ok (.getfield 10, 3) := by decide +kernel
theorem dX10_obey_175 : decode cX10_obey 175 = .ok (.iload_n 2, 1) := by decide +kernel
theorem dX10_obey_176 : decode cX10_obey 176 = .ok (.iload_n 3, 1) := by decide +kernel
theorem dX10_obey_177 : decode cX10_obey 177 = .ok (.invokevirtual 117, 3) := by decide +kernel
theorem dX10_obey_180 : decode cX10_obey 180 = .ok (.ireturn, 1) := by decide +kernel
theorem dX10_obey_181 : decode cX10_obey 181 = .ok (.aload_n 0, 1) := by decide +kernel
theorem dX10_obey_182 : decode cX10_obey 182 = .ok (.getfield 10, 3) := by decide +kernel
theorem dX10_obey_185 : decode cX10_obey 185 = .ok (.iload_n 2, 1) := by decide +kernel
theorem dX10_obey_186 : decode cX10_obey 186 = .ok (.invokevirtual 120, 3) := by decide +kernel
theorem dX10_obey_189 : decode cX10_obey 189 = .ok (.ireturn, 1) := by decide +kernel
theorem dX10_obey_190 : decode cX10_obey 190 = .ok (.aload_n 0, 1) := by decide +kernel
theorem dX10_obey_191 : decode cX10_obey 191 = .ok (.getfield 10, 3) := by decide +kernel
theorem dX10_obey_194 : decode cX10_obey 194 = .ok (.iload_n 2, 1) := by decide +kernel
theorem dX10_obey_195 : decode cX10_obey 195 = .ok (.iload_n 3, 1) := by decide +kernel
theorem dX10_obey_196 : decode cX10_obey 196 = .ok (.invokevirtual 126, 3) := by decide +kernel
theorem dX10_obey_199 : decode cX10_obey 199 = .ok (.ireturn, 1) := by decide +kernel
theorem dX10_obey_200 : decode cX10_obey 200 = .ok (.aload_n 0, 1) := by decide +kernel
theorem dX10_obey_201 : decode cX10_obey 201 = .ok (.getfield 10, 3) := by decide +kernel
theorem dX10_obey_204 : decode cX10_obey 204 = .ok (.iload_n 2, 1) := by decide +kernel
theorem dX10_obey_205 : decode cX10_obey 205 = .ok (.invokevirtual 129, 3) := by decide +kernel
theorem dX10_obey_208 : decode cX10_obey 208 = .ok (.ireturn, 1) := by decide +kernel
theorem dX10_obey_209 : decode cX10_obey 209 = .ok (.bipush (-2), 2) := by decide +kernel
theorem dX10_obey_211 : decode cX10_obey 211 = .ok (.ireturn, 1) := by decide +kernel
theorem dX10_worksToday_0 : decode cX10_worksToday 0 = .ok (.aload_n 0, 1) := by decide +kernel
theorem dX10_worksToday_1 : decode cX10_worksToday 1 = .ok (.getfield 26, 3) := by decide +kernel
theorem dX10_worksToday_4 : decode cX10_worksToday 4 = .ok (.aload_n 0, 1) := by decide +kernel
theorem dX10_worksToday_5 : decode cX10_worksToday 5 = .ok (.getfield 20, 3) := by decide +kernel
theorem dX10_worksToday_8 : decode cX10_worksToday 8 = .ok (.invokevirtual 149, 3) := by decide +kernel
theorem dX10_worksToday_11 : decode cX10_worksToday 11 = .ok (.iconst 0, 1) := by decide +kernel
theorem dX10_worksToday_12 : decode cX10_worksToday 12 = .ok (.istore_n 2, 1) := by decide +kernel
theorem dX10_worksToday_13 : decode cX10_worksToday 13 = .ok (.iload_n 2, 1) := by decide +kernel
theorem dX10_worksToday_14 : decode cX10_worksToday 14 = .ok (.iload_n 1, 1) := by decide +kernel
theorem dX10_worksToday_15 : decode cX10_worksToday 15 = .ok (.if_icmp .ge 28, 3) := by decide +kernel
theorem dX10_worksToday_18 : decode cX10_worksToday 18 = .ok (.aload_n 0, 1) := by decide +kernel
theorem dX10_worksToday_19 : decode cX10_worksToday 19 = .ok (.getfield 26, 3) := by decide +kernel
theorem dX10_worksToday_22 : decode cX10_worksToday 22 = .ok (.iload_n 2, 1) := by decide +kernel
theorem dX10_worksToday_23 : decode cX10_worksToday 23 = .ok (.invokevirtual 342, 3) := by decide +kernel
theorem dX10_worksToday_26 : decode cX10_worksToday 26 = .ok (.ifCond .eq 11, 3) := by decide +kernel
theorem dX10_worksToday_29 : decode cX10_worksToday 29 = .ok (.aload_n 0, 1) := by decide +kernel
theorem dX10_worksToday_30 : decode cX10_worksToday 30 = .ok (.getfield 26, 3) := by decide +kernel
theorem dX10_worksToday_33 : decode cX10_worksToday 33 = .ok (.iload_n 2, 1) := by decide +kernel
theorem dX10_worksToday_34 : decode cX10_worksToday 34 = .ok (.invokevirtual 345, 3) := by decide +kernel
theorem dX10_worksToday_37 : decode cX10_worksToday 37 = .ok (.iinc 2 1, 3) := by decide +kernel
theorem dX10_worksToday_40 : decode cX10_worksToday 40 = .ok (.goto (-27), 3) := by decide +kernel
theorem dX10_worksToday_43 : decode cX10_worksToday 43 = .ok (.aload_n 0, 1) := by decide +kernel
theorem dX10_worksToday_44 : decode cX10_worksToday 44 = .ok (.getfield 26, 3) := by decide +kernel
theorem dX10_worksToday_47 : decode cX10_worksToday 47 = .ok (.iload_n 1, 1) := by decide +kernel
theorem dX10_worksToday_48 : decode cX10_worksToday 48 = .ok (.invokevirtual 342, 3) := by decide +kernel
theorem dX10_worksToday_51 : decode cX10_worksToday 51 = .ok (.ireturn, 1) := by decide +kernel
theorem dX10_writeStorey_0 : decode cX10_writeStorey 0 = .ok (.aload_n 0, 1) := by decide +kernel
theorem dX10_writeStorey_1 : decode cX10_writeStorey 1 = .ok (.getfield 20, 3) := by decide +kernel
theorem dX10_writeStorey_4 : decode cX10_writeStorey 4 = .ok (.getfield 181, 3) := by decide +kernel
theorem dX10_writeStorey_7 : decode cX10_writeStorey 7 = .ok (.astore_n 2, 1) := by decide +kernel
theorem dX10_writeStorey_8 : decode cX10_writeStorey 8 = .ok (.aload_n 0, 1) := by decide +kernel
theorem dX10_writeStorey_9 : decode cX10_writeStorey 9 = .ok (.getfield 48, 3) := by decide +kernel
theorem dX10_writeStorey_12 : decode cX10_writeStorey 12 = .ok (.iload_n 1, 1) := by decide +kernel
theorem dX10_writeStorey_13 : decode cX10_writeStorey 13 = .ok (.invokevirtual 348, 3) := by decide +kernel
theorem dX10_writeStorey_16 : decode cX10_writeStorey 16 = .ok (.aload_n 0, 1) := by decide +kernel
theorem dX10_writeStorey_17 : decode cX10_writeStorey 17 = .ok (.getfield 48, 3) := by decide +kernel
theorem dX10_writeStorey_20 : decode cX10_writeStorey 20 = .ok (.bipush 58, 2) := by decide +kernel
theorem dX10_writeStorey_22 : decode cX10_writeStorey 22 = .ok (.invokevirtual 82, 3) := by decide +kernel
theorem dX10_writeStorey_25 : decode cX10_writeStorey 25 = .ok (.aload_n 0, 1) := by decide +kernel
theorem dX10_writeStorey_26 : decode cX10_writeStorey 26 = .ok (.getfield 48, 3) := by decide +kernel
theorem dX10_writeStorey_29 : decode cX10_writeStorey 29 = .ok (.aload_n 2, 1) := by decide +kernel
theorem dX10_writeStorey_30 : decode cX10_writeStorey 30 = .ok (.iload_n 1, 1) := by decide +kernel
theorem dX10_writeStorey_31 : decode cX10_writeStorey 31 = .ok (.invokevirtual 188, 3) := by decide +kernel
theorem dX10_writeStorey_34 : decode cX10_writeStorey 34 = .ok (.invokevirtual 348, 3) := by decide +kernel
theorem dX10_writeStorey_37 : decode cX10_writeStorey 37 = .ok (.aload_n 0, 1) := by decide +kernel
theorem dX10_writeStorey_38 : decode cX10_writeStorey 38 = .ok (.getfield 48, 3) := by decide +kernel
theorem dX10_writeStorey_41 : decode cX10_writeStorey 41 = .ok (.bipush 112, 2) := by decide +kernel
theorem dX10_writeStorey_43 : decode cX10_writeStorey 43 = .ok (.invokevirtual 82, 3) := by decide +kernel
theorem dX10_writeStorey_46 : decode cX10_writeStorey 46 = .ok (.aload_n 0, 1) := by decide +kernel
theorem dX10_writeStorey_47 : decode cX10_writeStorey 47 = .ok (.getfield 48, 3) := by decide +kernel
theorem dX10_writeStorey_50 : decode cX10_writeStorey 50 = .ok (.aload_n 2, 1) := by decide +kernel
theorem dX10_writeStorey_51 : decode cX10_writeStorey 51 = .ok (.iload_n 1, 1) := by decide +kernel
theorem dX10_writeStorey_52 : decode cX10_writeStorey 52 = .ok (.invokevirtual 190, 3) := by decide +kernel
theorem dX10_writeStorey_55 : decode cX10_writeStorey 55 = .ok (.invokevirtual 348, 3) := by decide +kernel
theorem dX10_writeStorey_58 : decode cX10_writeStorey 58 = .ok (.aload_n 2, 1) := by decide +kernel
theorem dX10_writeStorey_59 : decode cX10_writeStorey 59 = .ok (.iload_n 1, 1) := by decide +kernel
theorem dX10_writeStorey_60 : decode cX10_writeStorey 60 = .ok (.invokevirtual 199, 3) := by decide +kernel
theorem dX10_writeStorey_63 : decode cX10_writeStorey 63 = .ok (.ifCond .eq 12, 3) := by decide +kernel
theorem dX10_writeStorey_66 : decode cX10_writeStorey 66 = .ok (.aload_n 0, 1) := by decide +kernel
theorem dX10_writeStorey_67 : decode cX10_writeStorey 67 = .ok (.getfield 48, 3) := by decide +kernel
theorem dX10_writeStorey_70 : decode cX10_writeStorey 70 = .ok (.bipush 35, 2) := by decide +kernel
theorem dX10_writeStorey_72 : decode cX10_writeStorey 72 = .ok (.invokevirtual 82, 3) := by decide +kernel
theorem dX10_writeStorey_75 : decode cX10_writeStorey 75 = .ok (.aload_n 0, 1) := by decide +kernel
theorem dX10_writeStorey_76 : decode cX10_writeStorey 76 = .ok (.getfield 20, 3) := by decide +kernel
theorem dX10_writeStorey_79 : decode cX10_writeStorey 79 = .ok (.getfield 202, 3) := by decide +kernel
theorem dX10_writeStorey_82 : decode cX10_writeStorey 82 = .ok (.iload_n 1, 1) := by decide +kernel
theorem dX10_writeStorey_83 : decode cX10_writeStorey 83 = .ok (.invokevirtual 351, 3) := by decide +kernel
theorem dX10_writeStorey_86 : decode cX10_writeStorey 86 = .ok (.istore_n 3, 1) := by decide +kernel
theorem dX10_writeStorey_87 : decode cX10_writeStorey 87 = .ok (.iconst 0, 1) := by decide +kernel
theorem dX10_writeStorey_88 : decode cX10_writeStorey 88 = .ok (.istore 4, 2) := by decide +kernel
theorem dX10_writeStorey_90 : decode cX10_writeStorey 90 = .ok (.iload 4, 2) := by decide +kernel
theorem dX10_writeStorey_92 : decode cX10_writeStorey 92 = .ok (.iload_n 3, 1) := by decide +kernel
theorem dX10_writeStorey_93 : decode cX10_writeStorey 93 = .ok (.if_icmp .ge 18, 3) := by decide +kernel
theorem dX10_writeStorey_96 : decode cX10_writeStorey 96 = .ok (.aload_n 0, 1) := by decide +kernel
theorem dX10_writeStorey_97 : decode cX10_writeStorey 97 = .ok (.getfield 48, 3) := by decide +kernel
theorem dX10_writeStorey_100 : decode cX10_writeStorey 100 = .ok (.bipush 42, 2) := by decide +kernel
theorem dX10_writeStorey_102 : decode cX10_writeStorey 102 = .ok (.invokevirtual 82, 3) := by decide +kernel
theorem dX10_writeStorey_105 : decode cX10_writeStorey 105 = .ok (.iinc 4 1, 3) := by decide +kernel
theorem dX10_writeStorey_108 : decode cX10_writeStorey 108 = .ok (.goto (-18), 3) := by decide +kernel
theorem dX10_writeStorey_111 : decode cX10_writeStorey 111 = .ok (.aload_n 2, 1) := by decide +kernel
theorem dX10_writeStorey_112 : decode cX10_writeStorey 112 = .ok (.iload_n 1, 1) := by decide +kernel
theorem dX10_writeStorey_113 : decode cX10_writeStorey 113 = .ok (.invokevirtual 193, 3) := by decide +kernel
theorem dX10_writeStorey_116 : decode cX10_writeStorey 116 = .ok (.ifCond .le 24, 3) := by decide +kernel
theorem dX10_writeStorey_119 : decode cX10_writeStorey 119 = .ok (.aload_n 0, 1) := by decide +kernel
theorem dX10_writeStorey_120 : decode cX10_writeStorey 120 = .ok (.getfield 48, 3) := by decide +kernel
theorem dX10_writeStorey_123 : decode cX10_writeStorey 123 = .ok (.bipush 119, 2) := by decide +kernel
theorem dX10_writeStorey_125 : decode cX10_writeStorey 125 = .ok (.invokevirtual 82, 3) := by decide +kernel
theorem dX10_writeStorey_128 : decode cX10_writeStorey 128 = .ok (.aload_n 0, 1) := by decide +kernel
theorem dX10_writeStorey_129 : decode cX10_writeStorey 129 = .ok (.getfield 48, 3) := by decide +kernel
theorem dX10_writeStorey_132 : decode cX10_writeStorey 132 = .ok (.aload_n 2, 1) := by decide +kernel
theorem dX10_writeStorey_133 : decode cX10_writeStorey 133 = .ok (.iload_n 1, 1) := by decide +kernel
theorem dX10_writeStorey_134 : decode cX10_writeStorey 134 = .ok (.invokevirtual 193, 3) := by decide +kernel
theorem dX10_writeStorey_137 : decode cX10_writeStorey 137 = .ok (.invokevirtual 348, 3) := by decide +kernel
theorem dX10_writeStorey_140 : decode cX10_writeStorey 140 = .ok (.return_, 1) := by decide +kernel
theorem dX10_writeBare_0 : decode cX10_writeBare 0 = .ok (.aload_n 0, 1) := by decide +kernel
theorem dX10_writeBare_1 : decode cX10_writeBare 1 = .ok (.getfield 48, 3) := by decide +kernel
theorem dX10_writeBare_4 : decode cX10_writeBare 4 = .ok (.bipush 98, 2) := by decide +kernel
theorem dX10_writeBare_6 : decode cX10_writeBare 6 = .ok (.invokevirtual 82, 3) := by decide +kernel
theorem dX10_writeBare_9 : decode cX10_writeBare 9 = .ok (.aload_n 0, 1) := by decide +kernel
theorem dX10_writeBare_10 : decode cX10_writeBare 10 = .ok (.getfield 48, 3) := by decide +kernel
theorem dX10_writeBare_13 : decode cX10_writeBare 13 = .ok (.bipush 97, 2) := by decide +kernel
theorem dX10_writeBare_15 : decode cX10_writeBare 15 = .ok (.invokevirtual 82, 3) := by decide +kernel
theorem dX10_writeBare_18 : decode cX10_writeBare 18 = .ok (.aload_n 0, 1) := by decide +kernel
theorem dX10_writeBare_19 : decode cX10_writeBare 19 = .ok (.getfield 48, 3) := by decide +kernel
theorem dX10_writeBare_22 : decode cX10_writeBare 22 = .ok (.bipush 114, 2) := by decide +kernel
theorem dX10_writeBare_24 : decode cX10_writeBare 24 = .ok (.invokevirtual 82, 3) := by decide +kernel
theorem dX10_writeBare_27 : decode cX10_writeBare 27 = .ok (.aload_n 0, 1) := by decide +kernel
theorem dX10_writeBare_28 : decode cX10_writeBare 28 = .ok (.getfield 48, 3) := by decide +kernel
theorem dX10_writeBare_31 : decode cX10_writeBare 31 = .ok (.bipush 101, 2) := by decide +kernel
theorem dX10_writeBare_33 : decode cX10_writeBare 33 = .ok (.invokevirtual 82, 3) := by decide +kernel
theorem dX10_writeBare_36 : decode cX10_writeBare 36 = .ok (.return_, 1) := by decide +kernel
theorem dX10_isWithin_0 : decode cX10_isWithin 0 = .ok (.iload_n 0, 1) := by decide +kernel
theorem dX10_isWithin_1 : decode cX10_isWithin 1 = .ok (.iload_n 1, 1) := by decide +kernel
theorem dX10_isWithin_2 : decode cX10_isWithin 2 = .ok (.if_icmp .lt 12, 3) := by decide +kernel
theorem dX10_isWithin_5 : decode cX10_isWithin 5 = .ok (.iload_n 0, 1) := by decide +kernel
theorem dX10_isWithin_6 : decode cX10_isWithin 6 = .ok (.iload_n 2, 1) := by decide +kernel
theorem dX10_isWithin_7 : decode cX10_isWithin 7 = .ok (.if_icmp .gt 7, 3) := by decide +kernel
theorem dX10_isWithin_10 : decode cX10_isWithin 10 = .ok (.iconst 1, 1) := by decide +kernel
theorem dX10_isWithin_11 : decode cX10_isWithin 11 = .ok (.goto 4, 3) := by decide +kernel
theorem dX10_isWithin_14 : decode cX10_isWithin 14 = .ok (.iconst 0, 1) := by decide +kernel
theorem dX10_isWithin_15 : decode cX10_isWithin 15 = .ok (.ireturn, 1) := by decide +kernel
theorem dX10_at_0 : decode cX10_at 0 = .ok (.iload_n 1, 1) := by decide +kernel
theorem dX10_at_1 : decode cX10_at 1 = .ok (.ifCond .lt 15, 3) := by decide +kernel
theorem dX10_at_4 : decode cX10_at 4 = .ok (.iload_n 1, 1) := by decide +kernel
theorem dX10_at_5 : decode cX10_at 5 = .ok (.aload_n 0, 1) := by decide +kernel
theorem dX10_at_6 : decode cX10_at 6 = .ok (.arraylength, 1) := by decide +kernel
theorem dX10_at_7 : decode cX10_at 7 = .ok (.if_icmp .ge 9, 3) := by decide +kernel
theorem dX10_at_10 : decode cX10_at 10 = .ok (.aload_n 0, 1) := by decide +kernel
theorem dX10_at_11 : decode cX10_at 11 = .ok (.iload_n 1, 1) := by decide +kernel
theorem dX10_at_12 : decode cX10_at 12 = .ok (.iaload, 1) := by decide +kernel
theorem dX10_at_13 : decode cX10_at 13 = .ok (.goto 4, 3) := by decide +kernel
theorem dX10_at_16 : decode cX10_at 16 = .ok (.iconst 0, 1) := by decide +kernel
theorem dX10_at_17 : decode cX10_at 17 = .ok (.ireturn, 1) := by decide +kernel
theorem dX10_put_0 : decode cX10_put 0 = .ok (.iload_n 1, 1) := by decide +kernel
theorem dX10_put_1 : decode cX10_put 1 = .ok (.ifCond .lt 13, 3) := by decide +kernel
theorem dX10_put_4 : decode cX10_put 4 = .ok (.iload_n 1, 1) := by decide +kernel
theorem dX10_put_5 : decode cX10_put 5 = .ok (.aload_n 0, 1) := by decide +kernel
theorem dX10_put_6 : decode cX10_put 6 = .ok (.arraylength, 1) := by decide +kernel
theorem dX10_put_7 : decode cX10_put 7 = .ok (.if_icmp .ge 7, 3) := by decide +kernel
theorem dX10_put_10 : decode cX10_put 10 = .ok (.aload_n 0, 1) := by decide +kernel
theorem dX10_put_11 : decode cX10_put 11 = .ok (.iload_n 1, 1) := by decide +kernel
theorem dX10_put_12 : decode cX10_put 12 = .ok (.iload_n 2, 1) := by decide +kernel
theorem dX10_put_13 : decode cX10_put 13 = .ok (.iastore, 1) := by decide +kernel
theorem dX10_put_14 : decode cX10_put 14 = .ok (.return_, 1) := by decide +kernel
theorem dX10_sum_0 : decode cX10_sum 0 = .ok (.iconst 0, 1) := by decide +kernel
theorem dX10_sum_1 : decode cX10_sum 1 = .ok (.istore_n 2, 1) := by decide +kernel
theorem dX10_sum_2 : decode cX10_sum 2 = .ok (.iconst 0, 1) := by decide +kernel
theorem dX10_sum_3 : decode cX10_sum 3 = .ok (.istore_n 3, 1) := by decide +kernel
theorem dX10_sum_4 : decode cX10_sum 4 = .ok (.iload_n 3, 1) := by decide +kernel
theorem dX10_sum_5 : decode cX10_sum 5 = .ok (.iload_n 1, 1) := by decide +kernel
theorem dX10_sum_6 : decode cX10_sum 6 = .ok (.if_icmp .ge 17, 3) := by decide +kernel
theorem dX10_sum_9 : decode cX10_sum 9 = .ok (.iload_n 2, 1) := by decide +kernel
theorem dX10_sum_10 : decode cX10_sum 10 = .ok (.aload_n 0, 1) := by decide +kernel
theorem dX10_sum_11 : decode cX10_sum 11 = .ok (.iload_n 3, 1) := by decide +kernel
theorem dX10_sum_12 : decode cX10_sum 12 = .ok (.invokestatic 354, 3) := by decide +kernel
theorem dX10_sum_15 : decode cX10_sum 15 = .ok (.iadd, 1) := by decide +kernel
theorem dX10_sum_16 : decode cX10_sum 16 = .ok (.istore_n 2, 1) := by decide +kernel
theorem dX10_sum_17 : decode cX10_sum 17 = .ok (.iinc 3 1, 3) := by decide +kernel
theorem dX10_sum_20 : decode cX10_sum 20 = .ok (.goto (-16), 3) := by decide +kernel
theorem dX10_sum_23 : decode cX10_sum 23 = .ok (.iload_n 2, 1) := by decide +kernel
theorem dX10_sum_24 : decode cX10_sum 24 = .ok (.ireturn, 1) := by decide +kernel
theorem dX10_copy_0 : decode cX10_copy 0 = .ok (.aload_n 0, 1) := by decide +kernel
theorem dX10_copy_1 : decode cX10_copy 1 = .ok (.iconst 0, 1) := by decide +kernel
theorem dX10_copy_2 : decode cX10_copy 2 = .ok (.aload_n 1, 1) := by decide +kernel
theorem dX10_copy_3 : decode cX10_copy 3 = .ok (.iconst 0, 1) := by decide +kernel
theorem dX10_copy_4 : decode cX10_copy 4 = .ok (.aload_n 0, 1) := by decide +kernel
theorem dX10_copy_5 : decode cX10_copy 5 = .ok (.arraylength, 1) := by decide +kernel
theorem dX10_copy_6 : decode cX10_copy 6 = .ok (.aload_n 1, 1) := by decide +kernel
theorem dX10_copy_7 : decode cX10_copy 7 = .ok (.arraylength, 1) := by decide +kernel
theorem dX10_copy_8 : decode cX10_copy 8 = .ok (.invokestatic 358, 3) := by decide +kernel
theorem dX10_copy_11 : decode cX10_copy 11 = .ok (.invokestatic 363, 3) := by decide +kernel
theorem dX10_copy_14 : decode cX10_copy 14 = .ok (.return_, 1) := by decide +kernel
theorem dX10_makeOlder_0 : decode cX10_makeOlder 0 = .ok (.iconst 0, 1) := by decide +kernel
theorem dX10_makeOlder_1 : decode cX10_makeOlder 1 = .ok (.istore 4, 2) := by decide +kernel
theorem dX10_makeOlder_3 : decode cX10_makeOlder 3 = .ok (.iload 4, 2) := by decide +kernel
theorem dX10_makeOlder_5 : decode cX10_makeOlder 5 = .ok (.iload_n 1, 1) := by decide +kernel
theorem dX10_makeOlder_6 : decode cX10_makeOlder 6 = .ok (.if_icmp .ge 27, 3) := by decide +kernel
theorem dX10_makeOlder_9 : decode cX10_makeOlder 9 = .ok (.aload_n 0, 1) := by decide +kernel
theorem dX10_makeOlder_10 : decode cX10_makeOlder 10 = .ok (.iload 4, 2) := by decide +kernel
theorem dX10_makeOlder_12 : decode cX10_makeOlder 12 = .ok (.aload_n 0, 1) := by decide +kernel
theorem dX10_makeOlder_13 : decode cX10_makeOlder 13 = .ok (.iload 4, 2) := by decide +kernel
theorem dX10_makeOlder_15 : decode cX10_makeOlder 15 = .ok (.invokestatic 354, 3) := by decide +kernel
theorem dX10_makeOlder_18 : decode cX10_makeOlder 18 = .ok (.iload_n 2, 1) := by decide +kernel
theorem dX10_makeOlder_19 : decode cX10_makeOlder 19 = .ok (.iadd, 1) := by decide +kernel
theorem dX10_makeOlder_20 : decode cX10_makeOlder 20 = .ok (.iload_n 3, 1) := by decide +kernel
theorem dX10_makeOlder_21 : decode cX10_makeOlder 21 = .ok (.invokestatic 358, 3) := by decide +kernel
theorem dX10_makeOlder_24 : decode cX10_makeOlder 24 = .ok (.invokestatic 369, 3) := by decide +kernel
theorem dX10_makeOlder_27 : decode cX10_makeOlder 27 = .ok (.iinc 4 1, 3) := by decide +kernel
theorem dX10_makeOlder_30 : decode cX10_makeOlder 30 = .ok (.goto (-27), 3) := by decide +kernel
theorem dX10_makeOlder_33 : decode cX10_makeOlder 33 = .ok (.return_, 1) := by decide +kernel
