theorem dX9_ways_25 : decode cX9_ways 25 = .ok (.istore_n 1, 1) := by decide +kernel
theorem dX9_ways_26 : decode cX9_ways 26 = .ok (.iconst 0, 1) := by decide +kernel
theorem dX9_ways_27 : decode cX9_ways 27 = .ok (.istore_n 2, 1) := by decide +kernel
theorem dX9_ways_28 : decode cX9_ways 28 = .ok (.iload_n 2, 1) := by decide +kernel
theorem dX9_ways_29 : decode cX9_ways 29 = .ok (.aload_n 0, 1) := by decide +kernel
theorem dX9_ways_30 : decode cX9_ways 30 = .ok (.getfield 119, 3) := by decide +kernel
theorem dX9_ways_33 : decode cX9_ways 33 = .ok (.if_icmp .ge 18, 3) := by decide +kernel
theorem dX9_ways_36 : decode cX9_ways 36 = .ok (.iload_n 1, 1) := by decide +kernel
theorem dX9_ways_37 : decode cX9_ways 37 = .ok (.aload_n 0, 1) := by decide +kernel
theorem dX9_ways_38 : decode cX9_ways 38 = .ok (.getfield 31, 3) := by decide +kernel
theorem dX9_ways_41 : decode cX9_ways 41 = .ok (.iload_n 2, 1) := by decide +kernel
theorem dX9_ways_42 : decode cX9_ways 42 = .ok (.iaload, 1) := by decide +kernel
theorem dX9_ways_43 : decode cX9_ways 43 = .ok (.imul, 1) := by decide +kernel
theorem dX9_ways_44 : decode cX9_ways 44 = .ok (.istore_n 1, 1) := by decide +kernel
theorem dX9_ways_45 : decode cX9_ways 45 = .ok (.iinc 2 1, 3) := by decide +kernel
theorem dX9_ways_48 : decode cX9_ways 48 = .ok (.goto (-20), 3) := by decide +kernel
theorem dX9_ways_51 : decode cX9_ways 51 = .ok (.iload_n 1, 1) := by decide +kernel
theorem dX9_ways_52 : decode cX9_ways 52 = .ok (.aload_n 0, 1) := by decide +kernel
theorem dX9_ways_53 : decode cX9_ways 53 = .ok (.getfield 148, 3) := by decide +kernel
theorem dX9_ways_56 : decode cX9_ways 56 = .ok (.ishl, 1) := by decide +kernel
theorem dX9_ways_57 : decode cX9_ways 57 = .ok (.ireturn, 1) := by decide +kernel
theorem dX9_isStuck_0 : decode cX9_isStuck 0 = .ok (.iconst 0, 1) := by decide +kernel
theorem dX9_isStuck_1 : decode cX9_isStuck 1 = .ok (.istore_n 1, 1) := by decide +kernel
theorem dX9_isStuck_2 : decode cX9_isStuck 2 = .ok (.iload_n 1, 1) := by decide +kernel
theorem dX9_isStuck_3 : decode cX9_isStuck 3 = .ok (.aload_n 0, 1) := by decide +kernel
theorem dX9_isStuck_4 : decode cX9_isStuck 4 = .ok (.getfield 119, 3) := by decide +kernel
theorem dX9_isStuck_7 : decode cX9_isStuck 7 = .ok (.if_icmp .ge 24, 3) := by decide +kernel
theorem dX9_isStuck_10 : decode cX9_isStuck 10 = .ok (.aload_n 0, 1) := by decide +kernel
theorem dX9_isStuck_11 : decode cX9_isStuck 11 = .ok (.getfield 34, 3) := by decide +kernel
theorem dX9_isStuck_14 : decode cX9_isStuck 14 = .ok (.iload_n 1, 1) := by decide +kernel
theorem dX9_isStuck_15 : decode cX9_isStuck 15 = .ok (.iaload, 1) := by decide +kernel
theorem dX9_isStuck_16 : decode cX9_isStuck 16 = .ok (.aload_n 0, 1) := by decide +kernel
theorem dX9_isStuck_17 : decode cX9_isStuck 17 = .ok (.getfield 24, 3) := by decide +kernel
theorem dX9_isStuck_20 : decode cX9_isStuck 20 = .ok (.if_icmp .le 5, 3) := by decide +kernel
theorem dX9_isStuck_23 : decode cX9_isStuck 23 = .ok (.iconst 1, 1) := by decide +kernel
theorem dX9_isStuck_24 : decode cX9_isStuck 24 = .ok (.ireturn, 1) := by decide +kernel
theorem dX9_isStuck_25 : decode cX9_isStuck 25 = .ok (.iinc 1 1, 3) := by decide +kernel
theorem dX9_isStuck_28 : decode cX9_isStuck 28 = .ok (.goto (-26), 3) := by decide +kernel
theorem dX9_isStuck_31 : decode cX9_isStuck 31 = .ok (.iconst 0, 1) := by decide +kernel
theorem dX9_isStuck_32 : decode cX9_isStuck 32 = .ok (.ireturn, 1) := by decide +kernel
theorem dX9_firstWay_0 : decode cX9_firstWay 0 = .ok (.iconst 0, 1) := by decide +kernel
theorem dX9_firstWay_1 : decode cX9_firstWay 1 = .ok (.istore_n 1, 1) := by decide +kernel
theorem dX9_firstWay_2 : decode cX9_firstWay 2 = .ok (.iload_n 1, 1) := by decide +kernel
theorem dX9_firstWay_3 : decode cX9_firstWay 3 = .ok (.aload_n 0, 1) := by decide +kernel
theorem dX9_firstWay_4 : decode cX9_firstWay 4 = .ok (.getfield 119, 3) := by decide +kernel
theorem dX9_firstWay_7 : decode cX9_firstWay 7 = .ok (.if_icmp .ge 16, 3) := by decide +kernel
theorem dX9_firstWay_10 : decode cX9_firstWay 10 = .ok (.aload_n 0, 1) := by decide +kernel
theorem dX9_firstWay_11 : decode cX9_firstWay 11 = .ok (.getfield 61, 3) := by decide +kernel
theorem dX9_firstWay_14 : decode cX9_firstWay 14 = .ok (.iload_n 1, 1) := by decide +kernel
theorem dX9_firstWay_15 : decode cX9_firstWay 15 = .ok (.iconst 0, 1) := by decide +kernel
theorem dX9_firstWay_16 : decode cX9_firstWay 16 = .ok (.iastore, 1) := by decide +kernel
theorem dX9_firstWay_17 : decode cX9_firstWay 17 = .ok (.iinc 1 1, 3) := by decide +kernel
theorem dX9_firstWay_20 : decode cX9_firstWay 20 = .ok (.goto (-18), 3) := by decide +kernel
theorem dX9_firstWay_23 : decode cX9_firstWay 23 = .ok (.iconst 0, 1) := by decide +kernel
theorem dX9_firstWay_24 : decode cX9_firstWay 24 = .ok (.istore_n 1, 1) := by decide +kernel
theorem dX9_firstWay_25 : decode cX9_firstWay 25 = .ok (.iload_n 1, 1) := by decide +kernel
theorem dX9_firstWay_26 : decode cX9_firstWay 26 = .ok (.aload_n 0, 1) := by decide +kernel
theorem dX9_firstWay_27 : decode cX9_firstWay 27 = .ok (.getfield 148, 3) := by decide +kernel
theorem dX9_firstWay_30 : decode cX9_firstWay 30 = .ok (.if_icmp .ge 16, 3) := by decide +kernel
theorem dX9_firstWay_33 : decode cX9_firstWay 33 = .ok (.aload_n 0, 1) := by decide +kernel
theorem dX9_firstWay_34 : decode cX9_firstWay 34 = .ok (.getfield 70, 3) := by decide +kernel
theorem dX9_firstWay_37 : decode cX9_firstWay 37 = .ok (.iload_n 1, 1) := by decide +kernel
theorem dX9_firstWay_38 : decode cX9_firstWay 38 = .ok (.iconst 0, 1) := by decide +kernel
theorem dX9_firstWay_39 : decode cX9_firstWay 39 = .ok (.bastore, 1) := by decide +kernel
theorem dX9_firstWay_40 : decode cX9_firstWay 40 = .ok (.iinc 1 1, 3) := by decide +kernel
theorem dX9_firstWay_43 : decode cX9_firstWay 43 = .ok (.goto (-18), 3) := by decide +kernel
theorem dX9_firstWay_46 : decode cX9_firstWay 46 = .ok (.return_, 1) := by decide +kernel
theorem dX9_nextWay_0 : decode cX9_nextWay 0 = .ok (.iconst 0, 1) := by decide +kernel
theorem dX9_nextWay_1 : decode cX9_nextWay 1 = .ok (.istore_n 1, 1) := by decide +kernel
theorem dX9_nextWay_2 : decode cX9_nextWay 2 = .ok (.iload_n 1, 1) := by decide +kernel
theorem dX9_nextWay_3 : decode cX9_nextWay 3 = .ok (.aload_n 0, 1) := by decide +kernel
theorem dX9_nextWay_4 : decode cX9_nextWay 4 = .ok (.getfield 119, 3) := by decide +kernel
theorem dX9_nextWay_7 : decode cX9_nextWay 7 = .ok (.if_icmp .ge 43, 3) := by decide +kernel
theorem dX9_nextWay_10 : decode cX9_nextWay 10 = .ok (.aload_n 0, 1) := by decide +kernel
theorem dX9_nextWay_11 : decode cX9_nextWay 11 = .ok (.getfield 61, 3) := by decide +kernel
theorem dX9_nextWay_14 : decode cX9_nextWay 14 = .ok (.iload_n 1, 1) := by decide +kernel
theorem dX9_nextWay_15 : decode cX9_nextWay 15 = .ok (.dup2, 1) := by decide +kernel
theorem dX9_nextWay_16 : decode cX9_nextWay 16 = .ok (.iaload, 1) := by decide +kernel
theorem dX9_nextWay_17 : decode cX9_nextWay 17 = .ok (.iconst 1, 1) := by decide +kernel
theorem dX9_nextWay_18 : decode cX9_nextWay 18 = .ok (.iadd, 1) := by decide +kernel
theorem dX9_nextWay_19 : decode cX9_nextWay 19 = .ok (.iastore, 1) := by decide +kernel
theorem dX9_nextWay_20 : decode cX9_nextWay 20 = .ok (.aload_n 0, 1) := by decide +kernel
theorem dX9_nextWay_21 : decode cX9_nextWay 21 = .ok (.getfield 61, 3) := by decide +kernel
theorem dX9_nextWay_24 : decode cX9_nextWay 24 = .ok (.iload_n 1, 1) := by decide +kernel
theorem dX9_nextWay_25 : decode cX9_nextWay 25 = .ok (.iaload, 1) := by decide +kernel
theorem dX9_nextWay_26 : decode cX9_nextWay 26 = .ok (.aload_n 0, 1) := by decide +kernel
theorem dX9_nextWay_27 : decode cX9_nextWay 27 = .ok (.getfield 31, 3) := by decide +kernel
theorem dX9_nextWay_30 : decode cX9_nextWay 30 = .ok (.iload_n 1, 1) := by decide +kernel
theorem dX9_nextWay_31 : decode cX9_nextWay 31 = .ok (.iaload, 1) := by decide +kernel
theorem dX9_nextWay_32 : decode cX9_nextWay 32 = .ok (.if_icmp .ge 5, 3) := by decide +kernel
theorem dX9_nextWay_35 : decode cX9_nextWay 35 = .ok (.iconst 1, 1) := by decide +kernel
theorem dX9_nextWay_36 : decode cX9_nextWay 36 = .ok (.ireturn, 1) := by decide +kernel
theorem dX9_nextWay_37 : decode cX9_nextWay 37 = .ok (.aload_n 0, 1) := by decide +kernel
theorem dX9_nextWay_38 : decode cX9_nextWay 38 = .ok (.getfield 61, 3) := by decide +kernel
theorem dX9_nextWay_41 : decode cX9_nextWay 41 = .ok (.iload_n 1, 1) := by decide +kernel
theorem dX9_nextWay_42 : decode cX9_nextWay 42 = .ok (.iconst 0, 1) := by decide +kernel
theorem dX9_nextWay_43 : decode cX9_nextWay 43 = .ok (.iastore, 1) := by decide +kernel
theorem dX9_nextWay_44 : decode cX9_nextWay 44 = .ok (.iinc 1 1, 3) := by decide +kernel
theorem dX9_nextWay_47 : decode cX9_nextWay 47 = .ok (.goto (-45), 3) := by decide +kernel
theorem dX9_nextWay_50 : decode cX9_nextWay 50 = .ok (.iconst 0, 1) := by decide +kernel
theorem dX9_nextWay_51 : decode cX9_nextWay 51 = .ok (.istore_n 1, 1) := by decide +kernel
theorem dX9_nextWay_52 : decode cX9_nextWay 52 = .ok (.iload_n 1, 1) := by decide +kernel
theorem dX9_nextWay_53 : decode cX9_nextWay 53 = .ok (.aload_n 0, 1) := by decide +kernel
theorem dX9_nextWay_54 : decode cX9_nextWay 54 = .ok (.getfield 148, 3) := by decide +kernel
theorem dX9_nextWay_57 : decode cX9_nextWay 57 = .ok (.if_icmp .ge 40, 3) := by decide +kernel
theorem dX9_nextWay_60 : decode cX9_nextWay 60 = .ok (.aload_n 0, 1) := by decide +kernel
theorem dX9_nextWay_61 : decode cX9_nextWay 61 = .ok (.getfield 70, 3) := by decide +kernel
theorem dX9_nextWay_64 : decode cX9_nextWay 64 = .ok (.iload_n 1, 1) := by decide +kernel
theorem dX9_nextWay_65 : decode cX9_nextWay 65 = .ok (.aload_n 0, 1) := by decide +kernel
theorem dX9_nextWay_66 : decode cX9_nextWay 66 = .ok (.getfield 70, 3) := by decide +kernel
theorem dX9_nextWay_69 : decode cX9_nextWay 69 = .ok (.iload_n 1, 1) := by decide +kernel
theorem dX9_nextWay_70 : decode cX9_nextWay 70 = .ok (.baload, 1) := by decide +kernel
theorem dX9_nextWay_71 : decode cX9_nextWay 71 = .ok (.ifCond .ne 7, 3) := by decide +kernel
theorem dX9_nextWay_74 : decode cX9_nextWay 74 = .ok (.iconst 1, 1) := by decide +kernel
theorem dX9_nextWay_75 : decode cX9_nextWay 75 = .ok (.goto 4, 3) := by decide +kernel
theorem dX9_nextWay_78 : decode cX9_nextWay 78 = .ok (.iconst 0, 1) := by decide +kernel
theorem dX9_nextWay_79 : decode cX9_nextWay 79 = .ok (.bastore, 1) := by decide +kernel
theorem dX9_nextWay_80 : decode cX9_nextWay 80 = .ok (.aload_n 0, 1) := by decide +kernel
theorem dX9_nextWay_81 : decode cX9_nextWay 81 = .ok (.getfield 70, 3) := by decide +kernel
theorem dX9_nextWay_84 : decode cX9_nextWay 84 = .ok (.iload_n 1, 1) := by decide +kernel
theorem dX9_nextWay_85 : decode cX9_nextWay 85 = .ok (.baload, 1) := by decide +kernel
theorem dX9_nextWay_86 : decode cX9_nextWay 86 = .ok (.ifCond .eq 5, 3) := by decide +kernel
theorem dX9_nextWay_89 : decode cX9_nextWay 89 = .ok (.iconst 1, 1) := by decide +kernel
theorem dX9_nextWay_90 : decode cX9_nextWay 90 = .ok (.ireturn, 1) := by decide +kernel
theorem dX9_nextWay_91 : decode cX9_nextWay 91 = .ok (.iinc 1 1, 3) := by decide +kernel
theorem dX9_nextWay_94 : decode cX9_nextWay 94 = .ok (.goto (-42), 3) := by decide +kernel
theorem dX9_nextWay_97 : decode cX9_nextWay 97 = .ok (.iconst 0, 1) := by decide +kernel
theorem dX9_nextWay_98 : decode cX9_nextWay 98 = .ok (.ireturn, 1) := by decide +kernel
theorem dX9_weightOf_0 : decode cX9_weightOf 0 = .ok (.lconst 1, 1) := by decide +kernel
theorem dX9_weightOf_1 : decode cX9_weightOf 1 = .ok (.lstore_n 1, 1) := by decide +kernel
theorem dX9_weightOf_2 : decode cX9_weightOf 2 = .ok (.iconst 0, 1) := by decide +kernel
theorem dX9_weightOf_3 : decode cX9_weightOf 3 = .ok (.istore_n 3, 1) := by decide +kernel
theorem dX9_weightOf_4 : decode cX9_weightOf 4 = .ok (.iload_n 3, 1) := by decide +kernel
theorem dX9_weightOf_5 : decode cX9_weightOf 5 = .ok (.aload_n 0, 1) := by decide +kernel
theorem dX9_weightOf_6 : decode cX9_weightOf 6 = .ok (.getfield 119, 3) := by decide +kernel
theorem dX9_weightOf_9 : decode cX9_weightOf 9 = .ok (.if_icmp .ge 29, 3) := by decide +kernel
theorem dX9_weightOf_12 : decode cX9_weightOf 12 = .ok (.lload_n 1, 1) := by decide +kernel
theorem dX9_weightOf_13 : decode cX9_weightOf 13 = .ok (.aload_n 0, 1) := by decide +kernel
theorem dX9_weightOf_14 : decode cX9_weightOf 14 = .ok (.getfield 46, 3) := by decide +kernel
theorem dX9_weightOf_17 : decode cX9_weightOf 17 = .ok (.bipush 8, 2) := by decide +kernel
theorem dX9_weightOf_19 : decode cX9_weightOf 19 = .ok (.iload_n 3, 1) := by decide +kernel
theorem dX9_weightOf_20 : decode cX9_weightOf 20 = .ok (.imul, 1) := by decide +kernel
theorem dX9_weightOf_21 : decode cX9_weightOf 21 = .ok (.aload_n 0, 1) := by decide +kernel
theorem dX9_weightOf_22 : decode cX9_weightOf 22 = .ok (.getfield 61, 3) := by decide +kernel
theorem dX9_weightOf_25 : decode cX9_weightOf 25 = .ok (.iload_n 3, 1) := by decide +kernel
theorem dX9_weightOf_26 : decode cX9_weightOf 26 = .ok (.iaload, 1) := by decide +kernel
theorem dX9_weightOf_27 : decode cX9_weightOf 27 = .ok (.iadd, 1) := by decide +kernel
theorem dX9_weightOf_28 : decode cX9_weightOf 28 = .ok (.iaload, 1) := by decide +kernel
theorem dX9_weightOf_29 : decode cX9_weightOf 29 = .ok (.i2l, 1) := by decide +kernel
theorem dX9_weightOf_30 : decode cX9_weightOf 30 = .ok (.lmul, 1) := by decide +kernel
theorem dX9_weightOf_31 : decode cX9_weightOf 31 = .ok (.lstore_n 1, 1) := by decide +kernel
theorem dX9_weightOf_32 : decode cX9_weightOf 32 = .ok (.iinc 3 1, 3) := by decide +kernel
theorem dX9_weightOf_35 : decode cX9_weightOf 35 = .ok (.goto (-31), 3) := by decide +kernel
theorem dX9_weightOf_38 : decode cX9_weightOf 38 = .ok (.iconst 0, 1) := by decide +kernel
theorem dX9_weightOf_39 : decode cX9_weightOf 39 = .ok (.istore_n 3, 1) := by decide +kernel
theorem dX9_weightOf_40 : decode cX9_weightOf 40 = .ok (.iload_n 3, 1) := by decide +kernel
theorem dX9_weightOf_41 : decode cX9_weightOf 41 = .ok (.aload_n 0, 1) := by decide +kernel
theorem dX9_weightOf_42 : decode cX9_weightOf 42 = .ok (.getfield 148, 3) := by decide +kernel
theorem dX9_weightOf_45 : decode cX9_weightOf 45 = .ok (.if_icmp .ge 45, 3) := by decide +kernel
theorem dX9_weightOf_48 : decode cX9_weightOf 48 = .ok (.lload_n 1, 1) := by decide +kernel
theorem dX9_weightOf_49 : decode cX9_weightOf 49 = .ok (.aload_n 0, 1) := by decide +kernel
theorem dX9_weightOf_50 : decode cX9_weightOf 50 = .ok (.getfield 70, 3) := by decide +kernel
theorem dX9_weightOf_53 : decode cX9_weightOf 53 = .ok (.iload_n 3, 1) := by decide +kernel
theorem dX9_weightOf_54 : decode cX9_weightOf 54 = .ok (.baload, 1) := by decide +kernel
theorem dX9_weightOf_55 : decode cX9_weightOf 55 = .ok (.ifCond .eq 13, 3) := by decide +kernel
theorem dX9_weightOf_58 : decode cX9_weightOf 58 = .ok (.aload_n 0, 1) := by decide +kernel
theorem dX9_weightOf_59 : decode cX9_weightOf 59 = .ok (.getfield 52, 3) := by decide +kernel
theorem dX9_weightOf_62 : decode cX9_weightOf 62 = .ok (.iload_n 3, 1) := by decide +kernel
theorem dX9_weightOf_63 : decode cX9_weightOf 63 = .ok (.iaload, 1) := by decide +kernel
theorem dX9_weightOf_64 : decode cX9_weightOf 64 = .ok (.i2l, 1) := by decide +kernel
theorem dX9_weightOf_65 : decode cX9_weightOf 65 = .ok (.goto 17, 3) := by decide +kernel
theorem dX9_weightOf_68 : decode cX9_weightOf 68 = .ok (.aload_n 0, 1) := by decide +kernel
theorem dX9_weightOf_69 : decode cX9_weightOf 69 = .ok (.getfield 55, 3) := by decide +kernel
theorem dX9_weightOf_72 : decode cX9_weightOf 72 = .ok (.iload_n 3, 1) := by decide +kernel
theorem dX9_weightOf_73 : decode cX9_weightOf 73 = .ok (.iaload, 1) := by decide +kernel
theorem dX9_weightOf_74 : decode cX9_weightOf 74 = .ok (.aload_n 0, 1) := by decide +kernel
theorem dX9_weightOf_75 : decode cX9_weightOf 75 = .ok (.getfield 52, 3) := by decide +kernel
theorem dX9_weightOf_78 : decode cX9_weightOf 78 = .ok (.iload_n 3, 1) := by decide +kernel
theorem dX9_weightOf_79 : decode cX9_weightOf 79 = .ok (.iaload, 1) := by decide +kernel
theorem dX9_weightOf_80 : decode cX9_weightOf 80 = .ok (.isub, 1) := by decide +kernel
theorem dX9_weightOf_81 : decode cX9_weightOf 81 = .ok (.i2l, 1) := by decide +kernel
theorem dX9_weightOf_82 : decode cX9_weightOf 82 = .ok (.lmul, 1) := by decide +kernel
theorem dX9_weightOf_83 : decode cX9_weightOf 83 = .ok (.lstore_n 1, 1) := by decide +kernel
theorem dX9_weightOf_84 : decode cX9_weightOf 84 = .ok (.iinc 3 1, 3) := by decide +kernel
theorem dX9_weightOf_87 : decode cX9_weightOf 87 = .ok (.goto (-47), 3) := by decide +kernel
theorem dX9_weightOf_90 : decode cX9_weightOf 90 = .ok (.lload_n 1, 1) := by decide +kernel
theorem dX9_weightOf_91 : decode cX9_weightOf 91 = .ok (.lreturn, 1) := by decide +kernel
theorem dX9_step_0 : decode cX9_step 0 = .ok (.iconst 0, 1) := by decide +kernel
theorem dX9_step_1 : decode cX9_step 1 = .ok (.istore_n 2, 1) := by decide +kernel
theorem dX9_step_2 : decode cX9_step 2 = .ok (.iload_n 2, 1) := by decide +kernel
theorem dX9_step_3 : decode cX9_step 3 = .ok (.aload_n 0, 1) := by decide +kernel
theorem dX9_step_4 : decode cX9_step 4 = .ok (.getfield 119, 3) := by decide +kernel
theorem dX9_step_7 : decode cX9_step 7 = .ok (.if_icmp .ge 104, 3) := by decide +kernel
theorem dX9_step_10 : decode cX9_step 10 = .ok (.aload_n 0, 1) := by decide +kernel
theorem dX9_step_11 : decode cX9_step 11 = .ok (.getfield 64, 3) := by decide +kernel
theorem dX9_step_14 : decode cX9_step 14 = .ok (.iload_n 2, 1) := by decide +kernel
theorem dX9_step_15 : decode cX9_step 15 = .ok (.aload_n 0, 1) := by decide +kernel
theorem dX9_step_16 : decode cX9_step 16 = .ok (.getfield 43, 3) := by decide +kernel
theorem dX9_step_19 : decode cX9_step 19 = .ok (.bipush 8, 2) := by decide +kernel
theorem dX9_step_21 : decode cX9_step 21 = .ok (.iload_n 2, 1) := by decide +kernel
theorem dX9_step_22 : decode cX9_step 22 = .ok (.imul, 1) := by decide +kernel
theorem dX9_step_23 : decode cX9_step 23 = .ok (.aload_n 0, 1) := by decide +kernel
theorem dX9_step_24 : decode cX9_step 24 = .ok (.getfield 61, 3) := by decide +kernel
theorem dX9_step_27 : decode cX9_step 27 = .ok (.iload_n 2, 1) := by decide +kernel
theorem dX9_step_28 : decode cX9_step 28 = .ok (.iaload, 1) := by decide +kernel
theorem dX9_step_29 : decode cX9_step 29 = .ok (.iadd, 1) := by decide +kernel
theorem dX9_step_30 : decode cX9_step 30 = .ok (.iaload, 1) := by decide +kernel
theorem dX9_step_31 : decode cX9_step 31 = .ok (.iload_n 2, 1) := by decide +kernel
theorem dX9_step_32 : decode cX9_step 32 = .ok (.iload_n 1, 1) := by decide +kernel
theorem dX9_step_33 : decode cX9_step 33 = .ok (.if_icmp .ne 7, 3) := by decide +kernel
theorem dX9_step_36 : decode cX9_step 36 = .ok (.iconst 1, 1) := by decide +kernel
theorem dX9_step_37 : decode cX9_step 37 = .ok (.goto 4, 3) := by decide +kernel
theorem dX9_step_40 : decode cX9_step 40 = .ok (.iconst 0, 1) := by decide +kernel
theorem dX9_step_41 : decode cX9_step 41 = .ok (.iadd, 1) := by decide +kernel
theorem dX9_step_42 : decode cX9_step 42 = .ok (.iastore, 1) := by decide +kernel
theorem dX9_step_43 : decode cX9_step 43 = .ok (.iconst 0, 1) := by decide +kernel
theorem dX9_step_44 : decode cX9_step 44 = .ok (.istore_n 3, 1) := by decide +kernel
theorem dX9_step_45 : decode cX9_step 45 = .ok (.iload_n 3, 1) := by decide +kernel
theorem dX9_step_46 : decode cX9_step 46 = .ok (.aload_n 0, 1) := by decide +kernel
theorem dX9_step_47 : decode cX9_step 47 = .ok (.getfield 148, 3) := by decide +kernel
theorem dX9_step_50 : decode cX9_step 50 = .ok (.if_icmp .ge 41, 3) := by decide +kernel
theorem dX9_step_53 : decode cX9_step 53 = .ok (.aload_n 0, 1) := by decide +kernel
theorem dX9_step_54 : decode cX9_step 54 = .ok (.getfield 64, 3) := by decide +kernel
theorem dX9_step_57 : decode cX9_step 57 = .ok (.iload_n 2, 1) := by decide +kernel
theorem dX9_step_58 : decode cX9_step 58 = .ok (.dup2, 1) := by decide +kernel
theorem dX9_step_59 : decode cX9_step 59 = .ok (.iaload, 1) := by decide +kernel
theorem dX9_step_60 : decode cX9_step 60 = .ok (.aload_n 0, 1) := by decide +kernel
theorem dX9_step_61 : decode cX9_step 61 = .ok (.getfield 70, 3) := by decide +kernel
theorem dX9_step_64 : decode cX9_step 64 = .ok (.iload_n 3, 1) := by decide +kernel
theorem dX9_step_65 : decode cX9_step 65 = .ok (.baload, 1) := by decide +kernel
theorem dX9_step_66 : decode cX9_step 66 = .ok (.ifCond .eq 16, 3) := by decide +kernel
theorem dX9_step_69 : decode cX9_step 69 = .ok (.aload_n 0, 1) := by decide +kernel
theorem dX9_step_70 : decode cX9_step 70 = .ok (.getfield 49, 3) := by decide +kernel
theorem dX9_step_73 : decode cX9_step 73 = .ok (.iconst 4, 1) := by decide +kernel
theorem dX9_step_74 : decode cX9_step 74 = .ok (.iload_n 2, 1) := by decide +kernel
theorem dX9_step_75 : decode cX9_step 75 = .ok (.imul, 1) := by decide +kernel
theorem dX9_step_76 : decode cX9_step 76 = .ok (.iload_n 3, 1) := by decide +kernel
theorem dX9_step_77 : decode cX9_step 77 = .ok (.iadd, 1) := by decide +kernel
theorem dX9_step_78 : decode cX9_step 78 = .ok (.iaload, 1) := by decide +kernel
theorem dX9_step_79 : decode cX9_step 79 = .ok (.goto 4, 3) := by decide +kernel
theorem dX9_step_82 : decode cX9_step 82 = .ok (.iconst 0, 1) := by decide +kernel
theorem dX9_step_83 : decode cX9_step 83 = .ok (.iadd, 1) := by decide +kernel
theorem dX9_step_84 : decode cX9_step 84 = .ok (.iastore, 1) := by decide +kernel
theorem dX9_step_85 : decode cX9_step 85 = .ok (.iinc 3 1, 3) := by decide +kernel
theorem dX9_step_88 : decode cX9_step 88 = .ok (.goto (-43), 3) := by decide +kernel
theorem dX9_step_91 : decode cX9_step 91 = .ok (.aload_n 0, 1) := by decide +kernel
theorem dX9_step_92 : decode cX9_step 92 = .ok (.getfield 89, 3) := by decide +kernel
theorem dX9_step_95 : decode cX9_step 95 = .ok (.iload_n 2, 1) := by decide +kernel
theorem dX9_step_96 : decode cX9_step 96 = .ok (.iconst 0, 1) := by decide +kernel
theorem dX9_step_97 : decode cX9_step 97 = .ok (.bastore, 1) := by decide +kernel
theorem dX9_step_98 : decode cX9_step 98 = .ok (.aload_n 0, 1) := by decide +kernel
theorem dX9_step_99 : decode cX9_step 99 = .ok (.getfield 92, 3) := by decide +kernel
theorem dX9_step_102 : decode cX9_step 102 = .ok (.iload_n 2, 1) := by decide +kernel
theorem dX9_step_103 : decode cX9_step 103 = .ok (.iconst 0, 1) := by decide +kernel
theorem dX9_step_104 : decode cX9_step 104 = .ok (.bastore, 1) := by decide +kernel
theorem dX9_step_105 : decode cX9_step 105 = .ok (.iinc 2 1, 3) := by decide +kernel
theorem dX9_step_108 : decode cX9_step 108 = .ok (.goto (-106), 3) := by decide +kernel
theorem dX9_step_111 : decode cX9_step 111 = .ok (.aload_n 0, 1) := by decide +kernel
theorem dX9_step_112 : decode cX9_step 112 = .ok (.getfield 24, 3) := by decide +kernel
theorem dX9_step_115 : decode cX9_step 115 = .ok (.istore_n 2, 1) := by decide +kernel
theorem dX9_step_116 : decode cX9_step 116 = .ok (.aload_n 0, 1) := by decide +kernel
theorem dX9_step_117 : decode cX9_step 117 = .ok (.getfield 119, 3) := by decide +kernel
theorem dX9_step_120 : decode cX9_step 120 = .ok (.istore_n 3, 1) := by decide +kernel
theorem dX9_step_121 : decode cX9_step 121 = .ok (.iconst 0, 1) := by decide +kernel
theorem dX9_step_122 : decode cX9_step 122 = .ok (.istore 4, 2) := by decide +kernel
theorem dX9_step_124 : decode cX9_step 124 = .ok (.iconst 0, 1) := by decide +kernel
theorem dX9_step_125 : decode cX9_step 125 = .ok (.istore 5, 2) := by decide +kernel
theorem dX9_step_127 : decode cX9_step 127 = .ok (.iload_n 3, 1) := by decide +kernel
theorem dX9_step_128 : decode cX9_step 128 = .ok (.ifCond .le 278, 3) := by decide +kernel
theorem dX9_step_131 : decode cX9_step 131 = .ok (.iconst 0, 1) := by decide +kernel
theorem dX9_step_132 : decode cX9_step 132 = .ok (.istore 6, 2) := by decide +kernel
theorem dX9_step_134 : decode cX9_step 134 = .ok (.iload 6, 2) := by decide +kernel
theorem dX9_step_136 : decode cX9_step 136 = .ok (.aload_n 0, 1) := by decide +kernel
theorem dX9_step_137 : decode cX9_step 137 = .ok (.getfield 119, 3) := by decide +kernel
theorem dX9_step_140 : decode cX9_step 140 = .ok (.if_icmp .ge 69, 3) := by decide +kernel
theorem dX9_step_143 : decode cX9_step 143 = .ok (.aload_n 0, 1) := by decide +kernel
theorem dX9_step_144 : decode cX9_step 144 = .ok (.getfield 89, 3) := by decide +kernel
theorem dX9_step_147 : decode cX9_step 147 = .ok (.iload 6, 2) := by decide +kernel
theorem dX9_step_149 : decode cX9_step 149 = .ok (.baload, 1) := by decide +kernel
theorem dX9_step_150 : decode cX9_step 150 = .ok (.ifCond .eq 53, 3) := by decide +kernel
theorem dX9_step_153 : decode cX9_step 153 = .ok (.aload_n 0, 1) := by decide +kernel
theorem dX9_step_154 : decode cX9_step 154 = .ok (.getfield 92, 3) := by decide +kernel
theorem dX9_step_157 : decode cX9_step 157 = .ok (.iload 6, 2) := by decide +kernel
theorem dX9_step_159 : decode cX9_step 159 = .ok (.baload, 1) := by decide +kernel
theorem dX9_step_160 : decode cX9_step 160 = .ok (.ifCond .ne 43, 3) := by decide +kernel
theorem dX9_step_163 : decode cX9_step 163 = .ok (.aload_n 0, 1) := by decide +kernel
theorem dX9_step_164 : decode cX9_step 164 = .ok (.getfield 67, 3) := by decide +kernel
theorem dX9_step_167 : decode cX9_step 167 = .ok (.iload 6, 2) := by decide +kernel
theorem dX9_step_169 : decode cX9_step 169 = .ok (.iaload, 1) := by decide +kernel
theorem dX9_step_170 : decode cX9_step 170 = .ok (.iload 4, 2) := by decide +kernel
theorem dX9_step_172 : decode cX9_step 172 = .ok (.if_icmp .eq 6, 3) := by decide +kernel
theorem dX9_step_175 : decode cX9_step 175 = .ok (.goto 28, 3) := by decide +kernel
theorem dX9_step_178 : decode cX9_step 178 = .ok (.aload_n 0, 1) := by decide +kernel
theorem dX9_step_179 : decode cX9_step 179 = .ok (.getfield 92, 3) := by decide +kernel
theorem dX9_step_182 : decode cX9_step 182 = .ok (.iload 6, 2) := by decide +kernel
theorem dX9_step_184 : decode cX9_step 184 = .ok (.iconst 1, 1) := by decide +kernel
theorem dX9_step_185 : decode cX9_step 185 = .ok (.bastore, 1) := by decide +kernel
theorem dX9_step_186 : decode cX9_step 186 = .ok (.iload_n 2, 1) := by decide +kernel
theorem dX9_step_187 : decode cX9_step 187 = .ok (.aload_n 0, 1) := by decide +kernel
theorem dX9_step_188 : decode cX9_step 188 = .ok (.getfield 34, 3) := by decide +kernel
theorem dX9_step_191 : decode cX9_step 191 = .ok (.iload 6, 2) := by decide +kernel
theorem dX9_step_193 : decode cX9_step 193 = .ok (.iaload, 1) := by decide +kernel
theorem dX9_step_194 : decode cX9_step 194 = .ok (.iadd, 1) := by decide +kernel
theorem dX9_step_195 : decode cX9_step 195 = .ok (.istore_n 2, 1) := by decide +kernel
theorem dX9_step_196 : decode cX9_step 196 = .ok (.iinc 3 (-1), 3) := by decide +kernel
theorem dX9_step_199 : decode cX9_step 199 = .ok (.iload 4, 2) := by decide +kernel
theorem dX9_step_201 : decode cX9_step 201 = .ok (.istore 5, 2) := by decide +kernel
theorem dX9_step_203 : decode cX9_step 203 = .ok (.iinc 6 1, 3) := by decide +kernel
theorem dX9_step_206 : decode cX9_step 206 = .ok (.goto (-72), 3) := by decide +kernel
theorem dX9_step_209 : decode cX9_step 209 = .ok (.iconst 0, 1) := by decide +kernel
theorem dX9_step_210 : decode cX9_step 210 = .ok (.istore 6, 2) := by decide +kernel
theorem dX9_step_212 : decode cX9_step 212 = .ok (.iload 6, 2) := by decide +kernel
theorem dX9_step_214 : decode cX9_step 214 = .ok (.aload_n 0, 1) := by decide +kernel
theorem dX9_step_215 : decode cX9_step 215 = .ok (.getfield 119, 3) := by decide +kernel
theorem dX9_step_218 : decode cX9_step 218 = .ok (.if_icmp .ge 116, 3) := by decide +kernel
theorem dX9_step_221 : decode cX9_step 221 = .ok (.aload_n 0, 1) := by decide +kernel
theorem dX9_step_222 : decode cX9_step 222 = .ok (.getfield 89, 3) := by decide +kernel
theorem dX9_step_225 : decode cX9_step 225 = .ok (.iload 6, 2) := by decide +kernel
theorem dX9_step_227 : decode cX9_step 227 = .ok (.baload, 1) := by decide +kernel
theorem dX9_step_228 : decode cX9_step 228 = .ok (.ifCond .ne 28, 3) := by decide +kernel
theorem dX9_step_231 : decode cX9_step 231 = .ok (.aload_n 0, 1) := by decide +kernel
theorem dX9_step_232 : decode cX9_step 232 = .ok (.getfield 34, 3) := by decide +kernel
theorem dX9_step_235 : decode cX9_step 235 = .ok (.iload 6, 2) := by decide +kernel
theorem dX9_step_237 : decode cX9_step 237 = .ok (.iaload, 1) := by decide +kernel
theorem dX9_step_238 : decode cX9_step 238 = .ok (.iload_n 2, 1) := by decide +kernel
theorem dX9_step_239 : decode cX9_step 239 = .ok (.if_icmp .gt 17, 3) := by decide +kernel
theorem dX9_step_242 : decode cX9_step 242 = .ok (.aload_n 0, 1) := by decide +kernel
theorem dX9_step_243 : decode cX9_step 243 = .ok (.aload_n 0, 1) := by decide +kernel
theorem dX9_step_244 : decode cX9_step 244 = .ok (.getfield 37, 3) := by decide +kernel
theorem dX9_step_247 : decode cX9_step 247 = .ok (.iload 6, 2) := by decide +kernel
theorem dX9_step_249 : decode cX9_step 249 = .ok (.iaload, 1) := by decide +kernel
theorem dX9_step_250 : decode cX9_step 250 = .ok (.invokevirtual 165, 3) := by decide +kernel
theorem dX9_step_253 : decode cX9_step 253 = .ok (.ifCond .ne 9, 3) := by decide +kernel
theorem dX9_step_256 : decode cX9_step 256 = .ok (.iinc 6 1, 3) := by decide +kernel
theorem dX9_step_259 : decode cX9_step 259 = .ok (.goto (-47), 3) := by decide +kernel
theorem dX9_step_262 : decode cX9_step 262 = .ok (.aload_n 0, 1) := by decide +kernel
theorem dX9_step_263 : decode cX9_step 263 = .ok (.getfield 89, 3) := by decide +kernel
theorem dX9_step_266 : decode cX9_step 266 = .ok (.iload 6, 2) := by decide +kernel
theorem dX9_step_268 : decode cX9_step 268 = .ok (.iconst 1, 1) := by decide +kernel
theorem dX9_step_269 : decode cX9_step 269 = .ok (.bastore, 1) := by decide +kernel
theorem dX9_step_270 : decode cX9_step 270 = .ok (.aload_n 0, 1) := by decide +kernel
theorem dX9_step_271 : decode cX9_step 271 = .ok (.getfield 67, 3) := by decide +kernel
theorem dX9_step_274 : decode cX9_step 274 = .ok (.iload 6, 2) := by decide +kernel
theorem dX9_step_276 : decode cX9_step 276 = .ok (.iload 4, 2) := by decide +kernel
theorem dX9_step_278 : decode cX9_step 278 = .ok (.aload_n 0, 1) := by decide +kernel
theorem dX9_step_279 : decode cX9_step 279 = .ok (.getfield 64, 3) := by decide +kernel
theorem dX9_step_282 : decode cX9_step 282 = .ok (.iload 6, 2) := by decide +kernel
theorem dX9_step_284 : decode cX9_step 284 = .ok (.iaload, 1) := by decide +kernel
theorem dX9_step_285 : decode cX9_step 285 = .ok (.iadd, 1) := by decide +kernel
theorem dX9_step_286 : decode cX9_step 286 = .ok (.iastore, 1) := by decide +kernel
theorem dX9_step_287 : decode cX9_step 287 = .ok (.aload_n 0, 1) := by decide +kernel
theorem dX9_step_288 : decode cX9_step 288 = .ok (.getfield 64, 3) := by decide +kernel
theorem dX9_step_291 : decode cX9_step 291 = .ok (.iload 6, 2) := by decide +kernel
theorem dX9_step_293 : decode cX9_step 293 = .ok (.iaload, 1) := by decide +kernel
theorem dX9_step_294 : decode cX9_step 294 = .ok (.ifCond .le 19, 3) := by decide +kernel
theorem dX9_step_297 : decode cX9_step 297 = .ok (.iload_n 2, 1) := by decide +kernel
theorem dX9_step_298 : decode cX9_step 298 = .ok (.aload_n 0, 1) := by decide +kernel
theorem dX9_step_299 : decode cX9_step 299 = .ok (.getfield 34, 3) := by decide +kernel
theorem dX9_step_302 : decode cX9_step 302 = .ok (.iload 6, 2) := by decide +kernel
theorem dX9_step_304 : decode cX9_step 304 = .ok (.iaload, 1) := by decide +kernel
theorem dX9_step_305 : decode cX9_step 305 = .ok (.isub, 1) := by decide +kernel
theorem dX9_step_306 : decode cX9_step 306 = .ok (.istore_n 2, 1) := by decide +kernel
theorem dX9_step_307 : decode cX9_step 307 = .ok (.iinc 6 1, 3) := by decide +kernel
theorem dX9_step_310 : decode cX9_step 310 = .ok (.goto (-98), 3) := by decide +kernel
theorem dX9_step_313 : decode cX9_step 313 = .ok (.aload_n 0, 1) := by decide +kernel
theorem dX9_step_314 : decode cX9_step 314 = .ok (.getfield 92, 3) := by decide +kernel
theorem dX9_step_317 : decode cX9_step 317 = .ok (.iload 6, 2) := by decide +kernel
theorem dX9_step_319 : decode cX9_step 319 = .ok (.iconst 1, 1) := by decide +kernel
theorem dX9_step_320 : decode cX9_step 320 = .ok (.bastore, 1) := by decide +kernel
theorem dX9_step_321 : decode cX9_step 321 = .ok (.iinc 3 (-1), 3) := by decide +kernel
theorem dX9_step_324 : decode cX9_step 324 = .ok (.iload 4, 2) := by decide +kernel
theorem dX9_step_326 : decode cX9_step 326 = .ok (.istore 5, 2) := by decide +kernel
theorem dX9_step_328 : decode cX9_step 328 = .ok (.iconst 0, 1) := by decide +kernel
theorem dX9_step_329 : decode cX9_step 329 = .ok (.istore 6, 2) := by decide +kernel
theorem dX9_step_331 : decode cX9_step 331 = .ok (.goto (-119), 3) := by decide +kernel
theorem dX9_step_334 : decode cX9_step 334 = .ok (.ldc 168, 2) := by decide +kernel
theorem dX9_step_336 : decode cX9_step 336 = .ok (.istore 7, 2) := by decide +kernel
theorem dX9_step_338 : decode cX9_step 338 = .ok (.iconst 0, 1) := by decide +kernel
theorem dX9_step_339 : decode cX9_step 339 = .ok (.istore 8, 2) := by decide +kernel
theorem dX9_step_341 : decode cX9_step 341 = .ok (.iload 8, 2) := by decide +kernel
theorem dX9_step_343 : decode cX9_step 343 = .ok (.aload_n 0, 1) := by decide +kernel
theorem dX9_step_344 : decode cX9_step 344 = .ok (.getfield 119, 3) := by decide +kernel
theorem dX9_step_347 : decode cX9_step 347 = .ok (.if_icmp .ge 43, 3) := by decide +kernel
theorem dX9_step_350 : decode cX9_step 350 = .ok (.aload_n 0, 1) := by decide +kernel
theorem dX9_step_351 : decode cX9_step 351 = .ok (.getfield 89, 3) := by decide +kernel
theorem dX9_step_354 : decode cX9_step 354 = .ok (.iload 8, 2) := by decide +kernel
theorem dX9_step_356 : decode cX9_step 356 = .ok (.baload, 1) := by decide +kernel
theorem dX9_step_357 : decode cX9_step 357 = .ok (.ifCond .eq 27, 3) := by decide +kernel
theorem dX9_step_360 : decode cX9_step 360 = .ok (.aload_n 0, 1) := by decide +kernel
theorem dX9_step_361 : decode cX9_step 361 = .ok (.getfield 92, 3) := by decide +kernel
theorem dX9_step_364 : decode cX9_step 364 = .ok (.iload 8, 2) := by decide +kernel
theorem dX9_step_366 : decode cX9_step 366 = .ok (.baload, 1) := by decide +kernel
theorem dX9_step_367 : decode cX9_step 367 = .ok (.ifCond .ne 17, 3) := by decide +kernel
theorem dX9_step_370 : decode cX9_step 370 = .ok (.iload 7, 2) := by decide +kernel
theorem dX9_step_372 : decode cX9_step 372 = .ok (.aload_n 0, 1) := by decide +kernel
theorem dX9_step_373 : decode cX9_step 373 = .ok (.getfield 67, 3) := by decide +kernel
theorem dX9_step_376 : decode cX9_step 376 = .ok (.iload 8, 2) := by decide +kernel
theorem dX9_step_378 : decode cX9_step 378 = .ok (.iaload, 1) := by decide +kernel
theorem dX9_step_379 : decode cX9_step 379 = .ok (.invokestatic 169, 3) := by decide +kernel
theorem dX9_step_382 : decode cX9_step 382 = .ok (.istore 7, 2) := by decide +kernel
theorem dX9_step_384 : decode cX9_step 384 = .ok (.iinc 8 1, 3) := by decide +kernel
theorem dX9_step_387 : decode cX9_step 387 = .ok (.goto (-46), 3) := by decide +kernel
theorem dX9_step_390 : decode cX9_step 390 = .ok (.iload_n 3, 1) := by decide +kernel
theorem dX9_step_391 : decode cX9_step 391 = .ok (.ifCond .le 8, 3) := by decide +kernel
theorem dX9_step_394 : decode cX9_step 394 = .ok (.iload 7, 2) := by decide +kernel
theorem dX9_step_396 : decode cX9_step 396 = .ok (.goto 5, 3) := by decide +kernel
theorem dX9_step_399 : decode cX9_step 399 = .ok (.iload 4, 2) := by decide +kernel
theorem dX9_step_401 : decode cX9_step 401 = .ok (.istore 4, 2) := by decide +kernel
theorem dX9_step_403 : decode cX9_step 403 = .ok (.goto (-276), 3) := by decide +kernel
theorem dX9_step_406 : decode cX9_step 406 = .ok (.iload 5, 2) := by decide +kernel
theorem dX9_step_408 : decode cX9_step 408 = .ok (.ireturn, 1) := by decide +kernel
theorem dX9_areOver_0 : decode cX9_areOver 0 = .ok (.iconst 0, 1) := by decide +kernel
theorem dX9_areOver_1 : decode cX9_areOver 1 = .ok (.istore_n 2, 1) := by decide +kernel
theorem dX9_areOver_2 : decode cX9_areOver 2 = .ok (.iload_n 2, 1) := by decide +kernel
theorem dX9_areOver_3 : decode cX9_areOver 3 = .ok (.aload_n 0, 1) := by decide +kernel
theorem dX9_areOver_4 : decode cX9_areOver 4 = .ok (.getfield 119, 3) := by decide +kernel
theorem dX9_areOver_7 : decode cX9_areOver 7 = .ok (.if_icmp .ge 29, 3) := by decide +kernel
theorem dX9_areOver_10 : decode cX9_areOver 10 = .ok (.iload_n 1, 1) := by decide +kernel
theorem dX9_areOver_11 : decode cX9_areOver 11 = .ok (.iload_n 2, 1) := by decide +kernel
theorem dX9_areOver_12 : decode cX9_areOver 12 = .ok (.ishr, 1) := by decide +kernel
theorem dX9_areOver_13 : decode cX9_areOver 13 = .ok (.iconst 1, 1) := by decide +kernel
theorem dX9_areOver_14 : decode cX9_areOver 14 = .ok (.iand, 1) := by decide +kernel
theorem dX9_areOver_15 : decode cX9_areOver 15 = .ok (.iconst 1, 1) := by decide +kernel
theorem dX9_areOver_16 : decode cX9_areOver 16 = .ok (.if_icmp .ne 14, 3) := by decide +kernel
theorem dX9_areOver_19 : decode cX9_areOver 19 = .ok (.aload_n 0, 1) := by decide +kernel
theorem dX9_areOver_20 : decode cX9_areOver 20 = .ok (.getfield 92, 3) := by decide +kernel
theorem dX9_areOver_23 : decode cX9_areOver 23 = .ok (.iload_n 2, 1) := by decide +kernel
theorem dX9_areOver_24 : decode cX9_areOver 24 = .ok (.baload, 1) := by decide +kernel
theorem dX9_areOver_25 : decode cX9_areOver 25 = .ok (.ifCond .ne 5, 3) := by decide +kernel
theorem dX9_areOver_28 : decode cX9_areOver 28 = .ok (.iconst 0, 1) := by decide +kernel
theorem dX9_areOver_29 : decode cX9_areOver 29 = .ok (.ireturn, 1) := by decide +kernel
theorem dX9_areOver_30 : decode cX9_areOver 30 = .ok (.iinc 2 1, 3) := by decide +kernel
theorem dX9_areOver_33 : decode cX9_areOver 33 = .ok (.goto (-31), 3) := by decide +kernel
theorem dX9_areOver_36 : decode cX9_areOver 36 = .ok (.iconst 1, 1) := by decide +kernel
theorem dX9_areOver_37 : decode cX9_areOver 37 = .ok (.ireturn, 1) := by decide +kernel
theorem dX9_isLeft_0 : decode cX9_isLeft 0 = .ok (.iconst 0, 1) := by decide +kernel
theorem dX9_isLeft_1 : decode cX9_isLeft 1 = .ok (.istore_n 1, 1) := by decide +kernel
theorem dX9_isLeft_2 : decode cX9_isLeft 2 = .ok (.iload_n 1, 1) := by decide +kernel
theorem dX9_isLeft_3 : decode cX9_isLeft 3 = .ok (.aload_n 0, 1) := by decide +kernel
theorem dX9_isLeft_4 : decode cX9_isLeft 4 = .ok (.getfield 119, 3) := by decide +kernel
theorem dX9_isLeft_7 : decode cX9_isLeft 7 = .ok (.if_icmp .ge 58, 3) := by decide +kernel
theorem dX9_isLeft_10 : decode cX9_isLeft 10 = .ok (.aload_n 0, 1) := by decide +kernel
theorem dX9_isLeft_11 : decode cX9_isLeft 11 = .ok (.getfield 40, 3) := by decide +kernel
theorem dX9_isLeft_14 : decode cX9_isLeft 14 = .ok (.iload_n 1, 1) := by decide +kernel
theorem dX9_isLeft_15 : decode cX9_isLeft 15 = .ok (.iaload, 1) := by decide +kernel
theorem dX9_isLeft_16 : decode cX9_isLeft 16 = .ok (.ifCond .lt 21, 3) := by decide +kernel
theorem dX9_isLeft_19 : decode cX9_isLeft 19 = .ok (.aload_n 0, 1) := by decide +kernel
theorem dX9_isLeft_20 : decode cX9_isLeft 20 = .ok (.getfield 67, 3) := by decide +kernel
theorem dX9_isLeft_23 : decode cX9_isLeft 23 = .ok (.iload_n 1, 1) := by decide +kernel
theorem dX9_isLeft_24 : decode cX9_isLeft 24 = .ok (.iaload, 1) := by decide +kernel
theorem dX9_isLeft_25 : decode cX9_isLeft 25 = .ok (.aload_n 0, 1) := by decide +kernel
theorem dX9_isLeft_26 : decode cX9_isLeft 26 = .ok (.getfield 40, 3) := by decide +kernel
theorem dX9_isLeft_29 : decode cX9_isLeft 29 = .ok (.iload_n 1, 1) := by decide +kernel
theorem dX9_isLeft_30 : decode cX9_isLeft 30 = .ok (.iaload, 1) := by decide +kernel
theorem dX9_isLeft_31 : decode cX9_isLeft 31 = .ok (.if_icmp .eq 28, 3) := by decide +kernel
theorem dX9_isLeft_34 : decode cX9_isLeft 34 = .ok (.goto 23, 3) := by decide +kernel
theorem dX9_isLeft_37 : decode cX9_isLeft 37 = .ok (.aload_n 0, 1) := by decide +kernel
theorem dX9_isLeft_38 : decode cX9_isLeft 38 = .ok (.getfield 28, 3) := by decide +kernel
theorem dX9_isLeft_41 : decode cX9_isLeft 41 = .ok (.ifCond .lt 18, 3) := by decide +kernel
theorem dX9_isLeft_44 : decode cX9_isLeft 44 = .ok (.aload_n 0, 1) := by decide +kernel
theorem dX9_isLeft_45 : decode cX9_isLeft 45 = .ok (.getfield 67, 3) := by decide +kernel
theorem dX9_isLeft_48 : decode cX9_isLeft 48 = .ok (.iload_n 1, 1) := by decide +kernel
theorem dX9_isLeft_49 : decode cX9_isLeft 49 = .ok (.iaload, 1) := by decide +kernel
theorem dX9_isLeft_50 : decode cX9_isLeft 50 = .ok (.aload_n 0, 1) := by decide +kernel
theorem dX9_isLeft_51 : decode cX9_isLeft 51 = .ok (.getfield 28, 3) := by decide +kernel
theorem dX9_isLeft_54 : decode cX9_isLeft 54 = .ok (.if_icmp .gt 5, 3) := by decide +kernel
theorem dX9_isLeft_57 : decode cX9_isLeft 57 = .ok (.iconst 0, 1) := by decide +kernel
theorem dX9_isLeft_58 : decode cX9_isLeft 58 = .ok (.ireturn, 1) := by decide +kernel
theorem dX9_isLeft_59 : decode cX9_isLeft 59 = .ok (.iinc 1 1, 3) := by decide +kernel
theorem dX9_isLeft_62 : decode cX9_isLeft 62 = .ok (.goto (-60), 3) := by decide +kernel
theorem dX9_isLeft_65 : decode cX9_isLeft 65 = .ok (.iconst 1, 1) := by decide +kernel
theorem dX9_isLeft_66 : decode cX9_isLeft 66 = .ok (.ireturn, 1) := by decide +kernel
theorem dX9_sums_0 : decode cX9_sums 0 = .ok (.aload_n 0, 1) := by decide +kernel
theorem dX9_sums_1 : decode cX9_sums 1 = .ok (.invokevirtual 174, 3) := by decide +kernel
theorem dX9_sums_4 : decode cX9_sums 4 = .ok (.ifCond .eq 6, 3) := by decide +kernel
theorem dX9_sums_7 : decode cX9_sums 7 = .ok (.bipush 8, 2) := by decide +kernel
theorem dX9_sums_9 : decode cX9_sums 9 = .ok (.ireturn, 1) := by decide +kernel
theorem dX9_sums_10 : decode cX9_sums 10 = .ok (.aload_n 0, 1) := by decide +kernel
theorem dX9_sums_11 : decode cX9_sums 11 = .ok (.invokevirtual 161, 3) := by decide +kernel
theorem dX9_sums_14 : decode cX9_sums 14 = .ok (.ifCond .eq 6, 3) := by decide +kernel
theorem dX9_sums_17 : decode cX9_sums 17 = .ok (.bipush 9, 2) := by decide +kernel
theorem dX9_sums_19 : decode cX9_sums 19 = .ok (.ireturn, 1) := by decide +kernel
theorem dX9_sums_20 : decode cX9_sums 20 = .ok (.iconst 0, 1) := by decide +kernel
theorem dX9_sums_21 : decode cX9_sums 21 = .ok (.istore 4, 2) := by decide +kernel
theorem dX9_sums_23 : decode cX9_sums 23 = .ok (.iload 4, 2) := by decide +kernel
theorem dX9_sums_25 : decode cX9_sums 25 = .ok (.sipush 6000, 3) := by decide +kernel
theorem dX9_sums_28 : decode cX9_sums 28 = .ok (.if_icmp .ge 17, 3) := by decide +kernel
theorem dX9_sums_31 : decode cX9_sums 31 = .ok (.aload_n 0, 1) := by decide +kernel
theorem dX9_sums_32 : decode cX9_sums 32 = .ok (.getfield 74, 3) := by decide +kernel
theorem dX9_sums_35 : decode cX9_sums 35 = .ok (.iload 4, 2) := by decide +kernel
theorem dX9_sums_37 : decode cX9_sums 37 = .ok (.lconst 0, 1) := by decide +kernel
theorem dX9_sums_38 : decode cX9_sums 38 = .ok (.lastore, 1) := by decide +kernel
theorem dX9_sums_39 : decode cX9_sums 39 = .ok (.iinc 4 1, 3) := by decide +kernel
theorem dX9_sums_42 : decode cX9_sums 42 = .ok (.goto (-19), 3) := by decide +kernel
theorem dX9_sums_45 : decode cX9_sums 45 = .ok (.aload_n 0, 1) := by decide +kernel
theorem dX9_sums_46 : decode cX9_sums 46 = .ok (.lconst 0, 1) := by decide +kernel
theorem dX9_sums_47 : decode cX9_sums 47 = .ok (.putfield 177, 3) := by decide +kernel
theorem dX9_sums_50 : decode cX9_sums 50 = .ok (.lconst 0, 1) := by decide +kernel
theorem dX9_sums_51 : decode cX9_sums 51 = .ok (.lstore 4, 2) := by decide +kernel
theorem dX9_sums_53 : decode cX9_sums 53 = .ok (.aload_n 0, 1) := by decide +kernel
theorem dX9_sums_54 : decode cX9_sums 54 = .ok (.invokevirtual 180, 3) := by decide +kernel
theorem dX9_sums_57 : decode cX9_sums 57 = .ok (.iconst 1, 1) := by decide +kernel
theorem dX9_sums_58 : decode cX9_sums 58 = .ok (.istore 6, 2) := by decide +kernel
theorem dX9_sums_60 : decode cX9_sums 60 = .ok (.iload 6, 2) := by decide +kernel
theorem dX9_sums_62 : decode cX9_sums 62 = .ok (.ifCond .eq 89, 3) := by decide +kernel
theorem dX9_sums_65 : decode cX9_sums 65 = .ok (.aload_n 0, 1) := by decide +kernel
theorem dX9_sums_66 : decode cX9_sums 66 = .ok (.iconst (-1), 1) := by decide +kernel
theorem dX9_sums_67 : decode cX9_sums 67 = .ok (.invokevirtual 183, 3) := by decide +kernel
theorem dX9_sums_70 : decode cX9_sums 70 = .ok (.istore 7, 2) := by decide +kernel
theorem dX9_sums_72 : decode cX9_sums 72 = .ok (.aload_n 0, 1) := by decide +kernel
theorem dX9_sums_73 : decode cX9_sums 73 = .ok (.invokevirtual 186, 3) := by decide +kernel
theorem dX9_sums_76 : decode cX9_sums 76 = .ok (.ifCond .eq 66, 3) := by decide +kernel
theorem dX9_sums_79 : decode cX9_sums 79 = .ok (.aload_n 0, 1) := by decide +kernel
theorem dX9_sums_80 : decode cX9_sums 80 = .ok (.invokevirtual 189, 3) := by decide +kernel
theorem dX9_sums_83 : decode cX9_sums 83 = .ok (.lstore 8, 2) := by decide +kernel
theorem dX9_sums_85 : decode cX9_sums 85 = .ok (.lload 4, 2) := by decide +kernel
theorem dX9_sums_87 : decode cX9_sums 87 = .ok (.lload 8, 2) := by decide +kernel
theorem dX9_sums_89 : decode cX9_sums 89 = .ok (.ladd, 1) := by decide +kernel
theorem dX9_sums_90 : decode cX9_sums 90 = .ok (.lstore 4, 2) := by decide +kernel
theorem dX9_sums_92 : decode cX9_sums 92 = .ok (.iload_n 2, 1) := by decide +kernel
theorem dX9_sums_93 : decode cX9_sums 93 = .ok (.ifCond .lt 13, 3) := by decide +kernel
theorem dX9_sums_96 : decode cX9_sums 96 = .ok (.aload_n 0, 1) := by decide +kernel
theorem dX9_sums_97 : decode cX9_sums 97 = .ok (.getfield 61, 3) := by decide +kernel
theorem dX9_sums_100 : decode cX9_sums 100 = .ok (.iload_n 2, 1) := by decide +kernel
theorem dX9_sums_101 : decode cX9_sums 101 = .ok (.iaload, 1) := by decide +kernel
theorem dX9_sums_102 : decode cX9_sums 102 = .ok (.iload_n 3, 1) := by decide +kernel
theorem dX9_sums_103 : decode cX9_sums 103 = .ok (.if_icmp .ne 39, 3) := by decide +kernel
theorem dX9_sums_106 : decode cX9_sums 106 = .ok (.aload_n 0, 1) := by decide +kernel
theorem dX9_sums_107 : decode cX9_sums 107 = .ok (.getfield 74, 3) := by decide +kernel
theorem dX9_sums_110 : decode cX9_sums 110 = .ok (.iload_n 1, 1) := by decide +kernel
theorem dX9_sums_111 : decode cX9_sums 111 = .ok (.ifCond .ge 8, 3) := by decide +kernel
theorem dX9_sums_114 : decode cX9_sums 114 = .ok (.iload 7, 2) := by decide +kernel
theorem dX9_sums_116 : decode cX9_sums 116 = .ok (.goto 9, 3) := by decide +kernel
theorem dX9_sums_119 : decode cX9_sums 119 = .ok (.aload_n 0, 1) := by decide +kernel
theorem dX9_sums_120 : decode cX9_sums 120 = .ok (.getfield 67, 3) := by decide +kernel
theorem dX9_sums_123 : decode cX9_sums 123 = .ok (.iload_n 1, 1) := by decide +kernel
theorem dX9_sums_124 : decode cX9_sums 124 = .ok (.iaload, 1) := by decide +kernel
theorem dX9_sums_125 : decode cX9_sums 125 = .ok (.dup2, 1) := by decide +kernel
theorem dX9_sums_126 : decode cX9_sums 126 = .ok (.laload, 1) := by decide +kernel
theorem dX9_sums_127 : decode cX9_sums 127 = .ok (.lload 8, 2) := by decide +kernel
theorem dX9_sums_129 : decode cX9_sums 129 = .ok (.ladd, 1) := by decide +kernel
theorem dX9_sums_130 : decode cX9_sums 130 = .ok (.lastore, 1) := by decide +kernel
theorem dX9_sums_131 : decode cX9_sums 131 = .ok (.aload_n 0, 1) := by decide +kernel
theorem dX9_sums_132 : decode cX9_sums 132 = .ok (.dup, 1) := by decide +kernel
theorem dX9_sums_133 : decode cX9_sums 133 = .ok (.getfield 177, 3) := by decide +kernel
theorem dX9_sums_136 : decode cX9_sums 136 = .ok (.lload 8, 2) := by decide +kernel
theorem dX9_sums_138 : decode cX9_sums 138 = .ok (.ladd, 1) := by decide +kernel
theorem dX9_sums_139 : decode cX9_sums 139 = .ok (.putfield 177, 3) := by decide +kernel
theorem dX9_sums_142 : decode cX9_sums 142 = .ok (.aload_n 0, 1) := by decide +kernel
theorem dX9_sums_143 : decode cX9_sums 143 = .ok (.invokevirtual 193, 3) := by decide +kernel
theorem dX9_sums_146 : decode cX9_sums 146 = .ok (.istore 6, 2) := by decide +kernel
theorem dX9_sums_148 : decode cX9_sums 148 = .ok (.goto (-88), 3) := by decide +kernel
theorem dX9_sums_151 : decode cX9_sums 151 = .ok (.lload 4, 2) := by decide +kernel
theorem dX9_sums_153 : decode cX9_sums 153 = .ok (.lconst 0, 1) := by decide +kernel
theorem dX9_sums_154 : decode cX9_sums 154 = .ok (.lcmp, 1) := by decide +kernel
theorem dX9_sums_155 : decode cX9_sums 155 = .ok (.ifCond .ne 8, 3) := by decide +kernel
theorem dX9_sums_158 : decode cX9_sums 158 = .ok (.bipush 10, 2) := by decide +kernel
theorem dX9_sums_160 : decode cX9_sums 160 = .ok (.goto 4, 3) := by decide +kernel
theorem dX9_sums_163 : decode cX9_sums 163 = .ok (.iconst 0, 1) := by decide +kernel
theorem dX9_sums_164 : decode cX9_sums 164 = .ok (.ireturn, 1) := by decide +kernel
theorem dX9_tellsUpTo_0 : decode cX9_tellsUpTo 0 = .ok (.aload_n 0, 1) := by decide +kernel
theorem dX9_tellsUpTo_1 : decode cX9_tellsUpTo 1 = .ok (.iload_n 1, 1) := by decide +kernel
theorem dX9_tellsUpTo_2 : decode cX9_tellsUpTo 2 = .ok (.iconst (-1), 1) := by decide +kernel
theorem dX9_tellsUpTo_3 : decode cX9_tellsUpTo 3 = .ok (.iconst 0, 1) := by decide +kernel
theorem dX9_tellsUpTo_4 : decode cX9_tellsUpTo 4 = .ok (.invokevirtual 196, 3) := by decide +kernel
theorem dX9_tellsUpTo_7 : decode cX9_tellsUpTo 7 = .ok (.istore_n 3, 1) := by decide +kernel
theorem dX9_tellsUpTo_8 : decode cX9_tellsUpTo 8 = .ok (.iload_n 3, 1) := by decide +kernel
theorem dX9_tellsUpTo_9 : decode cX9_tellsUpTo 9 = .ok (.ifCond .le 9, 3) := by decide +kernel
theorem dX9_tellsUpTo_12 : decode cX9_tellsUpTo 12 = .ok (.aload_n 0, 1) := by decide +kernel
theorem dX9_tellsUpTo_13 : decode cX9_tellsUpTo 13 = .ok (.iload_n 3, 1) := by decide +kernel
theorem dX9_tellsUpTo_14 : decode cX9_tellsUpTo 14 = .ok (.invokevirtual 101, 3) := by decide +kernel
theorem dX9_tellsUpTo_17 : decode cX9_tellsUpTo 17 = .ok (.ireturn, 1) := by decide +kernel
theorem dX9_tellsUpTo_18 : decode cX9_tellsUpTo 18 = .ok (.lconst 0, 1) := by decide +kernel
theorem dX9_tellsUpTo_19 : decode cX9_tellsUpTo 19 = .ok (.lstore 4, 2) := by decide +kernel
theorem dX9_tellsUpTo_21 : decode cX9_tellsUpTo 21 = .ok (.iconst 0, 1) := by decide +kernel
theorem dX9_tellsUpTo_22 : decode cX9_tellsUpTo 22 = .ok (.istore 6, 2) := by decide +kernel
theorem dX9_tellsUpTo_24 : decode cX9_tellsUpTo 24 = .ok (.iload 6, 2) := by decide +kernel
theorem dX9_tellsUpTo_26 : decode cX9_tellsUpTo 26 = .ok (.sipush 6000, 3) := by decide +kernel
theorem dX9_tellsUpTo_29 : decode cX9_tellsUpTo 29 = .ok (.if_icmp .ge 27, 3) := by decide +kernel
theorem dX9_tellsUpTo_32 : decode cX9_tellsUpTo 32 = .ok (.iload 6, 2) := by decide +kernel
theorem dX9_tellsUpTo_34 : decode cX9_tellsUpTo 34 = .ok (.iload_n 2, 1) := by decide +kernel
theorem dX9_tellsUpTo_35 : decode cX9_tellsUpTo 35 = .ok (.if_icmp .gt 21, 3) := by decide +kernel
theorem dX9_tellsUpTo_38 : decode cX9_tellsUpTo 38 = .ok (.lload 4, 2) := by decide +kernel
theorem dX9_tellsUpTo_40 : decode cX9_tellsUpTo 40 = .ok (.aload_n 0, 1) := by decide +kernel
theorem dX9_tellsUpTo_41 : decode cX9_tellsUpTo 41 = .ok (.getfield 74, 3) := by decide +kernel
theorem dX9_tellsUpTo_44 : decode cX9_tellsUpTo 44 = .ok (.iload 6, 2) := by decide +kernel
theorem dX9_tellsUpTo_46 : decode cX9_tellsUpTo 46 = .ok (.laload, 1) := by decide +kernel
theorem dX9_tellsUpTo_47 : decode cX9_tellsUpTo 47 = .ok (.ladd, 1) := by decide +kernel
theorem dX9_tellsUpTo_48 : decode cX9_tellsUpTo 48 = .ok (.lstore 4, 2) := by decide +kernel
theorem dX9_tellsUpTo_50 : decode cX9_tellsUpTo 50 = .ok (.iinc 6 1, 3) := by decide +kernel
theorem dX9_tellsUpTo_53 : decode cX9_tellsUpTo 53 = .ok (.goto (-29), 3) := by decide +kernel
theorem dX9_tellsUpTo_56 : decode cX9_tellsUpTo 56 = .ok (.aload_n 0, 1) := by decide +kernel
theorem dX9_tellsUpTo_57 : decode cX9_tellsUpTo 57 = .ok (.lload 4, 2) := by decide +kernel
theorem dX9_tellsUpTo_59 : decode cX9_tellsUpTo 59 = .ok (.aload_n 0, 1) := by decide +kernel
theorem dX9_tellsUpTo_60 : decode cX9_tellsUpTo 60 = .ok (.getfield 177, 3) := by decide +kernel
theorem dX9_tellsUpTo_63 : decode cX9_tellsUpTo 63 = .ok (.invokevirtual 200, 3) := by decide +kernel
theorem dX9_tellsUpTo_66 : decode cX9_tellsUpTo 66 = .ok (.pop, 1) := by decide +kernel
theorem dX9_tellsUpTo_67 : decode cX9_tellsUpTo 67 = .ok (.iconst 1, 1) := by decide +kernel
theorem dX9_tellsUpTo_68 : decode cX9_tellsUpTo 68 = .ok (.ireturn, 1) := by decide +kernel
theorem dX9_ends_0 : decode cX9_ends 0 = .ok (.aload_n 0, 1) := by decide +kernel
theorem dX9_ends_1 : decode cX9_ends 1 = .ok (.iconst 0, 1) := by decide +kernel
theorem dX9_ends_2 : decode cX9_ends 2 = .ok (.putfield 95, 3) := by decide +kernel
theorem dX9_ends_5 : decode cX9_ends 5 = .ok (.aload_n 0, 1) := by decide +kernel
theorem dX9_ends_6 : decode cX9_ends 6 = .ok (.iconst 0, 1) := by decide +kernel
theorem dX9_ends_7 : decode cX9_ends 7 = .ok (.putfield 98, 3) := by decide +kernel
theorem dX9_ends_10 : decode cX9_ends 10 = .ok (.iload_n 1, 1) := by decide +kernel
theorem dX9_ends_11 : decode cX9_ends 11 = .ok (.ifCond .ge 11, 3) := by decide +kernel
theorem dX9_ends_14 : decode cX9_ends 14 = .ok (.aload_n 0, 1) := by decide +kernel
theorem dX9_ends_15 : decode cX9_ends 15 = .ok (.iconst 5, 1) := by decide +kernel
theorem dX9_ends_16 : decode cX9_ends 16 = .ok (.invokevirtual 101, 3) := by decide +kernel
theorem dX9_ends_19 : decode cX9_ends 19 = .ok (.goto 9, 3) := by decide +kernel
theorem dX9_ends_22 : decode cX9_ends 22 = .ok (.aload_n 0, 1) := by decide +kernel
theorem dX9_ends_23 : decode cX9_ends 23 = .ok (.iconst (-1), 1) := by decide +kernel
theorem dX9_ends_24 : decode cX9_ends 24 = .ok (.iload_n 1, 1) := by decide +kernel
theorem dX9_ends_25 : decode cX9_ends 25 = .ok (.invokevirtual 204, 3) := by decide +kernel
theorem dX9_ends_28 : decode cX9_ends 28 = .ok (.ireturn, 1) := by decide +kernel
theorem dX9_done_0 : decode cX9_done 0 = .ok (.aload_n 0, 1) := by decide +kernel
theorem dX9_done_1 : decode cX9_done 1 = .ok (.iconst 0, 1) := by decide +kernel
theorem dX9_done_2 : decode cX9_done 2 = .ok (.putfield 95, 3) := by decide +kernel
theorem dX9_done_5 : decode cX9_done 5 = .ok (.aload_n 0, 1) := by decide +kernel
theorem dX9_done_6 : decode cX9_done 6 = .ok (.iconst 0, 1) := by decide +kernel
theorem dX9_done_7 : decode cX9_done 7 = .ok (.putfield 98, 3) := by decide +kernel
theorem dX9_done_10 : decode cX9_done 10 = .ok (.aload_n 0, 1) := by decide +kernel
theorem dX9_done_11 : decode cX9_done 11 = .ok (.iload_n 1, 1) := by decide +kernel
theorem dX9_done_12 : decode cX9_done 12 = .ok (.invokevirtual 142, 3) := by decide +kernel
theorem dX9_done_15 : decode cX9_done 15 = .ok (.ifCond .ne 9, 3) := by decide +kernel
theorem dX9_done_18 : decode cX9_done 18 = .ok (.aload_n 0, 1) := by decide +kernel
theorem dX9_done_19 : decode cX9_done 19 = .ok (.iconst 2, 1) := by decide +kernel
theorem dX9_done_20 : decode cX9_done 20 = .ok (.invokevirtual 101, 3) := by decide +kernel
theorem dX9_done_23 : decode cX9_done 23 = .ok (.ireturn, 1) := by decide +kernel
theorem dX9_done_24 : decode cX9_done 24 = .ok (.iload_n 2, 1) := by decide +kernel
theorem dX9_done_25 : decode cX9_done 25 = .ok (.ifCond .ge 11, 3) := by decide +kernel
theorem dX9_done_28 : decode cX9_done 28 = .ok (.aload_n 0, 1) := by decide +kernel
theorem dX9_done_29 : decode cX9_done 29 = .ok (.iconst 5, 1) := by decide +kernel
theorem dX9_done_30 : decode cX9_done 30 = .ok (.invokevirtual 101, 3) := by decide +kernel
theorem dX9_done_33 : decode cX9_done 33 = .ok (.goto 9, 3) := by decide +kernel
theorem dX9_done_36 : decode cX9_done 36 = .ok (.aload_n 0, 1) := by decide +kernel
theorem dX9_done_37 : decode cX9_done 37 = .ok (.iload_n 1, 1) := by decide +kernel
theorem dX9_done_38 : decode cX9_done 38 = .ok (.iload_n 2, 1) := by decide +kernel
theorem dX9_done_39 : decode cX9_done 39 = .ok (.invokevirtual 204, 3) := by decide +kernel
theorem dX9_done_42 : decode cX9_done 42 = .ok (.ireturn, 1) := by decide +kernel
theorem dX9_promise_0 : decode cX9_promise 0 = .ok (.aload_n 0, 1) := by decide +kernel
theorem dX9_promise_1 : decode cX9_promise 1 = .ok (.iconst 0, 1) := by decide +kernel
theorem dX9_promise_2 : decode cX9_promise 2 = .ok (.putfield 95, 3) := by decide +kernel
theorem dX9_promise_5 : decode cX9_promise 5 = .ok (.aload_n 0, 1) := by decide +kernel
theorem dX9_promise_6 : decode cX9_promise 6 = .ok (.iconst 0, 1) := by decide +kernel
theorem dX9_promise_7 : decode cX9_promise 7 = .ok (.putfield 98, 3) := by decide +kernel
theorem dX9_promise_10 : decode cX9_promise 10 = .ok (.iload_n 2, 1) := by decide +kernel
theorem dX9_promise_11 : decode cX9_promise 11 = .ok (.iconst 1, 1) := by decide +kernel
theorem dX9_promise_12 : decode cX9_promise 12 = .ok (.if_icmp .lt 18, 3) := by decide +kernel
theorem dX9_promise_15 : decode cX9_promise 15 = .ok (.iload_n 2, 1) := by decide +kernel
theorem dX9_promise_16 : decode cX9_promise 16 = .ok (.ldc 208, 2) := by decide +kernel
theorem dX9_promise_18 : decode cX9_promise 18 = .ok (.if_icmp .gt 12, 3) := by decide +kernel
theorem dX9_promise_21 : decode cX9_promise 21 = .ok (.iload_n 1, 1) := by decide +kernel
theorem dX9_promise_22 : decode cX9_promise 22 = .ok (.ifCond .lt 8, 3) := by decide +kernel
theorem dX9_promise_25 : decode cX9_promise 25 = .ok (.iload_n 1, 1) := by decide +kernel
theorem dX9_promise_26 : decode cX9_promise 26 = .ok (.iload_n 2, 1) := by decide +kernel
theorem dX9_promise_27 : decode cX9_promise 27 = .ok (.if_icmp .le 9, 3) := by decide +kernel
theorem dX9_promise_30 : decode cX9_promise 30 = .ok (.aload_n 0, 1) := by decide +kernel
theorem dX9_promise_31 : decode cX9_promise 31 = .ok (.iconst 5, 1) := by decide +kernel
theorem dX9_promise_32 : decode cX9_promise 32 = .ok (.invokevirtual 122, 3) := by decide +kernel
theorem dX9_promise_35 : decode cX9_promise 35 = .ok (.ireturn, 1) := by decide +kernel
theorem dX9_promise_36 : decode cX9_promise 36 = .ok (.aload_n 0, 1) := by decide +kernel
theorem dX9_promise_37 : decode cX9_promise 37 = .ok (.iconst (-1), 1) := by decide +kernel
theorem dX9_promise_38 : decode cX9_promise 38 = .ok (.iconst (-1), 1) := by decide +kernel
theorem dX9_promise_39 : decode cX9_promise 39 = .ok (.iconst 0, 1) := by decide +kernel
theorem dX9_promise_40 : decode cX9_promise 40 = .ok (.invokevirtual 196, 3) := by decide +kernel
theorem dX9_promise_43 : decode cX9_promise 43 = .ok (.istore_n 3, 1) := by decide +kernel
theorem dX9_promise_44 : decode cX9_promise 44 = .ok (.iload_n 3, 1) := by decide +kernel
theorem dX9_promise_45 : decode cX9_promise 45 = .ok (.ifCond .le 9, 3) := by decide +kernel
theorem dX9_promise_48 : decode cX9_promise 48 = .ok (.aload_n 0, 1) := by decide +kernel
theorem dX9_promise_49 : decode cX9_promise 49 = .ok (.iload_n 3, 1) := by decide +kernel
theorem dX9_promise_50 : decode cX9_promise 50 = .ok (.invokevirtual 122, 3) := by decide +kernel
theorem dX9_promise_53 : decode cX9_promise 53 = .ok (.ireturn, 1) := by decide +kernel
theorem dX9_promise_54 : decode cX9_promise 54 = .ok (.aload_n 0, 1) := by decide +kernel
theorem dX9_promise_55 : decode cX9_promise 55 = .ok (.getfield 177, 3) := by decide +kernel
theorem dX9_promise_58 : decode cX9_promise 58 = .ok (.lstore 4, 2) := by decide +kernel
theorem dX9_promise_60 : decode cX9_promise 60 = .ok (.iconst 0, 1) := by decide +kernel
theorem dX9_promise_61 : decode cX9_promise 61 = .ok (.istore 6, 2) := by decide +kernel
theorem dX9_promise_63 : decode cX9_promise 63 = .ok (.iload 6, 2) := by decide +kernel
theorem dX9_promise_65 : decode cX9_promise 65 = .ok (.sipush 6000, 3) := by decide +kernel
theorem dX9_promise_68 : decode cX9_promise 68 = .ok (.if_icmp .ge 40, 3) := by decide +kernel
theorem dX9_promise_71 : decode cX9_promise 71 = .ok (.lload 4, 2) := by decide +kernel
theorem dX9_promise_73 : decode cX9_promise 73 = .ok (.aload_n 0, 1) := by decide +kernel
theorem dX9_promise_74 : decode cX9_promise 74 = .ok (.getfield 74, 3) := by decide +kernel
theorem dX9_promise_77 : decode cX9_promise 77 = .ok (.iload 6, 2) := by decide +kernel
theorem dX9_promise_79 : decode cX9_promise 79 = .ok (.laload, 1) := by decide +kernel
theorem dX9_promise_80 : decode cX9_promise 80 = .ok (.lsub, 1) := by decide +kernel
theorem dX9_promise_81 : decode cX9_promise 81 = .ok (.lstore 4, 2) := by decide +kernel
theorem dX9_promise_83 : decode cX9_promise 83 = .ok (.lload 4, 2) := by decide +kernel
theorem dX9_promise_85 : decode cX9_promise 85 = .ok (.iload_n 2, 1) := by decide +kernel
theorem dX9_promise_86 : decode cX9_promise 86 = .ok (.i2l, 1) := by decide +kernel
theorem dX9_promise_87 : decode cX9_promise 87 = .ok (.lmul, 1) := by decide +kernel
theorem dX9_promise_88 : decode cX9_promise 88 = .ok (.iload_n 1, 1) := by decide +kernel
theorem dX9_promise_89 : decode cX9_promise 89 = .ok (.i2l, 1) := by decide +kernel
theorem dX9_promise_90 : decode cX9_promise 90 = .ok (.aload_n 0, 1) := by decide +kernel
theorem dX9_promise_91 : decode cX9_promise 91 = .ok (.getfield 177, 3) := by decide +kernel
theorem dX9_promise_94 : decode cX9_promise 94 = .ok (.lmul, 1) := by decide +kernel
theorem dX9_promise_95 : decode cX9_promise 95 = .ok (.lcmp, 1) := by decide +kernel
theorem dX9_promise_96 : decode cX9_promise 96 = .ok (.ifCond .gt 6, 3) := by decide +kernel
theorem dX9_promise_99 : decode cX9_promise 99 = .ok (.iload 6, 2) := by decide +kernel
theorem dX9_promise_101 : decode cX9_promise 101 = .ok (.ireturn, 1) := by decide +kernel
theorem dX9_promise_102 : decode cX9_promise 102 = .ok (.iinc 6 1, 3) := by decide +kernel
theorem dX9_promise_105 : decode cX9_promise 105 = .ok (.goto (-42), 3) := by decide +kernel
theorem dX9_promise_108 : decode cX9_promise 108 = .ok (.iconst (-1), 1) := by decide +kernel
theorem dX9_promise_109 : decode cX9_promise 109 = .ok (.ireturn, 1) := by decide +kernel
theorem dX9_mean_0 : decode cX9_mean 0 = .ok (.aload_n 0, 1) := by decide +kernel
theorem dX9_mean_1 : decode cX9_mean 1 = .ok (.iconst 0, 1) := by decide +kernel
theorem dX9_mean_2 : decode cX9_mean 2 = .ok (.putfield 95, 3) := by decide +kernel
theorem dX9_mean_5 : decode cX9_mean 5 = .ok (.aload_n 0, 1) := by decide +kernel
theorem dX9_mean_6 : decode cX9_mean 6 = .ok (.iconst 0, 1) := by decide +kernel
theorem dX9_mean_7 : decode cX9_mean 7 = .ok (.putfield 98, 3) := by decide +kernel
theorem dX9_mean_10 : decode cX9_mean 10 = .ok (.aload_n 0, 1) := by decide +kernel
theorem dX9_mean_11 : decode cX9_mean 11 = .ok (.iconst (-1), 1) := by decide +kernel
theorem dX9_mean_12 : decode cX9_mean 12 = .ok (.iconst (-1), 1) := by decide +kernel
theorem dX9_mean_13 : decode cX9_mean 13 = .ok (.iconst 0, 1) := by decide +kernel
theorem dX9_mean_14 : decode cX9_mean 14 = .ok (.invokevirtual 196, 3) := by decide +kernel
theorem dX9_mean_17 : decode cX9_mean 17 = .ok (.istore_n 1, 1) := by decide +kernel
theorem dX9_mean_18 : decode cX9_mean 18 = .ok (.iload_n 1, 1) := by decide +kernel
theorem dX9_mean_19 : decode cX9_mean 19 = .ok (.ifCond .le 9, 3) := by decide +kernel
theorem dX9_mean_22 : decode cX9_mean 22 = .ok (.aload_n 0, 1) := by decide +kernel
theorem dX9_mean_23 : decode cX9_mean 23 = .ok (.iload_n 1, 1) := by decide +kernel
theorem dX9_mean_24 : decode cX9_mean 24 = .ok (.invokevirtual 101, 3) := by decide +kernel
theorem dX9_mean_27 : decode cX9_mean 27 = .ok (.ireturn, 1) := by decide +kernel
theorem dX9_mean_28 : decode cX9_mean 28 = .ok (.lconst 0, 1) := by decide +kernel
theorem dX9_mean_29 : decode cX9_mean 29 = .ok (.lstore_n 2, 1) := by decide +kernel
theorem dX9_mean_30 : decode cX9_mean 30 = .ok (.iconst 0, 1) := by decide +kernel
theorem dX9_mean_31 : decode cX9_mean 31 = .ok (.istore 4, 2) := by decide +kernel
theorem dX9_mean_33 : decode cX9_mean 33 = .ok (.iload 4, 2) := by decide +kernel
theorem dX9_mean_35 : decode cX9_mean 35 = .ok (.sipush 6000, 3) := by decide +kernel
theorem dX9_mean_38 : decode cX9_mean 38 = .ok (.if_icmp .ge 23, 3) := by decide +kernel
theorem dX9_mean_41 : decode cX9_mean 41 = .ok (.lload_n 2, 1) := by decide +kernel
theorem dX9_mean_42 : decode cX9_mean 42 = .ok (.iload 4, 2) := by decide +kernel
theorem dX9_mean_44 : decode cX9_mean 44 = .ok (.i2l, 1) := by decide +kernel
theorem dX9_mean_45 : decode cX9_mean 45 = .ok (.aload_n 0, 1) := by decide +kernel
theorem dX9_mean_46 : decode cX9_mean 46 = .ok (.getfield 74, 3) := by decide +kernel
theorem dX9_mean_49 : decode cX9_mean 49 = .ok (.iload 4, 2) := by decide +kernel
theorem dX9_mean_51 : decode cX9_mean 51 = .ok (.laload, 1) := by decide +kernel
theorem dX9_mean_52 : decode cX9_mean 52 = .ok (.lmul, 1) := by decide +kernel
theorem dX9_mean_53 : decode cX9_mean 53 = .ok (.ladd, 1) := by decide +kernel
theorem dX9_mean_54 : decode cX9_mean 54 = .ok (.lstore_n 2, 1) := by decide +kernel
theorem dX9_mean_55 : decode cX9_mean 55 = .ok (.iinc 4 1, 3) := by decide +kernel
theorem dX9_mean_58 : decode cX9_mean 58 = .ok (.goto (-25), 3) := by decide +kernel
theorem dX9_mean_61 : decode cX9_mean 61 = .ok (.aload_n 0, 1) := by decide +kernel
theorem dX9_mean_62 : decode cX9_mean 62 = .ok (.lload_n 2, 1) := by decide +kernel
theorem dX9_mean_63 : decode cX9_mean 63 = .ok (.aload_n 0, 1) := by decide +kernel
theorem dX9_mean_64 : decode cX9_mean 64 = .ok (.getfield 177, 3) := by decide +kernel
theorem dX9_mean_67 : decode cX9_mean 67 = .ok (.invokevirtual 200, 3) := by decide +kernel
theorem dX9_mean_70 : decode cX9_mean 70 = .ok (.pop, 1) := by decide +kernel
theorem dX9_mean_71 : decode cX9_mean 71 = .ok (.iconst 1, 1) := by decide +kernel
theorem dX9_mean_72 : decode cX9_mean 72 = .ok (.ireturn, 1) := by decide +kernel
theorem dX9_apart_0 : decode cX9_apart 0 = .ok (.lconst 0, 1) := by decide +kernel
theorem dX9_apart_1 : decode cX9_apart 1 = .ok (.lstore_n 1, 1) := by decide +kernel
theorem dX9_apart_2 : decode cX9_apart 2 = .ok (.lconst 0, 1) := by decide +kernel
theorem dX9_apart_3 : decode cX9_apart 3 = .ok (.lstore_n 3, 1) := by decide +kernel
theorem dX9_apart_4 : decode cX9_apart 4 = .ok (.iconst 0, 1) := by decide +kernel
theorem dX9_apart_5 : decode cX9_apart 5 = .ok (.istore 5, 2) := by decide +kernel
theorem dX9_apart_7 : decode cX9_apart 7 = .ok (.iload 5, 2) := by decide +kernel
theorem dX9_apart_9 : decode cX9_apart 9 = .ok (.sipush 6000, 3) := by decide +kernel
theorem dX9_apart_12 : decode cX9_apart 12 = .ok (.if_icmp .ge 34, 3) := by decide +kernel
theorem dX9_apart_15 : decode cX9_apart 15 = .ok (.lload_n 3, 1) := by decide +kernel
theorem dX9_apart_16 : decode cX9_apart 16 = .ok (.aload_n 0, 1) := by decide +kernel
theorem dX9_apart_17 : decode cX9_apart 17 = .ok (.getfield 74, 3) := by decide +kernel
theorem dX9_apart_20 : decode cX9_apart 20 = .ok (.iload 5, 2) := by decide +kernel
theorem dX9_apart_22 : decode cX9_apart 22 = .ok (.laload, 1) := by decide +kernel
theorem dX9_apart_23 : decode cX9_apart 23 = .ok (.ladd, 1) := by decide +kernel
theorem dX9_apart_24 : decode cX9_apart 24 = .ok (.lstore_n 3, 1) := by decide +kernel
theorem dX9_apart_25 : decode cX9_apart 25 = .ok (.lload_n 1, 1) := by decide +kernel
theorem dX9_apart_26 : decode cX9_apart 26 = .ok (.ldc2_w 209, 3) := by decide +kernel
theorem dX9_apart_29 : decode cX9_apart 29 = .ok (.lload_n 3, 1) := by decide +kernel
theorem dX9_apart_30 : decode cX9_apart 30 = .ok (.lmul, 1) := by decide +kernel
theorem dX9_apart_31 : decode cX9_apart 31 = .ok (.aload_n 0, 1) := by decide +kernel
theorem dX9_apart_32 : decode cX9_apart 32 = .ok (.getfield 177, 3) := by decide +kernel
theorem dX9_apart_35 : decode cX9_apart 35 = .ok (.lload_n 3, 1) := by decide +kernel
theorem dX9_apart_36 : decode cX9_apart 36 = .ok (.lsub, 1) := by decide +kernel
theorem dX9_apart_37 : decode cX9_apart 37 = .ok (.lmul, 1) := by decide +kernel
theorem dX9_apart_38 : decode cX9_apart 38 = .ok (.ladd, 1) := by decide +kernel
theorem dX9_apart_39 : decode cX9_apart 39 = .ok (.lstore_n 1, 1) := by decide +kernel
theorem dX9_apart_40 : decode cX9_apart 40 = .ok (.iinc 5 1, 3) := by decide +kernel
theorem dX9_apart_43 : decode cX9_apart 43 = .ok (.goto (-36), 3) := by decide +kernel
theorem dX9_apart_46 : decode cX9_apart 46 = .ok (.lload_n 1, 1) := by decide +kernel
theorem dX9_apart_47 : decode cX9_apart 47 = .ok (.lreturn, 1) := by decide +kernel
theorem dX9_spread_0 : decode cX9_spread 0 = .ok (.aload_n 0, 1) := by decide +kernel
theorem dX9_spread_1 : decode cX9_spread 1 = .ok (.iconst 0, 1) := by decide +kernel
theorem dX9_spread_2 : decode cX9_spread 2 = .ok (.putfield 95, 3) := by decide +kernel
theorem dX9_spread_5 : decode cX9_spread 5 = .ok (.aload_n 0, 1) := by decide +kernel
theorem dX9_spread_6 : decode cX9_spread 6 = .ok (.iconst 0, 1) := by decide +kernel
theorem dX9_spread_7 : decode cX9_spread 7 = .ok (.putfield 98, 3) := by decide +kernel
theorem dX9_spread_10 : decode cX9_spread 10 = .ok (.aload_n 0, 1) := by decide +kernel
theorem dX9_spread_11 : decode cX9_spread 11 = .ok (.iconst (-1), 1) := by decide +kernel
theorem dX9_spread_12 : decode cX9_spread 12 = .ok (.iconst (-1), 1) := by decide +kernel
theorem dX9_spread_13 : decode cX9_spread 13 = .ok (.iconst 0, 1) := by decide +kernel
theorem dX9_spread_14 : decode cX9_spread 14 = .ok (.invokevirtual 196, 3) := by decide +kernel
theorem dX9_spread_17 : decode cX9_spread 17 = .ok (.istore_n 1, 1) := by decide +kernel
theorem dX9_spread_18 : decode cX9_spread 18 = .ok (.iload_n 1, 1) := by decide +kernel
theorem dX9_spread_19 : decode cX9_spread 19 = .ok (.ifCond .le 9, 3) := by decide +kernel
theorem dX9_spread_22 : decode cX9_spread 22 = .ok (.aload_n 0, 1) := by decide +kernel
theorem dX9_spread_23 : decode cX9_spread 23 = .ok (.iload_n 1, 1) := by decide +kernel
theorem dX9_spread_24 : decode cX9_spread 24 = .ok (.invokevirtual 101, 3) := by decide +kernel
theorem dX9_spread_27 : decode cX9_spread 27 = .ok (.ireturn, 1) := by decide +kernel
theorem dX9_spread_28 : decode cX9_spread 28 = .ok (.aload_n 0, 1) := by decide +kernel
theorem dX9_spread_29 : decode cX9_spread 29 = .ok (.aload_n 0, 1) := by decide +kernel
theorem dX9_spread_30 : decode cX9_spread 30 = .ok (.invokevirtual 211, 3) := by decide +kernel
theorem dX9_spread_33 : decode cX9_spread 33 = .ok (.aload_n 0, 1) := by decide +kernel
theorem dX9_spread_34 : decode cX9_spread 34 = .ok (.getfield 177, 3) := by decide +kernel
theorem dX9_spread_37 : decode cX9_spread 37 = .ok (.aload_n 0, 1) := by decide +kernel
theorem dX9_spread_38 : decode cX9_spread 38 = .ok (.getfield 177, 3) := by decide +kernel
theorem dX9_spread_41 : decode cX9_spread 41 = .ok (.lmul, 1) := by decide +kernel
theorem dX9_spread_42 : decode cX9_spread 42 = .ok (.invokevirtual 200, 3) := by decide +kernel
theorem dX9_spread_45 : decode cX9_spread 45 = .ok (.pop, 1) := by decide +kernel
theorem dX9_spread_46 : decode cX9_spread 46 = .ok (.iconst 1, 1) := by decide +kernel
theorem dX9_spread_47 : decode cX9_spread 47 = .ok (.ireturn, 1) := by decide +kernel
theorem dX9_known_0 : decode cX9_known 0 = .ok (.aload_n 0, 1) := by decide +kernel
theorem dX9_known_1 : decode cX9_known 1 = .ok (.lconst 0, 1) := by decide +kernel
theorem dX9_known_2 : decode cX9_known 2 = .ok (.putfield 214, 3) := by decide +kernel
theorem dX9_known_5 : decode cX9_known 5 = .ok (.aload_n 0, 1) := by decide +kernel
theorem dX9_known_6 : decode cX9_known 6 = .ok (.lconst 1, 1) := by decide +kernel
theorem dX9_known_7 : decode cX9_known 7 = .ok (.putfield 217, 3) := by decide +kernel
theorem dX9_known_10 : decode cX9_known 10 = .ok (.aload_n 0, 1) := by decide +kernel
theorem dX9_known_11 : decode cX9_known 11 = .ok (.lconst 0, 1) := by decide +kernel
theorem dX9_known_12 : decode cX9_known 12 = .ok (.putfield 220, 3) := by decide +kernel
theorem dX9_known_15 : decode cX9_known 15 = .ok (.iconst 0, 1) := by decide +kernel
theorem dX9_known_16 : decode cX9_known 16 = .ok (.istore_n 2, 1) := by decide +kernel
theorem dX9_known_17 : decode cX9_known 17 = .ok (.iload_n 2, 1) := by decide +kernel
theorem dX9_known_18 : decode cX9_known 18 = .ok (.aload_n 0, 1) := by decide +kernel
theorem dX9_known_19 : decode cX9_known 19 = .ok (.getfield 31, 3) := by decide +kernel
theorem dX9_known_22 : decode cX9_known 22 = .ok (.iload_n 1, 1) := by decide +kernel
theorem dX9_known_23 : decode cX9_known 23 = .ok (.iaload, 1) := by decide +kernel
theorem dX9_known_24 : decode cX9_known 24 = .ok (.if_icmp .ge 121, 3) := by decide +kernel
theorem dX9_known_27 : decode cX9_known 27 = .ok (.aload_n 0, 1) := by decide +kernel
theorem dX9_known_28 : decode cX9_known 28 = .ok (.iconst (-1), 1) := by decide +kernel
theorem dX9_known_29 : decode cX9_known 29 = .ok (.iload_n 1, 1) := by decide +kernel
theorem dX9_known_30 : decode cX9_known 30 = .ok (.iload_n 2, 1) := by decide +kernel
theorem dX9_known_31 : decode cX9_known 31 = .ok (.invokevirtual 196, 3) := by decide +kernel
theorem dX9_known_34 : decode cX9_known 34 = .ok (.istore_n 3, 1) := by decide +kernel
theorem dX9_known_35 : decode cX9_known 35 = .ok (.iload_n 3, 1) := by decide +kernel
theorem dX9_known_36 : decode cX9_known 36 = .ok (.ifCond .le 5, 3) := by decide +kernel
theorem dX9_known_39 : decode cX9_known 39 = .ok (.iload_n 3, 1) := by decide +kernel
theorem dX9_known_40 : decode cX9_known 40 = .ok (.ireturn, 1) := by decide +kernel
theorem dX9_known_41 : decode cX9_known 41 = .ok (.aload_n 0, 1) := by decide +kernel
theorem dX9_known_42 : decode cX9_known 42 = .ok (.dup, 1) := by decide +kernel
theorem dX9_known_43 : decode cX9_known 43 = .ok (.getfield 220, 3) := by decide +kernel
theorem dX9_known_46 : decode cX9_known 46 = .ok (.aload_n 0, 1) := by decide +kernel
theorem dX9_known_47 : decode cX9_known 47 = .ok (.getfield 177, 3) := by decide +kernel
theorem dX9_known_50 : decode cX9_known 50 = .ok (.ladd, 1) := by decide +kernel
theorem dX9_known_51 : decode cX9_known 51 = .ok (.putfield 220, 3) := by decide +kernel
theorem dX9_known_54 : decode cX9_known 54 = .ok (.aload_n 0, 1) := by decide +kernel
theorem dX9_known_55 : decode cX9_known 55 = .ok (.getfield 177, 3) := by decide +kernel
theorem dX9_known_58 : decode cX9_known 58 = .ok (.lconst 0, 1) := by decide +kernel
theorem dX9_known_59 : decode cX9_known 59 = .ok (.lcmp, 1) := by decide +kernel
theorem dX9_known_60 : decode cX9_known 60 = .ok (.ifCond .ne 6, 3) := by decide +kernel
theorem dX9_known_63 : decode cX9_known 63 = .ok (.goto 76, 3) := by decide +kernel
theorem dX9_known_66 : decode cX9_known 66 = .ok (.aload_n 0, 1) := by decide +kernel
theorem dX9_known_67 : decode cX9_known 67 = .ok (.getfield 214, 3) := by decide +kernel
theorem dX9_known_70 : decode cX9_known 70 = .ok (.aload_n 0, 1) := by decide +kernel
theorem dX9_known_71 : decode cX9_known 71 = .ok (.getfield 177, 3) := by decide +kernel
theorem dX9_known_74 : decode cX9_known 74 = .ok (.lmul, 1) := by decide +kernel
theorem dX9_known_75 : decode cX9_known 75 = .ok (.aload_n 0, 1) := by decide +kernel
theorem dX9_known_76 : decode cX9_known 76 = .ok (.invokevirtual 211, 3) := by decide +kernel
theorem dX9_known_79 : decode cX9_known 79 = .ok (.aload_n 0, 1) := by decide +kernel
theorem dX9_known_80 : decode cX9_known 80 = .ok (.getfield 217, 3) := by decide +kernel
theorem dX9_known_83 : decode cX9_known 83 = .ok (.lmul, 1) := by decide +kernel
theorem dX9_known_84 : decode cX9_known 84 = .ok (.ladd, 1) := by decide +kernel
theorem dX9_known_85 : decode cX9_known 85 = .ok (.lstore 4, 2) := by decide +kernel
theorem dX9_known_87 : decode cX9_known 87 = .ok (.aload_n 0, 1) := by decide +kernel
theorem dX9_known_88 : decode cX9_known 88 = .ok (.getfield 217, 3) := by decide +kernel
theorem dX9_known_91 : decode cX9_known 91 = .ok (.aload_n 0, 1) := by decide +kernel
theorem dX9_known_92 : decode cX9_known 92 = .ok (.getfield 177, 3) := by decide +kernel
theorem dX9_known_95 : decode cX9_known 95 = .ok (.lmul, 1) := by decide +kernel
theorem dX9_known_96 : decode cX9_known 96 = .ok (.lstore 6, 2) := by decide +kernel
theorem dX9_known_98 : decode cX9_known 98 = .ok (.lload 4, 2) := by decide +kernel
theorem dX9_known_100 : decode cX9_known 100 = .ok (.lload 6, 2) := by decide +kernel
theorem dX9_known_102 : decode cX9_known 102 = .ok (.invokestatic 125, 3) := by decide +kernel
theorem dX9_known_105 : decode cX9_known 105 = .ok (.lstore 8, 2) := by decide +kernel
theorem dX9_known_107 : decode cX9_known 107 = .ok (.aload_n 0, 1) := by decide +kernel
theorem dX9_known_108 : decode cX9_known 108 = .ok (.lload 4, 2) := by decide +kernel
theorem dX9_known_110 : decode cX9_known 110 = .ok (.lload 8, 2) := by decide +kernel
theorem dX9_known_112 : decode cX9_known 112 = .ok (.ldiv, 1) := by decide +kernel
theorem dX9_known_113 : decode cX9_known 113 = .ok (.putfield 214, 3) := by decide +kernel
theorem dX9_known_116 : decode cX9_known 116 = .ok (.aload_n 0, 1) := by decide +kernel
theorem dX9_known_117 : decode cX9_known 117 = .ok (.lload 6, 2) := by decide +kernel
theorem dX9_known_119 : decode cX9_known 119 = .ok (.lload 8, 2) := by decide +kernel
theorem dX9_known_121 : decode cX9_known 121 = .ok (.ldiv, 1) := by decide +kernel
theorem dX9_known_122 : decode cX9_known 122 = .ok (.putfield 217, 3) := by decide +kernel
theorem dX9_known_125 : decode cX9_known 125 = .ok (.aload_n 0, 1) := by decide +kernel
theorem dX9_known_126 : decode cX9_known 126 = .ok (.getfield 217, 3) := by decide +kernel
theorem dX9_known_129 : decode cX9_known 129 = .ok (.ldc2_w 223, 3) := by decide +kernel
theorem dX9_known_132 : decode cX9_known 132 = .ok (.lcmp, 1) := by decide +kernel
theorem dX9_known_133 : decode cX9_known 133 = .ok (.ifCond .le 6, 3) := by decide +kernel
theorem dX9_known_136 : decode cX9_known 136 = .ok (.bipush 9, 2) := by decide +kernel
theorem dX9_known_138 : decode cX9_known 138 = .ok (.ireturn, 1) := by decide +kernel
theorem dX9_known_139 : decode cX9_known 139 = .ok (.iinc 2 1, 3) := by decide +kernel
theorem dX9_known_142 : decode cX9_known 142 = .ok (.goto (-125), 3) := by decide +kernel
theorem dX9_known_145 : decode cX9_known 145 = .ok (.iconst 0, 1) := by decide +kernel
theorem dX9_known_146 : decode cX9_known 146 = .ok (.ireturn, 1) := by decide +kernel
theorem dX9_sure_0 : decode cX9_sure 0 = .ok (.aload_n 0, 1) := by decide +kernel
theorem dX9_sure_1 : decode cX9_sure 1 = .ok (.iconst 0, 1) := by decide +kernel
theorem dX9_sure_2 : decode cX9_sure 2 = .ok (.putfield 95, 3) := by decide +kernel
theorem dX9_sure_5 : decode cX9_sure 5 = .ok (.aload_n 0, 1) := by decide +kernel
theorem dX9_sure_6 : decode cX9_sure 6 = .ok (.iconst 0, 1) := by decide +kernel
theorem dX9_sure_7 : decode cX9_sure 7 = .ok (.putfield 98, 3) := by decide +kernel
theorem dX9_sure_10 : decode cX9_sure 10 = .ok (.aload_n 0, 1) := by decide +kernel
theorem dX9_sure_11 : decode cX9_sure 11 = .ok (.iload_n 1, 1) := by decide +kernel
theorem dX9_sure_12 : decode cX9_sure 12 = .ok (.invokevirtual 142, 3) := by decide +kernel
theorem dX9_sure_15 : decode cX9_sure 15 = .ok (.ifCond .ne 9, 3) := by decide +kernel
theorem dX9_sure_18 : decode cX9_sure 18 = .ok (.aload_n 0, 1) := by decide +kernel
theorem dX9_sure_19 : decode cX9_sure 19 = .ok (.iconst 2, 1) := by decide +kernel
theorem dX9_sure_20 : decode cX9_sure 20 = .ok (.invokevirtual 101, 3) := by decide +kernel
theorem dX9_sure_23 : decode cX9_sure 23 = .ok (.ireturn, 1) := by decide +kernel
theorem dX9_sure_24 : decode cX9_sure 24 = .ok (.aload_n 0, 1) := by decide +kernel
theorem dX9_sure_25 : decode cX9_sure 25 = .ok (.iload_n 1, 1) := by decide +kernel
theorem dX9_sure_26 : decode cX9_sure 26 = .ok (.invokevirtual 225, 3) := by decide +kernel
theorem dX9_sure_29 : decode cX9_sure 29 = .ok (.istore_n 2, 1) := by decide +kernel
theorem dX9_sure_30 : decode cX9_sure 30 = .ok (.iload_n 2, 1) := by decide +kernel
theorem dX9_sure_31 : decode cX9_sure 31 = .ok (.ifCond .le 9, 3) := by decide +kernel
theorem dX9_sure_34 : decode cX9_sure 34 = .ok (.aload_n 0, 1) := by decide +kernel
theorem dX9_sure_35 : decode cX9_sure 35 = .ok (.iload_n 2, 1) := by decide +kernel
theorem dX9_sure_36 : decode cX9_sure 36 = .ok (.invokevirtual 101, 3) := by decide +kernel
theorem dX9_sure_39 : decode cX9_sure 39 = .ok (.ireturn, 1) := by decide +kernel
theorem dX9_sure_40 : decode cX9_sure 40 = .ok (.aload_n 0, 1) := by decide +kernel
theorem dX9_sure_41 : decode cX9_sure 41 = .ok (.aload_n 0, 1) := by decide +kernel
theorem dX9_sure_42 : decode cX9_sure 42 = .ok (.getfield 214, 3) := by decide +kernel
theorem dX9_sure_45 : decode cX9_sure 45 = .ok (.aload_n 0, 1) := by decide +kernel
theorem dX9_sure_46 : decode cX9_sure 46 = .ok (.getfield 217, 3) := by decide +kernel
theorem dX9_sure_49 : decode cX9_sure 49 = .ok (.aload_n 0, 1) := by decide +kernel
theorem dX9_sure_50 : decode cX9_sure 50 = .ok (.getfield 220, 3) := by decide +kernel
theorem dX9_sure_53 : decode cX9_sure 53 = .ok (.lmul, 1) := by decide +kernel
theorem dX9_sure_54 : decode cX9_sure 54 = .ok (.invokevirtual 200, 3) := by decide +kernel
theorem dX9_sure_57 : decode cX9_sure 57 = .ok (.pop, 1) := by decide +kernel
theorem dX9_sure_58 : decode cX9_sure 58 = .ok (.iconst 1, 1) := by decide +kernel
theorem dX9_sure_59 : decode cX9_sure 59 = .ok (.ireturn, 1) := by decide +kernel
theorem dX9_isLess_0 : decode cX9_isLess 0 = .ok (.lload_n 0, 1) := by decide +kernel
theorem dX9_isLess_1 : decode cX9_isLess 1 = .ok (.lstore 8, 2) := by decide +kernel
theorem dX9_isLess_3 : decode cX9_isLess 3 = .ok (.lload_n 2, 1) := by decide +kernel
theorem dX9_isLess_4 : decode cX9_isLess 4 = .ok (.lstore 10, 2) := by decide +kernel
theorem dX9_isLess_6 : decode cX9_isLess 6 = .ok (.lload 4, 2) := by decide +kernel
theorem dX9_isLess_8 : decode cX9_isLess 8 = .ok (.lstore 12, 2) := by decide +kernel
theorem dX9_isLess_10 : decode cX9_isLess 10 = .ok (.lload 6, 2) := by decide +kernel
theorem dX9_isLess_12 : decode cX9_isLess 12 = .ok (.lstore 14, 2) := by decide +kernel
theorem dX9_isLess_14 : decode cX9_isLess 14 = .ok (.iconst 0, 1) := by decide +kernel
theorem dX9_isLess_15 : decode cX9_isLess 15 = .ok (.istore 16, 2) := by decide +kernel
theorem dX9_isLess_17 : decode cX9_isLess 17 = .ok (.lload 10, 2) := by decide +kernel
theorem dX9_isLess_19 : decode cX9_isLess 19 = .ok (.lconst 0, 1) := by decide +kernel
theorem dX9_isLess_20 : decode cX9_isLess 20 = .ok (.lcmp, 1) := by decide +kernel
theorem dX9_isLess_21 : decode cX9_isLess 21 = .ok (.ifCond .eq 69, 3) := by decide +kernel
theorem dX9_isLess_24 : decode cX9_isLess 24 = .ok (.lload 14, 2) := by decide +kernel
theorem dX9_isLess_26 : decode cX9_isLess 26 = .ok (.lconst 0, 1) := by decide +kernel
theorem dX9_isLess_27 : decode cX9_isLess 27 = .ok (.lcmp, 1) := by decide +kernel
theorem dX9_isLess_28 : decode cX9_isLess 28 = .ok (.ifCond .eq 62, 3) := by decide +kernel
theorem dX9_isLess_31 : decode cX9_isLess 31 = .ok (.lload 8, 2) := by decide +kernel
theorem dX9_isLess_33 : decode cX9_isLess 33 = .ok (.lload 10, 2) := by decide +kernel
theorem dX9_isLess_35 : decode cX9_isLess 35 = .ok (.ldiv, 1) := by decide +kernel
theorem dX9_isLess_36 : decode cX9_isLess 36 = .ok (.lload 12, 2) := by decide +kernel
theorem dX9_isLess_38 : decode cX9_isLess 38 = .ok (.lload 14, 2) := by decide +kernel
theorem dX9_isLess_40 : decode cX9_isLess 40 = .ok (.ldiv, 1) := by decide +kernel
theorem dX9_isLess_41 : decode cX9_isLess 41 = .ok (.lcmp, 1) := by decide +kernel
theorem dX9_isLess_42 : decode cX9_isLess 42 = .ok (.ifCond .ne 48, 3) := by decide +kernel
theorem dX9_isLess_45 : decode cX9_isLess 45 = .ok (.lload 8, 2) := by decide +kernel
theorem dX9_isLess_47 : decode cX9_isLess 47 = .ok (.lload 10, 2) := by decide +kernel
theorem dX9_isLess_49 : decode cX9_isLess 49 = .ok (.lrem, 1) := by decide +kernel
theorem dX9_isLess_50 : decode cX9_isLess 50 = .ok (.lstore 17, 2) := by decide +kernel
theorem dX9_isLess_52 : decode cX9_isLess 52 = .ok (.lload 12, 2) := by decide +kernel
theorem dX9_isLess_54 : decode cX9_isLess 54 = .ok (.lload 14, 2) := by decide +kernel
theorem dX9_isLess_56 : decode cX9_isLess 56 = .ok (.lrem, 1) := by decide +kernel
theorem dX9_isLess_57 : decode cX9_isLess 57 = .ok (.lstore 19, 2) := by decide +kernel
theorem dX9_isLess_59 : decode cX9_isLess 59 = .ok (.lload 10, 2) := by decide +kernel
theorem dX9_isLess_61 : decode cX9_isLess 61 = .ok (.lstore 8, 2) := by decide +kernel
theorem dX9_isLess_63 : decode cX9_isLess 63 = .ok (.lload 17, 2) := by decide +kernel
theorem dX9_isLess_65 : decode cX9_isLess 65 = .ok (.lstore 10, 2) := by decide +kernel
theorem dX9_isLess_67 : decode cX9_isLess 67 = .ok (.lload 14, 2) := by decide +kernel
theorem dX9_isLess_69 : decode cX9_isLess 69 = .ok (.lstore 12, 2) := by decide +kernel
theorem dX9_isLess_71 : decode cX9_isLess 71 = .ok (.lload 19, 2) := by decide +kernel
theorem dX9_isLess_73 : decode cX9_isLess 73 = .ok (.lstore 14, 2) := by decide +kernel
theorem dX9_isLess_75 : decode cX9_isLess 75 = .ok (.iload 16, 2) := by decide +kernel
theorem dX9_isLess_77 : decode cX9_isLess 77 = .ok (.ifCond .ne 7, 3) := by decide +kernel
theorem dX9_isLess_80 : decode cX9_isLess 80 = .ok (.iconst 1, 1) := by decide +kernel
theorem dX9_isLess_81 : decode cX9_isLess 81 = .ok (.goto 4, 3) := by decide +kernel
theorem dX9_isLess_84 : decode cX9_isLess 84 = .ok (.iconst 0, 1) := by decide +kernel
theorem dX9_isLess_85 : decode cX9_isLess 85 = .ok (.istore 16, 2) := by decide +kernel
theorem dX9_isLess_87 : decode cX9_isLess 87 = .ok (.goto (-70), 3) := by decide +kernel
theorem dX9_isLess_90 : decode cX9_isLess 90 = .ok (.lload 10, 2) := by decide +kernel
theorem dX9_isLess_92 : decode cX9_isLess 92 = .ok (.lconst 0, 1) := by decide +kernel
theorem dX9_isLess_93 : decode cX9_isLess 93 = .ok (.lcmp, 1) := by decide +kernel
theorem dX9_isLess_94 : decode cX9_isLess 94 = .ok (.ifCond .ne 12, 3) := by decide +kernel
theorem dX9_isLess_97 : decode cX9_isLess 97 = .ok (.lload 14, 2) := by decide +kernel
theorem dX9_isLess_99 : decode cX9_isLess 99 = .ok (.lconst 0, 1) := by decide +kernel
theorem dX9_isLess_100 : decode cX9_isLess 100 = .ok (.lcmp, 1) := by decide +kernel
theorem dX9_isLess_101 : decode cX9_isLess 101 = .ok (.ifCond .ne 5, 3) := by decide +kernel
theorem dX9_isLess_104 : decode cX9_isLess 104 = .ok (.iconst 0, 1) := by decide +kernel
theorem dX9_isLess_105 : decode cX9_isLess 105 = .ok (.ireturn, 1) := by decide +kernel
theorem dX9_isLess_106 : decode cX9_isLess 106 = .ok (.lload 10, 2) := by decide +kernel
theorem dX9_isLess_108 : decode cX9_isLess 108 = .ok (.lconst 0, 1) := by decide +kernel
theorem dX9_isLess_109 : decode cX9_isLess 109 = .ok (.lcmp, 1) := by decide +kernel
theorem dX9_isLess_110 : decode cX9_isLess 110 = .ok (.ifCond .eq 28, 3) := by decide +kernel
theorem dX9_isLess_113 : decode cX9_isLess 113 = .ok (.lload 14, 2) := by decide +kernel
theorem dX9_isLess_115 : decode cX9_isLess 115 = .ok (.lconst 0, 1) := by decide +kernel
theorem dX9_isLess_116 : decode cX9_isLess 116 = .ok (.lcmp, 1) := by decide +kernel
theorem dX9_isLess_117 : decode cX9_isLess 117 = .ok (.ifCond .eq 17, 3) := by decide +kernel
theorem dX9_isLess_120 : decode cX9_isLess 120 = .ok (.lload 8, 2) := by decide +kernel
theorem dX9_isLess_122 : decode cX9_isLess 122 = .ok (.lload 10, 2) := by decide +kernel
theorem dX9_isLess_124 : decode cX9_isLess 124 = .ok (.ldiv, 1) := by decide +kernel
theorem dX9_isLess_125 : decode cX9_isLess 125 = .ok (.lload 12, 2) := by decide +kernel
theorem dX9_isLess_127 : decode cX9_isLess 127 = .ok (.lload 14, 2) := by decide +kernel
theorem dX9_isLess_129 : decode cX9_isLess 129 = .ok (.ldiv, 1) := by decide +kernel
theorem dX9_isLess_130 : decode cX9_isLess 130 = .ok (.lcmp, 1) := by decide +kernel
theorem dX9_isLess_131 : decode cX9_isLess 131 = .ok (.ifCond .ge 7, 3) := by decide +kernel
theorem dX9_isLess_134 : decode cX9_isLess 134 = .ok (.iconst 1, 1) := by decide +kernel
theorem dX9_isLess_135 : decode cX9_isLess 135 = .ok (.goto 4, 3) := by decide +kernel
theorem dX9_isLess_138 : decode cX9_isLess 138 = .ok (.iconst 0, 1) := by decide +kernel
theorem dX9_isLess_139 : decode cX9_isLess 139 = .ok (.istore 17, 2) := by decide +kernel
theorem dX9_isLess_141 : decode cX9_isLess 141 = .ok (.iload 16, 2) := by decide +kernel
theorem dX9_isLess_143 : decode cX9_isLess 143 = .ok (.iload 17, 2) := by decide +kernel
theorem dX9_isLess_145 : decode cX9_isLess 145 = .ok (.if_icmp .eq 7, 3) := by decide +kernel
theorem dX9_isLess_148 : decode cX9_isLess 148 = .ok (.iconst 1, 1) := by decide +kernel
theorem dX9_isLess_149 : decode cX9_isLess 149 = .ok (.goto 4, 3) := by decide +kernel
theorem dX9_isLess_152 : decode cX9_isLess 152 = .ok (.iconst 0, 1) := by decide +kernel
theorem dX9_isLess_153 : decode cX9_isLess 153 = .ok (.ireturn, 1) := by decide +kernel
theorem dX9_surest_0 : decode cX9_surest 0 = .ok (.aload_n 0, 1) := by decide +kernel
theorem dX9_surest_1 : decode cX9_surest 1 = .ok (.iconst 0, 1) := by decide +kernel
theorem dX9_surest_2 : decode cX9_surest 2 = .ok (.putfield 95, 3) := by decide +kernel
theorem dX9_surest_5 : decode cX9_surest 5 = .ok (.aload_n 0, 1) := by decide +kernel
theorem dX9_surest_6 : decode cX9_surest 6 = .ok (.iconst 0, 1) := by decide +kernel
theorem dX9_surest_7 : decode cX9_surest 7 = .ok (.putfield 98, 3) := by decide +kernel
theorem dX9_surest_10 : decode cX9_surest 10 = .ok (.aload_n 0, 1) := by decide +kernel
theorem dX9_surest_11 : decode cX9_surest 11 = .ok (.getfield 119, 3) := by decide +kernel
theorem dX9_surest_14 : decode cX9_surest 14 = .ok (.ifCond .ne 9, 3) := by decide +kernel
theorem dX9_surest_17 : decode cX9_surest 17 = .ok (.aload_n 0, 1) := by decide +kernel
theorem dX9_surest_18 : decode cX9_surest 18 = .ok (.iconst 2, 1) := by decide +kernel
theorem dX9_surest_19 : decode cX9_surest 19 = .ok (.invokevirtual 122, 3) := by decide +kernel
theorem dX9_surest_22 : decode cX9_surest 22 = .ok (.ireturn, 1) := by decide +kernel
theorem dX9_surest_23 : decode cX9_surest 23 = .ok (.iconst (-1), 1) := by decide +kernel
theorem dX9_surest_24 : decode cX9_surest 24 = .ok (.istore_n 1, 1) := by decide +kernel
theorem dX9_surest_25 : decode cX9_surest 25 = .ok (.lconst 0, 1) := by decide +kernel
theorem dX9_surest_26 : decode cX9_surest 26 = .ok (.lstore_n 2, 1) := by decide +kernel
theorem dX9_surest_27 : decode cX9_surest 27 = .ok (.lconst 1, 1) := by decide +kernel
theorem dX9_surest_28 : decode cX9_surest 28 = .ok (.lstore 4, 2) := by decide +kernel
theorem dX9_surest_30 : decode cX9_surest 30 = .ok (.iconst 0, 1) := by decide +kernel
theorem dX9_surest_31 : decode cX9_surest 31 = .ok (.istore 6, 2) := by decide +kernel
theorem dX9_surest_33 : decode cX9_surest 33 = .ok (.iload 6, 2) := by decide +kernel
theorem dX9_surest_35 : decode cX9_surest 35 = .ok (.aload_n 0, 1) := by decide +kernel
theorem dX9_surest_36 : decode cX9_surest 36 = .ok (.getfield 119, 3) := by decide +kernel
theorem dX9_surest_39 : decode cX9_surest 39 = .ok (.if_icmp .ge 67, 3) := by decide +kernel
theorem dX9_surest_42 : decode cX9_surest 42 = .ok (.aload_n 0, 1) := by decide +kernel
theorem dX9_surest_43 : decode cX9_surest 43 = .ok (.iload 6, 2) := by decide +kernel
theorem dX9_surest_45 : decode cX9_surest 45 = .ok (.invokevirtual 225, 3) := by decide +kernel
theorem dX9_surest_48 : decode cX9_surest 48 = .ok (.istore 7, 2) := by decide +kernel
theorem dX9_surest_50 : decode cX9_surest 50 = .ok (.iload 7, 2) := by decide +kernel
theorem dX9_surest_52 : decode cX9_surest 52 = .ok (.ifCond .le 10, 3) := by decide +kernel
theorem dX9_surest_55 : decode cX9_surest 55 = .ok (.aload_n 0, 1) := by decide +kernel
theorem dX9_surest_56 : decode cX9_surest 56 = .ok (.iload 7, 2) := by decide +kernel
theorem dX9_surest_58 : decode cX9_surest 58 = .ok (.invokevirtual 122, 3) := by decide +kernel
theorem dX9_surest_61 : decode cX9_surest 61 = .ok (.ireturn, 1) := by decide +kernel
theorem dX9_surest_62 : decode cX9_surest 62 = .ok (.iload_n 1, 1) := by decide +kernel
theorem dX9_surest_63 : decode cX9_surest 63 = .ok (.ifCond .lt 23, 3) := by decide +kernel
theorem dX9_surest_66 : decode cX9_surest 66 = .ok (.aload_n 0, 1) := by decide +kernel
theorem dX9_surest_67 : decode cX9_surest 67 = .ok (.getfield 214, 3) := by decide +kernel
theorem dX9_surest_70 : decode cX9_surest 70 = .ok (.aload_n 0, 1) := by decide +kernel
theorem dX9_surest_71 : decode cX9_surest 71 = .ok (.getfield 217, 3) := by decide +kernel
theorem dX9_surest_74 : decode cX9_surest 74 = .ok (.lload_n 2, 1) := by decide +kernel
theorem dX9_surest_75 : decode cX9_surest 75 = .ok (.lload 4, 2) := by decide +kernel
theorem dX9_surest_77 : decode cX9_surest 77 = .ok (.invokestatic 228, 3) := by decide +kernel
theorem dX9_surest_80 : decode cX9_surest 80 = .ok (.ifCond .ne 6, 3) := by decide +kernel
theorem dX9_surest_83 : decode cX9_surest 83 = .ok (.goto 17, 3) := by decide +kernel
theorem dX9_surest_86 : decode cX9_surest 86 = .ok (.iload 6, 2) := by decide +kernel
theorem dX9_surest_88 : decode cX9_surest 88 = .ok (.istore_n 1, 1) := by decide +kernel
theorem dX9_surest_89 : decode cX9_surest 89 = .ok (.aload_n 0, 1) := by decide +kernel
theorem dX9_surest_90 : decode cX9_surest 90 = .ok (.getfield 214, 3) := by decide +kernel
theorem dX9_surest_93 : decode cX9_surest 93 = .ok (.lstore_n 2, 1) := by decide +kernel
theorem dX9_surest_94 : decode cX9_surest 94 = .ok (.aload_n 0, 1) := by decide +kernel
theorem dX9_surest_95 : decode cX9_surest 95 = .ok (.getfield 217, 3) := by decide +kernel
theorem dX9_surest_98 : decode cX9_surest 98 = .ok (.lstore 4, 2) := by decide +kernel
theorem dX9_surest_100 : decode cX9_surest 100 = .ok (.iinc 6 1, 3) := by decide +kernel
theorem dX9_surest_103 : decode cX9_surest 103 = .ok (.goto (-70), 3) := by decide +kernel
theorem dX9_surest_106 : decode cX9_surest 106 = .ok (.iload_n 1, 1) := by decide +kernel
theorem dX9_surest_107 : decode cX9_surest 107 = .ok (.ireturn, 1) := by decide +kernel
theorem dX9_moves_0 : decode cX9_moves 0 = .ok (.aload_n 0, 1) := by decide +kernel
theorem dX9_moves_1 : decode cX9_moves 1 = .ok (.iconst 0, 1) := by decide +kernel
theorem dX9_moves_2 : decode cX9_moves 2 = .ok (.putfield 95, 3) := by decide +kernel
theorem dX9_moves_5 : decode cX9_moves 5 = .ok (.aload_n 0, 1) := by decide +kernel
theorem dX9_moves_6 : decode cX9_moves 6 = .ok (.iconst 0, 1) := by decide +kernel
theorem dX9_moves_7 : decode cX9_moves 7 = .ok (.putfield 98, 3) := by decide +kernel
theorem dX9_moves_10 : decode cX9_moves 10 = .ok (.aload_n 0, 1) := by decide +kernel
theorem dX9_moves_11 : decode cX9_moves 11 = .ok (.iload_n 1, 1) := by decide +kernel
theorem dX9_moves_12 : decode cX9_moves 12 = .ok (.invokevirtual 142, 3) := by decide +kernel
theorem dX9_moves_15 : decode cX9_moves 15 = .ok (.ifCond .ne 9, 3) := by decide +kernel
theorem dX9_moves_18 : decode cX9_moves 18 = .ok (.aload_n 0, 1) := by decide +kernel
theorem dX9_moves_19 : decode cX9_moves 19 = .ok (.iconst 2, 1) := by decide +kernel
theorem dX9_moves_20 : decode cX9_moves 20 = .ok (.invokevirtual 101, 3) := by decide +kernel
theorem dX9_moves_23 : decode cX9_moves 23 = .ok (.ireturn, 1) := by decide +kernel
theorem dX9_moves_24 : decode cX9_moves 24 = .ok (.aload_n 0, 1) := by decide +kernel
theorem dX9_moves_25 : decode cX9_moves 25 = .ok (.invokevirtual 174, 3) := by decide +kernel
theorem dX9_moves_28 : decode cX9_moves 28 = .ok (.ifCond .eq 10, 3) := by decide +kernel
theorem dX9_moves_31 : decode cX9_moves 31 = .ok (.aload_n 0, 1) := by decide +kernel
theorem dX9_moves_32 : decode cX9_moves 32 = .ok (.bipush 8, 2) := by decide +kernel
theorem dX9_moves_34 : decode cX9_moves 34 = .ok (.invokevirtual 101, 3) := by decide +kernel
theorem dX9_moves_37 : decode cX9_moves 37 = .ok (.ireturn, 1) := by decide +kernel
theorem dX9_moves_38 : decode cX9_moves 38 = .ok (.aload_n 0, 1) := by decide +kernel
theorem dX9_moves_39 : decode cX9_moves 39 = .ok (.invokevirtual 161, 3) := by decide +kernel
theorem dX9_moves_42 : decode cX9_moves 42 = .ok (.ifCond .eq 10, 3) := by decide +kernel
theorem dX9_moves_45 : decode cX9_moves 45 = .ok (.aload_n 0, 1) := by decide +kernel
theorem dX9_moves_46 : decode cX9_moves 46 = .ok (.bipush 9, 2) := by decide +kernel
theorem dX9_moves_48 : decode cX9_moves 48 = .ok (.invokevirtual 101, 3) := by decide +kernel
theorem dX9_moves_51 : decode cX9_moves 51 = .ok (.ireturn, 1) := by decide +kernel
theorem dX9_moves_52 : decode cX9_moves 52 = .ok (.lconst 0, 1) := by decide +kernel
theorem dX9_moves_53 : decode cX9_moves 53 = .ok (.lstore_n 2, 1) := by decide +kernel
theorem dX9_moves_54 : decode cX9_moves 54 = .ok (.lconst 0, 1) := by decide +kernel
theorem dX9_moves_55 : decode cX9_moves 55 = .ok (.lstore 4, 2) := by decide +kernel
theorem dX9_moves_57 : decode cX9_moves 57 = .ok (.aload_n 0, 1) := by decide +kernel
theorem dX9_moves_58 : decode cX9_moves 58 = .ok (.invokevirtual 180, 3) := by decide +kernel
theorem dX9_moves_61 : decode cX9_moves 61 = .ok (.iconst 1, 1) := by decide +kernel
theorem dX9_moves_62 : decode cX9_moves 62 = .ok (.istore 6, 2) := by decide +kernel
theorem dX9_moves_64 : decode cX9_moves 64 = .ok (.iload 6, 2) := by decide +kernel
theorem dX9_moves_66 : decode cX9_moves 66 = .ok (.ifCond .eq 54, 3) := by decide +kernel
theorem dX9_moves_69 : decode cX9_moves 69 = .ok (.aload_n 0, 1) := by decide +kernel
theorem dX9_moves_70 : decode cX9_moves 70 = .ok (.iconst (-1), 1) := by decide +kernel
theorem dX9_moves_71 : decode cX9_moves 71 = .ok (.invokevirtual 183, 3) := by decide +kernel
theorem dX9_moves_74 : decode cX9_moves 74 = .ok (.istore 7, 2) := by decide +kernel
theorem dX9_moves_76 : decode cX9_moves 76 = .ok (.aload_n 0, 1) := by decide +kernel
theorem dX9_moves_77 : decode cX9_moves 77 = .ok (.invokevirtual 186, 3) := by decide +kernel
theorem dX9_moves_80 : decode cX9_moves 80 = .ok (.ifCond .eq 31, 3) := by decide +kernel
theorem dX9_moves_83 : decode cX9_moves 83 = .ok (.aload_n 0, 1) := by decide +kernel
theorem dX9_moves_84 : decode cX9_moves 84 = .ok (.invokevirtual 189, 3) := by decide +kernel
theorem dX9_moves_87 : decode cX9_moves 87 = .ok (.lstore 8, 2) := by decide +kernel
theorem dX9_moves_89 : decode cX9_moves 89 = .ok (.lload_n 2, 1) := by decide +kernel
theorem dX9_moves_90 : decode cX9_moves 90 = .ok (.lload 8, 2) := by decide +kernel
theorem dX9_moves_92 : decode cX9_moves 92 = .ok (.ladd, 1) := by decide +kernel
theorem dX9_moves_93 : decode cX9_moves 93 = .ok (.lstore_n 2, 1) := by decide +kernel
theorem dX9_moves_94 : decode cX9_moves 94 = .ok (.aload_n 0, 1) := by decide +kernel
theorem dX9_moves_95 : decode cX9_moves 95 = .ok (.iload_n 1, 1) := by decide +kernel
theorem dX9_moves_96 : decode cX9_moves 96 = .ok (.invokevirtual 183, 3) := by decide +kernel
theorem dX9_moves_99 : decode cX9_moves 99 = .ok (.iload 7, 2) := by decide +kernel
theorem dX9_moves_101 : decode cX9_moves 101 = .ok (.if_icmp .le 10, 3) := by decide +kernel
theorem dX9_moves_104 : decode cX9_moves 104 = .ok (.lload 4, 2) := by decide +kernel
theorem dX9_moves_106 : decode cX9_moves 106 = .ok (.lload 8, 2) := by decide +kernel
theorem dX9_moves_108 : decode cX9_moves 108 = .ok (.ladd, 1) := by decide +kernel
theorem dX9_moves_109 : decode cX9_moves 109 = .ok (.lstore 4, 2) := by decide +kernel
theorem dX9_moves_111 : decode cX9_moves 111 = .ok (.aload_n 0, 1) := by decide +kernel
theorem dX9_moves_112 : decode cX9_moves 112 = .ok (.invokevirtual 193, 3) := by decide +kernel
theorem dX9_moves_115 : decode cX9_moves 115 = .ok (.istore 6, 2) := by decide +kernel
theorem dX9_moves_117 : decode cX9_moves 117 = .ok (.goto (-53), 3) := by decide +kernel
theorem dX9_moves_120 : decode cX9_moves 120 = .ok (.lload_n 2, 1) := by decide +kernel
theorem dX9_moves_121 : decode cX9_moves 121 = .ok (.lconst 0, 1) := by decide +kernel
theorem dX9_moves_122 : decode cX9_moves 122 = .ok (.lcmp, 1) := by decide +kernel
theorem dX9_moves_123 : decode cX9_moves 123 = .ok (.ifCond .ne 10, 3) := by decide +kernel
theorem dX9_moves_126 : decode cX9_moves 126 = .ok (.aload_n 0, 1) := by decide +kernel
theorem dX9_moves_127 : decode cX9_moves 127 = .ok (.bipush 10, 2) := by decide +kernel
theorem dX9_moves_129 : decode cX9_moves 129 = .ok (.invokevirtual 101, 3) := by decide +kernel
theorem dX9_moves_132 : decode cX9_moves 132 = .ok (.ireturn, 1) := by decide +kernel
theorem dX9_moves_133 : decode cX9_moves 133 = .ok (.aload_n 0, 1) := by decide +kernel
theorem dX9_moves_134 : decode cX9_moves 134 = .ok (.lload 4, 2) := by decide +kernel
theorem dX9_moves_136 : decode cX9_moves 136 = .ok (.lload_n 2, 1) := by decide +kernel
theorem dX9_moves_137 : decode cX9_moves 137 = .ok (.invokevirtual 200, 3) := by decide +kernel
theorem dX9_moves_140 : decode cX9_moves 140 = .ok (.pop, 1) := by decide +kernel
theorem dX9_moves_141 : decode cX9_moves 141 = .ok (.iconst 1, 1) := by decide +kernel
theorem dX9_moves_142 : decode cX9_moves 142 = .ok (.ireturn, 1) := by decide +kernel
theorem dX9_end_0 : decode cX9_end 0 = .ok (.aload_n 0, 1) := by decide +kernel
theorem dX9_end_1 : decode cX9_end 1 = .ok (.iconst 0, 1) := by decide +kernel
theorem dX9_end_2 : decode cX9_end 2 = .ok (.putfield 95, 3) := by decide +kernel
theorem dX9_end_5 : decode cX9_end 5 = .ok (.aload_n 0, 1) := by decide +kernel
theorem dX9_end_6 : decode cX9_end 6 = .ok (.iconst 0, 1) := by decide +kernel
theorem dX9_end_7 : decode cX9_end 7 = .ok (.putfield 98, 3) := by decide +kernel
theorem dX9_end_10 : decode cX9_end 10 = .ok (.aload_n 0, 1) := by decide +kernel
theorem dX9_end_11 : decode cX9_end 11 = .ok (.iload_n 1, 1) := by decide +kernel
theorem dX9_end_12 : decode cX9_end 12 = .ok (.invokevirtual 142, 3) := by decide +kernel
theorem dX9_end_15 : decode cX9_end 15 = .ok (.ifCond .ne 9, 3) := by decide +kernel
theorem dX9_end_18 : decode cX9_end 18 = .ok (.aload_n 0, 1) := by decide +kernel
theorem dX9_end_19 : decode cX9_end 19 = .ok (.iconst 2, 1) := by decide +kernel
theorem dX9_end_20 : decode cX9_end 20 = .ok (.invokevirtual 101, 3) := by decide +kernel
theorem dX9_end_23 : decode cX9_end 23 = .ok (.ireturn, 1) := by decide +kernel
theorem dX9_end_24 : decode cX9_end 24 = .ok (.iload_n 2, 1) := by decide +kernel
theorem dX9_end_25 : decode cX9_end 25 = .ok (.iconst (-1), 1) := by decide +kernel
theorem dX9_end_26 : decode cX9_end 26 = .ok (.if_icmp .lt 10, 3) := by decide +kernel
theorem dX9_end_29 : decode cX9_end 29 = .ok (.iload_n 2, 1) := by decide +kernel
theorem dX9_end_30 : decode cX9_end 30 = .ok (.sipush 9999, 3) := by decide +kernel
theorem dX9_end_33 : decode cX9_end 33 = .ok (.if_icmp .le 9, 3) := by decide +kernel
theorem dX9_end_36 : decode cX9_end 36 = .ok (.aload_n 0, 1) := by decide +kernel
theorem dX9_end_37 : decode cX9_end 37 = .ok (.iconst 5, 1) := by decide +kernel
theorem dX9_end_38 : decode cX9_end 38 = .ok (.invokevirtual 101, 3) := by decide +kernel
theorem dX9_end_41 : decode cX9_end 41 = .ok (.ireturn, 1) := by decide +kernel
theorem dX9_end_42 : decode cX9_end 42 = .ok (.aload_n 0, 1) := by decide +kernel
theorem dX9_end_43 : decode cX9_end 43 = .ok (.getfield 40, 3) := by decide +kernel
theorem dX9_end_46 : decode cX9_end 46 = .ok (.iload_n 1, 1) := by decide +kernel
theorem dX9_end_47 : decode cX9_end 47 = .ok (.iload_n 2, 1) := by decide +kernel
theorem dX9_end_48 : decode cX9_end 48 = .ok (.iastore, 1) := by decide +kernel
theorem dX9_end_49 : decode cX9_end 49 = .ok (.iconst 1, 1) := by decide +kernel
theorem dX9_end_50 : decode cX9_end 50 = .ok (.ireturn, 1) := by decide +kernel
theorem dX9_today_0 : decode cX9_today 0 = .ok (.aload_n 0, 1) := by decide +kernel
theorem dX9_today_1 : decode cX9_today 1 = .ok (.iconst 0, 1) := by decide +kernel
theorem dX9_today_2 : decode cX9_today 2 = .ok (.putfield 95, 3) := by decide +kernel
theorem dX9_today_5 : decode cX9_today 5 = .ok (.aload_n 0, 1) := by decide +kernel
theorem dX9_today_6 : decode cX9_today 6 = .ok (.iconst 0, 1) := by decide +kernel
theorem dX9_today_7 : decode cX9_today 7 = .ok (.putfield 98, 3) := by decide +kernel
theorem dX9_today_10 : decode cX9_today 10 = .ok (.iload_n 1, 1) := by decide +kernel
theorem dX9_today_11 : decode cX9_today 11 = .ok (.iconst (-1), 1) := by decide +kernel
theorem dX9_today_12 : decode cX9_today 12 = .ok (.if_icmp .lt 10, 3) := by decide +kernel
theorem dX9_today_15 : decode cX9_today 15 = .ok (.iload_n 1, 1) := by decide +kernel
theorem dX9_today_16 : decode cX9_today 16 = .ok (.sipush 9999, 3) := by decide +kernel
theorem dX9_today_19 : decode cX9_today 19 = .ok (.if_icmp .le 9, 3) := by decide +kernel
theorem dX9_today_22 : decode cX9_today 22 = .ok (.aload_n 0, 1) := by decide +kernel
theorem dX9_today_23 : decode cX9_today 23 = .ok (.iconst 5, 1) := by decide +kernel
theorem dX9_today_24 : decode cX9_today 24 = .ok (.invokevirtual 101, 3) := by decide +kernel
theorem dX9_today_27 : decode cX9_today 27 = .ok (.ireturn, 1) := by decide +kernel
theorem dX9_today_28 : decode cX9_today 28 = .ok (.aload_n 0, 1) := by decide +kernel
theorem dX9_today_29 : decode cX9_today 29 = .ok (.iload_n 1, 1) := by decide +kernel
theorem dX9_today_30 : decode cX9_today 30 = .ok (.putfield 28, 3) := by decide +kernel
theorem dX9_today_33 : decode cX9_today 33 = .ok (.iconst 1, 1) := by decide +kernel
theorem dX9_today_34 : decode cX9_today 34 = .ok (.ireturn, 1) := by decide +kernel
theorem dX9_stepOf_0 : decode cX9_stepOf 0 = .ok (.iload_n 0, 1) := by decide +kernel
theorem dX9_stepOf_1 : decode cX9_stepOf 1 = .ok (.iload_n 1, 1) := by decide +kernel
theorem dX9_stepOf_2 : decode cX9_stepOf 2 = .ok (.if_icmp .ne 8, 3) := by decide +kernel
theorem dX9_stepOf_5 : decode cX9_stepOf 5 = .ok (.bipush 9, 2) := by decide +kernel
theorem dX9_stepOf_7 : decode cX9_stepOf 7 = .ok (.goto 9, 3) := by decide +kernel
theorem dX9_stepOf_10 : decode cX9_stepOf 10 = .ok (.bipush 10, 2) := by decide +kernel
theorem dX9_stepOf_12 : decode cX9_stepOf 12 = .ok (.iload_n 0, 1) := by decide +kernel
theorem dX9_stepOf_13 : decode cX9_stepOf 13 = .ok (.imul, 1) := by decide +kernel
theorem dX9_stepOf_14 : decode cX9_stepOf 14 = .ok (.iload_n 1, 1) := by decide +kernel
theorem dX9_stepOf_15 : decode cX9_stepOf 15 = .ok (.idiv, 1) := by decide +kernel
theorem dX9_stepOf_16 : decode cX9_stepOf 16 = .ok (.ireturn, 1) := by decide +kernel
theorem dX9_telling_0 : decode cX9_telling 0 = .ok (.aload_n 0, 1) := by decide +kernel
theorem dX9_telling_1 : decode cX9_telling 1 = .ok (.iconst 0, 1) := by decide +kernel
theorem dX9_telling_2 : decode cX9_telling 2 = .ok (.putfield 95, 3) := by decide +kernel
theorem dX9_telling_5 : decode cX9_telling 5 = .ok (.aload_n 0, 1) := by decide +kernel
theorem dX9_telling_6 : decode cX9_telling 6 = .ok (.iconst 0, 1) := by decide +kernel
theorem dX9_telling_7 : decode cX9_telling 7 = .ok (.putfield 98, 3) := by decide +kernel
theorem dX9_telling_10 : decode cX9_telling 10 = .ok (.iload_n 2, 1) := by decide +kernel
theorem dX9_telling_11 : decode cX9_telling 11 = .ok (.iconst 1, 1) := by decide +kernel
theorem dX9_telling_12 : decode cX9_telling 12 = .ok (.if_icmp .lt 19, 3) := by decide +kernel
theorem dX9_telling_15 : decode cX9_telling 15 = .ok (.iload_n 2, 1) := by decide +kernel
theorem dX9_telling_16 : decode cX9_telling 16 = .ok (.sipush 1000, 3) := by decide +kernel
theorem dX9_telling_19 : decode cX9_telling 19 = .ok (.if_icmp .gt 12, 3) := by decide +kernel
theorem dX9_telling_22 : decode cX9_telling 22 = .ok (.iload_n 1, 1) := by decide +kernel
theorem dX9_telling_23 : decode cX9_telling 23 = .ok (.ifCond .lt 8, 3) := by decide +kernel
theorem dX9_telling_26 : decode cX9_telling 26 = .ok (.iload_n 1, 1) := by decide +kernel
theorem dX9_telling_27 : decode cX9_telling 27 = .ok (.iload_n 2, 1) := by decide +kernel
theorem dX9_telling_28 : decode cX9_telling 28 = .ok (.if_icmp .le 9, 3) := by decide +kernel
theorem dX9_telling_31 : decode cX9_telling 31 = .ok (.aload_n 0, 1) := by decide +kernel
theorem dX9_telling_32 : decode cX9_telling 32 = .ok (.iconst 5, 1) := by decide +kernel
theorem dX9_telling_33 : decode cX9_telling 33 = .ok (.invokevirtual 101, 3) := by decide +kernel
theorem dX9_telling_36 : decode cX9_telling 36 = .ok (.ireturn, 1) := by decide +kernel
theorem dX9_telling_37 : decode cX9_telling 37 = .ok (.aload_n 0, 1) := by decide +kernel
theorem dX9_telling_38 : decode cX9_telling 38 = .ok (.getfield 232, 3) := by decide +kernel
theorem dX9_telling_41 : decode cX9_telling 41 = .ok (.sipush 1000, 3) := by decide +kernel
theorem dX9_telling_44 : decode cX9_telling 44 = .ok (.if_icmp .ne 10, 3) := by decide +kernel
theorem dX9_telling_47 : decode cX9_telling 47 = .ok (.aload_n 0, 1) := by decide +kernel
theorem dX9_telling_48 : decode cX9_telling 48 = .ok (.bipush 7, 2) := by decide +kernel
theorem dX9_telling_50 : decode cX9_telling 50 = .ok (.invokevirtual 101, 3) := by decide +kernel
theorem dX9_telling_53 : decode cX9_telling 53 = .ok (.ireturn, 1) := by decide +kernel
theorem dX9_telling_54 : decode cX9_telling 54 = .ok (.aload_n 0, 1) := by decide +kernel
theorem dX9_telling_55 : decode cX9_telling 55 = .ok (.getfield 80, 3) := by decide +kernel
theorem dX9_telling_58 : decode cX9_telling 58 = .ok (.aload_n 0, 1) := by decide +kernel
theorem dX9_telling_59 : decode cX9_telling 59 = .ok (.getfield 232, 3) := by decide +kernel
theorem dX9_telling_62 : decode cX9_telling 62 = .ok (.iload_n 1, 1) := by decide +kernel
theorem dX9_telling_63 : decode cX9_telling 63 = .ok (.iastore, 1) := by decide +kernel
theorem dX9_telling_64 : decode cX9_telling 64 = .ok (.aload_n 0, 1) := by decide +kernel
theorem dX9_telling_65 : decode cX9_telling 65 = .ok (.getfield 83, 3) := by decide +kernel
theorem dX9_telling_68 : decode cX9_telling 68 = .ok (.aload_n 0, 1) := by decide +kernel
theorem dX9_telling_69 : decode cX9_telling 69 = .ok (.getfield 232, 3) := by decide +kernel
theorem dX9_telling_72 : decode cX9_telling 72 = .ok (.iload_n 2, 1) := by decide +kernel
theorem dX9_telling_73 : decode cX9_telling 73 = .ok (.iastore, 1) := by decide +kernel
theorem dX9_telling_74 : decode cX9_telling 74 = .ok (.aload_n 0, 1) := by decide +kernel
theorem dX9_telling_75 : decode cX9_telling 75 = .ok (.getfield 86, 3) := by decide +kernel
theorem dX9_telling_78 : decode cX9_telling 78 = .ok (.aload_n 0, 1) := by decide +kernel
theorem dX9_telling_79 : decode cX9_telling 79 = .ok (.getfield 232, 3) := by decide +kernel
theorem dX9_telling_82 : decode cX9_telling 82 = .ok (.iload_n 3, 1) := by decide +kernel
theorem dX9_telling_83 : decode cX9_telling 83 = .ok (.bastore, 1) := by decide +kernel
theorem dX9_telling_84 : decode cX9_telling 84 = .ok (.aload_n 0, 1) := by decide +kernel
theorem dX9_telling_85 : decode cX9_telling 85 = .ok (.dup, 1) := by decide +kernel
theorem dX9_telling_86 : decode cX9_telling 86 = .ok (.getfield 232, 3) := by decide +kernel
theorem dX9_telling_89 : decode cX9_telling 89 = .ok (.iconst 1, 1) := by decide +kernel
theorem dX9_telling_90 : decode cX9_telling 90 = .ok (.iadd, 1) := by decide +kernel
theorem dX9_telling_91 : decode cX9_telling 91 = .ok (.putfield 232, 3) := by decide +kernel
theorem dX9_telling_94 : decode cX9_telling 94 = .ok (.iconst 1, 1) := by decide +kernel
theorem dX9_telling_95 : decode cX9_telling 95 = .ok (.ireturn, 1) := by decide +kernel
theorem dX9_judged_0 : decode cX9_judged 0 = .ok (.aload_n 0, 1) := by decide +kernel
theorem dX9_judged_1 : decode cX9_judged 1 = .ok (.iconst 0, 1) := by decide +kernel
theorem dX9_judged_2 : decode cX9_judged 2 = .ok (.putfield 95, 3) := by decide +kernel
theorem dX9_judged_5 : decode cX9_judged 5 = .ok (.aload_n 0, 1) := by decide +kernel
theorem dX9_judged_6 : decode cX9_judged 6 = .ok (.iconst 0, 1) := by decide +kernel
theorem dX9_judged_7 : decode cX9_judged 7 = .ok (.putfield 98, 3) := by decide +kernel
theorem dX9_judged_10 : decode cX9_judged 10 = .ok (.iload_n 1, 1) := by decide +kernel
theorem dX9_judged_11 : decode cX9_judged 11 = .ok (.ifCond .lt 9, 3) := by decide +kernel
theorem dX9_judged_14 : decode cX9_judged 14 = .ok (.iload_n 1, 1) := by decide +kernel
theorem dX9_judged_15 : decode cX9_judged 15 = .ok (.bipush 10, 2) := by decide +kernel
theorem dX9_judged_17 : decode cX9_judged 17 = .ok (.if_icmp .lt 9, 3) := by decide +kernel
theorem dX9_judged_20 : decode cX9_judged 20 = .ok (.aload_n 0, 1) := by decide +kernel
theorem dX9_judged_21 : decode cX9_judged 21 = .ok (.iconst 2, 1) := by decide +kernel
theorem dX9_judged_22 : decode cX9_judged 22 = .ok (.invokevirtual 122, 3) := by decide +kernel
theorem dX9_judged_25 : decode cX9_judged 25 = .ok (.ireturn, 1) := by decide +kernel
theorem dX9_judged_26 : decode cX9_judged 26 = .ok (.iload_n 2, 1) := by decide +kernel
theorem dX9_judged_27 : decode cX9_judged 27 = .ok (.ifCond .lt 8, 3) := by decide +kernel
theorem dX9_judged_30 : decode cX9_judged 30 = .ok (.iload_n 2, 1) := by decide +kernel
theorem dX9_judged_31 : decode cX9_judged 31 = .ok (.iconst 1, 1) := by decide +kernel
theorem dX9_judged_32 : decode cX9_judged 32 = .ok (.if_icmp .le 9, 3) := by decide +kernel
theorem dX9_judged_35 : decode cX9_judged 35 = .ok (.aload_n 0, 1) := by decide +kernel
theorem dX9_judged_36 : decode cX9_judged 36 = .ok (.iconst 5, 1) := by decide +kernel
theorem dX9_judged_37 : decode cX9_judged 37 = .ok (.invokevirtual 122, 3) := by decide +kernel
theorem dX9_judged_40 : decode cX9_judged 40 = .ok (.ireturn, 1) := by decide +kernel
theorem dX9_judged_41 : decode cX9_judged 41 = .ok (.iconst 0, 1) := by decide +kernel
theorem dX9_judged_42 : decode cX9_judged 42 = .ok (.istore_n 3, 1) := by decide +kernel
theorem dX9_judged_43 : decode cX9_judged 43 = .ok (.iconst 0, 1) := by decide +kernel
theorem dX9_judged_44 : decode cX9_judged 44 = .ok (.istore 4, 2) := by decide +kernel
theorem dX9_judged_46 : decode cX9_judged 46 = .ok (.iload 4, 2) := by decide +kernel
theorem dX9_judged_48 : decode cX9_judged 48 = .ok (.aload_n 0, 1) := by decide +kernel
theorem dX9_judged_49 : decode cX9_judged 49 = .ok (.getfield 232, 3) := by decide +kernel
theorem dX9_judged_52 : decode cX9_judged 52 = .ok (.if_icmp .ge 52, 3) := by decide +kernel
theorem dX9_judged_55 : decode cX9_judged 55 = .ok (.iload_n 3, 1) := by decide +kernel
theorem dX9_judged_56 : decode cX9_judged 56 = .ok (.aload_n 0, 1) := by decide +kernel
theorem dX9_judged_57 : decode cX9_judged 57 = .ok (.getfield 80, 3) := by decide +kernel
theorem dX9_judged_60 : decode cX9_judged 60 = .ok (.iload 4, 2) := by decide +kernel
theorem dX9_judged_62 : decode cX9_judged 62 = .ok (.iaload, 1) := by decide +kernel
theorem dX9_judged_63 : decode cX9_judged 63 = .ok (.aload_n 0, 1) := by decide +kernel
theorem dX9_judged_64 : decode cX9_judged 64 = .ok (.getfield 83, 3) := by decide +kernel
theorem dX9_judged_67 : decode cX9_judged 67 = .ok (.iload 4, 2) := by decide +kernel
theorem dX9_judged_69 : decode cX9_judged 69 = .ok (.iaload, 1) := by decide +kernel
theorem dX9_judged_70 : decode cX9_judged 70 = .ok (.invokestatic 235, 3) := by decide +kernel
theorem dX9_judged_73 : decode cX9_judged 73 = .ok (.iload_n 1, 1) := by decide +kernel
theorem dX9_judged_74 : decode cX9_judged 74 = .ok (.if_icmp .ne 21, 3) := by decide +kernel
theorem dX9_judged_77 : decode cX9_judged 77 = .ok (.iload_n 2, 1) := by decide +kernel
theorem dX9_judged_78 : decode cX9_judged 78 = .ok (.ifCond .eq 13, 3) := by decide +kernel
theorem dX9_judged_81 : decode cX9_judged 81 = .ok (.aload_n 0, 1) := by decide +kernel
theorem dX9_judged_82 : decode cX9_judged 82 = .ok (.getfield 86, 3) := by decide +kernel
theorem dX9_judged_85 : decode cX9_judged 85 = .ok (.iload 4, 2) := by decide +kernel
theorem dX9_judged_87 : decode cX9_judged 87 = .ok (.baload, 1) := by decide +kernel
theorem dX9_judged_88 : decode cX9_judged 88 = .ok (.ifCond .eq 7, 3) := by decide +kernel
theorem dX9_judged_91 : decode cX9_judged 91 = .ok (.iconst 1, 1) := by decide +kernel
theorem dX9_judged_92 : decode cX9_judged 92 = .ok (.goto 4, 3) := by decide +kernel
theorem dX9_judged_95 : decode cX9_judged 95 = .ok (.iconst 0, 1) := by decide +kernel
theorem dX9_judged_96 : decode cX9_judged 96 = .ok (.iadd, 1) := by decide +kernel
theorem dX9_judged_97 : decode cX9_judged 97 = .ok (.istore_n 3, 1) := by decide +kernel
theorem dX9_judged_98 : decode cX9_judged 98 = .ok (.iinc 4 1, 3) := by decide +kernel
theorem dX9_judged_101 : decode cX9_judged 101 = .ok (.goto (-55), 3) := by decide +kernel
theorem dX9_judged_104 : decode cX9_judged 104 = .ok (.iload_n 3, 1) := by decide +kernel
theorem dX9_judged_105 : decode cX9_judged 105 = .ok (.ireturn, 1) := by decide +kernel
theorem dX9_said_0 : decode cX9_said 0 = .ok (.aload_n 0, 1) := by decide +kernel
theorem dX9_said_1 : decode cX9_said 1 = .ok (.iconst 0, 1) := by decide +kernel
theorem dX9_said_2 : decode cX9_said 2 = .ok (.putfield 95, 3) := by decide +kernel
theorem dX9_said_5 : decode cX9_said 5 = .ok (.aload_n 0, 1) := by decide +kernel
theorem dX9_said_6 : decode cX9_said 6 = .ok (.iconst 0, 1) := by decide +kernel
theorem dX9_said_7 : decode cX9_said 7 = .ok (.putfield 98, 3) := by decide +kernel
theorem dX9_said_10 : decode cX9_said 10 = .ok (.iload_n 1, 1) := by decide +kernel
theorem dX9_said_11 : decode cX9_said 11 = .ok (.ifCond .lt 9, 3) := by decide +kernel
theorem dX9_said_14 : decode cX9_said 14 = .ok (.iload_n 1, 1) := by decide +kernel
theorem dX9_said_15 : decode cX9_said 15 = .ok (.bipush 10, 2) := by decide +kernel
theorem dX9_said_17 : decode cX9_said 17 = .ok (.if_icmp .lt 9, 3) := by decide +kernel
theorem dX9_said_20 : decode cX9_said 20 = .ok (.aload_n 0, 1) := by decide +kernel
theorem dX9_said_21 : decode cX9_said 21 = .ok (.iconst 2, 1) := by decide +kernel
theorem dX9_said_22 : decode cX9_said 22 = .ok (.invokevirtual 101, 3) := by decide +kernel
theorem dX9_said_25 : decode cX9_said 25 = .ok (.ireturn, 1) := by decide +kernel
theorem dX9_said_26 : decode cX9_said 26 = .ok (.lconst 0, 1) := by decide +kernel
theorem dX9_said_27 : decode cX9_said 27 = .ok (.lstore_n 2, 1) := by decide +kernel
theorem dX9_said_28 : decode cX9_said 28 = .ok (.lconst 1, 1) := by decide +kernel
theorem dX9_said_29 : decode cX9_said 29 = .ok (.lstore 4, 2) := by decide +kernel
theorem dX9_said_31 : decode cX9_said 31 = .ok (.iconst 0, 1) := by decide +kernel
theorem dX9_said_32 : decode cX9_said 32 = .ok (.istore 6, 2) := by decide +kernel
theorem dX9_said_34 : decode cX9_said 34 = .ok (.iconst 0, 1) := by decide +kernel
theorem dX9_said_35 : decode cX9_said 35 = .ok (.istore 7, 2) := by decide +kernel
theorem dX9_said_37 : decode cX9_said 37 = .ok (.iload 7, 2) := by decide +kernel
theorem dX9_said_39 : decode cX9_said 39 = .ok (.aload_n 0, 1) := by decide +kernel
theorem dX9_said_40 : decode cX9_said 40 = .ok (.getfield 232, 3) := by decide +kernel
theorem dX9_said_43 : decode cX9_said 43 = .ok (.if_icmp .ge 119, 3) := by decide +kernel
theorem dX9_said_46 : decode cX9_said 46 = .ok (.aload_n 0, 1) := by decide +kernel
theorem dX9_said_47 : decode cX9_said 47 = .ok (.getfield 80, 3) := by decide +kernel
theorem dX9_said_50 : decode cX9_said 50 = .ok (.iload 7, 2) := by decide +kernel
theorem dX9_said_52 : decode cX9_said 52 = .ok (.iaload, 1) := by decide +kernel
theorem dX9_said_53 : decode cX9_said 53 = .ok (.aload_n 0, 1) := by decide +kernel
theorem dX9_said_54 : decode cX9_said 54 = .ok (.getfield 83, 3) := by decide +kernel
theorem dX9_said_57 : decode cX9_said 57 = .ok (.iload 7, 2) := by decide +kernel
theorem dX9_said_59 : decode cX9_said 59 = .ok (.iaload, 1) := by decide +kernel
theorem dX9_said_60 : decode cX9_said 60 = .ok (.invokestatic 235, 3) := by decide +kernel
theorem dX9_said_63 : decode cX9_said 63 = .ok (.iload_n 1, 1) := by decide +kernel
theorem dX9_said_64 : decode cX9_said 64 = .ok (.if_icmp .eq 6, 3) := by decide +kernel
theorem dX9_said_67 : decode cX9_said 67 = .ok (.goto 89, 3) := by decide +kernel
theorem dX9_said_70 : decode cX9_said 70 = .ok (.lload_n 2, 1) := by decide +kernel
theorem dX9_said_71 : decode cX9_said 71 = .ok (.aload_n 0, 1) := by decide +kernel
theorem dX9_said_72 : decode cX9_said 72 = .ok (.getfield 83, 3) := by decide +kernel
theorem dX9_said_75 : decode cX9_said 75 = .ok (.iload 7, 2) := by decide +kernel
theorem dX9_said_77 : decode cX9_said 77 = .ok (.iaload, 1) := by decide +kernel
theorem dX9_said_78 : decode cX9_said 78 = .ok (.i2l, 1) := by decide +kernel
theorem dX9_said_79 : decode cX9_said 79 = .ok (.lmul, 1) := by decide +kernel
theorem dX9_said_80 : decode cX9_said 80 = .ok (.aload_n 0, 1) := by decide +kernel
theorem dX9_said_81 : decode cX9_said 81 = .ok (.getfield 80, 3) := by decide +kernel
theorem dX9_said_84 : decode cX9_said 84 = .ok (.iload 7, 2) := by decide +kernel
theorem dX9_said_86 : decode cX9_said 86 = .ok (.iaload, 1) := by decide +kernel
theorem dX9_said_87 : decode cX9_said 87 = .ok (.i2l, 1) := by decide +kernel
theorem dX9_said_88 : decode cX9_said 88 = .ok (.lload 4, 2) := by decide +kernel
theorem dX9_said_90 : decode cX9_said 90 = .ok (.lmul, 1) := by decide +kernel
theorem dX9_said_91 : decode cX9_said 91 = .ok (.ladd, 1) := by decide +kernel
theorem dX9_said_92 : decode cX9_said 92 = .ok (.lstore 8, 2) := by decide +kernel
theorem dX9_said_94 : decode cX9_said 94 = .ok (.lload 4, 2) := by decide +kernel
theorem dX9_said_96 : decode cX9_said 96 = .ok (.aload_n 0, 1) := by decide +kernel
theorem dX9_said_97 : decode cX9_said 97 = .ok (.getfield 83, 3) := by decide +kernel
theorem dX9_said_100 : decode cX9_said 100 = .ok (.iload 7, 2) := by decide +kernel
theorem dX9_said_102 : decode cX9_said 102 = .ok (.iaload, 1) := by decide +kernel
theorem dX9_said_103 : decode cX9_said 103 = .ok (.i2l, 1) := by decide +kernel
theorem dX9_said_104 : decode cX9_said 104 = .ok (.lmul, 1) := by decide +kernel
theorem dX9_said_105 : decode cX9_said 105 = .ok (.lstore 10, 2) := by decide +kernel
theorem dX9_said_107 : decode cX9_said 107 = .ok (.lload 8, 2) := by decide +kernel
theorem dX9_said_109 : decode cX9_said 109 = .ok (.lload 10, 2) := by decide +kernel
theorem dX9_said_111 : decode cX9_said 111 = .ok (.invokestatic 125, 3) := by decide +kernel
theorem dX9_said_114 : decode cX9_said 114 = .ok (.lstore 12, 2) := by decide +kernel
theorem dX9_said_116 : decode cX9_said 116 = .ok (.lload 8, 2) := by decide +kernel
theorem dX9_said_118 : decode cX9_said 118 = .ok (.lload 12, 2) := by decide +kernel
theorem dX9_said_120 : decode cX9_said 120 = .ok (.ldiv, 1) := by decide +kernel
theorem dX9_said_121 : decode cX9_said 121 = .ok (.lstore_n 2, 1) := by decide +kernel
theorem dX9_said_122 : decode cX9_said 122 = .ok (.lload 10, 2) := by decide +kernel
theorem dX9_said_124 : decode cX9_said 124 = .ok (.lload 12, 2) := by decide +kernel
theorem dX9_said_126 : decode cX9_said 126 = .ok (.ldiv, 1) := by decide +kernel
theorem dX9_said_127 : decode cX9_said 127 = .ok (.lstore 4, 2) := by decide +kernel
theorem dX9_said_129 : decode cX9_said 129 = .ok (.iinc 6 1, 3) := by decide +kernel
theorem dX9_said_132 : decode cX9_said 132 = .ok (.lload_n 2, 1) := by decide +kernel
theorem dX9_said_133 : decode cX9_said 133 = .ok (.ldc2_w 238, 3) := by decide +kernel
theorem dX9_said_136 : decode cX9_said 136 = .ok (.lcmp, 1) := by decide +kernel
theorem dX9_said_137 : decode cX9_said 137 = .ok (.ifCond .gt 12, 3) := by decide +kernel
theorem dX9_said_140 : decode cX9_said 140 = .ok (.lload 4, 2) := by decide +kernel
theorem dX9_said_142 : decode cX9_said 142 = .ok (.ldc2_w 238, 3) := by decide +kernel
theorem dX9_said_145 : decode cX9_said 145 = .ok (.lcmp, 1) := by decide +kernel
theorem dX9_said_146 : decode cX9_said 146 = .ok (.ifCond .le 10, 3) := by decide +kernel
theorem dX9_said_149 : decode cX9_said 149 = .ok (.aload_n 0, 1) := by decide +kernel
theorem dX9_said_150 : decode cX9_said 150 = .ok (.bipush 9, 2) := by decide +kernel
theorem dX9_said_152 : decode cX9_said 152 = .ok (.invokevirtual 101, 3) := by decide +kernel
theorem dX9_said_155 : decode cX9_said 155 = .ok (.ireturn, 1) := by decide +kernel
theorem dX9_said_156 : decode cX9_said 156 = .ok (.iinc 7 1, 3) := by decide +kernel
theorem dX9_said_159 : decode cX9_said 159 = .ok (.goto (-122), 3) := by decide +kernel
theorem dX9_said_162 : decode cX9_said 162 = .ok (.iload 6, 2) := by decide +kernel
theorem dX9_said_164 : decode cX9_said 164 = .ok (.ifCond .ne 9, 3) := by decide +kernel
theorem dX9_said_167 : decode cX9_said 167 = .ok (.aload_n 0, 1) := by decide +kernel
theorem dX9_said_168 : decode cX9_said 168 = .ok (.iconst 5, 1) := by decide +kernel
theorem dX9_said_169 : decode cX9_said 169 = .ok (.invokevirtual 101, 3) := by decide +kernel
theorem dX9_said_172 : decode cX9_said 172 = .ok (.ireturn, 1) := by decide +kernel
theorem dX9_said_173 : decode cX9_said 173 = .ok (.aload_n 0, 1) := by decide +kernel
theorem dX9_said_174 : decode cX9_said 174 = .ok (.lload_n 2, 1) := by decide +kernel
theorem dX9_said_175 : decode cX9_said 175 = .ok (.lload 4, 2) := by decide +kernel
theorem dX9_said_177 : decode cX9_said 177 = .ok (.iload 6, 2) := by decide +kernel
theorem dX9_said_179 : decode cX9_said 179 = .ok (.i2l, 1) := by decide +kernel
theorem dX9_said_180 : decode cX9_said 180 = .ok (.lmul, 1) := by decide +kernel
theorem dX9_said_181 : decode cX9_said 181 = .ok (.invokevirtual 200, 3) := by decide +kernel
theorem dX9_said_184 : decode cX9_said 184 = .ok (.pop, 1) := by decide +kernel
theorem dX9_said_185 : decode cX9_said 185 = .ok (.iconst 1, 1) := by decide +kernel
theorem dX9_said_186 : decode cX9_said 186 = .ok (.ireturn, 1) := by decide +kernel
