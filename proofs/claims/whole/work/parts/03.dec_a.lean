theorem dX0_init_0 : decode cX0_init 0 = .ok (.aload_n 0, 1) := by decide +kernel
theorem dX0_init_1 : decode cX0_init 1 = .ok (.invokespecial 1, 3) := by decide +kernel
theorem dX0_init_4 : decode cX0_init 4 = .ok (.aload_n 0, 1) := by decide +kernel
theorem dX0_init_5 : decode cX0_init 5 = .ok (.lconst 0, 1) := by decide +kernel
theorem dX0_init_6 : decode cX0_init 6 = .ok (.putfield 7, 3) := by decide +kernel
theorem dX0_init_9 : decode cX0_init 9 = .ok (.aload_n 0, 1) := by decide +kernel
theorem dX0_init_10 : decode cX0_init 10 = .ok (.lconst 1, 1) := by decide +kernel
theorem dX0_init_11 : decode cX0_init 11 = .ok (.putfield 13, 3) := by decide +kernel
theorem dX0_init_14 : decode cX0_init 14 = .ok (.return_, 1) := by decide +kernel
theorem dX0_become_0 : decode cX0_become 0 = .ok (.lload_n 1, 1) := by decide +kernel
theorem dX0_become_1 : decode cX0_become 1 = .ok (.lload_n 3, 1) := by decide +kernel
theorem dX0_become_2 : decode cX0_become 2 = .ok (.invokestatic 16, 3) := by decide +kernel
theorem dX0_become_5 : decode cX0_become 5 = .ok (.lstore 5, 2) := by decide +kernel
theorem dX0_become_7 : decode cX0_become 7 = .ok (.lload 5, 2) := by decide +kernel
theorem dX0_become_9 : decode cX0_become 9 = .ok (.lconst 0, 1) := by decide +kernel
theorem dX0_become_10 : decode cX0_become 10 = .ok (.lcmp, 1) := by decide +kernel
theorem dX0_become_11 : decode cX0_become 11 = .ok (.ifCond .le 19, 3) := by decide +kernel
theorem dX0_become_14 : decode cX0_become 14 = .ok (.aload_n 0, 1) := by decide +kernel
theorem dX0_become_15 : decode cX0_become 15 = .ok (.lload_n 1, 1) := by decide +kernel
theorem dX0_become_16 : decode cX0_become 16 = .ok (.lload 5, 2) := by decide +kernel
theorem dX0_become_18 : decode cX0_become 18 = .ok (.ldiv, 1) := by decide +kernel
theorem dX0_become_19 : decode cX0_become 19 = .ok (.putfield 7, 3) := by decide +kernel
theorem dX0_become_22 : decode cX0_become 22 = .ok (.aload_n 0, 1) := by decide +kernel
theorem dX0_become_23 : decode cX0_become 23 = .ok (.lload_n 3, 1) := by decide +kernel
theorem dX0_become_24 : decode cX0_become 24 = .ok (.lload 5, 2) := by decide +kernel
theorem dX0_become_26 : decode cX0_become 26 = .ok (.ldiv, 1) := by decide +kernel
theorem dX0_become_27 : decode cX0_become 27 = .ok (.putfield 13, 3) := by decide +kernel
theorem dX0_become_30 : decode cX0_become 30 = .ok (.return_, 1) := by decide +kernel
theorem dX0_add_0 : decode cX0_add 0 = .ok (.aload_n 0, 1) := by decide +kernel
theorem dX0_add_1 : decode cX0_add 1 = .ok (.aload_n 0, 1) := by decide +kernel
theorem dX0_add_2 : decode cX0_add 2 = .ok (.getfield 7, 3) := by decide +kernel
theorem dX0_add_5 : decode cX0_add 5 = .ok (.lload_n 3, 1) := by decide +kernel
theorem dX0_add_6 : decode cX0_add 6 = .ok (.lmul, 1) := by decide +kernel
theorem dX0_add_7 : decode cX0_add 7 = .ok (.lload_n 1, 1) := by decide +kernel
theorem dX0_add_8 : decode cX0_add 8 = .ok (.aload_n 0, 1) := by decide +kernel
theorem dX0_add_9 : decode cX0_add 9 = .ok (.getfield 13, 3) := by decide +kernel
theorem dX0_add_12 : decode cX0_add 12 = .ok (.lmul, 1) := by decide +kernel
theorem dX0_add_13 : decode cX0_add 13 = .ok (.ladd, 1) := by decide +kernel
theorem dX0_add_14 : decode cX0_add 14 = .ok (.aload_n 0, 1) := by decide +kernel
theorem dX0_add_15 : decode cX0_add 15 = .ok (.getfield 13, 3) := by decide +kernel
theorem dX0_add_18 : decode cX0_add 18 = .ok (.lload_n 3, 1) := by decide +kernel
theorem dX0_add_19 : decode cX0_add 19 = .ok (.lmul, 1) := by decide +kernel
theorem dX0_add_20 : decode cX0_add 20 = .ok (.invokevirtual 22, 3) := by decide +kernel
theorem dX0_add_23 : decode cX0_add 23 = .ok (.return_, 1) := by decide +kernel
theorem dX0_isLessThan_0 : decode cX0_isLessThan 0 = .ok (.aload_n 0, 1) := by decide +kernel
theorem dX0_isLessThan_1 : decode cX0_isLessThan 1 = .ok (.getfield 13, 3) := by decide +kernel
theorem dX0_isLessThan_4 : decode cX0_isLessThan 4 = .ok (.lconst 1, 1) := by decide +kernel
theorem dX0_isLessThan_5 : decode cX0_isLessThan 5 = .ok (.lcmp, 1) := by decide +kernel
theorem dX0_isLessThan_6 : decode cX0_isLessThan 6 = .ok (.ifCond .lt 12, 3) := by decide +kernel
theorem dX0_isLessThan_9 : decode cX0_isLessThan 9 = .ok (.aload_n 1, 1) := by decide +kernel
theorem dX0_isLessThan_10 : decode cX0_isLessThan 10 = .ok (.getfield 13, 3) := by decide +kernel
theorem dX0_isLessThan_13 : decode cX0_isLessThan 13 = .ok (.lconst 1, 1) := by decide +kernel
theorem dX0_isLessThan_14 : decode cX0_isLessThan 14 = .ok (.lcmp, 1) := by decide +kernel
theorem dX0_isLessThan_15 : decode cX0_isLessThan 15 = .ok (.ifCond .ge 5, 3) := by decide +kernel
theorem dX0_isLessThan_18 : decode cX0_isLessThan 18 = .ok (.iconst 0, 1) := by decide +kernel
theorem dX0_isLessThan_19 : decode cX0_isLessThan 19 = .ok (.ireturn, 1) := by decide +kernel
theorem dX0_isLessThan_20 : decode cX0_isLessThan 20 = .ok (.aload_n 0, 1) := by decide +kernel
theorem dX0_isLessThan_21 : decode cX0_isLessThan 21 = .ok (.getfield 7, 3) := by decide +kernel
theorem dX0_isLessThan_24 : decode cX0_isLessThan 24 = .ok (.aload_n 0, 1) := by decide +kernel
theorem dX0_isLessThan_25 : decode cX0_isLessThan 25 = .ok (.getfield 13, 3) := by decide +kernel
theorem dX0_isLessThan_28 : decode cX0_isLessThan 28 = .ok (.ldiv, 1) := by decide +kernel
theorem dX0_isLessThan_29 : decode cX0_isLessThan 29 = .ok (.lstore_n 2, 1) := by decide +kernel
theorem dX0_isLessThan_30 : decode cX0_isLessThan 30 = .ok (.aload_n 1, 1) := by decide +kernel
theorem dX0_isLessThan_31 : decode cX0_isLessThan 31 = .ok (.getfield 7, 3) := by decide +kernel
theorem dX0_isLessThan_34 : decode cX0_isLessThan 34 = .ok (.aload_n 1, 1) := by decide +kernel
theorem dX0_isLessThan_35 : decode cX0_isLessThan 35 = .ok (.getfield 13, 3) := by decide +kernel
theorem dX0_isLessThan_38 : decode cX0_isLessThan 38 = .ok (.ldiv, 1) := by decide +kernel
theorem dX0_isLessThan_39 : decode cX0_isLessThan 39 = .ok (.lstore 4, 2) := by decide +kernel
theorem dX0_isLessThan_41 : decode cX0_isLessThan 41 = .ok (.lload_n 2, 1) := by decide +kernel
theorem dX0_isLessThan_42 : decode cX0_isLessThan 42 = .ok (.lload 4, 2) := by decide +kernel
theorem dX0_isLessThan_44 : decode cX0_isLessThan 44 = .ok (.lcmp, 1) := by decide +kernel
theorem dX0_isLessThan_45 : decode cX0_isLessThan 45 = .ok (.ifCond .eq 16, 3) := by decide +kernel
theorem dX0_isLessThan_48 : decode cX0_isLessThan 48 = .ok (.lload_n 2, 1) := by decide +kernel
theorem dX0_isLessThan_49 : decode cX0_isLessThan 49 = .ok (.lload 4, 2) := by decide +kernel
theorem dX0_isLessThan_51 : decode cX0_isLessThan 51 = .ok (.lcmp, 1) := by decide +kernel
theorem dX0_isLessThan_52 : decode cX0_isLessThan 52 = .ok (.ifCond .ge 7, 3) := by decide +kernel
theorem dX0_isLessThan_55 : decode cX0_isLessThan 55 = .ok (.iconst 1, 1) := by decide +kernel
theorem dX0_isLessThan_56 : decode cX0_isLessThan 56 = .ok (.goto 4, 3) := by decide +kernel
theorem dX0_isLessThan_59 : decode cX0_isLessThan 59 = .ok (.iconst 0, 1) := by decide +kernel
theorem dX0_isLessThan_60 : decode cX0_isLessThan 60 = .ok (.ireturn, 1) := by decide +kernel
theorem dX0_isLessThan_61 : decode cX0_isLessThan 61 = .ok (.aload_n 0, 1) := by decide +kernel
theorem dX0_isLessThan_62 : decode cX0_isLessThan 62 = .ok (.getfield 7, 3) := by decide +kernel
theorem dX0_isLessThan_65 : decode cX0_isLessThan 65 = .ok (.aload_n 0, 1) := by decide +kernel
theorem dX0_isLessThan_66 : decode cX0_isLessThan 66 = .ok (.getfield 13, 3) := by decide +kernel
theorem dX0_isLessThan_69 : decode cX0_isLessThan 69 = .ok (.lrem, 1) := by decide +kernel
theorem dX0_isLessThan_70 : decode cX0_isLessThan 70 = .ok (.aload_n 1, 1) := by decide +kernel
theorem dX0_isLessThan_71 : decode cX0_isLessThan 71 = .ok (.getfield 13, 3) := by decide +kernel
theorem dX0_isLessThan_74 : decode cX0_isLessThan 74 = .ok (.lmul, 1) := by decide +kernel
theorem dX0_isLessThan_75 : decode cX0_isLessThan 75 = .ok (.aload_n 1, 1) := by decide +kernel
theorem dX0_isLessThan_76 : decode cX0_isLessThan 76 = .ok (.getfield 7, 3) := by decide +kernel
theorem dX0_isLessThan_79 : decode cX0_isLessThan 79 = .ok (.aload_n 1, 1) := by decide +kernel
theorem dX0_isLessThan_80 : decode cX0_isLessThan 80 = .ok (.getfield 13, 3) := by decide +kernel
theorem dX0_isLessThan_83 : decode cX0_isLessThan 83 = .ok (.lrem, 1) := by decide +kernel
theorem dX0_isLessThan_84 : decode cX0_isLessThan 84 = .ok (.aload_n 0, 1) := by decide +kernel
theorem dX0_isLessThan_85 : decode cX0_isLessThan 85 = .ok (.getfield 13, 3) := by decide +kernel
theorem dX0_isLessThan_88 : decode cX0_isLessThan 88 = .ok (.lmul, 1) := by decide +kernel
theorem dX0_isLessThan_89 : decode cX0_isLessThan 89 = .ok (.lcmp, 1) := by decide +kernel
theorem dX0_isLessThan_90 : decode cX0_isLessThan 90 = .ok (.ifCond .ge 7, 3) := by decide +kernel
theorem dX0_isLessThan_93 : decode cX0_isLessThan 93 = .ok (.iconst 1, 1) := by decide +kernel
theorem dX0_isLessThan_94 : decode cX0_isLessThan 94 = .ok (.goto 4, 3) := by decide +kernel
theorem dX0_isLessThan_97 : decode cX0_isLessThan 97 = .ok (.iconst 0, 1) := by decide +kernel
theorem dX0_isLessThan_98 : decode cX0_isLessThan 98 = .ok (.ireturn, 1) := by decide +kernel
theorem dX1_init_0 : decode cX1_init 0 = .ok (.aload_n 0, 1) := by decide +kernel
theorem dX1_init_1 : decode cX1_init 1 = .ok (.invokespecial 3, 3) := by decide +kernel
theorem dX1_init_4 : decode cX1_init 4 = .ok (.aload_n 0, 1) := by decide +kernel
theorem dX1_init_5 : decode cX1_init 5 = .ok (.bipush 8, 2) := by decide +kernel
theorem dX1_init_7 : decode cX1_init 7 = .ok (.newarray .int, 2) := by decide +kernel
theorem dX1_init_9 : decode cX1_init 9 = .ok (.putfield 9, 3) := by decide +kernel
theorem dX1_init_12 : decode cX1_init 12 = .ok (.aload_n 0, 1) := by decide +kernel
theorem dX1_init_13 : decode cX1_init 13 = .ok (.bipush 8, 2) := by decide +kernel
theorem dX1_init_15 : decode cX1_init 15 = .ok (.newarray .int, 2) := by decide +kernel
theorem dX1_init_17 : decode cX1_init 17 = .ok (.putfield 15, 3) := by decide +kernel
theorem dX1_init_20 : decode cX1_init 20 = .ok (.aload_n 0, 1) := by decide +kernel
theorem dX1_init_21 : decode cX1_init 21 = .ok (.iconst 4, 1) := by decide +kernel
theorem dX1_init_22 : decode cX1_init 22 = .ok (.newarray .int, 2) := by decide +kernel
theorem dX1_init_24 : decode cX1_init 24 = .ok (.putfield 18, 3) := by decide +kernel
theorem dX1_init_27 : decode cX1_init 27 = .ok (.aload_n 0, 1) := by decide +kernel
theorem dX1_init_28 : decode cX1_init 28 = .ok (.iconst 0, 1) := by decide +kernel
theorem dX1_init_29 : decode cX1_init 29 = .ok (.putfield 21, 3) := by decide +kernel
theorem dX1_init_32 : decode cX1_init 32 = .ok (.aload_n 0, 1) := by decide +kernel
theorem dX1_init_33 : decode cX1_init 33 = .ok (.iconst 0, 1) := by decide +kernel
theorem dX1_init_34 : decode cX1_init 34 = .ok (.putfield 25, 3) := by decide +kernel
theorem dX1_init_37 : decode cX1_init 37 = .ok (.aload_n 0, 1) := by decide +kernel
theorem dX1_init_38 : decode cX1_init 38 = .ok (.iconst 0, 1) := by decide +kernel
theorem dX1_init_39 : decode cX1_init 39 = .ok (.putfield 28, 3) := by decide +kernel
theorem dX1_init_42 : decode cX1_init 42 = .ok (.aload_n 0, 1) := by decide +kernel
theorem dX1_init_43 : decode cX1_init 43 = .ok (.iconst 0, 1) := by decide +kernel
theorem dX1_init_44 : decode cX1_init 44 = .ok (.putfield 31, 3) := by decide +kernel
theorem dX1_init_47 : decode cX1_init 47 = .ok (.aload_n 0, 1) := by decide +kernel
theorem dX1_init_48 : decode cX1_init 48 = .ok (.iconst (-1), 1) := by decide +kernel
theorem dX1_init_49 : decode cX1_init 49 = .ok (.putfield 34, 3) := by decide +kernel
theorem dX1_init_52 : decode cX1_init 52 = .ok (.return_, 1) := by decide +kernel
theorem dX1_become_0 : decode cX1_become 0 = .ok (.aload_n 0, 1) := by decide +kernel
theorem dX1_become_1 : decode cX1_become 1 = .ok (.iconst 0, 1) := by decide +kernel
theorem dX1_become_2 : decode cX1_become 2 = .ok (.putfield 21, 3) := by decide +kernel
theorem dX1_become_5 : decode cX1_become 5 = .ok (.aload_n 0, 1) := by decide +kernel
theorem dX1_become_6 : decode cX1_become 6 = .ok (.iconst 0, 1) := by decide +kernel
theorem dX1_become_7 : decode cX1_become 7 = .ok (.putfield 25, 3) := by decide +kernel
theorem dX1_become_10 : decode cX1_become 10 = .ok (.aload_n 0, 1) := by decide +kernel
theorem dX1_become_11 : decode cX1_become 11 = .ok (.iload_n 2, 1) := by decide +kernel
theorem dX1_become_12 : decode cX1_become 12 = .ok (.putfield 28, 3) := by decide +kernel
theorem dX1_become_15 : decode cX1_become 15 = .ok (.aload_n 0, 1) := by decide +kernel
theorem dX1_become_16 : decode cX1_become 16 = .ok (.iconst 0, 1) := by decide +kernel
theorem dX1_become_17 : decode cX1_become 17 = .ok (.putfield 31, 3) := by decide +kernel
theorem dX1_become_20 : decode cX1_become 20 = .ok (.aload_n 0, 1) := by decide +kernel
theorem dX1_become_21 : decode cX1_become 21 = .ok (.iconst (-1), 1) := by decide +kernel
theorem dX1_become_22 : decode cX1_become 22 = .ok (.putfield 34, 3) := by decide +kernel
theorem dX1_become_25 : decode cX1_become 25 = .ok (.aload_n 0, 1) := by decide +kernel
theorem dX1_become_26 : decode cX1_become 26 = .ok (.getfield 18, 3) := by decide +kernel
theorem dX1_become_29 : decode cX1_become 29 = .ok (.iconst 0, 1) := by decide +kernel
theorem dX1_become_30 : decode cX1_become 30 = .ok (.invokestatic 37, 3) := by decide +kernel
theorem dX1_become_33 : decode cX1_become 33 = .ok (.iconst 0, 1) := by decide +kernel
theorem dX1_become_34 : decode cX1_become 34 = .ok (.istore_n 3, 1) := by decide +kernel
theorem dX1_become_35 : decode cX1_become 35 = .ok (.iload_n 3, 1) := by decide +kernel
theorem dX1_become_36 : decode cX1_become 36 = .ok (.bipush 99, 2) := by decide +kernel
theorem dX1_become_38 : decode cX1_become 38 = .ok (.if_icmp .gt 83, 3) := by decide +kernel
theorem dX1_become_41 : decode cX1_become 41 = .ok (.aload_n 0, 1) := by decide +kernel
theorem dX1_become_42 : decode cX1_become 42 = .ok (.getfield 21, 3) := by decide +kernel
theorem dX1_become_45 : decode cX1_become 45 = .ok (.bipush 8, 2) := by decide +kernel
theorem dX1_become_47 : decode cX1_become 47 = .ok (.if_icmp .ge 74, 3) := by decide +kernel
theorem dX1_become_50 : decode cX1_become 50 = .ok (.aload_n 1, 1) := by decide +kernel
theorem dX1_become_51 : decode cX1_become 51 = .ok (.getfield 43, 3) := by decide +kernel
theorem dX1_become_54 : decode cX1_become 54 = .ok (.iload_n 3, 1) := by decide +kernel
theorem dX1_become_55 : decode cX1_become 55 = .ok (.laload, 1) := by decide +kernel
theorem dX1_become_56 : decode cX1_become 56 = .ok (.lconst 0, 1) := by decide +kernel
theorem dX1_become_57 : decode cX1_become 57 = .ok (.lcmp, 1) := by decide +kernel
theorem dX1_become_58 : decode cX1_become 58 = .ok (.ifCond .eq 57, 3) := by decide +kernel
theorem dX1_become_61 : decode cX1_become 61 = .ok (.aload_n 0, 1) := by decide +kernel
theorem dX1_become_62 : decode cX1_become 62 = .ok (.getfield 9, 3) := by decide +kernel
theorem dX1_become_65 : decode cX1_become 65 = .ok (.aload_n 0, 1) := by decide +kernel
theorem dX1_become_66 : decode cX1_become 66 = .ok (.getfield 21, 3) := by decide +kernel
theorem dX1_become_69 : decode cX1_become 69 = .ok (.iload_n 3, 1) := by decide +kernel
theorem dX1_become_70 : decode cX1_become 70 = .ok (.iastore, 1) := by decide +kernel
theorem dX1_become_71 : decode cX1_become 71 = .ok (.aload_n 0, 1) := by decide +kernel
theorem dX1_become_72 : decode cX1_become 72 = .ok (.getfield 15, 3) := by decide +kernel
theorem dX1_become_75 : decode cX1_become 75 = .ok (.aload_n 0, 1) := by decide +kernel
theorem dX1_become_76 : decode cX1_become 76 = .ok (.getfield 21, 3) := by decide +kernel
theorem dX1_become_79 : decode cX1_become 79 = .ok (.aload_n 1, 1) := by decide +kernel
theorem dX1_become_80 : decode cX1_become 80 = .ok (.getfield 43, 3) := by decide +kernel
theorem dX1_become_83 : decode cX1_become 83 = .ok (.iload_n 3, 1) := by decide +kernel
theorem dX1_become_84 : decode cX1_become 84 = .ok (.laload, 1) := by decide +kernel
theorem dX1_become_85 : decode cX1_become 85 = .ok (.l2i, 1) := by decide +kernel
theorem dX1_become_86 : decode cX1_become 86 = .ok (.iastore, 1) := by decide +kernel
theorem dX1_become_87 : decode cX1_become 87 = .ok (.aload_n 0, 1) := by decide +kernel
theorem dX1_become_88 : decode cX1_become 88 = .ok (.dup, 1) := by decide +kernel
theorem dX1_become_89 : decode cX1_become 89 = .ok (.getfield 25, 3) := by decide +kernel
theorem dX1_become_92 : decode cX1_become 92 = .ok (.aload_n 0, 1) := by decide +kernel
theorem dX1_become_93 : decode cX1_become 93 = .ok (.getfield 15, 3) := by decide +kernel
theorem dX1_become_96 : decode cX1_become 96 = .ok (.aload_n 0, 1) := by decide +kernel
theorem dX1_become_97 : decode cX1_become 97 = .ok (.getfield 21, 3) := by decide +kernel
theorem dX1_become_100 : decode cX1_become 100 = .ok (.iaload, 1) := by decide +kernel
theorem dX1_become_101 : decode cX1_become 101 = .ok (.iadd, 1) := by decide +kernel
theorem dX1_become_102 : decode cX1_become 102 = .ok (.putfield 25, 3) := by decide +kernel
theorem dX1_become_105 : decode cX1_become 105 = .ok (.aload_n 0, 1) := by decide +kernel
theorem dX1_become_106 : decode cX1_become 106 = .ok (.dup, 1) := by decide +kernel
theorem dX1_become_107 : decode cX1_become 107 = .ok (.getfield 21, 3) := by decide +kernel
theorem dX1_become_110 : decode cX1_become 110 = .ok (.iconst 1, 1) := by decide +kernel
theorem dX1_become_111 : decode cX1_become 111 = .ok (.iadd, 1) := by decide +kernel
theorem dX1_become_112 : decode cX1_become 112 = .ok (.putfield 21, 3) := by decide +kernel
theorem dX1_become_115 : decode cX1_become 115 = .ok (.iinc 3 1, 3) := by decide +kernel
theorem dX1_become_118 : decode cX1_become 118 = .ok (.goto (-83), 3) := by decide +kernel
theorem dX1_become_121 : decode cX1_become 121 = .ok (.return_, 1) := by decide +kernel
theorem dX1_setNeed_0 : decode cX1_setNeed 0 = .ok (.iload_n 2, 1) := by decide +kernel
theorem dX1_setNeed_1 : decode cX1_setNeed 1 = .ok (.ifCond .eq 18, 3) := by decide +kernel
theorem dX1_setNeed_4 : decode cX1_setNeed 4 = .ok (.aload_n 0, 1) := by decide +kernel
theorem dX1_setNeed_5 : decode cX1_setNeed 5 = .ok (.dup, 1) := by decide +kernel
theorem dX1_setNeed_6 : decode cX1_setNeed 6 = .ok (.getfield 31, 3) := by decide +kernel
theorem dX1_setNeed_9 : decode cX1_setNeed 9 = .ok (.iconst 1, 1) := by decide +kernel
theorem dX1_setNeed_10 : decode cX1_setNeed 10 = .ok (.iload_n 1, 1) := by decide +kernel
theorem dX1_setNeed_11 : decode cX1_setNeed 11 = .ok (.ishl, 1) := by decide +kernel
theorem dX1_setNeed_12 : decode cX1_setNeed 12 = .ok (.ior, 1) := by decide +kernel
theorem dX1_setNeed_13 : decode cX1_setNeed 13 = .ok (.putfield 31, 3) := by decide +kernel
theorem dX1_setNeed_16 : decode cX1_setNeed 16 = .ok (.goto 17, 3) := by decide +kernel
theorem dX1_setNeed_19 : decode cX1_setNeed 19 = .ok (.aload_n 0, 1) := by decide +kernel
theorem dX1_setNeed_20 : decode cX1_setNeed 20 = .ok (.dup, 1) := by decide +kernel
theorem dX1_setNeed_21 : decode cX1_setNeed 21 = .ok (.getfield 31, 3) := by decide +kernel
theorem dX1_setNeed_24 : decode cX1_setNeed 24 = .ok (.iconst 1, 1) := by decide +kernel
theorem dX1_setNeed_25 : decode cX1_setNeed 25 = .ok (.iload_n 1, 1) := by decide +kernel
theorem dX1_setNeed_26 : decode cX1_setNeed 26 = .ok (.ishl, 1) := by decide +kernel
theorem dX1_setNeed_27 : decode cX1_setNeed 27 = .ok (.iconst (-1), 1) := by decide +kernel
theorem dX1_setNeed_28 : decode cX1_setNeed 28 = .ok (.ixor, 1) := by decide +kernel
theorem dX1_setNeed_29 : decode cX1_setNeed 29 = .ok (.iand, 1) := by decide +kernel
theorem dX1_setNeed_30 : decode cX1_setNeed 30 = .ok (.putfield 31, 3) := by decide +kernel
theorem dX1_setNeed_33 : decode cX1_setNeed 33 = .ok (.return_, 1) := by decide +kernel
theorem dX2_init_0 : decode cX2_init 0 = .ok (.aload_n 0, 1) := by decide +kernel
theorem dX2_init_1 : decode cX2_init 1 = .ok (.invokespecial 3, 3) := by decide +kernel
theorem dX2_init_4 : decode cX2_init 4 = .ok (.aload_n 0, 1) := by decide +kernel
theorem dX2_init_5 : decode cX2_init 5 = .ok (.new 9, 3) := by decide +kernel
theorem dX2_init_8 : decode cX2_init 8 = .ok (.dup, 1) := by decide +kernel
theorem dX2_init_9 : decode cX2_init 9 = .ok (.invokespecial 11, 3) := by decide +kernel
theorem dX2_init_12 : decode cX2_init 12 = .ok (.putfield 12, 3) := by decide +kernel
theorem dX2_init_15 : decode cX2_init 15 = .ok (.aload_n 0, 1) := by decide +kernel
theorem dX2_init_16 : decode cX2_init 16 = .ok (.bipush 10, 2) := by decide +kernel
theorem dX2_init_18 : decode cX2_init 18 = .ok (.newarray .int, 2) := by decide +kernel
theorem dX2_init_20 : decode cX2_init 20 = .ok (.putfield 18, 3) := by decide +kernel
theorem dX2_init_23 : decode cX2_init 23 = .ok (.aload_n 0, 1) := by decide +kernel
theorem dX2_init_24 : decode cX2_init 24 = .ok (.bipush 10, 2) := by decide +kernel
theorem dX2_init_26 : decode cX2_init 26 = .ok (.newarray .int, 2) := by decide +kernel
theorem dX2_init_28 : decode cX2_init 28 = .ok (.putfield 22, 3) := by decide +kernel
theorem dX2_init_31 : decode cX2_init 31 = .ok (.aload_n 0, 1) := by decide +kernel
theorem dX2_init_32 : decode cX2_init 32 = .ok (.bipush 10, 2) := by decide +kernel
theorem dX2_init_34 : decode cX2_init 34 = .ok (.newarray .int, 2) := by decide +kernel
theorem dX2_init_36 : decode cX2_init 36 = .ok (.putfield 25, 3) := by decide +kernel
theorem dX2_init_39 : decode cX2_init 39 = .ok (.aload_n 0, 1) := by decide +kernel
theorem dX2_init_40 : decode cX2_init 40 = .ok (.iconst 0, 1) := by decide +kernel
theorem dX2_init_41 : decode cX2_init 41 = .ok (.putfield 28, 3) := by decide +kernel
theorem dX2_init_44 : decode cX2_init 44 = .ok (.aload_n 0, 1) := by decide +kernel
theorem dX2_init_45 : decode cX2_init 45 = .ok (.iconst 1, 1) := by decide +kernel
theorem dX2_init_46 : decode cX2_init 46 = .ok (.putfield 32, 3) := by decide +kernel
theorem dX2_init_49 : decode cX2_init 49 = .ok (.aload_n 0, 1) := by decide +kernel
theorem dX2_init_50 : decode cX2_init 50 = .ok (.iconst 0, 1) := by decide +kernel
theorem dX2_init_51 : decode cX2_init 51 = .ok (.putfield 35, 3) := by decide +kernel
theorem dX2_init_54 : decode cX2_init 54 = .ok (.aload_n 0, 1) := by decide +kernel
theorem dX2_init_55 : decode cX2_init 55 = .ok (.iconst 0, 1) := by decide +kernel
theorem dX2_init_56 : decode cX2_init 56 = .ok (.putfield 38, 3) := by decide +kernel
theorem dX2_init_59 : decode cX2_init 59 = .ok (.aload_n 0, 1) := by decide +kernel
theorem dX2_init_60 : decode cX2_init 60 = .ok (.iconst 0, 1) := by decide +kernel
theorem dX2_init_61 : decode cX2_init 61 = .ok (.putfield 41, 3) := by decide +kernel
theorem dX2_init_64 : decode cX2_init 64 = .ok (.return_, 1) := by decide +kernel
theorem dX2_goToFirst_0 : decode cX2_goToFirst 0 = .ok (.aload_n 0, 1) := by decide +kernel
theorem dX2_goToFirst_1 : decode cX2_goToFirst 1 = .ok (.getfield 18, 3) := by decide +kernel
theorem dX2_goToFirst_4 : decode cX2_goToFirst 4 = .ok (.iconst 0, 1) := by decide +kernel
theorem dX2_goToFirst_5 : decode cX2_goToFirst 5 = .ok (.invokestatic 44, 3) := by decide +kernel
theorem dX2_goToFirst_8 : decode cX2_goToFirst 8 = .ok (.aload_n 0, 1) := by decide +kernel
theorem dX2_goToFirst_9 : decode cX2_goToFirst 9 = .ok (.iconst 0, 1) := by decide +kernel
theorem dX2_goToFirst_10 : decode cX2_goToFirst 10 = .ok (.putfield 28, 3) := by decide +kernel
theorem dX2_goToFirst_13 : decode cX2_goToFirst 13 = .ok (.aload_n 0, 1) := by decide +kernel
theorem dX2_goToFirst_14 : decode cX2_goToFirst 14 = .ok (.invokevirtual 50, 3) := by decide +kernel
theorem dX2_goToFirst_17 : decode cX2_goToFirst 17 = .ok (.return_, 1) := by decide +kernel
theorem dX2_goToNext_0 : decode cX2_goToNext 0 = .ok (.iconst 0, 1) := by decide +kernel
theorem dX2_goToNext_1 : decode cX2_goToNext 1 = .ok (.istore_n 1, 1) := by decide +kernel
theorem dX2_goToNext_2 : decode cX2_goToNext 2 = .ok (.iload_n 1, 1) := by decide +kernel
theorem dX2_goToNext_3 : decode cX2_goToNext 3 = .ok (.aload_n 0, 1) := by decide +kernel
theorem dX2_goToNext_4 : decode cX2_goToNext 4 = .ok (.getfield 12, 3) := by decide +kernel
theorem dX2_goToNext_7 : decode cX2_goToNext 7 = .ok (.getfield 53, 3) := by decide +kernel
theorem dX2_goToNext_10 : decode cX2_goToNext 10 = .ok (.if_icmp .ge 48, 3) := by decide +kernel
theorem dX2_goToNext_13 : decode cX2_goToNext 13 = .ok (.aload_n 0, 1) := by decide +kernel
theorem dX2_goToNext_14 : decode cX2_goToNext 14 = .ok (.getfield 18, 3) := by decide +kernel
theorem dX2_goToNext_17 : decode cX2_goToNext 17 = .ok (.iload_n 1, 1) := by decide +kernel
theorem dX2_goToNext_18 : decode cX2_goToNext 18 = .ok (.dup2, 1) := by decide +kernel
theorem dX2_goToNext_19 : decode cX2_goToNext 19 = .ok (.iaload, 1) := by decide +kernel
theorem dX2_goToNext_20 : decode cX2_goToNext 20 = .ok (.iconst 1, 1) := by decide +kernel
theorem dX2_goToNext_21 : decode cX2_goToNext 21 = .ok (.iadd, 1) := by decide +kernel
theorem dX2_goToNext_22 : decode cX2_goToNext 22 = .ok (.iastore, 1) := by decide +kernel
theorem dX2_goToNext_23 : decode cX2_goToNext 23 = .ok (.aload_n 0, 1) := by decide +kernel
theorem dX2_goToNext_24 : decode cX2_goToNext 24 = .ok (.getfield 18, 3) := by decide +kernel
theorem dX2_goToNext_27 : decode cX2_goToNext 27 = .ok (.iload_n 1, 1) := by decide +kernel
theorem dX2_goToNext_28 : decode cX2_goToNext 28 = .ok (.iaload, 1) := by decide +kernel
theorem dX2_goToNext_29 : decode cX2_goToNext 29 = .ok (.aload_n 0, 1) := by decide +kernel
theorem dX2_goToNext_30 : decode cX2_goToNext 30 = .ok (.getfield 12, 3) := by decide +kernel
theorem dX2_goToNext_33 : decode cX2_goToNext 33 = .ok (.getfield 56, 3) := by decide +kernel
theorem dX2_goToNext_36 : decode cX2_goToNext 36 = .ok (.iload_n 1, 1) := by decide +kernel
theorem dX2_goToNext_37 : decode cX2_goToNext 37 = .ok (.aaload, 1) := by decide +kernel
theorem dX2_goToNext_38 : decode cX2_goToNext 38 = .ok (.getfield 60, 3) := by decide +kernel
theorem dX2_goToNext_41 : decode cX2_goToNext 41 = .ok (.if_icmp .ge 4, 3) := by decide +kernel
theorem dX2_goToNext_44 : decode cX2_goToNext 44 = .ok (.return_, 1) := by decide +kernel
theorem dX2_goToNext_45 : decode cX2_goToNext 45 = .ok (.aload_n 0, 1) := by decide +kernel
theorem dX2_goToNext_46 : decode cX2_goToNext 46 = .ok (.getfield 18, 3) := by decide +kernel
theorem dX2_goToNext_49 : decode cX2_goToNext 49 = .ok (.iload_n 1, 1) := by decide +kernel
theorem dX2_goToNext_50 : decode cX2_goToNext 50 = .ok (.iconst 0, 1) := by decide +kernel
theorem dX2_goToNext_51 : decode cX2_goToNext 51 = .ok (.iastore, 1) := by decide +kernel
theorem dX2_goToNext_52 : decode cX2_goToNext 52 = .ok (.iinc 1 1, 3) := by decide +kernel
theorem dX2_goToNext_55 : decode cX2_goToNext 55 = .ok (.goto (-53), 3) := by decide +kernel
theorem dX2_goToNext_58 : decode cX2_goToNext 58 = .ok (.aload_n 0, 1) := by decide +kernel
theorem dX2_goToNext_59 : decode cX2_goToNext 59 = .ok (.dup, 1) := by decide +kernel
theorem dX2_goToNext_60 : decode cX2_goToNext 60 = .ok (.getfield 28, 3) := by decide +kernel
theorem dX2_goToNext_63 : decode cX2_goToNext 63 = .ok (.iconst 1, 1) := by decide +kernel
theorem dX2_goToNext_64 : decode cX2_goToNext 64 = .ok (.iadd, 1) := by decide +kernel
theorem dX2_goToNext_65 : decode cX2_goToNext 65 = .ok (.putfield 28, 3) := by decide +kernel
theorem dX2_goToNext_68 : decode cX2_goToNext 68 = .ok (.aload_n 0, 1) := by decide +kernel
theorem dX2_goToNext_69 : decode cX2_goToNext 69 = .ok (.invokevirtual 50, 3) := by decide +kernel
theorem dX2_goToNext_72 : decode cX2_goToNext 72 = .ok (.return_, 1) := by decide +kernel
theorem dX2_takeCauses_0 : decode cX2_takeCauses 0 = .ok (.aload_n 0, 1) := by decide +kernel
theorem dX2_takeCauses_1 : decode cX2_takeCauses 1 = .ok (.iconst 1, 1) := by decide +kernel
theorem dX2_takeCauses_2 : decode cX2_takeCauses 2 = .ok (.putfield 32, 3) := by decide +kernel
theorem dX2_takeCauses_5 : decode cX2_takeCauses 5 = .ok (.aload_n 0, 1) := by decide +kernel
theorem dX2_takeCauses_6 : decode cX2_takeCauses 6 = .ok (.getfield 22, 3) := by decide +kernel
theorem dX2_takeCauses_9 : decode cX2_takeCauses 9 = .ok (.iconst 0, 1) := by decide +kernel
theorem dX2_takeCauses_10 : decode cX2_takeCauses 10 = .ok (.invokestatic 44, 3) := by decide +kernel
theorem dX2_takeCauses_13 : decode cX2_takeCauses 13 = .ok (.iconst 0, 1) := by decide +kernel
theorem dX2_takeCauses_14 : decode cX2_takeCauses 14 = .ok (.istore_n 1, 1) := by decide +kernel
theorem dX2_takeCauses_15 : decode cX2_takeCauses 15 = .ok (.iload_n 1, 1) := by decide +kernel
theorem dX2_takeCauses_16 : decode cX2_takeCauses 16 = .ok (.aload_n 0, 1) := by decide +kernel
theorem dX2_takeCauses_17 : decode cX2_takeCauses 17 = .ok (.getfield 12, 3) := by decide +kernel
theorem dX2_takeCauses_20 : decode cX2_takeCauses 20 = .ok (.getfield 65, 3) := by decide +kernel
theorem dX2_takeCauses_23 : decode cX2_takeCauses 23 = .ok (.if_icmp .ge 111, 3) := by decide +kernel
theorem dX2_takeCauses_26 : decode cX2_takeCauses 26 = .ok (.aload_n 0, 1) := by decide +kernel
theorem dX2_takeCauses_27 : decode cX2_takeCauses 27 = .ok (.getfield 28, 3) := by decide +kernel
theorem dX2_takeCauses_30 : decode cX2_takeCauses 30 = .ok (.iload_n 1, 1) := by decide +kernel
theorem dX2_takeCauses_31 : decode cX2_takeCauses 31 = .ok (.ishr, 1) := by decide +kernel
theorem dX2_takeCauses_32 : decode cX2_takeCauses 32 = .ok (.iconst 1, 1) := by decide +kernel
theorem dX2_takeCauses_33 : decode cX2_takeCauses 33 = .ok (.iand, 1) := by decide +kernel
theorem dX2_takeCauses_34 : decode cX2_takeCauses 34 = .ok (.ifCond .ne 34, 3) := by decide +kernel
theorem dX2_takeCauses_37 : decode cX2_takeCauses 37 = .ok (.aload_n 0, 1) := by decide +kernel
theorem dX2_takeCauses_38 : decode cX2_takeCauses 38 = .ok (.dup, 1) := by decide +kernel
theorem dX2_takeCauses_39 : decode cX2_takeCauses 39 = .ok (.getfield 32, 3) := by decide +kernel
theorem dX2_takeCauses_42 : decode cX2_takeCauses 42 = .ok (.aload_n 0, 1) := by decide +kernel
theorem dX2_takeCauses_43 : decode cX2_takeCauses 43 = .ok (.getfield 12, 3) := by decide +kernel
theorem dX2_takeCauses_46 : decode cX2_takeCauses 46 = .ok (.getfield 68, 3) := by decide +kernel
theorem dX2_takeCauses_49 : decode cX2_takeCauses 49 = .ok (.iload_n 1, 1) := by decide +kernel
theorem dX2_takeCauses_50 : decode cX2_takeCauses 50 = .ok (.iaload, 1) := by decide +kernel
theorem dX2_takeCauses_51 : decode cX2_takeCauses 51 = .ok (.aload_n 0, 1) := by decide +kernel
theorem dX2_takeCauses_52 : decode cX2_takeCauses 52 = .ok (.getfield 12, 3) := by decide +kernel
theorem dX2_takeCauses_55 : decode cX2_takeCauses 55 = .ok (.getfield 71, 3) := by decide +kernel
theorem dX2_takeCauses_58 : decode cX2_takeCauses 58 = .ok (.iload_n 1, 1) := by decide +kernel
theorem dX2_takeCauses_59 : decode cX2_takeCauses 59 = .ok (.iaload, 1) := by decide +kernel
theorem dX2_takeCauses_60 : decode cX2_takeCauses 60 = .ok (.isub, 1) := by decide +kernel
theorem dX2_takeCauses_61 : decode cX2_takeCauses 61 = .ok (.imul, 1) := by decide +kernel
theorem dX2_takeCauses_62 : decode cX2_takeCauses 62 = .ok (.putfield 32, 3) := by decide +kernel
theorem dX2_takeCauses_65 : decode cX2_takeCauses 65 = .ok (.goto 63, 3) := by decide +kernel
theorem dX2_takeCauses_68 : decode cX2_takeCauses 68 = .ok (.aload_n 0, 1) := by decide +kernel
theorem dX2_takeCauses_69 : decode cX2_takeCauses 69 = .ok (.dup, 1) := by decide +kernel
theorem dX2_takeCauses_70 : decode cX2_takeCauses 70 = .ok (.getfield 32, 3) := by decide +kernel
theorem dX2_takeCauses_73 : decode cX2_takeCauses 73 = .ok (.aload_n 0, 1) := by decide +kernel
theorem dX2_takeCauses_74 : decode cX2_takeCauses 74 = .ok (.getfield 12, 3) := by decide +kernel
theorem dX2_takeCauses_77 : decode cX2_takeCauses 77 = .ok (.getfield 71, 3) := by decide +kernel
theorem dX2_takeCauses_80 : decode cX2_takeCauses 80 = .ok (.iload_n 1, 1) := by decide +kernel
theorem dX2_takeCauses_81 : decode cX2_takeCauses 81 = .ok (.iaload, 1) := by decide +kernel
theorem dX2_takeCauses_82 : decode cX2_takeCauses 82 = .ok (.imul, 1) := by decide +kernel
theorem dX2_takeCauses_83 : decode cX2_takeCauses 83 = .ok (.putfield 32, 3) := by decide +kernel
theorem dX2_takeCauses_86 : decode cX2_takeCauses 86 = .ok (.iconst 0, 1) := by decide +kernel
theorem dX2_takeCauses_87 : decode cX2_takeCauses 87 = .ok (.istore_n 2, 1) := by decide +kernel
theorem dX2_takeCauses_88 : decode cX2_takeCauses 88 = .ok (.iload_n 2, 1) := by decide +kernel
theorem dX2_takeCauses_89 : decode cX2_takeCauses 89 = .ok (.aload_n 0, 1) := by decide +kernel
theorem dX2_takeCauses_90 : decode cX2_takeCauses 90 = .ok (.getfield 12, 3) := by decide +kernel
theorem dX2_takeCauses_93 : decode cX2_takeCauses 93 = .ok (.getfield 53, 3) := by decide +kernel
theorem dX2_takeCauses_96 : decode cX2_takeCauses 96 = .ok (.if_icmp .ge 32, 3) := by decide +kernel
theorem dX2_takeCauses_99 : decode cX2_takeCauses 99 = .ok (.aload_n 0, 1) := by decide +kernel
theorem dX2_takeCauses_100 : decode cX2_takeCauses 100 = .ok (.getfield 22, 3) := by decide +kernel
theorem dX2_takeCauses_103 : decode cX2_takeCauses 103 = .ok (.iload_n 2, 1) := by decide +kernel
theorem dX2_takeCauses_104 : decode cX2_takeCauses 104 = .ok (.dup2, 1) := by decide +kernel
theorem dX2_takeCauses_105 : decode cX2_takeCauses 105 = .ok (.iaload, 1) := by decide +kernel
theorem dX2_takeCauses_106 : decode cX2_takeCauses 106 = .ok (.aload_n 0, 1) := by decide +kernel
theorem dX2_takeCauses_107 : decode cX2_takeCauses 107 = .ok (.getfield 12, 3) := by decide +kernel
theorem dX2_takeCauses_110 : decode cX2_takeCauses 110 = .ok (.getfield 56, 3) := by decide +kernel
theorem dX2_takeCauses_113 : decode cX2_takeCauses 113 = .ok (.iload_n 2, 1) := by decide +kernel
theorem dX2_takeCauses_114 : decode cX2_takeCauses 114 = .ok (.aaload, 1) := by decide +kernel
theorem dX2_takeCauses_115 : decode cX2_takeCauses 115 = .ok (.getfield 74, 3) := by decide +kernel
theorem dX2_takeCauses_118 : decode cX2_takeCauses 118 = .ok (.iload_n 1, 1) := by decide +kernel
theorem dX2_takeCauses_119 : decode cX2_takeCauses 119 = .ok (.iaload, 1) := by decide +kernel
theorem dX2_takeCauses_120 : decode cX2_takeCauses 120 = .ok (.iadd, 1) := by decide +kernel
theorem dX2_takeCauses_121 : decode cX2_takeCauses 121 = .ok (.iastore, 1) := by decide +kernel
theorem dX2_takeCauses_122 : decode cX2_takeCauses 122 = .ok (.iinc 2 1, 3) := by decide +kernel
theorem dX2_takeCauses_125 : decode cX2_takeCauses 125 = .ok (.goto (-37), 3) := by decide +kernel
theorem dX2_takeCauses_128 : decode cX2_takeCauses 128 = .ok (.iinc 1 1, 3) := by decide +kernel
theorem dX2_takeCauses_131 : decode cX2_takeCauses 131 = .ok (.goto (-116), 3) := by decide +kernel
theorem dX2_takeCauses_134 : decode cX2_takeCauses 134 = .ok (.return_, 1) := by decide +kernel
theorem dX2_product_0 : decode cX2_product 0 = .ok (.aload_n 0, 1) := by decide +kernel
theorem dX2_product_1 : decode cX2_product 1 = .ok (.getfield 32, 3) := by decide +kernel
theorem dX2_product_4 : decode cX2_product 4 = .ok (.istore_n 1, 1) := by decide +kernel
theorem dX2_product_5 : decode cX2_product 5 = .ok (.iconst 0, 1) := by decide +kernel
theorem dX2_product_6 : decode cX2_product 6 = .ok (.istore_n 2, 1) := by decide +kernel
theorem dX2_product_7 : decode cX2_product 7 = .ok (.iload_n 2, 1) := by decide +kernel
theorem dX2_product_8 : decode cX2_product 8 = .ok (.aload_n 0, 1) := by decide +kernel
theorem dX2_product_9 : decode cX2_product 9 = .ok (.getfield 12, 3) := by decide +kernel
theorem dX2_product_12 : decode cX2_product 12 = .ok (.getfield 53, 3) := by decide +kernel
theorem dX2_product_15 : decode cX2_product 15 = .ok (.if_icmp .ge 31, 3) := by decide +kernel
theorem dX2_product_18 : decode cX2_product 18 = .ok (.iload_n 1, 1) := by decide +kernel
theorem dX2_product_19 : decode cX2_product 19 = .ok (.aload_n 0, 1) := by decide +kernel
theorem dX2_product_20 : decode cX2_product 20 = .ok (.getfield 12, 3) := by decide +kernel
theorem dX2_product_23 : decode cX2_product 23 = .ok (.getfield 56, 3) := by decide +kernel
theorem dX2_product_26 : decode cX2_product 26 = .ok (.iload_n 2, 1) := by decide +kernel
theorem dX2_product_27 : decode cX2_product 27 = .ok (.aaload, 1) := by decide +kernel
theorem dX2_product_28 : decode cX2_product 28 = .ok (.getfield 77, 3) := by decide +kernel
theorem dX2_product_31 : decode cX2_product 31 = .ok (.aload_n 0, 1) := by decide +kernel
theorem dX2_product_32 : decode cX2_product 32 = .ok (.getfield 18, 3) := by decide +kernel
theorem dX2_product_35 : decode cX2_product 35 = .ok (.iload_n 2, 1) := by decide +kernel
theorem dX2_product_36 : decode cX2_product 36 = .ok (.iaload, 1) := by decide +kernel
theorem dX2_product_37 : decode cX2_product 37 = .ok (.iaload, 1) := by decide +kernel
theorem dX2_product_38 : decode cX2_product 38 = .ok (.imul, 1) := by decide +kernel
theorem dX2_product_39 : decode cX2_product 39 = .ok (.istore_n 1, 1) := by decide +kernel
theorem dX2_product_40 : decode cX2_product 40 = .ok (.iinc 2 1, 3) := by decide +kernel
theorem dX2_product_43 : decode cX2_product 43 = .ok (.goto (-36), 3) := by decide +kernel
theorem dX2_product_46 : decode cX2_product 46 = .ok (.iload_n 1, 1) := by decide +kernel
theorem dX2_product_47 : decode cX2_product 47 = .ok (.ireturn, 1) := by decide +kernel
theorem dX2_stepThrough_0 : decode cX2_stepThrough 0 = .ok (.iconst 0, 1) := by decide +kernel
theorem dX2_stepThrough_1 : decode cX2_stepThrough 1 = .ok (.istore_n 2, 1) := by decide +kernel
theorem dX2_stepThrough_2 : decode cX2_stepThrough 2 = .ok (.aload_n 0, 1) := by decide +kernel
theorem dX2_stepThrough_3 : decode cX2_stepThrough 3 = .ok (.iconst 0, 1) := by decide +kernel
theorem dX2_stepThrough_4 : decode cX2_stepThrough 4 = .ok (.putfield 35, 3) := by decide +kernel
theorem dX2_stepThrough_7 : decode cX2_stepThrough 7 = .ok (.aload_n 0, 1) := by decide +kernel
theorem dX2_stepThrough_8 : decode cX2_stepThrough 8 = .ok (.iconst 0, 1) := by decide +kernel
theorem dX2_stepThrough_9 : decode cX2_stepThrough 9 = .ok (.putfield 38, 3) := by decide +kernel
theorem dX2_stepThrough_12 : decode cX2_stepThrough 12 = .ok (.aload_n 0, 1) := by decide +kernel
theorem dX2_stepThrough_13 : decode cX2_stepThrough 13 = .ok (.aload_n 0, 1) := by decide +kernel
theorem dX2_stepThrough_14 : decode cX2_stepThrough 14 = .ok (.getfield 12, 3) := by decide +kernel
theorem dX2_stepThrough_17 : decode cX2_stepThrough 17 = .ok (.getfield 80, 3) := by decide +kernel
theorem dX2_stepThrough_20 : decode cX2_stepThrough 20 = .ok (.putfield 41, 3) := by decide +kernel
theorem dX2_stepThrough_23 : decode cX2_stepThrough 23 = .ok (.aload_n 0, 1) := by decide +kernel
theorem dX2_stepThrough_24 : decode cX2_stepThrough 24 = .ok (.iload_n 2, 1) := by decide +kernel
theorem dX2_stepThrough_25 : decode cX2_stepThrough 25 = .ok (.iload_n 1, 1) := by decide +kernel
theorem dX2_stepThrough_26 : decode cX2_stepThrough 26 = .ok (.invokevirtual 83, 3) := by decide +kernel
theorem dX2_stepThrough_29 : decode cX2_stepThrough 29 = .ok (.iconst 0, 1) := by decide +kernel
theorem dX2_stepThrough_30 : decode cX2_stepThrough 30 = .ok (.istore_n 3, 1) := by decide +kernel
theorem dX2_stepThrough_31 : decode cX2_stepThrough 31 = .ok (.iload_n 3, 1) := by decide +kernel
theorem dX2_stepThrough_32 : decode cX2_stepThrough 32 = .ok (.bipush 10, 2) := by decide +kernel
theorem dX2_stepThrough_34 : decode cX2_stepThrough 34 = .ok (.if_icmp .ge 31, 3) := by decide +kernel
theorem dX2_stepThrough_37 : decode cX2_stepThrough 37 = .ok (.aload_n 0, 1) := by decide +kernel
theorem dX2_stepThrough_38 : decode cX2_stepThrough 38 = .ok (.getfield 35, 3) := by decide +kernel
theorem dX2_stepThrough_41 : decode cX2_stepThrough 41 = .ok (.aload_n 0, 1) := by decide +kernel
theorem dX2_stepThrough_42 : decode cX2_stepThrough 42 = .ok (.getfield 38, 3) := by decide +kernel
theorem dX2_stepThrough_45 : decode cX2_stepThrough 45 = .ok (.if_icmp .eq 20, 3) := by decide +kernel
theorem dX2_stepThrough_48 : decode cX2_stepThrough 48 = .ok (.aload_n 0, 1) := by decide +kernel
theorem dX2_stepThrough_49 : decode cX2_stepThrough 49 = .ok (.invokevirtual 87, 3) := by decide +kernel
theorem dX2_stepThrough_52 : decode cX2_stepThrough 52 = .ok (.istore_n 2, 1) := by decide +kernel
theorem dX2_stepThrough_53 : decode cX2_stepThrough 53 = .ok (.aload_n 0, 1) := by decide +kernel
theorem dX2_stepThrough_54 : decode cX2_stepThrough 54 = .ok (.iload_n 2, 1) := by decide +kernel
theorem dX2_stepThrough_55 : decode cX2_stepThrough 55 = .ok (.iload_n 1, 1) := by decide +kernel
theorem dX2_stepThrough_56 : decode cX2_stepThrough 56 = .ok (.invokevirtual 83, 3) := by decide +kernel
theorem dX2_stepThrough_59 : decode cX2_stepThrough 59 = .ok (.iinc 3 1, 3) := by decide +kernel
theorem dX2_stepThrough_62 : decode cX2_stepThrough 62 = .ok (.goto (-31), 3) := by decide +kernel
theorem dX2_stepThrough_65 : decode cX2_stepThrough 65 = .ok (.iload_n 2, 1) := by decide +kernel
theorem dX2_stepThrough_66 : decode cX2_stepThrough 66 = .ok (.ireturn, 1) := by decide +kernel
theorem dX2_beginOn_0 : decode cX2_beginOn 0 = .ok (.iconst 0, 1) := by decide +kernel
theorem dX2_beginOn_1 : decode cX2_beginOn 1 = .ok (.istore_n 3, 1) := by decide +kernel
theorem dX2_beginOn_2 : decode cX2_beginOn 2 = .ok (.iload_n 3, 1) := by decide +kernel
theorem dX2_beginOn_3 : decode cX2_beginOn 3 = .ok (.aload_n 0, 1) := by decide +kernel
theorem dX2_beginOn_4 : decode cX2_beginOn 4 = .ok (.getfield 12, 3) := by decide +kernel
theorem dX2_beginOn_7 : decode cX2_beginOn 7 = .ok (.getfield 53, 3) := by decide +kernel
theorem dX2_beginOn_10 : decode cX2_beginOn 10 = .ok (.if_icmp .ge 148, 3) := by decide +kernel
theorem dX2_beginOn_13 : decode cX2_beginOn 13 = .ok (.aload_n 0, 1) := by decide +kernel
theorem dX2_beginOn_14 : decode cX2_beginOn 14 = .ok (.getfield 12, 3) := by decide +kernel
theorem dX2_beginOn_17 : decode cX2_beginOn 17 = .ok (.getfield 56, 3) := by decide +kernel
theorem dX2_beginOn_20 : decode cX2_beginOn 20 = .ok (.iload_n 3, 1) := by decide +kernel
theorem dX2_beginOn_21 : decode cX2_beginOn 21 = .ok (.aaload, 1) := by decide +kernel
theorem dX2_beginOn_22 : decode cX2_beginOn 22 = .ok (.astore 4, 2) := by decide +kernel
theorem dX2_beginOn_24 : decode cX2_beginOn 24 = .ok (.iconst 1, 1) := by decide +kernel
theorem dX2_beginOn_25 : decode cX2_beginOn 25 = .ok (.iload_n 3, 1) := by decide +kernel
theorem dX2_beginOn_26 : decode cX2_beginOn 26 = .ok (.ishl, 1) := by decide +kernel
theorem dX2_beginOn_27 : decode cX2_beginOn 27 = .ok (.istore 5, 2) := by decide +kernel
theorem dX2_beginOn_29 : decode cX2_beginOn 29 = .ok (.aload_n 0, 1) := by decide +kernel
theorem dX2_beginOn_30 : decode cX2_beginOn 30 = .ok (.getfield 35, 3) := by decide +kernel
theorem dX2_beginOn_33 : decode cX2_beginOn 33 = .ok (.iload 5, 2) := by decide +kernel
theorem dX2_beginOn_35 : decode cX2_beginOn 35 = .ok (.iand, 1) := by decide +kernel
theorem dX2_beginOn_36 : decode cX2_beginOn 36 = .ok (.ifCond .ne 116, 3) := by decide +kernel
theorem dX2_beginOn_39 : decode cX2_beginOn 39 = .ok (.aload 4, 2) := by decide +kernel
theorem dX2_beginOn_41 : decode cX2_beginOn 41 = .ok (.getfield 91, 3) := by decide +kernel
theorem dX2_beginOn_44 : decode cX2_beginOn 44 = .ok (.aload_n 0, 1) := by decide +kernel
theorem dX2_beginOn_45 : decode cX2_beginOn 45 = .ok (.getfield 38, 3) := by decide +kernel
theorem dX2_beginOn_48 : decode cX2_beginOn 48 = .ok (.iconst (-1), 1) := by decide +kernel
theorem dX2_beginOn_49 : decode cX2_beginOn 49 = .ok (.ixor, 1) := by decide +kernel
theorem dX2_beginOn_50 : decode cX2_beginOn 50 = .ok (.iand, 1) := by decide +kernel
theorem dX2_beginOn_51 : decode cX2_beginOn 51 = .ok (.ifCond .ne 101, 3) := by decide +kernel
theorem dX2_beginOn_54 : decode cX2_beginOn 54 = .ok (.aload 4, 2) := by decide +kernel
theorem dX2_beginOn_56 : decode cX2_beginOn 56 = .ok (.getfield 94, 3) := by decide +kernel
theorem dX2_beginOn_59 : decode cX2_beginOn 59 = .ok (.aload_n 0, 1) := by decide +kernel
theorem dX2_beginOn_60 : decode cX2_beginOn 60 = .ok (.getfield 41, 3) := by decide +kernel
theorem dX2_beginOn_63 : decode cX2_beginOn 63 = .ok (.if_icmp .gt 89, 3) := by decide +kernel
theorem dX2_beginOn_66 : decode cX2_beginOn 66 = .ok (.aload 4, 2) := by decide +kernel
theorem dX2_beginOn_68 : decode cX2_beginOn 68 = .ok (.getfield 97, 3) := by decide +kernel
theorem dX2_beginOn_71 : decode cX2_beginOn 71 = .ok (.aload_n 0, 1) := by decide +kernel
theorem dX2_beginOn_72 : decode cX2_beginOn 72 = .ok (.getfield 18, 3) := by decide +kernel
theorem dX2_beginOn_75 : decode cX2_beginOn 75 = .ok (.iload_n 3, 1) := by decide +kernel
theorem dX2_beginOn_76 : decode cX2_beginOn 76 = .ok (.iaload, 1) := by decide +kernel
theorem dX2_beginOn_77 : decode cX2_beginOn 77 = .ok (.iaload, 1) := by decide +kernel
theorem dX2_beginOn_78 : decode cX2_beginOn 78 = .ok (.aload_n 0, 1) := by decide +kernel
theorem dX2_beginOn_79 : decode cX2_beginOn 79 = .ok (.getfield 22, 3) := by decide +kernel
theorem dX2_beginOn_82 : decode cX2_beginOn 82 = .ok (.iload_n 3, 1) := by decide +kernel
theorem dX2_beginOn_83 : decode cX2_beginOn 83 = .ok (.iaload, 1) := by decide +kernel
theorem dX2_beginOn_84 : decode cX2_beginOn 84 = .ok (.iadd, 1) := by decide +kernel
theorem dX2_beginOn_85 : decode cX2_beginOn 85 = .ok (.iload_n 3, 1) := by decide +kernel
theorem dX2_beginOn_86 : decode cX2_beginOn 86 = .ok (.iload_n 2, 1) := by decide +kernel
theorem dX2_beginOn_87 : decode cX2_beginOn 87 = .ok (.if_icmp .ne 7, 3) := by decide +kernel
theorem dX2_beginOn_90 : decode cX2_beginOn 90 = .ok (.iconst 1, 1) := by decide +kernel
theorem dX2_beginOn_91 : decode cX2_beginOn 91 = .ok (.goto 4, 3) := by decide +kernel
theorem dX2_beginOn_94 : decode cX2_beginOn 94 = .ok (.iconst 0, 1) := by decide +kernel
theorem dX2_beginOn_95 : decode cX2_beginOn 95 = .ok (.iadd, 1) := by decide +kernel
theorem dX2_beginOn_96 : decode cX2_beginOn 96 = .ok (.istore 6, 2) := by decide +kernel
theorem dX2_beginOn_98 : decode cX2_beginOn 98 = .ok (.aload_n 0, 1) := by decide +kernel
theorem dX2_beginOn_99 : decode cX2_beginOn 99 = .ok (.dup, 1) := by decide +kernel
theorem dX2_beginOn_100 : decode cX2_beginOn 100 = .ok (.getfield 35, 3) := by decide +kernel
theorem dX2_beginOn_103 : decode cX2_beginOn 103 = .ok (.iload 5, 2) := by decide +kernel
theorem dX2_beginOn_105 : decode cX2_beginOn 105 = .ok (.ior, 1) := by decide +kernel
theorem dX2_beginOn_106 : decode cX2_beginOn 106 = .ok (.putfield 35, 3) := by decide +kernel
theorem dX2_beginOn_109 : decode cX2_beginOn 109 = .ok (.aload_n 0, 1) := by decide +kernel
theorem dX2_beginOn_110 : decode cX2_beginOn 110 = .ok (.getfield 25, 3) := by decide +kernel
theorem dX2_beginOn_113 : decode cX2_beginOn 113 = .ok (.iload_n 3, 1) := by decide +kernel
theorem dX2_beginOn_114 : decode cX2_beginOn 114 = .ok (.iload_n 1, 1) := by decide +kernel
theorem dX2_beginOn_115 : decode cX2_beginOn 115 = .ok (.iload 6, 2) := by decide +kernel
theorem dX2_beginOn_117 : decode cX2_beginOn 117 = .ok (.iadd, 1) := by decide +kernel
theorem dX2_beginOn_118 : decode cX2_beginOn 118 = .ok (.iastore, 1) := by decide +kernel
theorem dX2_beginOn_119 : decode cX2_beginOn 119 = .ok (.iload 6, 2) := by decide +kernel
theorem dX2_beginOn_121 : decode cX2_beginOn 121 = .ok (.ifCond .ne 17, 3) := by decide +kernel
theorem dX2_beginOn_124 : decode cX2_beginOn 124 = .ok (.aload_n 0, 1) := by decide +kernel
theorem dX2_beginOn_125 : decode cX2_beginOn 125 = .ok (.dup, 1) := by decide +kernel
theorem dX2_beginOn_126 : decode cX2_beginOn 126 = .ok (.getfield 38, 3) := by decide +kernel
theorem dX2_beginOn_129 : decode cX2_beginOn 129 = .ok (.iload 5, 2) := by decide +kernel
theorem dX2_beginOn_131 : decode cX2_beginOn 131 = .ok (.ior, 1) := by decide +kernel
theorem dX2_beginOn_132 : decode cX2_beginOn 132 = .ok (.putfield 38, 3) := by decide +kernel
theorem dX2_beginOn_135 : decode cX2_beginOn 135 = .ok (.goto 17, 3) := by decide +kernel
theorem dX2_beginOn_138 : decode cX2_beginOn 138 = .ok (.aload_n 0, 1) := by decide +kernel
theorem dX2_beginOn_139 : decode cX2_beginOn 139 = .ok (.dup, 1) := by decide +kernel
theorem dX2_beginOn_140 : decode cX2_beginOn 140 = .ok (.getfield 41, 3) := by decide +kernel
theorem dX2_beginOn_143 : decode cX2_beginOn 143 = .ok (.aload 4, 2) := by decide +kernel
theorem dX2_beginOn_145 : decode cX2_beginOn 145 = .ok (.getfield 94, 3) := by decide +kernel
theorem dX2_beginOn_148 : decode cX2_beginOn 148 = .ok (.isub, 1) := by decide +kernel
theorem dX2_beginOn_149 : decode cX2_beginOn 149 = .ok (.putfield 41, 3) := by decide +kernel
theorem dX2_beginOn_152 : decode cX2_beginOn 152 = .ok (.iinc 3 1, 3) := by decide +kernel
theorem dX2_beginOn_155 : decode cX2_beginOn 155 = .ok (.goto (-153), 3) := by decide +kernel
theorem dX2_beginOn_158 : decode cX2_beginOn 158 = .ok (.return_, 1) := by decide +kernel
theorem dX2_endNext_0 : decode cX2_endNext 0 = .ok (.aload_n 0, 1) := by decide +kernel
theorem dX2_endNext_1 : decode cX2_endNext 1 = .ok (.getfield 35, 3) := by decide +kernel
theorem dX2_endNext_4 : decode cX2_endNext 4 = .ok (.aload_n 0, 1) := by decide +kernel
theorem dX2_endNext_5 : decode cX2_endNext 5 = .ok (.getfield 38, 3) := by decide +kernel
theorem dX2_endNext_8 : decode cX2_endNext 8 = .ok (.iconst (-1), 1) := by decide +kernel
theorem dX2_endNext_9 : decode cX2_endNext 9 = .ok (.ixor, 1) := by decide +kernel
theorem dX2_endNext_10 : decode cX2_endNext 10 = .ok (.iand, 1) := by decide +kernel
theorem dX2_endNext_11 : decode cX2_endNext 11 = .ok (.istore_n 1, 1) := by decide +kernel
theorem dX2_endNext_12 : decode cX2_endNext 12 = .ok (.ldc 100, 2) := by decide +kernel
theorem dX2_endNext_14 : decode cX2_endNext 14 = .ok (.istore_n 2, 1) := by decide +kernel
theorem dX2_endNext_15 : decode cX2_endNext 15 = .ok (.iconst 0, 1) := by decide +kernel
theorem dX2_endNext_16 : decode cX2_endNext 16 = .ok (.istore_n 3, 1) := by decide +kernel
theorem dX2_endNext_17 : decode cX2_endNext 17 = .ok (.iconst 0, 1) := by decide +kernel
theorem dX2_endNext_18 : decode cX2_endNext 18 = .ok (.istore 4, 2) := by decide +kernel
theorem dX2_endNext_20 : decode cX2_endNext 20 = .ok (.iconst 0, 1) := by decide +kernel
theorem dX2_endNext_21 : decode cX2_endNext 21 = .ok (.istore 5, 2) := by decide +kernel
theorem dX2_endNext_23 : decode cX2_endNext 23 = .ok (.iload 5, 2) := by decide +kernel
theorem dX2_endNext_25 : decode cX2_endNext 25 = .ok (.aload_n 0, 1) := by decide +kernel
theorem dX2_endNext_26 : decode cX2_endNext 26 = .ok (.getfield 12, 3) := by decide +kernel
theorem dX2_endNext_29 : decode cX2_endNext 29 = .ok (.getfield 53, 3) := by decide +kernel
theorem dX2_endNext_32 : decode cX2_endNext 32 = .ok (.if_icmp .ge 78, 3) := by decide +kernel
theorem dX2_endNext_35 : decode cX2_endNext 35 = .ok (.iload_n 1, 1) := by decide +kernel
theorem dX2_endNext_36 : decode cX2_endNext 36 = .ok (.iload 5, 2) := by decide +kernel
theorem dX2_endNext_38 : decode cX2_endNext 38 = .ok (.ishr, 1) := by decide +kernel
theorem dX2_endNext_39 : decode cX2_endNext 39 = .ok (.iconst 1, 1) := by decide +kernel
theorem dX2_endNext_40 : decode cX2_endNext 40 = .ok (.iand, 1) := by decide +kernel
theorem dX2_endNext_41 : decode cX2_endNext 41 = .ok (.ifCond .eq 63, 3) := by decide +kernel
theorem dX2_endNext_44 : decode cX2_endNext 44 = .ok (.aload_n 0, 1) := by decide +kernel
theorem dX2_endNext_45 : decode cX2_endNext 45 = .ok (.getfield 25, 3) := by decide +kernel
theorem dX2_endNext_48 : decode cX2_endNext 48 = .ok (.iload 5, 2) := by decide +kernel
theorem dX2_endNext_50 : decode cX2_endNext 50 = .ok (.iaload, 1) := by decide +kernel
theorem dX2_endNext_51 : decode cX2_endNext 51 = .ok (.iload_n 2, 1) := by decide +kernel
theorem dX2_endNext_52 : decode cX2_endNext 52 = .ok (.if_icmp .gt 52, 3) := by decide +kernel
theorem dX2_endNext_55 : decode cX2_endNext 55 = .ok (.aload_n 0, 1) := by decide +kernel
theorem dX2_endNext_56 : decode cX2_endNext 56 = .ok (.getfield 25, 3) := by decide +kernel
theorem dX2_endNext_59 : decode cX2_endNext 59 = .ok (.iload 5, 2) := by decide +kernel
theorem dX2_endNext_61 : decode cX2_endNext 61 = .ok (.iaload, 1) := by decide +kernel
theorem dX2_endNext_62 : decode cX2_endNext 62 = .ok (.iload_n 2, 1) := by decide +kernel
theorem dX2_endNext_63 : decode cX2_endNext 63 = .ok (.if_icmp .ge 16, 3) := by decide +kernel
theorem dX2_endNext_66 : decode cX2_endNext 66 = .ok (.aload_n 0, 1) := by decide +kernel
theorem dX2_endNext_67 : decode cX2_endNext 67 = .ok (.getfield 25, 3) := by decide +kernel
theorem dX2_endNext_70 : decode cX2_endNext 70 = .ok (.iload 5, 2) := by decide +kernel
theorem dX2_endNext_72 : decode cX2_endNext 72 = .ok (.iaload, 1) := by decide +kernel
theorem dX2_endNext_73 : decode cX2_endNext 73 = .ok (.istore_n 2, 1) := by decide +kernel
theorem dX2_endNext_74 : decode cX2_endNext 74 = .ok (.iconst 0, 1) := by decide +kernel
theorem dX2_endNext_75 : decode cX2_endNext 75 = .ok (.istore_n 3, 1) := by decide +kernel
theorem dX2_endNext_76 : decode cX2_endNext 76 = .ok (.iconst 0, 1) := by decide +kernel
theorem dX2_endNext_77 : decode cX2_endNext 77 = .ok (.istore 4, 2) := by decide +kernel
theorem dX2_endNext_79 : decode cX2_endNext 79 = .ok (.iload_n 3, 1) := by decide +kernel
theorem dX2_endNext_80 : decode cX2_endNext 80 = .ok (.iconst 1, 1) := by decide +kernel
theorem dX2_endNext_81 : decode cX2_endNext 81 = .ok (.iload 5, 2) := by decide +kernel
theorem dX2_endNext_83 : decode cX2_endNext 83 = .ok (.ishl, 1) := by decide +kernel
theorem dX2_endNext_84 : decode cX2_endNext 84 = .ok (.ior, 1) := by decide +kernel
theorem dX2_endNext_85 : decode cX2_endNext 85 = .ok (.istore_n 3, 1) := by decide +kernel
theorem dX2_endNext_86 : decode cX2_endNext 86 = .ok (.iload 4, 2) := by decide +kernel
theorem dX2_endNext_88 : decode cX2_endNext 88 = .ok (.aload_n 0, 1) := by decide +kernel
theorem dX2_endNext_89 : decode cX2_endNext 89 = .ok (.getfield 12, 3) := by decide +kernel
theorem dX2_endNext_92 : decode cX2_endNext 92 = .ok (.getfield 56, 3) := by decide +kernel
theorem dX2_endNext_95 : decode cX2_endNext 95 = .ok (.iload 5, 2) := by decide +kernel
theorem dX2_endNext_97 : decode cX2_endNext 97 = .ok (.aaload, 1) := by decide +kernel
theorem dX2_endNext_98 : decode cX2_endNext 98 = .ok (.getfield 94, 3) := by decide +kernel
theorem dX2_endNext_101 : decode cX2_endNext 101 = .ok (.iadd, 1) := by decide +kernel
theorem dX2_endNext_102 : decode cX2_endNext 102 = .ok (.istore 4, 2) := by decide +kernel
theorem dX2_endNext_104 : decode cX2_endNext 104 = .ok (.iinc 5 1, 3) := by decide +kernel
theorem dX2_endNext_107 : decode cX2_endNext 107 = .ok (.goto (-84), 3) := by decide +kernel
theorem dX2_endNext_110 : decode cX2_endNext 110 = .ok (.aload_n 0, 1) := by decide +kernel
theorem dX2_endNext_111 : decode cX2_endNext 111 = .ok (.dup, 1) := by decide +kernel
theorem dX2_endNext_112 : decode cX2_endNext 112 = .ok (.getfield 38, 3) := by decide +kernel
theorem dX2_endNext_115 : decode cX2_endNext 115 = .ok (.iload_n 3, 1) := by decide +kernel
theorem dX2_endNext_116 : decode cX2_endNext 116 = .ok (.ior, 1) := by decide +kernel
theorem dX2_endNext_117 : decode cX2_endNext 117 = .ok (.putfield 38, 3) := by decide +kernel
theorem dX2_endNext_120 : decode cX2_endNext 120 = .ok (.aload_n 0, 1) := by decide +kernel
theorem dX2_endNext_121 : decode cX2_endNext 121 = .ok (.dup, 1) := by decide +kernel
theorem dX2_endNext_122 : decode cX2_endNext 122 = .ok (.getfield 41, 3) := by decide +kernel
theorem dX2_endNext_125 : decode cX2_endNext 125 = .ok (.iload 4, 2) := by decide +kernel
theorem dX2_endNext_127 : decode cX2_endNext 127 = .ok (.iadd, 1) := by decide +kernel
theorem dX2_endNext_128 : decode cX2_endNext 128 = .ok (.putfield 41, 3) := by decide +kernel
theorem dX2_endNext_131 : decode cX2_endNext 131 = .ok (.iload_n 2, 1) := by decide +kernel
theorem dX2_endNext_132 : decode cX2_endNext 132 = .ok (.ireturn, 1) := by decide +kernel
theorem dX2_agreesWithWhatCame_0 : decode cX2_agreesWithWhatCame 0 = .ok (.iconst 0, 1) := by decide +kernel
theorem dX2_agreesWithWhatCame_1 : decode cX2_agreesWithWhatCame 1 = .ok (.istore_n 1, 1) := by decide +kernel
theorem dX2_agreesWithWhatCame_2 : decode cX2_agreesWithWhatCame 2 = .ok (.iload_n 1, 1) := by decide +kernel
theorem dX2_agreesWithWhatCame_3 : decode cX2_agreesWithWhatCame 3 = .ok (.aload_n 0, 1) := by decide +kernel
theorem dX2_agreesWithWhatCame_4 : decode cX2_agreesWithWhatCame 4 = .ok (.getfield 12, 3) := by decide +kernel
theorem dX2_agreesWithWhatCame_7 : decode cX2_agreesWithWhatCame 7 = .ok (.getfield 53, 3) := by decide +kernel
theorem dX2_agreesWithWhatCame_10 : decode cX2_agreesWithWhatCame 10 = .ok (.if_icmp .ge 68, 3) := by decide +kernel
theorem dX2_agreesWithWhatCame_13 : decode cX2_agreesWithWhatCame 13 = .ok (.aload_n 0, 1) := by decide +kernel
theorem dX2_agreesWithWhatCame_14 : decode cX2_agreesWithWhatCame 14 = .ok (.getfield 12, 3) := by decide +kernel
theorem dX2_agreesWithWhatCame_17 : decode cX2_agreesWithWhatCame 17 = .ok (.getfield 56, 3) := by decide +kernel
theorem dX2_agreesWithWhatCame_20 : decode cX2_agreesWithWhatCame 20 = .ok (.iload_n 1, 1) := by decide +kernel
theorem dX2_agreesWithWhatCame_21 : decode cX2_agreesWithWhatCame 21 = .ok (.aaload, 1) := by decide +kernel
theorem dX2_agreesWithWhatCame_22 : decode cX2_agreesWithWhatCame 22 = .ok (.getfield 101, 3) := by decide +kernel
theorem dX2_agreesWithWhatCame_25 : decode cX2_agreesWithWhatCame 25 = .ok (.istore_n 2, 1) := by decide +kernel
theorem dX2_agreesWithWhatCame_26 : decode cX2_agreesWithWhatCame 26 = .ok (.iload_n 2, 1) := by decide +kernel
theorem dX2_agreesWithWhatCame_27 : decode cX2_agreesWithWhatCame 27 = .ok (.iconst (-1), 1) := by decide +kernel
theorem dX2_agreesWithWhatCame_28 : decode cX2_agreesWithWhatCame 28 = .ok (.if_icmp .eq 15, 3) := by decide +kernel
theorem dX2_agreesWithWhatCame_31 : decode cX2_agreesWithWhatCame 31 = .ok (.aload_n 0, 1) := by decide +kernel
theorem dX2_agreesWithWhatCame_32 : decode cX2_agreesWithWhatCame 32 = .ok (.getfield 25, 3) := by decide +kernel
theorem dX2_agreesWithWhatCame_35 : decode cX2_agreesWithWhatCame 35 = .ok (.iload_n 1, 1) := by decide +kernel
theorem dX2_agreesWithWhatCame_36 : decode cX2_agreesWithWhatCame 36 = .ok (.iaload, 1) := by decide +kernel
theorem dX2_agreesWithWhatCame_37 : decode cX2_agreesWithWhatCame 37 = .ok (.iload_n 2, 1) := by decide +kernel
theorem dX2_agreesWithWhatCame_38 : decode cX2_agreesWithWhatCame 38 = .ok (.if_icmp .eq 34, 3) := by decide +kernel
theorem dX2_agreesWithWhatCame_41 : decode cX2_agreesWithWhatCame 41 = .ok (.iconst 0, 1) := by decide +kernel
theorem dX2_agreesWithWhatCame_42 : decode cX2_agreesWithWhatCame 42 = .ok (.ireturn, 1) := by decide +kernel
theorem dX2_agreesWithWhatCame_43 : decode cX2_agreesWithWhatCame 43 = .ok (.aload_n 0, 1) := by decide +kernel
theorem dX2_agreesWithWhatCame_44 : decode cX2_agreesWithWhatCame 44 = .ok (.getfield 12, 3) := by decide +kernel
theorem dX2_agreesWithWhatCame_47 : decode cX2_agreesWithWhatCame 47 = .ok (.getfield 104, 3) := by decide +kernel
theorem dX2_agreesWithWhatCame_50 : decode cX2_agreesWithWhatCame 50 = .ok (.iconst (-1), 1) := by decide +kernel
theorem dX2_agreesWithWhatCame_51 : decode cX2_agreesWithWhatCame 51 = .ok (.if_icmp .eq 21, 3) := by decide +kernel
theorem dX2_agreesWithWhatCame_54 : decode cX2_agreesWithWhatCame 54 = .ok (.aload_n 0, 1) := by decide +kernel
theorem dX2_agreesWithWhatCame_55 : decode cX2_agreesWithWhatCame 55 = .ok (.getfield 25, 3) := by decide +kernel
theorem dX2_agreesWithWhatCame_58 : decode cX2_agreesWithWhatCame 58 = .ok (.iload_n 1, 1) := by decide +kernel
theorem dX2_agreesWithWhatCame_59 : decode cX2_agreesWithWhatCame 59 = .ok (.iaload, 1) := by decide +kernel
theorem dX2_agreesWithWhatCame_60 : decode cX2_agreesWithWhatCame 60 = .ok (.aload_n 0, 1) := by decide +kernel
theorem dX2_agreesWithWhatCame_61 : decode cX2_agreesWithWhatCame 61 = .ok (.getfield 12, 3) := by decide +kernel
theorem dX2_agreesWithWhatCame_64 : decode cX2_agreesWithWhatCame 64 = .ok (.getfield 104, 3) := by decide +kernel
theorem dX2_agreesWithWhatCame_67 : decode cX2_agreesWithWhatCame 67 = .ok (.if_icmp .gt 5, 3) := by decide +kernel
theorem dX2_agreesWithWhatCame_70 : decode cX2_agreesWithWhatCame 70 = .ok (.iconst 0, 1) := by decide +kernel
theorem dX2_agreesWithWhatCame_71 : decode cX2_agreesWithWhatCame 71 = .ok (.ireturn, 1) := by decide +kernel
theorem dX2_agreesWithWhatCame_72 : decode cX2_agreesWithWhatCame 72 = .ok (.iinc 1 1, 3) := by decide +kernel
theorem dX2_agreesWithWhatCame_75 : decode cX2_agreesWithWhatCame 75 = .ok (.goto (-73), 3) := by decide +kernel
theorem dX2_agreesWithWhatCame_78 : decode cX2_agreesWithWhatCame 78 = .ok (.iconst 1, 1) := by decide +kernel
theorem dX2_agreesWithWhatCame_79 : decode cX2_agreesWithWhatCame 79 = .ok (.ireturn, 1) := by decide +kernel
theorem dX3_init_0 : decode cX3_init 0 = .ok (.aload_n 0, 1) := by decide +kernel
theorem dX3_init_1 : decode cX3_init 1 = .ok (.invokespecial 3, 3) := by decide +kernel
theorem dX3_init_4 : decode cX3_init 4 = .ok (.aload_n 0, 1) := by decide +kernel
theorem dX3_init_5 : decode cX3_init 5 = .ok (.sipush 199, 3) := by decide +kernel
theorem dX3_init_8 : decode cX3_init 8 = .ok (.newarray .long, 2) := by decide +kernel
theorem dX3_init_10 : decode cX3_init 10 = .ok (.putfield 9, 3) := by decide +kernel
theorem dX3_init_13 : decode cX3_init 13 = .ok (.return_, 1) := by decide +kernel
theorem dX3_empty_0 : decode cX3_empty 0 = .ok (.aload_n 0, 1) := by decide +kernel
theorem dX3_empty_1 : decode cX3_empty 1 = .ok (.getfield 9, 3) := by decide +kernel
theorem dX3_empty_4 : decode cX3_empty 4 = .ok (.lconst 0, 1) := by decide +kernel
theorem dX3_empty_5 : decode cX3_empty 5 = .ok (.invokestatic 15, 3) := by decide +kernel
theorem dX3_empty_8 : decode cX3_empty 8 = .ok (.return_, 1) := by decide +kernel
theorem dX3_add_0 : decode cX3_add 0 = .ok (.iload_n 1, 1) := by decide +kernel
theorem dX3_add_1 : decode cX3_add 1 = .ok (.ifCond .lt 22, 3) := by decide +kernel
theorem dX3_add_4 : decode cX3_add 4 = .ok (.iload_n 1, 1) := by decide +kernel
theorem dX3_add_5 : decode cX3_add 5 = .ok (.aload_n 0, 1) := by decide +kernel
theorem dX3_add_6 : decode cX3_add 6 = .ok (.getfield 9, 3) := by decide +kernel
theorem dX3_add_9 : decode cX3_add 9 = .ok (.arraylength, 1) := by decide +kernel
theorem dX3_add_10 : decode cX3_add 10 = .ok (.if_icmp .ge 13, 3) := by decide +kernel
theorem dX3_add_13 : decode cX3_add 13 = .ok (.aload_n 0, 1) := by decide +kernel
theorem dX3_add_14 : decode cX3_add 14 = .ok (.getfield 9, 3) := by decide +kernel
theorem dX3_add_17 : decode cX3_add 17 = .ok (.iload_n 1, 1) := by decide +kernel
theorem dX3_add_18 : decode cX3_add 18 = .ok (.dup2, 1) := by decide +kernel
theorem dX3_add_19 : decode cX3_add 19 = .ok (.laload, 1) := by decide +kernel
theorem dX3_add_20 : decode cX3_add 20 = .ok (.lload_n 2, 1) := by decide +kernel
theorem dX3_add_21 : decode cX3_add 21 = .ok (.ladd, 1) := by decide +kernel
theorem dX3_add_22 : decode cX3_add 22 = .ok (.lastore, 1) := by decide +kernel
theorem dX3_add_23 : decode cX3_add 23 = .ok (.return_, 1) := by decide +kernel
theorem dX3_addOnce_0 : decode cX3_addOnce 0 = .ok (.iconst 0, 1) := by decide +kernel
theorem dX3_addOnce_1 : decode cX3_addOnce 1 = .ok (.istore 4, 2) := by decide +kernel
theorem dX3_addOnce_3 : decode cX3_addOnce 3 = .ok (.iload 4, 2) := by decide +kernel
theorem dX3_addOnce_5 : decode cX3_addOnce 5 = .ok (.aload_n 1, 1) := by decide +kernel
theorem dX3_addOnce_6 : decode cX3_addOnce 6 = .ok (.getfield 21, 3) := by decide +kernel
theorem dX3_addOnce_9 : decode cX3_addOnce 9 = .ok (.if_icmp .ge 30, 3) := by decide +kernel
theorem dX3_addOnce_12 : decode cX3_addOnce 12 = .ok (.aload_n 0, 1) := by decide +kernel
theorem dX3_addOnce_13 : decode cX3_addOnce 13 = .ok (.aload_n 1, 1) := by decide +kernel
theorem dX3_addOnce_14 : decode cX3_addOnce 14 = .ok (.getfield 27, 3) := by decide +kernel
theorem dX3_addOnce_17 : decode cX3_addOnce 17 = .ok (.iload 4, 2) := by decide +kernel
theorem dX3_addOnce_19 : decode cX3_addOnce 19 = .ok (.iaload, 1) := by decide +kernel
theorem dX3_addOnce_20 : decode cX3_addOnce 20 = .ok (.lload_n 2, 1) := by decide +kernel
theorem dX3_addOnce_21 : decode cX3_addOnce 21 = .ok (.aload_n 1, 1) := by decide +kernel
theorem dX3_addOnce_22 : decode cX3_addOnce 22 = .ok (.getfield 31, 3) := by decide +kernel
theorem dX3_addOnce_25 : decode cX3_addOnce 25 = .ok (.iload 4, 2) := by decide +kernel
theorem dX3_addOnce_27 : decode cX3_addOnce 27 = .ok (.iaload, 1) := by decide +kernel
theorem dX3_addOnce_28 : decode cX3_addOnce 28 = .ok (.i2l, 1) := by decide +kernel
theorem dX3_addOnce_29 : decode cX3_addOnce 29 = .ok (.lmul, 1) := by decide +kernel
theorem dX3_addOnce_30 : decode cX3_addOnce 30 = .ok (.invokevirtual 34, 3) := by decide +kernel
theorem dX3_addOnce_33 : decode cX3_addOnce 33 = .ok (.iinc 4 1, 3) := by decide +kernel
theorem dX3_addOnce_36 : decode cX3_addOnce 36 = .ok (.goto (-33), 3) := by decide +kernel
theorem dX3_addOnce_39 : decode cX3_addOnce 39 = .ok (.return_, 1) := by decide +kernel
theorem dX3_addTwice_0 : decode cX3_addTwice 0 = .ok (.iconst 0, 1) := by decide +kernel
theorem dX3_addTwice_1 : decode cX3_addTwice 1 = .ok (.istore 4, 2) := by decide +kernel
theorem dX3_addTwice_3 : decode cX3_addTwice 3 = .ok (.iload 4, 2) := by decide +kernel
theorem dX3_addTwice_5 : decode cX3_addTwice 5 = .ok (.aload_n 1, 1) := by decide +kernel
theorem dX3_addTwice_6 : decode cX3_addTwice 6 = .ok (.getfield 21, 3) := by decide +kernel
theorem dX3_addTwice_9 : decode cX3_addTwice 9 = .ok (.if_icmp .ge 65, 3) := by decide +kernel
theorem dX3_addTwice_12 : decode cX3_addTwice 12 = .ok (.iconst 0, 1) := by decide +kernel
theorem dX3_addTwice_13 : decode cX3_addTwice 13 = .ok (.istore 5, 2) := by decide +kernel
theorem dX3_addTwice_15 : decode cX3_addTwice 15 = .ok (.iload 5, 2) := by decide +kernel
theorem dX3_addTwice_17 : decode cX3_addTwice 17 = .ok (.aload_n 1, 1) := by decide +kernel
theorem dX3_addTwice_18 : decode cX3_addTwice 18 = .ok (.getfield 21, 3) := by decide +kernel
theorem dX3_addTwice_21 : decode cX3_addTwice 21 = .ok (.if_icmp .ge 47, 3) := by decide +kernel
theorem dX3_addTwice_24 : decode cX3_addTwice 24 = .ok (.aload_n 0, 1) := by decide +kernel
theorem dX3_addTwice_25 : decode cX3_addTwice 25 = .ok (.aload_n 1, 1) := by decide +kernel
theorem dX3_addTwice_26 : decode cX3_addTwice 26 = .ok (.getfield 27, 3) := by decide +kernel
theorem dX3_addTwice_29 : decode cX3_addTwice 29 = .ok (.iload 4, 2) := by decide +kernel
theorem dX3_addTwice_31 : decode cX3_addTwice 31 = .ok (.iaload, 1) := by decide +kernel
theorem dX3_addTwice_32 : decode cX3_addTwice 32 = .ok (.aload_n 1, 1) := by decide +kernel
theorem dX3_addTwice_33 : decode cX3_addTwice 33 = .ok (.getfield 27, 3) := by decide +kernel
theorem dX3_addTwice_36 : decode cX3_addTwice 36 = .ok (.iload 5, 2) := by decide +kernel
theorem dX3_addTwice_38 : decode cX3_addTwice 38 = .ok (.iaload, 1) := by decide +kernel
theorem dX3_addTwice_39 : decode cX3_addTwice 39 = .ok (.iadd, 1) := by decide +kernel
theorem dX3_addTwice_40 : decode cX3_addTwice 40 = .ok (.lload_n 2, 1) := by decide +kernel
theorem dX3_addTwice_41 : decode cX3_addTwice 41 = .ok (.aload_n 1, 1) := by decide +kernel
theorem dX3_addTwice_42 : decode cX3_addTwice 42 = .ok (.getfield 31, 3) := by decide +kernel
theorem dX3_addTwice_45 : decode cX3_addTwice 45 = .ok (.iload 4, 2) := by decide +kernel
theorem dX3_addTwice_47 : decode cX3_addTwice 47 = .ok (.iaload, 1) := by decide +kernel
theorem dX3_addTwice_48 : decode cX3_addTwice 48 = .ok (.i2l, 1) := by decide +kernel
theorem dX3_addTwice_49 : decode cX3_addTwice 49 = .ok (.lmul, 1) := by decide +kernel
theorem dX3_addTwice_50 : decode cX3_addTwice 50 = .ok (.aload_n 1, 1) := by decide +kernel
theorem dX3_addTwice_51 : decode cX3_addTwice 51 = .ok (.getfield 31, 3) := by decide +kernel
theorem dX3_addTwice_54 : decode cX3_addTwice 54 = .ok (.iload 5, 2) := by decide +kernel
theorem dX3_addTwice_56 : decode cX3_addTwice 56 = .ok (.iaload, 1) := by decide +kernel
theorem dX3_addTwice_57 : decode cX3_addTwice 57 = .ok (.i2l, 1) := by decide +kernel
theorem dX3_addTwice_58 : decode cX3_addTwice 58 = .ok (.lmul, 1) := by decide +kernel
theorem dX3_addTwice_59 : decode cX3_addTwice 59 = .ok (.invokevirtual 34, 3) := by decide +kernel
theorem dX3_addTwice_62 : decode cX3_addTwice 62 = .ok (.iinc 5 1, 3) := by decide +kernel
theorem dX3_addTwice_65 : decode cX3_addTwice 65 = .ok (.goto (-50), 3) := by decide +kernel
theorem dX3_addTwice_68 : decode cX3_addTwice 68 = .ok (.iinc 4 1, 3) := by decide +kernel
theorem dX3_addTwice_71 : decode cX3_addTwice 71 = .ok (.goto (-68), 3) := by decide +kernel
theorem dX3_addTwice_74 : decode cX3_addTwice 74 = .ok (.return_, 1) := by decide +kernel
theorem dX3_makeLess_0 : decode cX3_makeLess 0 = .ok (.lconst 0, 1) := by decide +kernel
theorem dX3_makeLess_1 : decode cX3_makeLess 1 = .ok (.lstore_n 1, 1) := by decide +kernel
theorem dX3_makeLess_2 : decode cX3_makeLess 2 = .ok (.iconst 0, 1) := by decide +kernel
theorem dX3_makeLess_3 : decode cX3_makeLess 3 = .ok (.istore_n 3, 1) := by decide +kernel
theorem dX3_makeLess_4 : decode cX3_makeLess 4 = .ok (.iload_n 3, 1) := by decide +kernel
theorem dX3_makeLess_5 : decode cX3_makeLess 5 = .ok (.aload_n 0, 1) := by decide +kernel
theorem dX3_makeLess_6 : decode cX3_makeLess 6 = .ok (.getfield 9, 3) := by decide +kernel
theorem dX3_makeLess_9 : decode cX3_makeLess 9 = .ok (.arraylength, 1) := by decide +kernel
theorem dX3_makeLess_10 : decode cX3_makeLess 10 = .ok (.if_icmp .ge 20, 3) := by decide +kernel
theorem dX3_makeLess_13 : decode cX3_makeLess 13 = .ok (.lload_n 1, 1) := by decide +kernel
theorem dX3_makeLess_14 : decode cX3_makeLess 14 = .ok (.aload_n 0, 1) := by decide +kernel
theorem dX3_makeLess_15 : decode cX3_makeLess 15 = .ok (.getfield 9, 3) := by decide +kernel
theorem dX3_makeLess_18 : decode cX3_makeLess 18 = .ok (.iload_n 3, 1) := by decide +kernel
theorem dX3_makeLess_19 : decode cX3_makeLess 19 = .ok (.laload, 1) := by decide +kernel
theorem dX3_makeLess_20 : decode cX3_makeLess 20 = .ok (.invokestatic 38, 3) := by decide +kernel
theorem dX3_makeLess_23 : decode cX3_makeLess 23 = .ok (.lstore_n 1, 1) := by decide +kernel
theorem dX3_makeLess_24 : decode cX3_makeLess 24 = .ok (.iinc 3 1, 3) := by decide +kernel
theorem dX3_makeLess_27 : decode cX3_makeLess 27 = .ok (.goto (-23), 3) := by decide +kernel
theorem dX3_makeLess_30 : decode cX3_makeLess 30 = .ok (.lload_n 1, 1) := by decide +kernel
theorem dX3_makeLess_31 : decode cX3_makeLess 31 = .ok (.lconst 1, 1) := by decide +kernel
theorem dX3_makeLess_32 : decode cX3_makeLess 32 = .ok (.lcmp, 1) := by decide +kernel
theorem dX3_makeLess_33 : decode cX3_makeLess 33 = .ok (.ifCond .le 30, 3) := by decide +kernel
theorem dX3_makeLess_36 : decode cX3_makeLess 36 = .ok (.iconst 0, 1) := by decide +kernel
theorem dX3_makeLess_37 : decode cX3_makeLess 37 = .ok (.istore_n 3, 1) := by decide +kernel
theorem dX3_makeLess_38 : decode cX3_makeLess 38 = .ok (.iload_n 3, 1) := by decide +kernel
theorem dX3_makeLess_39 : decode cX3_makeLess 39 = .ok (.aload_n 0, 1) := by decide +kernel
theorem dX3_makeLess_40 : decode cX3_makeLess 40 = .ok (.getfield 9, 3) := by decide +kernel
theorem dX3_makeLess_43 : decode cX3_makeLess 43 = .ok (.arraylength, 1) := by decide +kernel
theorem dX3_makeLess_44 : decode cX3_makeLess 44 = .ok (.if_icmp .ge 19, 3) := by decide +kernel
theorem dX3_makeLess_47 : decode cX3_makeLess 47 = .ok (.aload_n 0, 1) := by decide +kernel
theorem dX3_makeLess_48 : decode cX3_makeLess 48 = .ok (.getfield 9, 3) := by decide +kernel
theorem dX3_makeLess_51 : decode cX3_makeLess 51 = .ok (.iload_n 3, 1) := by decide +kernel
theorem dX3_makeLess_52 : decode cX3_makeLess 52 = .ok (.dup2, 1) := by decide +kernel
theorem dX3_makeLess_53 : decode cX3_makeLess 53 = .ok (.laload, 1) := by decide +kernel
theorem dX3_makeLess_54 : decode cX3_makeLess 54 = .ok (.lload_n 1, 1) := by decide +kernel
theorem dX3_makeLess_55 : decode cX3_makeLess 55 = .ok (.ldiv, 1) := by decide +kernel
theorem dX3_makeLess_56 : decode cX3_makeLess 56 = .ok (.lastore, 1) := by decide +kernel
theorem dX3_makeLess_57 : decode cX3_makeLess 57 = .ok (.iinc 3 1, 3) := by decide +kernel
theorem dX3_makeLess_60 : decode cX3_makeLess 60 = .ok (.goto (-22), 3) := by decide +kernel
theorem dX3_makeLess_63 : decode cX3_makeLess 63 = .ok (.return_, 1) := by decide +kernel
theorem dX3_fits_0 : decode cX3_fits 0 = .ok (.iconst 0, 1) := by decide +kernel
theorem dX3_fits_1 : decode cX3_fits 1 = .ok (.istore_n 1, 1) := by decide +kernel
theorem dX3_fits_2 : decode cX3_fits 2 = .ok (.iconst 0, 1) := by decide +kernel
theorem dX3_fits_3 : decode cX3_fits 3 = .ok (.istore_n 2, 1) := by decide +kernel
theorem dX3_fits_4 : decode cX3_fits 4 = .ok (.iload_n 2, 1) := by decide +kernel
theorem dX3_fits_5 : decode cX3_fits 5 = .ok (.aload_n 0, 1) := by decide +kernel
theorem dX3_fits_6 : decode cX3_fits 6 = .ok (.getfield 9, 3) := by decide +kernel
theorem dX3_fits_9 : decode cX3_fits 9 = .ok (.arraylength, 1) := by decide +kernel
theorem dX3_fits_10 : decode cX3_fits 10 = .ok (.if_icmp .ge 44, 3) := by decide +kernel
theorem dX3_fits_13 : decode cX3_fits 13 = .ok (.aload_n 0, 1) := by decide +kernel
theorem dX3_fits_14 : decode cX3_fits 14 = .ok (.getfield 9, 3) := by decide +kernel
theorem dX3_fits_17 : decode cX3_fits 17 = .ok (.iload_n 2, 1) := by decide +kernel
theorem dX3_fits_18 : decode cX3_fits 18 = .ok (.laload, 1) := by decide +kernel
theorem dX3_fits_19 : decode cX3_fits 19 = .ok (.lconst 0, 1) := by decide +kernel
theorem dX3_fits_20 : decode cX3_fits 20 = .ok (.lcmp, 1) := by decide +kernel
theorem dX3_fits_21 : decode cX3_fits 21 = .ok (.ifCond .eq 27, 3) := by decide +kernel
theorem dX3_fits_24 : decode cX3_fits 24 = .ok (.iinc 1 1, 3) := by decide +kernel
theorem dX3_fits_27 : decode cX3_fits 27 = .ok (.iload_n 2, 1) := by decide +kernel
theorem dX3_fits_28 : decode cX3_fits 28 = .ok (.bipush 99, 2) := by decide +kernel
theorem dX3_fits_30 : decode cX3_fits 30 = .ok (.if_icmp .gt 16, 3) := by decide +kernel
theorem dX3_fits_33 : decode cX3_fits 33 = .ok (.aload_n 0, 1) := by decide +kernel
theorem dX3_fits_34 : decode cX3_fits 34 = .ok (.getfield 9, 3) := by decide +kernel
theorem dX3_fits_37 : decode cX3_fits 37 = .ok (.iload_n 2, 1) := by decide +kernel
theorem dX3_fits_38 : decode cX3_fits 38 = .ok (.laload, 1) := by decide +kernel
theorem dX3_fits_39 : decode cX3_fits 39 = .ok (.ldc2_w 42, 3) := by decide +kernel
theorem dX3_fits_42 : decode cX3_fits 42 = .ok (.lcmp, 1) := by decide +kernel
theorem dX3_fits_43 : decode cX3_fits 43 = .ok (.ifCond .le 5, 3) := by decide +kernel
theorem dX3_fits_46 : decode cX3_fits 46 = .ok (.iconst 0, 1) := by decide +kernel
theorem dX3_fits_47 : decode cX3_fits 47 = .ok (.ireturn, 1) := by decide +kernel
theorem dX3_fits_48 : decode cX3_fits 48 = .ok (.iinc 2 1, 3) := by decide +kernel
theorem dX3_fits_51 : decode cX3_fits 51 = .ok (.goto (-47), 3) := by decide +kernel
theorem dX3_fits_54 : decode cX3_fits 54 = .ok (.iload_n 1, 1) := by decide +kernel
theorem dX3_fits_55 : decode cX3_fits 55 = .ok (.bipush 8, 2) := by decide +kernel
theorem dX3_fits_57 : decode cX3_fits 57 = .ok (.if_icmp .gt 7, 3) := by decide +kernel
theorem dX3_fits_60 : decode cX3_fits 60 = .ok (.iconst 1, 1) := by decide +kernel
theorem dX3_fits_61 : decode cX3_fits 61 = .ok (.goto 4, 3) := by decide +kernel
theorem dX3_fits_64 : decode cX3_fits 64 = .ok (.iconst 0, 1) := by decide +kernel
theorem dX3_fits_65 : decode cX3_fits 65 = .ok (.ireturn, 1) := by decide +kernel
theorem dX4_init_0 : decode cX4_init 0 = .ok (.aload_n 0, 1) := by decide +kernel
theorem dX4_init_1 : decode cX4_init 1 = .ok (.invokespecial 3, 3) := by decide +kernel
theorem dX4_init_4 : decode cX4_init 4 = .ok (.aload_n 0, 1) := by decide +kernel
theorem dX4_init_5 : decode cX4_init 5 = .ok (.bipush 10, 2) := by decide +kernel
theorem dX4_init_7 : decode cX4_init 7 = .ok (.newarray .int, 2) := by decide +kernel
theorem dX4_init_9 : decode cX4_init 9 = .ok (.putfield 9, 3) := by decide +kernel
theorem dX4_init_12 : decode cX4_init 12 = .ok (.aload_n 0, 1) := by decide +kernel
theorem dX4_init_13 : decode cX4_init 13 = .ok (.bipush 10, 2) := by decide +kernel
theorem dX4_init_15 : decode cX4_init 15 = .ok (.newarray .int, 2) := by decide +kernel
theorem dX4_init_17 : decode cX4_init 17 = .ok (.putfield 15, 3) := by decide +kernel
theorem dX4_init_20 : decode cX4_init 20 = .ok (.aload_n 0, 1) := by decide +kernel
theorem dX4_init_21 : decode cX4_init 21 = .ok (.bipush 10, 2) := by decide +kernel
theorem dX4_init_23 : decode cX4_init 23 = .ok (.anewarray 18, 3) := by decide +kernel
theorem dX4_init_26 : decode cX4_init 26 = .ok (.putfield 20, 3) := by decide +kernel
theorem dX4_init_29 : decode cX4_init 29 = .ok (.aload_n 0, 1) := by decide +kernel
theorem dX4_init_30 : decode cX4_init 30 = .ok (.bipush 10, 2) := by decide +kernel
theorem dX4_init_32 : decode cX4_init 32 = .ok (.newarray .boolean, 2) := by decide +kernel
theorem dX4_init_34 : decode cX4_init 34 = .ok (.putfield 24, 3) := by decide +kernel
theorem dX4_init_37 : decode cX4_init 37 = .ok (.aload_n 0, 1) := by decide +kernel
theorem dX4_init_38 : decode cX4_init 38 = .ok (.iconst 0, 1) := by decide +kernel
theorem dX4_init_39 : decode cX4_init 39 = .ok (.putfield 28, 3) := by decide +kernel
theorem dX4_init_42 : decode cX4_init 42 = .ok (.iconst 0, 1) := by decide +kernel
theorem dX4_init_43 : decode cX4_init 43 = .ok (.istore_n 1, 1) := by decide +kernel
theorem dX4_init_44 : decode cX4_init 44 = .ok (.iload_n 1, 1) := by decide +kernel
theorem dX4_init_45 : decode cX4_init 45 = .ok (.bipush 10, 2) := by decide +kernel
theorem dX4_init_47 : decode cX4_init 47 = .ok (.if_icmp .ge 22, 3) := by decide +kernel
theorem dX4_init_50 : decode cX4_init 50 = .ok (.aload_n 0, 1) := by decide +kernel
theorem dX4_init_51 : decode cX4_init 51 = .ok (.getfield 20, 3) := by decide +kernel
theorem dX4_init_54 : decode cX4_init 54 = .ok (.iload_n 1, 1) := by decide +kernel
theorem dX4_init_55 : decode cX4_init 55 = .ok (.new 18, 3) := by decide +kernel
theorem dX4_init_58 : decode cX4_init 58 = .ok (.dup, 1) := by decide +kernel
theorem dX4_init_59 : decode cX4_init 59 = .ok (.invokespecial 32, 3) := by decide +kernel
theorem dX4_init_62 : decode cX4_init 62 = .ok (.aastore, 1) := by decide +kernel
theorem dX4_init_63 : decode cX4_init 63 = .ok (.iinc 1 1, 3) := by decide +kernel
theorem dX4_init_66 : decode cX4_init 66 = .ok (.goto (-22), 3) := by decide +kernel
theorem dX4_init_69 : decode cX4_init 69 = .ok (.return_, 1) := by decide +kernel
theorem dX4_add_0 : decode cX4_add 0 = .ok (.iload_n 2, 1) := by decide +kernel
theorem dX4_add_1 : decode cX4_add 1 = .ok (.iconst 1, 1) := by decide +kernel
theorem dX4_add_2 : decode cX4_add 2 = .ok (.if_icmp .lt 12, 3) := by decide +kernel
theorem dX4_add_5 : decode cX4_add 5 = .ok (.iload_n 1, 1) := by decide +kernel
theorem dX4_add_6 : decode cX4_add 6 = .ok (.ifCond .lt 8, 3) := by decide +kernel
theorem dX4_add_9 : decode cX4_add 9 = .ok (.iload_n 1, 1) := by decide +kernel
theorem dX4_add_10 : decode cX4_add 10 = .ok (.iload_n 2, 1) := by decide +kernel
theorem dX4_add_11 : decode cX4_add 11 = .ok (.if_icmp .le 4, 3) := by decide +kernel
theorem dX4_add_14 : decode cX4_add 14 = .ok (.return_, 1) := by decide +kernel
theorem dX4_add_15 : decode cX4_add 15 = .ok (.bipush 10, 2) := by decide +kernel
theorem dX4_add_17 : decode cX4_add 17 = .ok (.iload_n 1, 1) := by decide +kernel
theorem dX4_add_18 : decode cX4_add 18 = .ok (.imul, 1) := by decide +kernel
theorem dX4_add_19 : decode cX4_add 19 = .ok (.iload_n 2, 1) := by decide +kernel
theorem dX4_add_20 : decode cX4_add 20 = .ok (.idiv, 1) := by decide +kernel
theorem dX4_add_21 : decode cX4_add 21 = .ok (.bipush 9, 2) := by decide +kernel
theorem dX4_add_23 : decode cX4_add 23 = .ok (.invokestatic 33, 3) := by decide +kernel
theorem dX4_add_26 : decode cX4_add 26 = .ok (.istore 4, 2) := by decide +kernel
theorem dX4_add_28 : decode cX4_add 28 = .ok (.aload_n 0, 1) := by decide +kernel
theorem dX4_add_29 : decode cX4_add 29 = .ok (.dup, 1) := by decide +kernel
theorem dX4_add_30 : decode cX4_add 30 = .ok (.getfield 28, 3) := by decide +kernel
theorem dX4_add_33 : decode cX4_add 33 = .ok (.iconst 1, 1) := by decide +kernel
theorem dX4_add_34 : decode cX4_add 34 = .ok (.iadd, 1) := by decide +kernel
theorem dX4_add_35 : decode cX4_add 35 = .ok (.putfield 28, 3) := by decide +kernel
theorem dX4_add_38 : decode cX4_add 38 = .ok (.aload_n 0, 1) := by decide +kernel
theorem dX4_add_39 : decode cX4_add 39 = .ok (.getfield 9, 3) := by decide +kernel
theorem dX4_add_42 : decode cX4_add 42 = .ok (.iload 4, 2) := by decide +kernel
theorem dX4_add_44 : decode cX4_add 44 = .ok (.dup2, 1) := by decide +kernel
theorem dX4_add_45 : decode cX4_add 45 = .ok (.iaload, 1) := by decide +kernel
theorem dX4_add_46 : decode cX4_add 46 = .ok (.iconst 1, 1) := by decide +kernel
theorem dX4_add_47 : decode cX4_add 47 = .ok (.iadd, 1) := by decide +kernel
theorem dX4_add_48 : decode cX4_add 48 = .ok (.iastore, 1) := by decide +kernel
theorem dX4_add_49 : decode cX4_add 49 = .ok (.iload_n 3, 1) := by decide +kernel
theorem dX4_add_50 : decode cX4_add 50 = .ok (.ifCond .eq 14, 3) := by decide +kernel
theorem dX4_add_53 : decode cX4_add 53 = .ok (.aload_n 0, 1) := by decide +kernel
theorem dX4_add_54 : decode cX4_add 54 = .ok (.getfield 15, 3) := by decide +kernel
theorem dX4_add_57 : decode cX4_add 57 = .ok (.iload 4, 2) := by decide +kernel
theorem dX4_add_59 : decode cX4_add 59 = .ok (.dup2, 1) := by decide +kernel
theorem dX4_add_60 : decode cX4_add 60 = .ok (.iaload, 1) := by decide +kernel
theorem dX4_add_61 : decode cX4_add 61 = .ok (.iconst 1, 1) := by decide +kernel
theorem dX4_add_62 : decode cX4_add 62 = .ok (.iadd, 1) := by decide +kernel
theorem dX4_add_63 : decode cX4_add 63 = .ok (.iastore, 1) := by decide +kernel
theorem dX4_add_64 : decode cX4_add 64 = .ok (.aload_n 0, 1) := by decide +kernel
theorem dX4_add_65 : decode cX4_add 65 = .ok (.getfield 24, 3) := by decide +kernel
theorem dX4_add_68 : decode cX4_add 68 = .ok (.iload 4, 2) := by decide +kernel
theorem dX4_add_70 : decode cX4_add 70 = .ok (.baload, 1) := by decide +kernel
theorem dX4_add_71 : decode cX4_add 71 = .ok (.ifCond .ne 63, 3) := by decide +kernel
theorem dX4_add_74 : decode cX4_add 74 = .ok (.aload_n 0, 1) := by decide +kernel
theorem dX4_add_75 : decode cX4_add 75 = .ok (.getfield 20, 3) := by decide +kernel
theorem dX4_add_78 : decode cX4_add 78 = .ok (.iload 4, 2) := by decide +kernel
theorem dX4_add_80 : decode cX4_add 80 = .ok (.aaload, 1) := by decide +kernel
theorem dX4_add_81 : decode cX4_add 81 = .ok (.iload_n 1, 1) := by decide +kernel
theorem dX4_add_82 : decode cX4_add 82 = .ok (.i2l, 1) := by decide +kernel
theorem dX4_add_83 : decode cX4_add 83 = .ok (.iload_n 2, 1) := by decide +kernel
theorem dX4_add_84 : decode cX4_add 84 = .ok (.i2l, 1) := by decide +kernel
theorem dX4_add_85 : decode cX4_add 85 = .ok (.invokevirtual 39, 3) := by decide +kernel
theorem dX4_add_88 : decode cX4_add 88 = .ok (.aload_n 0, 1) := by decide +kernel
theorem dX4_add_89 : decode cX4_add 89 = .ok (.getfield 24, 3) := by decide +kernel
theorem dX4_add_92 : decode cX4_add 92 = .ok (.iload 4, 2) := by decide +kernel
theorem dX4_add_94 : decode cX4_add 94 = .ok (.aload_n 0, 1) := by decide +kernel
theorem dX4_add_95 : decode cX4_add 95 = .ok (.getfield 20, 3) := by decide +kernel
theorem dX4_add_98 : decode cX4_add 98 = .ok (.iload 4, 2) := by decide +kernel
theorem dX4_add_100 : decode cX4_add 100 = .ok (.aaload, 1) := by decide +kernel
theorem dX4_add_101 : decode cX4_add 101 = .ok (.getfield 43, 3) := by decide +kernel
theorem dX4_add_104 : decode cX4_add 104 = .ok (.ldc2_w 47, 3) := by decide +kernel
theorem dX4_add_107 : decode cX4_add 107 = .ok (.lcmp, 1) := by decide +kernel
theorem dX4_add_108 : decode cX4_add 108 = .ok (.ifCond .gt 20, 3) := by decide +kernel
theorem dX4_add_111 : decode cX4_add 111 = .ok (.aload_n 0, 1) := by decide +kernel
theorem dX4_add_112 : decode cX4_add 112 = .ok (.getfield 20, 3) := by decide +kernel
theorem dX4_add_115 : decode cX4_add 115 = .ok (.iload 4, 2) := by decide +kernel
theorem dX4_add_117 : decode cX4_add 117 = .ok (.aaload, 1) := by decide +kernel
theorem dX4_add_118 : decode cX4_add 118 = .ok (.getfield 49, 3) := by decide +kernel
theorem dX4_add_121 : decode cX4_add 121 = .ok (.ldc2_w 47, 3) := by decide +kernel
theorem dX4_add_124 : decode cX4_add 124 = .ok (.lcmp, 1) := by decide +kernel
theorem dX4_add_125 : decode cX4_add 125 = .ok (.ifCond .le 7, 3) := by decide +kernel
theorem dX4_add_128 : decode cX4_add 128 = .ok (.iconst 1, 1) := by decide +kernel
theorem dX4_add_129 : decode cX4_add 129 = .ok (.goto 4, 3) := by decide +kernel
theorem dX4_add_132 : decode cX4_add 132 = .ok (.iconst 0, 1) := by decide +kernel
theorem dX4_add_133 : decode cX4_add 133 = .ok (.bastore, 1) := by decide +kernel
theorem dX4_add_134 : decode cX4_add 134 = .ok (.return_, 1) := by decide +kernel
theorem dX5_init_0 : decode cX5_init 0 = .ok (.aload_n 0, 1) := by decide +kernel
theorem dX5_init_1 : decode cX5_init 1 = .ok (.invokespecial 3, 3) := by decide +kernel
theorem dX5_init_4 : decode cX5_init 4 = .ok (.aload_n 0, 1) := by decide +kernel
theorem dX5_init_5 : decode cX5_init 5 = .ok (.bipush 40, 2) := by decide +kernel
theorem dX5_init_7 : decode cX5_init 7 = .ok (.newarray .long, 2) := by decide +kernel
theorem dX5_init_9 : decode cX5_init 9 = .ok (.putfield 9, 3) := by decide +kernel
theorem dX5_init_12 : decode cX5_init 12 = .ok (.aload_n 0, 1) := by decide +kernel
theorem dX5_init_13 : decode cX5_init 13 = .ok (.iconst (-1), 1) := by decide +kernel
theorem dX5_init_14 : decode cX5_init 14 = .ok (.putfield 15, 3) := by decide +kernel
theorem dX5_init_17 : decode cX5_init 17 = .ok (.aload_n 0, 1) := by decide +kernel
theorem dX5_init_18 : decode cX5_init 18 = .ok (.iconst 0, 1) := by decide +kernel
theorem dX5_init_19 : decode cX5_init 19 = .ok (.putfield 19, 3) := by decide +kernel
theorem dX5_init_22 : decode cX5_init 22 = .ok (.return_, 1) := by decide +kernel
theorem dX5_isMissing_0 : decode cX5_isMissing 0 = .ok (.aload_n 0, 1) := by decide +kernel
theorem dX5_isMissing_1 : decode cX5_isMissing 1 = .ok (.getfield 15, 3) := by decide +kernel
theorem dX5_isMissing_4 : decode cX5_isMissing 4 = .ok (.iconst (-1), 1) := by decide +kernel
theorem dX5_isMissing_5 : decode cX5_isMissing 5 = .ok (.if_icmp .ne 7, 3) := by decide +kernel
theorem dX5_isMissing_8 : decode cX5_isMissing 8 = .ok (.iconst 1, 1) := by decide +kernel
theorem dX5_isMissing_9 : decode cX5_isMissing 9 = .ok (.goto 4, 3) := by decide +kernel
theorem dX5_isMissing_12 : decode cX5_isMissing 12 = .ok (.iconst 0, 1) := by decide +kernel
theorem dX5_isMissing_13 : decode cX5_isMissing 13 = .ok (.ireturn, 1) := by decide +kernel
theorem dX5_layOut_0 : decode cX5_layOut 0 = .ok (.aload_n 0, 1) := by decide +kernel
theorem dX5_layOut_1 : decode cX5_layOut 1 = .ok (.getfield 9, 3) := by decide +kernel
theorem dX5_layOut_4 : decode cX5_layOut 4 = .ok (.lconst 0, 1) := by decide +kernel
theorem dX5_layOut_5 : decode cX5_layOut 5 = .ok (.invokestatic 22, 3) := by decide +kernel
theorem dX5_layOut_8 : decode cX5_layOut 8 = .ok (.aload_n 0, 1) := by decide +kernel
theorem dX5_layOut_9 : decode cX5_layOut 9 = .ok (.iload_n 1, 1) := by decide +kernel
theorem dX5_layOut_10 : decode cX5_layOut 10 = .ok (.putfield 15, 3) := by decide +kernel
theorem dX5_layOut_13 : decode cX5_layOut 13 = .ok (.aload_n 0, 1) := by decide +kernel
theorem dX5_layOut_14 : decode cX5_layOut 14 = .ok (.iload_n 2, 1) := by decide +kernel
theorem dX5_layOut_15 : decode cX5_layOut 15 = .ok (.putfield 19, 3) := by decide +kernel
theorem dX5_layOut_18 : decode cX5_layOut 18 = .ok (.return_, 1) := by decide +kernel
theorem dX5_has_0 : decode cX5_has 0 = .ok (.iload_n 1, 1) := by decide +kernel
theorem dX5_has_1 : decode cX5_has 1 = .ok (.ifCond .lt 15, 3) := by decide +kernel
theorem dX5_has_4 : decode cX5_has 4 = .ok (.iload_n 1, 1) := by decide +kernel
theorem dX5_has_5 : decode cX5_has 5 = .ok (.aload_n 0, 1) := by decide +kernel
theorem dX5_has_6 : decode cX5_has 6 = .ok (.getfield 19, 3) := by decide +kernel
theorem dX5_has_9 : decode cX5_has 9 = .ok (.if_icmp .ge 7, 3) := by decide +kernel
theorem dX5_has_12 : decode cX5_has 12 = .ok (.iconst 1, 1) := by decide +kernel
theorem dX5_has_13 : decode cX5_has 13 = .ok (.goto 4, 3) := by decide +kernel
theorem dX5_has_16 : decode cX5_has 16 = .ok (.iconst 0, 1) := by decide +kernel
theorem dX5_has_17 : decode cX5_has 17 = .ok (.ireturn, 1) := by decide +kernel
theorem dX5_hasRun_0 : decode cX5_hasRun 0 = .ok (.iload_n 1, 1) := by decide +kernel
theorem dX5_hasRun_1 : decode cX5_hasRun 1 = .ok (.ifCond .lt 21, 3) := by decide +kernel
theorem dX5_hasRun_4 : decode cX5_hasRun 4 = .ok (.iload_n 2, 1) := by decide +kernel
theorem dX5_hasRun_5 : decode cX5_hasRun 5 = .ok (.ifCond .lt 17, 3) := by decide +kernel
theorem dX5_hasRun_8 : decode cX5_hasRun 8 = .ok (.iload_n 1, 1) := by decide +kernel
theorem dX5_hasRun_9 : decode cX5_hasRun 9 = .ok (.aload_n 0, 1) := by decide +kernel
theorem dX5_hasRun_10 : decode cX5_hasRun 10 = .ok (.getfield 19, 3) := by decide +kernel
theorem dX5_hasRun_13 : decode cX5_hasRun 13 = .ok (.iload_n 2, 1) := by decide +kernel
theorem dX5_hasRun_14 : decode cX5_hasRun 14 = .ok (.isub, 1) := by decide +kernel
theorem dX5_hasRun_15 : decode cX5_hasRun 15 = .ok (.if_icmp .gt 7, 3) := by decide +kernel
theorem dX5_hasRun_18 : decode cX5_hasRun 18 = .ok (.iconst 1, 1) := by decide +kernel
theorem dX5_hasRun_19 : decode cX5_hasRun 19 = .ok (.goto 4, 3) := by decide +kernel
theorem dX5_hasRun_22 : decode cX5_hasRun 22 = .ok (.iconst 0, 1) := by decide +kernel
theorem dX5_hasRun_23 : decode cX5_hasRun 23 = .ok (.ireturn, 1) := by decide +kernel
theorem dX5_numberAt_0 : decode cX5_numberAt 0 = .ok (.aload_n 0, 1) := by decide +kernel
theorem dX5_numberAt_1 : decode cX5_numberAt 1 = .ok (.iload_n 1, 1) := by decide +kernel
theorem dX5_numberAt_2 : decode cX5_numberAt 2 = .ok (.invokevirtual 28, 3) := by decide +kernel
theorem dX5_numberAt_5 : decode cX5_numberAt 5 = .ok (.ifCond .eq 12, 3) := by decide +kernel
theorem dX5_numberAt_8 : decode cX5_numberAt 8 = .ok (.aload_n 0, 1) := by decide +kernel
theorem dX5_numberAt_9 : decode cX5_numberAt 9 = .ok (.getfield 9, 3) := by decide +kernel
theorem dX5_numberAt_12 : decode cX5_numberAt 12 = .ok (.iload_n 1, 1) := by decide +kernel
theorem dX5_numberAt_13 : decode cX5_numberAt 13 = .ok (.laload, 1) := by decide +kernel
theorem dX5_numberAt_14 : decode cX5_numberAt 14 = .ok (.goto 4, 3) := by decide +kernel
theorem dX5_numberAt_17 : decode cX5_numberAt 17 = .ok (.lconst 0, 1) := by decide +kernel
theorem dX5_numberAt_18 : decode cX5_numberAt 18 = .ok (.lreturn, 1) := by decide +kernel
theorem dX5_put_0 : decode cX5_put 0 = .ok (.aload_n 0, 1) := by decide +kernel
theorem dX5_put_1 : decode cX5_put 1 = .ok (.iload_n 1, 1) := by decide +kernel
theorem dX5_put_2 : decode cX5_put 2 = .ok (.invokevirtual 28, 3) := by decide +kernel
theorem dX5_put_5 : decode cX5_put 5 = .ok (.ifCond .eq 14, 3) := by decide +kernel
theorem dX5_put_8 : decode cX5_put 8 = .ok (.aload_n 0, 1) := by decide +kernel
theorem dX5_put_9 : decode cX5_put 9 = .ok (.getfield 9, 3) := by decide +kernel
theorem dX5_put_12 : decode cX5_put 12 = .ok (.iload_n 1, 1) := by decide +kernel
theorem dX5_put_13 : decode cX5_put 13 = .ok (.aload_n 0, 1) := by decide +kernel
theorem dX5_put_14 : decode cX5_put 14 = .ok (.lload_n 2, 1) := by decide +kernel
theorem dX5_put_15 : decode cX5_put 15 = .ok (.invokevirtual 32, 3) := by decide +kernel
theorem dX5_put_18 : decode cX5_put 18 = .ok (.lastore, 1) := by decide +kernel
theorem dX5_put_19 : decode cX5_put 19 = .ok (.return_, 1) := by decide +kernel
theorem dX5_cut_0 : decode cX5_cut 0 = .ok (.aload_n 0, 1) := by decide +kernel
theorem dX5_cut_1 : decode cX5_cut 1 = .ok (.getfield 15, 3) := by decide +kernel
theorem dX5_cut_4 : decode cX5_cut 4 = .ok (.tableswitch 42 0 2 #[28, 33, 38], 28) := by decide +kernel
theorem dX5_cut_32 : decode cX5_cut 32 = .ok (.lload_n 1, 1) := by decide +kernel
theorem dX5_cut_33 : decode cX5_cut 33 = .ok (.l2i, 1) := by decide +kernel
theorem dX5_cut_34 : decode cX5_cut 34 = .ok (.i2b, 1) := by decide +kernel
theorem dX5_cut_35 : decode cX5_cut 35 = .ok (.i2l, 1) := by decide +kernel
theorem dX5_cut_36 : decode cX5_cut 36 = .ok (.lreturn, 1) := by decide +kernel
theorem dX5_cut_37 : decode cX5_cut 37 = .ok (.lload_n 1, 1) := by decide +kernel
theorem dX5_cut_38 : decode cX5_cut 38 = .ok (.l2i, 1) := by decide +kernel
theorem dX5_cut_39 : decode cX5_cut 39 = .ok (.i2s, 1) := by decide +kernel
theorem dX5_cut_40 : decode cX5_cut 40 = .ok (.i2l, 1) := by decide +kernel
theorem dX5_cut_41 : decode cX5_cut 41 = .ok (.lreturn, 1) := by decide +kernel
theorem dX5_cut_42 : decode cX5_cut 42 = .ok (.lload_n 1, 1) := by decide +kernel
theorem dX5_cut_43 : decode cX5_cut 43 = .ok (.l2i, 1) := by decide +kernel
theorem dX5_cut_44 : decode cX5_cut 44 = .ok (.i2l, 1) := by decide +kernel
theorem dX5_cut_45 : decode cX5_cut 45 = .ok (.lreturn, 1) := by decide +kernel
theorem dX5_cut_46 : decode cX5_cut 46 = .ok (.lload_n 1, 1) := by decide +kernel
theorem dX5_cut_47 : decode cX5_cut 47 = .ok (.lreturn, 1) := by decide +kernel
theorem dX5_holdsRows_0 : decode cX5_holdsRows 0 = .ok (.ldc2_w 36, 3) := by decide +kernel
theorem dX5_holdsRows_3 : decode cX5_holdsRows 3 = .ok (.lstore_n 2, 1) := by decide +kernel
theorem dX5_holdsRows_4 : decode cX5_holdsRows 4 = .ok (.iconst 0, 1) := by decide +kernel
theorem dX5_holdsRows_5 : decode cX5_holdsRows 5 = .ok (.istore 4, 2) := by decide +kernel
theorem dX5_holdsRows_7 : decode cX5_holdsRows 7 = .ok (.iload 4, 2) := by decide +kernel
theorem dX5_holdsRows_9 : decode cX5_holdsRows 9 = .ok (.iload_n 1, 1) := by decide +kernel
theorem dX5_holdsRows_10 : decode cX5_holdsRows 10 = .ok (.if_icmp .ge 68, 3) := by decide +kernel
theorem dX5_holdsRows_13 : decode cX5_holdsRows 13 = .ok (.aload_n 0, 1) := by decide +kernel
theorem dX5_holdsRows_14 : decode cX5_holdsRows 14 = .ok (.iconst 2, 1) := by decide +kernel
theorem dX5_holdsRows_15 : decode cX5_holdsRows 15 = .ok (.iload 4, 2) := by decide +kernel
theorem dX5_holdsRows_17 : decode cX5_holdsRows 17 = .ok (.imul, 1) := by decide +kernel
theorem dX5_holdsRows_18 : decode cX5_holdsRows 18 = .ok (.invokevirtual 38, 3) := by decide +kernel
theorem dX5_holdsRows_21 : decode cX5_holdsRows 21 = .ok (.lstore 5, 2) := by decide +kernel
theorem dX5_holdsRows_23 : decode cX5_holdsRows 23 = .ok (.aload_n 0, 1) := by decide +kernel
theorem dX5_holdsRows_24 : decode cX5_holdsRows 24 = .ok (.iconst 2, 1) := by decide +kernel
theorem dX5_holdsRows_25 : decode cX5_holdsRows 25 = .ok (.iload 4, 2) := by decide +kernel
theorem dX5_holdsRows_27 : decode cX5_holdsRows 27 = .ok (.imul, 1) := by decide +kernel
theorem dX5_holdsRows_28 : decode cX5_holdsRows 28 = .ok (.iconst 1, 1) := by decide +kernel
theorem dX5_holdsRows_29 : decode cX5_holdsRows 29 = .ok (.iadd, 1) := by decide +kernel
theorem dX5_holdsRows_30 : decode cX5_holdsRows 30 = .ok (.invokevirtual 38, 3) := by decide +kernel
theorem dX5_holdsRows_33 : decode cX5_holdsRows 33 = .ok (.lstore 7, 2) := by decide +kernel
theorem dX5_holdsRows_35 : decode cX5_holdsRows 35 = .ok (.lload 5, 2) := by decide +kernel
theorem dX5_holdsRows_37 : decode cX5_holdsRows 37 = .ok (.lload_n 2, 1) := by decide +kernel
theorem dX5_holdsRows_38 : decode cX5_holdsRows 38 = .ok (.lcmp, 1) := by decide +kernel
theorem dX5_holdsRows_39 : decode cX5_holdsRows 39 = .ok (.ifCond .le 28, 3) := by decide +kernel
theorem dX5_holdsRows_42 : decode cX5_holdsRows 42 = .ok (.lload 5, 2) := by decide +kernel
theorem dX5_holdsRows_44 : decode cX5_holdsRows 44 = .ok (.ldc2_w 42, 3) := by decide +kernel
theorem dX5_holdsRows_47 : decode cX5_holdsRows 47 = .ok (.lcmp, 1) := by decide +kernel
theorem dX5_holdsRows_48 : decode cX5_holdsRows 48 = .ok (.ifCond .gt 19, 3) := by decide +kernel
theorem dX5_holdsRows_51 : decode cX5_holdsRows 51 = .ok (.lload 7, 2) := by decide +kernel
theorem dX5_holdsRows_53 : decode cX5_holdsRows 53 = .ok (.lconst 1, 1) := by decide +kernel
theorem dX5_holdsRows_54 : decode cX5_holdsRows 54 = .ok (.lcmp, 1) := by decide +kernel
theorem dX5_holdsRows_55 : decode cX5_holdsRows 55 = .ok (.ifCond .lt 12, 3) := by decide +kernel
theorem dX5_holdsRows_58 : decode cX5_holdsRows 58 = .ok (.lload 7, 2) := by decide +kernel
theorem dX5_holdsRows_60 : decode cX5_holdsRows 60 = .ok (.ldc2_w 44, 3) := by decide +kernel
theorem dX5_holdsRows_63 : decode cX5_holdsRows 63 = .ok (.lcmp, 1) := by decide +kernel
theorem dX5_holdsRows_64 : decode cX5_holdsRows 64 = .ok (.ifCond .le 5, 3) := by decide +kernel
theorem dX5_holdsRows_67 : decode cX5_holdsRows 67 = .ok (.iconst 0, 1) := by decide +kernel
theorem dX5_holdsRows_68 : decode cX5_holdsRows 68 = .ok (.ireturn, 1) := by decide +kernel
theorem dX5_holdsRows_69 : decode cX5_holdsRows 69 = .ok (.lload 5, 2) := by decide +kernel
theorem dX5_holdsRows_71 : decode cX5_holdsRows 71 = .ok (.lstore_n 2, 1) := by decide +kernel
theorem dX5_holdsRows_72 : decode cX5_holdsRows 72 = .ok (.iinc 4 1, 3) := by decide +kernel
theorem dX5_holdsRows_75 : decode cX5_holdsRows 75 = .ok (.goto (-68), 3) := by decide +kernel
theorem dX5_holdsRows_78 : decode cX5_holdsRows 78 = .ok (.iconst 1, 1) := by decide +kernel
theorem dX5_holdsRows_79 : decode cX5_holdsRows 79 = .ok (.ireturn, 1) := by decide +kernel
theorem dX6_init_0 : decode cX6_init 0 = .ok (.aload_n 0, 1) := by decide +kernel
theorem dX6_init_1 : decode cX6_init 1 = .ok (.invokespecial 3, 3) := by decide +kernel
theorem dX6_init_4 : decode cX6_init 4 = .ok (.aload_n 0, 1) := by decide +kernel
theorem dX6_init_5 : decode cX6_init 5 = .ok (.new 9, 3) := by decide +kernel
theorem dX6_init_8 : decode cX6_init 8 = .ok (.dup, 1) := by decide +kernel
theorem dX6_init_9 : decode cX6_init 9 = .ok (.invokespecial 11, 3) := by decide +kernel
theorem dX6_init_12 : decode cX6_init 12 = .ok (.putfield 12, 3) := by decide +kernel
theorem dX6_init_15 : decode cX6_init 15 = .ok (.aload_n 0, 1) := by decide +kernel
theorem dX6_init_16 : decode cX6_init 16 = .ok (.aload_n 0, 1) := by decide +kernel
theorem dX6_init_17 : decode cX6_init 17 = .ok (.getfield 12, 3) := by decide +kernel
theorem dX6_init_20 : decode cX6_init 20 = .ok (.getfield 18, 3) := by decide +kernel
theorem dX6_init_23 : decode cX6_init 23 = .ok (.putfield 22, 3) := by decide +kernel
theorem dX6_init_26 : decode cX6_init 26 = .ok (.aload_n 0, 1) := by decide +kernel
theorem dX6_init_27 : decode cX6_init 27 = .ok (.sipush 4951, 3) := by decide +kernel
theorem dX6_init_30 : decode cX6_init 30 = .ok (.newarray .int, 2) := by decide +kernel
theorem dX6_init_32 : decode cX6_init 32 = .ok (.putfield 23, 3) := by decide +kernel
theorem dX6_init_35 : decode cX6_init 35 = .ok (.aload_n 0, 1) := by decide +kernel
theorem dX6_init_36 : decode cX6_init 36 = .ok (.iconst 0, 1) := by decide +kernel
theorem dX6_init_37 : decode cX6_init 37 = .ok (.newarray .int, 2) := by decide +kernel
theorem dX6_init_39 : decode cX6_init 39 = .ok (.putfield 27, 3) := by decide +kernel
theorem dX6_init_42 : decode cX6_init 42 = .ok (.aload_n 0, 1) := by decide +kernel
theorem dX6_init_43 : decode cX6_init 43 = .ok (.iconst 0, 1) := by decide +kernel
theorem dX6_init_44 : decode cX6_init 44 = .ok (.newarray .int, 2) := by decide +kernel
theorem dX6_init_46 : decode cX6_init 46 = .ok (.putfield 30, 3) := by decide +kernel
theorem dX6_init_49 : decode cX6_init 49 = .ok (.aload_n 0, 1) := by decide +kernel
theorem dX6_init_50 : decode cX6_init 50 = .ok (.iconst 1, 1) := by decide +kernel
theorem dX6_init_51 : decode cX6_init 51 = .ok (.putfield 33, 3) := by decide +kernel
theorem dX6_init_54 : decode cX6_init 54 = .ok (.aload_n 0, 1) := by decide +kernel
theorem dX6_init_55 : decode cX6_init 55 = .ok (.iconst 0, 1) := by decide +kernel
theorem dX6_init_56 : decode cX6_init 56 = .ok (.putfield 37, 3) := by decide +kernel
theorem dX6_init_59 : decode cX6_init 59 = .ok (.aload_n 0, 1) := by decide +kernel
theorem dX6_init_60 : decode cX6_init 60 = .ok (.iconst 0, 1) := by decide +kernel
theorem dX6_init_61 : decode cX6_init 61 = .ok (.putfield 41, 3) := by decide +kernel
theorem dX6_init_64 : decode cX6_init 64 = .ok (.aload_n 0, 1) := by decide +kernel
theorem dX6_init_65 : decode cX6_init 65 = .ok (.lconst 0, 1) := by decide +kernel
theorem dX6_init_66 : decode cX6_init 66 = .ok (.putfield 44, 3) := by decide +kernel
theorem dX6_init_69 : decode cX6_init 69 = .ok (.aload_n 0, 1) := by decide +kernel
theorem dX6_init_70 : decode cX6_init 70 = .ok (.lconst 0, 1) := by decide +kernel
theorem dX6_init_71 : decode cX6_init 71 = .ok (.putfield 48, 3) := by decide +kernel
theorem dX6_init_74 : decode cX6_init 74 = .ok (.return_, 1) := by decide +kernel
theorem dX6_refresh_0 : decode cX6_refresh 0 = .ok (.aload_n 0, 1) := by decide +kernel
theorem dX6_refresh_1 : decode cX6_refresh 1 = .ok (.getfield 33, 3) := by decide +kernel
theorem dX6_refresh_4 : decode cX6_refresh 4 = .ok (.ifCond .ne 4, 3) := by decide +kernel
theorem dX6_refresh_7 : decode cX6_refresh 7 = .ok (.return_, 1) := by decide +kernel
theorem dX6_refresh_8 : decode cX6_refresh 8 = .ok (.aload_n 0, 1) := by decide +kernel
theorem dX6_refresh_9 : decode cX6_refresh 9 = .ok (.aload_n 0, 1) := by decide +kernel
theorem dX6_refresh_10 : decode cX6_refresh 10 = .ok (.getfield 22, 3) := by decide +kernel
theorem dX6_refresh_13 : decode cX6_refresh 13 = .ok (.invokevirtual 51, 3) := by decide +kernel
theorem dX6_refresh_16 : decode cX6_refresh 16 = .ok (.putfield 37, 3) := by decide +kernel
theorem dX6_refresh_19 : decode cX6_refresh 19 = .ok (.aload_n 0, 1) := by decide +kernel
theorem dX6_refresh_20 : decode cX6_refresh 20 = .ok (.invokevirtual 57, 3) := by decide +kernel
theorem dX6_refresh_23 : decode cX6_refresh 23 = .ok (.aload_n 0, 1) := by decide +kernel
theorem dX6_refresh_24 : decode cX6_refresh 24 = .ok (.lconst 0, 1) := by decide +kernel
theorem dX6_refresh_25 : decode cX6_refresh 25 = .ok (.putfield 44, 3) := by decide +kernel
theorem dX6_refresh_28 : decode cX6_refresh 28 = .ok (.aload_n 0, 1) := by decide +kernel
theorem dX6_refresh_29 : decode cX6_refresh 29 = .ok (.iconst 0, 1) := by decide +kernel
theorem dX6_refresh_30 : decode cX6_refresh 30 = .ok (.putfield 41, 3) := by decide +kernel
theorem dX6_refresh_33 : decode cX6_refresh 33 = .ok (.aload_n 0, 1) := by decide +kernel
theorem dX6_refresh_34 : decode cX6_refresh 34 = .ok (.getfield 12, 3) := by decide +kernel
theorem dX6_refresh_37 : decode cX6_refresh 37 = .ok (.invokevirtual 60, 3) := by decide +kernel
theorem dX6_refresh_40 : decode cX6_refresh 40 = .ok (.iconst 0, 1) := by decide +kernel
theorem dX6_refresh_41 : decode cX6_refresh 41 = .ok (.istore_n 1, 1) := by decide +kernel
theorem dX6_refresh_42 : decode cX6_refresh 42 = .ok (.iload_n 1, 1) := by decide +kernel
theorem dX6_refresh_43 : decode cX6_refresh 43 = .ok (.aload_n 0, 1) := by decide +kernel
theorem dX6_refresh_44 : decode cX6_refresh 44 = .ok (.getfield 37, 3) := by decide +kernel
theorem dX6_refresh_47 : decode cX6_refresh 47 = .ok (.if_icmp .ge 93, 3) := by decide +kernel
theorem dX6_refresh_50 : decode cX6_refresh 50 = .ok (.aload_n 0, 1) := by decide +kernel
theorem dX6_refresh_51 : decode cX6_refresh 51 = .ok (.getfield 12, 3) := by decide +kernel
theorem dX6_refresh_54 : decode cX6_refresh 54 = .ok (.iconst (-1), 1) := by decide +kernel
theorem dX6_refresh_55 : decode cX6_refresh 55 = .ok (.invokevirtual 63, 3) := by decide +kernel
theorem dX6_refresh_58 : decode cX6_refresh 58 = .ok (.istore_n 2, 1) := by decide +kernel
theorem dX6_refresh_59 : decode cX6_refresh 59 = .ok (.aload_n 0, 1) := by decide +kernel
theorem dX6_refresh_60 : decode cX6_refresh 60 = .ok (.getfield 12, 3) := by decide +kernel
theorem dX6_refresh_63 : decode cX6_refresh 63 = .ok (.invokevirtual 67, 3) := by decide +kernel
theorem dX6_refresh_66 : decode cX6_refresh 66 = .ok (.istore_n 3, 1) := by decide +kernel
theorem dX6_refresh_67 : decode cX6_refresh 67 = .ok (.aload_n 0, 1) := by decide +kernel
theorem dX6_refresh_68 : decode cX6_refresh 68 = .ok (.getfield 12, 3) := by decide +kernel
theorem dX6_refresh_71 : decode cX6_refresh 71 = .ok (.invokevirtual 70, 3) := by decide +kernel
theorem dX6_refresh_74 : decode cX6_refresh 74 = .ok (.istore 4, 2) := by decide +kernel
theorem dX6_refresh_76 : decode cX6_refresh 76 = .ok (.aload_n 0, 1) := by decide +kernel
theorem dX6_refresh_77 : decode cX6_refresh 77 = .ok (.getfield 30, 3) := by decide +kernel
theorem dX6_refresh_80 : decode cX6_refresh 80 = .ok (.iload_n 1, 1) := by decide +kernel
theorem dX6_refresh_81 : decode cX6_refresh 81 = .ok (.iload_n 3, 1) := by decide +kernel
theorem dX6_refresh_82 : decode cX6_refresh 82 = .ok (.iastore, 1) := by decide +kernel
theorem dX6_refresh_83 : decode cX6_refresh 83 = .ok (.aload_n 0, 1) := by decide +kernel
theorem dX6_refresh_84 : decode cX6_refresh 84 = .ok (.getfield 27, 3) := by decide +kernel
theorem dX6_refresh_87 : decode cX6_refresh 87 = .ok (.iload_n 1, 1) := by decide +kernel
theorem dX6_refresh_88 : decode cX6_refresh 88 = .ok (.iload 4, 2) := by decide +kernel
theorem dX6_refresh_90 : decode cX6_refresh 90 = .ok (.ifCond .eq 7, 3) := by decide +kernel
theorem dX6_refresh_93 : decode cX6_refresh 93 = .ok (.iload_n 2, 1) := by decide +kernel
theorem dX6_refresh_94 : decode cX6_refresh 94 = .ok (.goto 4, 3) := by decide +kernel
theorem dX6_refresh_97 : decode cX6_refresh 97 = .ok (.iconst (-1), 1) := by decide +kernel
theorem dX6_refresh_98 : decode cX6_refresh 98 = .ok (.iastore, 1) := by decide +kernel
theorem dX6_refresh_99 : decode cX6_refresh 99 = .ok (.iload 4, 2) := by decide +kernel
theorem dX6_refresh_101 : decode cX6_refresh 101 = .ok (.ifCond .eq 26, 3) := by decide +kernel
theorem dX6_refresh_104 : decode cX6_refresh 104 = .ok (.aload_n 0, 1) := by decide +kernel
theorem dX6_refresh_105 : decode cX6_refresh 105 = .ok (.dup, 1) := by decide +kernel
theorem dX6_refresh_106 : decode cX6_refresh 106 = .ok (.getfield 44, 3) := by decide +kernel
theorem dX6_refresh_109 : decode cX6_refresh 109 = .ok (.iload_n 3, 1) := by decide +kernel
theorem dX6_refresh_110 : decode cX6_refresh 110 = .ok (.i2l, 1) := by decide +kernel
theorem dX6_refresh_111 : decode cX6_refresh 111 = .ok (.ladd, 1) := by decide +kernel
theorem dX6_refresh_112 : decode cX6_refresh 112 = .ok (.putfield 44, 3) := by decide +kernel
theorem dX6_refresh_115 : decode cX6_refresh 115 = .ok (.aload_n 0, 1) := by decide +kernel
theorem dX6_refresh_116 : decode cX6_refresh 116 = .ok (.aload_n 0, 1) := by decide +kernel
theorem dX6_refresh_117 : decode cX6_refresh 117 = .ok (.getfield 41, 3) := by decide +kernel
theorem dX6_refresh_120 : decode cX6_refresh 120 = .ok (.iload_n 2, 1) := by decide +kernel
theorem dX6_refresh_121 : decode cX6_refresh 121 = .ok (.invokestatic 74, 3) := by decide +kernel
theorem dX6_refresh_124 : decode cX6_refresh 124 = .ok (.putfield 41, 3) := by decide +kernel
theorem dX6_refresh_127 : decode cX6_refresh 127 = .ok (.aload_n 0, 1) := by decide +kernel
theorem dX6_refresh_128 : decode cX6_refresh 128 = .ok (.getfield 12, 3) := by decide +kernel
theorem dX6_refresh_131 : decode cX6_refresh 131 = .ok (.invokevirtual 80, 3) := by decide +kernel
theorem dX6_refresh_134 : decode cX6_refresh 134 = .ok (.iinc 1 1, 3) := by decide +kernel
theorem dX6_refresh_137 : decode cX6_refresh 137 = .ok (.goto (-95), 3) := by decide +kernel
theorem dX6_refresh_140 : decode cX6_refresh 140 = .ok (.aload_n 0, 1) := by decide +kernel
theorem dX6_refresh_141 : decode cX6_refresh 141 = .ok (.iconst 0, 1) := by decide +kernel
theorem dX6_refresh_142 : decode cX6_refresh 142 = .ok (.putfield 33, 3) := by decide +kernel
theorem dX6_refresh_145 : decode cX6_refresh 145 = .ok (.return_, 1) := by decide +kernel
theorem dX6_makeRoom_0 : decode cX6_makeRoom 0 = .ok (.aload_n 0, 1) := by decide +kernel
theorem dX6_makeRoom_1 : decode cX6_makeRoom 1 = .ok (.getfield 27, 3) := by decide +kernel
theorem dX6_makeRoom_4 : decode cX6_makeRoom 4 = .ok (.arraylength, 1) := by decide +kernel
theorem dX6_makeRoom_5 : decode cX6_makeRoom 5 = .ok (.aload_n 0, 1) := by decide +kernel
theorem dX6_makeRoom_6 : decode cX6_makeRoom 6 = .ok (.getfield 37, 3) := by decide +kernel
theorem dX6_makeRoom_9 : decode cX6_makeRoom 9 = .ok (.if_icmp .ge 38, 3) := by decide +kernel
theorem dX6_makeRoom_12 : decode cX6_makeRoom 12 = .ok (.aload_n 0, 1) := by decide +kernel
theorem dX6_makeRoom_13 : decode cX6_makeRoom 13 = .ok (.getfield 37, 3) := by decide +kernel
theorem dX6_makeRoom_16 : decode cX6_makeRoom 16 = .ok (.iconst 2, 1) := by decide +kernel
theorem dX6_makeRoom_17 : decode cX6_makeRoom 17 = .ok (.aload_n 0, 1) := by decide +kernel
theorem dX6_makeRoom_18 : decode cX6_makeRoom 18 = .ok (.getfield 27, 3) := by decide +kernel
theorem dX6_makeRoom_21 : decode cX6_makeRoom 21 = .ok (.arraylength, 1) := by decide +kernel
theorem dX6_makeRoom_22 : decode cX6_makeRoom 22 = .ok (.imul, 1) := by decide +kernel
theorem dX6_makeRoom_23 : decode cX6_makeRoom 23 = .ok (.sipush 20000, 3) := by decide +kernel
theorem dX6_makeRoom_26 : decode cX6_makeRoom 26 = .ok (.invokestatic 83, 3) := by decide +kernel
theorem dX6_makeRoom_29 : decode cX6_makeRoom 29 = .ok (.invokestatic 74, 3) := by decide +kernel
theorem dX6_makeRoom_32 : decode cX6_makeRoom 32 = .ok (.istore_n 1, 1) := by decide +kernel
theorem dX6_makeRoom_33 : decode cX6_makeRoom 33 = .ok (.aload_n 0, 1) := by decide +kernel
theorem dX6_makeRoom_34 : decode cX6_makeRoom 34 = .ok (.iload_n 1, 1) := by decide +kernel
theorem dX6_makeRoom_35 : decode cX6_makeRoom 35 = .ok (.newarray .int, 2) := by decide +kernel
theorem dX6_makeRoom_37 : decode cX6_makeRoom 37 = .ok (.putfield 27, 3) := by decide +kernel
theorem dX6_makeRoom_40 : decode cX6_makeRoom 40 = .ok (.aload_n 0, 1) := by decide +kernel
theorem dX6_makeRoom_41 : decode cX6_makeRoom 41 = .ok (.iload_n 1, 1) := by decide +kernel
theorem dX6_makeRoom_42 : decode cX6_makeRoom 42 = .ok (.newarray .int, 2) := by decide +kernel
theorem dX6_makeRoom_44 : decode cX6_makeRoom 44 = .ok (.putfield 30, 3) := by decide +kernel
theorem dX6_makeRoom_47 : decode cX6_makeRoom 47 = .ok (.return_, 1) := by decide +kernel
theorem dX6_isLeft_0 : decode cX6_isLeft 0 = .ok (.aload_n 0, 1) := by decide +kernel
theorem dX6_isLeft_1 : decode cX6_isLeft 1 = .ok (.getfield 27, 3) := by decide +kernel
theorem dX6_isLeft_4 : decode cX6_isLeft 4 = .ok (.iload_n 1, 1) := by decide +kernel
theorem dX6_isLeft_5 : decode cX6_isLeft 5 = .ok (.iaload, 1) := by decide +kernel
theorem dX6_isLeft_6 : decode cX6_isLeft 6 = .ok (.iconst (-1), 1) := by decide +kernel
theorem dX6_isLeft_7 : decode cX6_isLeft 7 = .ok (.if_icmp .eq 7, 3) := by decide +kernel
theorem dX6_isLeft_10 : decode cX6_isLeft 10 = .ok (.iconst 1, 1) := by decide +kernel
theorem dX6_isLeft_11 : decode cX6_isLeft 11 = .ok (.goto 4, 3) := by decide +kernel
theorem dX6_isLeft_14 : decode cX6_isLeft 14 = .ok (.iconst 0, 1) := by decide +kernel
theorem dX6_isLeft_15 : decode cX6_isLeft 15 = .ok (.ireturn, 1) := by decide +kernel
theorem dX6_weightEndingBy_0 : decode cX6_weightEndingBy 0 = .ok (.lconst 0, 1) := by decide +kernel
theorem dX6_weightEndingBy_1 : decode cX6_weightEndingBy 1 = .ok (.lstore_n 2, 1) := by decide +kernel
theorem dX6_weightEndingBy_2 : decode cX6_weightEndingBy 2 = .ok (.iconst 0, 1) := by decide +kernel
theorem dX6_weightEndingBy_3 : decode cX6_weightEndingBy 3 = .ok (.istore 4, 2) := by decide +kernel
theorem dX6_weightEndingBy_5 : decode cX6_weightEndingBy 5 = .ok (.iload 4, 2) := by decide +kernel
theorem dX6_weightEndingBy_7 : decode cX6_weightEndingBy 7 = .ok (.aload_n 0, 1) := by decide +kernel
theorem dX6_weightEndingBy_8 : decode cX6_weightEndingBy 8 = .ok (.getfield 37, 3) := by decide +kernel
theorem dX6_weightEndingBy_11 : decode cX6_weightEndingBy 11 = .ok (.if_icmp .ge 40, 3) := by decide +kernel
theorem dX6_weightEndingBy_14 : decode cX6_weightEndingBy 14 = .ok (.aload_n 0, 1) := by decide +kernel
theorem dX6_weightEndingBy_15 : decode cX6_weightEndingBy 15 = .ok (.iload 4, 2) := by decide +kernel
theorem dX6_weightEndingBy_17 : decode cX6_weightEndingBy 17 = .ok (.invokevirtual 86, 3) := by decide +kernel
theorem dX6_weightEndingBy_20 : decode cX6_weightEndingBy 20 = .ok (.ifCond .eq 25, 3) := by decide +kernel
theorem dX6_weightEndingBy_23 : decode cX6_weightEndingBy 23 = .ok (.aload_n 0, 1) := by decide +kernel
theorem dX6_weightEndingBy_24 : decode cX6_weightEndingBy 24 = .ok (.getfield 27, 3) := by decide +kernel
theorem dX6_weightEndingBy_27 : decode cX6_weightEndingBy 27 = .ok (.iload 4, 2) := by decide +kernel
theorem dX6_weightEndingBy_29 : decode cX6_weightEndingBy 29 = .ok (.iaload, 1) := by decide +kernel
theorem dX6_weightEndingBy_30 : decode cX6_weightEndingBy 30 = .ok (.iload_n 1, 1) := by decide +kernel
theorem dX6_weightEndingBy_31 : decode cX6_weightEndingBy 31 = .ok (.if_icmp .gt 14, 3) := by decide +kernel
theorem dX6_weightEndingBy_34 : decode cX6_weightEndingBy 34 = .ok (.lload_n 2, 1) := by decide +kernel
theorem dX6_weightEndingBy_35 : decode cX6_weightEndingBy 35 = .ok (.aload_n 0, 1) := by decide +kernel
theorem dX6_weightEndingBy_36 : decode cX6_weightEndingBy 36 = .ok (.getfield 30, 3) := by decide +kernel
theorem dX6_weightEndingBy_39 : decode cX6_weightEndingBy 39 = .ok (.iload 4, 2) := by decide +kernel
theorem dX6_weightEndingBy_41 : decode cX6_weightEndingBy 41 = .ok (.iaload, 1) := by decide +kernel
theorem dX6_weightEndingBy_42 : decode cX6_weightEndingBy 42 = .ok (.i2l, 1) := by decide +kernel
theorem dX6_weightEndingBy_43 : decode cX6_weightEndingBy 43 = .ok (.ladd, 1) := by decide +kernel
theorem dX6_weightEndingBy_44 : decode cX6_weightEndingBy 44 = .ok (.lstore_n 2, 1) := by decide +kernel
theorem dX6_weightEndingBy_45 : decode cX6_weightEndingBy 45 = .ok (.iinc 4 1, 3) := by decide +kernel
theorem dX6_weightEndingBy_48 : decode cX6_weightEndingBy 48 = .ok (.goto (-43), 3) := by decide +kernel
theorem dX6_weightEndingBy_51 : decode cX6_weightEndingBy 51 = .ok (.lload_n 2, 1) := by decide +kernel
theorem dX6_weightEndingBy_52 : decode cX6_weightEndingBy 52 = .ok (.lreturn, 1) := by decide +kernel
theorem dX6_sumOfEnds_0 : decode cX6_sumOfEnds 0 = .ok (.lconst 0, 1) := by decide +kernel
theorem dX6_sumOfEnds_1 : decode cX6_sumOfEnds 1 = .ok (.lstore_n 1, 1) := by decide +kernel
theorem dX6_sumOfEnds_2 : decode cX6_sumOfEnds 2 = .ok (.iconst 0, 1) := by decide +kernel
theorem dX6_sumOfEnds_3 : decode cX6_sumOfEnds 3 = .ok (.istore_n 3, 1) := by decide +kernel
theorem dX6_sumOfEnds_4 : decode cX6_sumOfEnds 4 = .ok (.iload_n 3, 1) := by decide +kernel
theorem dX6_sumOfEnds_5 : decode cX6_sumOfEnds 5 = .ok (.aload_n 0, 1) := by decide +kernel
theorem dX6_sumOfEnds_6 : decode cX6_sumOfEnds 6 = .ok (.getfield 37, 3) := by decide +kernel
theorem dX6_sumOfEnds_9 : decode cX6_sumOfEnds 9 = .ok (.if_icmp .ge 35, 3) := by decide +kernel
theorem dX6_sumOfEnds_12 : decode cX6_sumOfEnds 12 = .ok (.aload_n 0, 1) := by decide +kernel
theorem dX6_sumOfEnds_13 : decode cX6_sumOfEnds 13 = .ok (.iload_n 3, 1) := by decide +kernel
theorem dX6_sumOfEnds_14 : decode cX6_sumOfEnds 14 = .ok (.invokevirtual 86, 3) := by decide +kernel
theorem dX6_sumOfEnds_17 : decode cX6_sumOfEnds 17 = .ok (.ifCond .eq 21, 3) := by decide +kernel
theorem dX6_sumOfEnds_20 : decode cX6_sumOfEnds 20 = .ok (.lload_n 1, 1) := by decide +kernel
theorem dX6_sumOfEnds_21 : decode cX6_sumOfEnds 21 = .ok (.aload_n 0, 1) := by decide +kernel
theorem dX6_sumOfEnds_22 : decode cX6_sumOfEnds 22 = .ok (.getfield 30, 3) := by decide +kernel
theorem dX6_sumOfEnds_25 : decode cX6_sumOfEnds 25 = .ok (.iload_n 3, 1) := by decide +kernel
theorem dX6_sumOfEnds_26 : decode cX6_sumOfEnds 26 = .ok (.iaload, 1) := by decide +kernel
theorem dX6_sumOfEnds_27 : decode cX6_sumOfEnds 27 = .ok (.i2l, 1) := by decide +kernel
theorem dX6_sumOfEnds_28 : decode cX6_sumOfEnds 28 = .ok (.aload_n 0, 1) := by decide +kernel
theorem dX6_sumOfEnds_29 : decode cX6_sumOfEnds 29 = .ok (.getfield 27, 3) := by decide +kernel
theorem dX6_sumOfEnds_32 : decode cX6_sumOfEnds 32 = .ok (.iload_n 3, 1) := by decide +kernel
theorem dX6_sumOfEnds_33 : decode cX6_sumOfEnds 33 = .ok (.iaload, 1) := by decide +kernel
theorem dX6_sumOfEnds_34 : decode cX6_sumOfEnds 34 = .ok (.i2l, 1) := by decide +kernel
theorem dX6_sumOfEnds_35 : decode cX6_sumOfEnds 35 = .ok (.lmul, 1) := by decide +kernel
theorem dX6_sumOfEnds_36 : decode cX6_sumOfEnds 36 = .ok (.ladd, 1) := by decide +kernel
theorem dX6_sumOfEnds_37 : decode cX6_sumOfEnds 37 = .ok (.lstore_n 1, 1) := by decide +kernel
theorem dX6_sumOfEnds_38 : decode cX6_sumOfEnds 38 = .ok (.iinc 3 1, 3) := by decide +kernel
theorem dX6_sumOfEnds_41 : decode cX6_sumOfEnds 41 = .ok (.goto (-37), 3) := by decide +kernel
theorem dX6_sumOfEnds_44 : decode cX6_sumOfEnds 44 = .ok (.lload_n 1, 1) := by decide +kernel
theorem dX6_sumOfEnds_45 : decode cX6_sumOfEnds 45 = .ok (.lreturn, 1) := by decide +kernel
theorem dX6_weightWithPartBy_0 : decode cX6_weightWithPartBy 0 = .ok (.lconst 0, 1) := by decide +kernel
theorem dX6_weightWithPartBy_1 : decode cX6_weightWithPartBy 1 = .ok (.lstore_n 3, 1) := by decide +kernel
theorem dX6_weightWithPartBy_2 : decode cX6_weightWithPartBy 2 = .ok (.aload_n 0, 1) := by decide +kernel
theorem dX6_weightWithPartBy_3 : decode cX6_weightWithPartBy 3 = .ok (.getfield 12, 3) := by decide +kernel
theorem dX6_weightWithPartBy_6 : decode cX6_weightWithPartBy 6 = .ok (.invokevirtual 60, 3) := by decide +kernel
theorem dX6_weightWithPartBy_9 : decode cX6_weightWithPartBy 9 = .ok (.iconst 0, 1) := by decide +kernel
theorem dX6_weightWithPartBy_10 : decode cX6_weightWithPartBy 10 = .ok (.istore 5, 2) := by decide +kernel
theorem dX6_weightWithPartBy_12 : decode cX6_weightWithPartBy 12 = .ok (.iload 5, 2) := by decide +kernel
theorem dX6_weightWithPartBy_14 : decode cX6_weightWithPartBy 14 = .ok (.aload_n 0, 1) := by decide +kernel
theorem dX6_weightWithPartBy_15 : decode cX6_weightWithPartBy 15 = .ok (.getfield 37, 3) := by decide +kernel
theorem dX6_weightWithPartBy_18 : decode cX6_weightWithPartBy 18 = .ok (.if_icmp .ge 58, 3) := by decide +kernel
theorem dX6_weightWithPartBy_21 : decode cX6_weightWithPartBy 21 = .ok (.aload_n 0, 1) := by decide +kernel
theorem dX6_weightWithPartBy_22 : decode cX6_weightWithPartBy 22 = .ok (.iload 5, 2) := by decide +kernel
theorem dX6_weightWithPartBy_24 : decode cX6_weightWithPartBy 24 = .ok (.invokevirtual 86, 3) := by decide +kernel
theorem dX6_weightWithPartBy_27 : decode cX6_weightWithPartBy 27 = .ok (.ifCond .eq 36, 3) := by decide +kernel
theorem dX6_weightWithPartBy_30 : decode cX6_weightWithPartBy 30 = .ok (.aload_n 0, 1) := by decide +kernel
theorem dX6_weightWithPartBy_31 : decode cX6_weightWithPartBy 31 = .ok (.getfield 12, 3) := by decide +kernel
theorem dX6_weightWithPartBy_34 : decode cX6_weightWithPartBy 34 = .ok (.iconst (-1), 1) := by decide +kernel
theorem dX6_weightWithPartBy_35 : decode cX6_weightWithPartBy 35 = .ok (.invokevirtual 63, 3) := by decide +kernel
theorem dX6_weightWithPartBy_38 : decode cX6_weightWithPartBy 38 = .ok (.pop, 1) := by decide +kernel
theorem dX6_weightWithPartBy_39 : decode cX6_weightWithPartBy 39 = .ok (.aload_n 0, 1) := by decide +kernel
theorem dX6_weightWithPartBy_40 : decode cX6_weightWithPartBy 40 = .ok (.getfield 12, 3) := by decide +kernel
theorem dX6_weightWithPartBy_43 : decode cX6_weightWithPartBy 43 = .ok (.getfield 90, 3) := by decide +kernel
theorem dX6_weightWithPartBy_46 : decode cX6_weightWithPartBy 46 = .ok (.iload_n 1, 1) := by decide +kernel
theorem dX6_weightWithPartBy_47 : decode cX6_weightWithPartBy 47 = .ok (.iaload, 1) := by decide +kernel
theorem dX6_weightWithPartBy_48 : decode cX6_weightWithPartBy 48 = .ok (.iload_n 2, 1) := by decide +kernel
theorem dX6_weightWithPartBy_49 : decode cX6_weightWithPartBy 49 = .ok (.if_icmp .gt 14, 3) := by decide +kernel
theorem dX6_weightWithPartBy_52 : decode cX6_weightWithPartBy 52 = .ok (.lload_n 3, 1) := by decide +kernel
theorem dX6_weightWithPartBy_53 : decode cX6_weightWithPartBy 53 = .ok (.aload_n 0, 1) := by decide +kernel
theorem dX6_weightWithPartBy_54 : decode cX6_weightWithPartBy 54 = .ok (.getfield 30, 3) := by decide +kernel
theorem dX6_weightWithPartBy_57 : decode cX6_weightWithPartBy 57 = .ok (.iload 5, 2) := by decide +kernel
theorem dX6_weightWithPartBy_59 : decode cX6_weightWithPartBy 59 = .ok (.iaload, 1) := by decide +kernel
theorem dX6_weightWithPartBy_60 : decode cX6_weightWithPartBy 60 = .ok (.i2l, 1) := by decide +kernel
theorem dX6_weightWithPartBy_61 : decode cX6_weightWithPartBy 61 = .ok (.ladd, 1) := by decide +kernel
theorem dX6_weightWithPartBy_62 : decode cX6_weightWithPartBy 62 = .ok (.lstore_n 3, 1) := by decide +kernel
theorem dX6_weightWithPartBy_63 : decode cX6_weightWithPartBy 63 = .ok (.aload_n 0, 1) := by decide +kernel
theorem dX6_weightWithPartBy_64 : decode cX6_weightWithPartBy 64 = .ok (.getfield 12, 3) := by decide +kernel
theorem dX6_weightWithPartBy_67 : decode cX6_weightWithPartBy 67 = .ok (.invokevirtual 80, 3) := by decide +kernel
theorem dX6_weightWithPartBy_70 : decode cX6_weightWithPartBy 70 = .ok (.iinc 5 1, 3) := by decide +kernel
theorem dX6_weightWithPartBy_73 : decode cX6_weightWithPartBy 73 = .ok (.goto (-61), 3) := by decide +kernel
theorem dX6_weightWithPartBy_76 : decode cX6_weightWithPartBy 76 = .ok (.lload_n 3, 1) := by decide +kernel
theorem dX6_weightWithPartBy_77 : decode cX6_weightWithPartBy 77 = .ok (.lreturn, 1) := by decide +kernel
theorem dX6_weightMovedBy_0 : decode cX6_weightMovedBy 0 = .ok (.lconst 0, 1) := by decide +kernel
theorem dX6_weightMovedBy_1 : decode cX6_weightMovedBy 1 = .ok (.lstore_n 2, 1) := by decide +kernel
theorem dX6_weightMovedBy_2 : decode cX6_weightMovedBy 2 = .ok (.aload_n 0, 1) := by decide +kernel
theorem dX6_weightMovedBy_3 : decode cX6_weightMovedBy 3 = .ok (.getfield 12, 3) := by decide +kernel
theorem dX6_weightMovedBy_6 : decode cX6_weightMovedBy 6 = .ok (.invokevirtual 60, 3) := by decide +kernel
theorem dX6_weightMovedBy_9 : decode cX6_weightMovedBy 9 = .ok (.iconst 0, 1) := by decide +kernel
theorem dX6_weightMovedBy_10 : decode cX6_weightMovedBy 10 = .ok (.istore 4, 2) := by decide +kernel
theorem dX6_weightMovedBy_12 : decode cX6_weightMovedBy 12 = .ok (.iload 4, 2) := by decide +kernel
theorem dX6_weightMovedBy_14 : decode cX6_weightMovedBy 14 = .ok (.aload_n 0, 1) := by decide +kernel
theorem dX6_weightMovedBy_15 : decode cX6_weightMovedBy 15 = .ok (.getfield 37, 3) := by decide +kernel
theorem dX6_weightMovedBy_18 : decode cX6_weightMovedBy 18 = .ok (.if_icmp .ge 54, 3) := by decide +kernel
theorem dX6_weightMovedBy_21 : decode cX6_weightMovedBy 21 = .ok (.aload_n 0, 1) := by decide +kernel
theorem dX6_weightMovedBy_22 : decode cX6_weightMovedBy 22 = .ok (.iload 4, 2) := by decide +kernel
theorem dX6_weightMovedBy_24 : decode cX6_weightMovedBy 24 = .ok (.invokevirtual 86, 3) := by decide +kernel
theorem dX6_weightMovedBy_27 : decode cX6_weightMovedBy 27 = .ok (.ifCond .eq 32, 3) := by decide +kernel
theorem dX6_weightMovedBy_30 : decode cX6_weightMovedBy 30 = .ok (.aload_n 0, 1) := by decide +kernel
theorem dX6_weightMovedBy_31 : decode cX6_weightMovedBy 31 = .ok (.getfield 12, 3) := by decide +kernel
theorem dX6_weightMovedBy_34 : decode cX6_weightMovedBy 34 = .ok (.iload_n 1, 1) := by decide +kernel
theorem dX6_weightMovedBy_35 : decode cX6_weightMovedBy 35 = .ok (.invokevirtual 63, 3) := by decide +kernel
theorem dX6_weightMovedBy_38 : decode cX6_weightMovedBy 38 = .ok (.aload_n 0, 1) := by decide +kernel
theorem dX6_weightMovedBy_39 : decode cX6_weightMovedBy 39 = .ok (.getfield 27, 3) := by decide +kernel
theorem dX6_weightMovedBy_42 : decode cX6_weightMovedBy 42 = .ok (.iload 4, 2) := by decide +kernel
theorem dX6_weightMovedBy_44 : decode cX6_weightMovedBy 44 = .ok (.iaload, 1) := by decide +kernel
theorem dX6_weightMovedBy_45 : decode cX6_weightMovedBy 45 = .ok (.if_icmp .le 14, 3) := by decide +kernel
theorem dX6_weightMovedBy_48 : decode cX6_weightMovedBy 48 = .ok (.lload_n 2, 1) := by decide +kernel
theorem dX6_weightMovedBy_49 : decode cX6_weightMovedBy 49 = .ok (.aload_n 0, 1) := by decide +kernel
theorem dX6_weightMovedBy_50 : decode cX6_weightMovedBy 50 = .ok (.getfield 30, 3) := by decide +kernel
theorem dX6_weightMovedBy_53 : decode cX6_weightMovedBy 53 = .ok (.iload 4, 2) := by decide +kernel
theorem dX6_weightMovedBy_55 : decode cX6_weightMovedBy 55 = .ok (.iaload, 1) := by decide +kernel
theorem dX6_weightMovedBy_56 : decode cX6_weightMovedBy 56 = .ok (.i2l, 1) := by decide +kernel
theorem dX6_weightMovedBy_57 : decode cX6_weightMovedBy 57 = .ok (.ladd, 1) := by decide +kernel
theorem dX6_weightMovedBy_58 : decode cX6_weightMovedBy 58 = .ok (.lstore_n 2, 1) := by decide +kernel
theorem dX6_weightMovedBy_59 : decode cX6_weightMovedBy 59 = .ok (.aload_n 0, 1) := by decide +kernel
theorem dX6_weightMovedBy_60 : decode cX6_weightMovedBy 60 = .ok (.getfield 12, 3) := by decide +kernel
theorem dX6_weightMovedBy_63 : decode cX6_weightMovedBy 63 = .ok (.invokevirtual 80, 3) := by decide +kernel
theorem dX6_weightMovedBy_66 : decode cX6_weightMovedBy 66 = .ok (.iinc 4 1, 3) := by decide +kernel
theorem dX6_weightMovedBy_69 : decode cX6_weightMovedBy 69 = .ok (.goto (-57), 3) := by decide +kernel
theorem dX6_weightMovedBy_72 : decode cX6_weightMovedBy 72 = .ok (.lload_n 2, 1) := by decide +kernel
theorem dX6_weightMovedBy_73 : decode cX6_weightMovedBy 73 = .ok (.lreturn, 1) := by decide +kernel
theorem dX6_leastDayAtRisk_0 : decode cX6_leastDayAtRisk 0 = .ok (.aload_n 0, 1) := by decide +kernel
theorem dX6_leastDayAtRisk_1 : decode cX6_leastDayAtRisk 1 = .ok (.invokevirtual 93, 3) := by decide +kernel
theorem dX6_leastDayAtRisk_4 : decode cX6_leastDayAtRisk 4 = .ok (.aload_n 0, 1) := by decide +kernel
theorem dX6_leastDayAtRisk_5 : decode cX6_leastDayAtRisk 5 = .ok (.getfield 44, 3) := by decide +kernel
theorem dX6_leastDayAtRisk_8 : decode cX6_leastDayAtRisk 8 = .ok (.lstore_n 3, 1) := by decide +kernel
theorem dX6_leastDayAtRisk_9 : decode cX6_leastDayAtRisk 9 = .ok (.iconst 0, 1) := by decide +kernel
theorem dX6_leastDayAtRisk_10 : decode cX6_leastDayAtRisk 10 = .ok (.istore 5, 2) := by decide +kernel
theorem dX6_leastDayAtRisk_12 : decode cX6_leastDayAtRisk 12 = .ok (.iload 5, 2) := by decide +kernel
theorem dX6_leastDayAtRisk_14 : decode cX6_leastDayAtRisk 14 = .ok (.aload_n 0, 1) := by decide +kernel
theorem dX6_leastDayAtRisk_15 : decode cX6_leastDayAtRisk 15 = .ok (.getfield 41, 3) := by decide +kernel
theorem dX6_leastDayAtRisk_18 : decode cX6_leastDayAtRisk 18 = .ok (.if_icmp .ge 46, 3) := by decide +kernel
theorem dX6_leastDayAtRisk_21 : decode cX6_leastDayAtRisk 21 = .ok (.iload 5, 2) := by decide +kernel
theorem dX6_leastDayAtRisk_23 : decode cX6_leastDayAtRisk 23 = .ok (.sipush 4950, 3) := by decide +kernel
theorem dX6_leastDayAtRisk_26 : decode cX6_leastDayAtRisk 26 = .ok (.if_icmp .gt 38, 3) := by decide +kernel
theorem dX6_leastDayAtRisk_29 : decode cX6_leastDayAtRisk 29 = .ok (.lload_n 3, 1) := by decide +kernel
theorem dX6_leastDayAtRisk_30 : decode cX6_leastDayAtRisk 30 = .ok (.aload_n 0, 1) := by decide +kernel
theorem dX6_leastDayAtRisk_31 : decode cX6_leastDayAtRisk 31 = .ok (.getfield 23, 3) := by decide +kernel
theorem dX6_leastDayAtRisk_34 : decode cX6_leastDayAtRisk 34 = .ok (.iload 5, 2) := by decide +kernel
theorem dX6_leastDayAtRisk_36 : decode cX6_leastDayAtRisk 36 = .ok (.iaload, 1) := by decide +kernel
theorem dX6_leastDayAtRisk_37 : decode cX6_leastDayAtRisk 37 = .ok (.i2l, 1) := by decide +kernel
theorem dX6_leastDayAtRisk_38 : decode cX6_leastDayAtRisk 38 = .ok (.lsub, 1) := by decide +kernel
theorem dX6_leastDayAtRisk_39 : decode cX6_leastDayAtRisk 39 = .ok (.lstore_n 3, 1) := by decide +kernel
theorem dX6_leastDayAtRisk_40 : decode cX6_leastDayAtRisk 40 = .ok (.lload_n 3, 1) := by decide +kernel
theorem dX6_leastDayAtRisk_41 : decode cX6_leastDayAtRisk 41 = .ok (.iload_n 2, 1) := by decide +kernel
theorem dX6_leastDayAtRisk_42 : decode cX6_leastDayAtRisk 42 = .ok (.i2l, 1) := by decide +kernel
theorem dX6_leastDayAtRisk_43 : decode cX6_leastDayAtRisk 43 = .ok (.lmul, 1) := by decide +kernel
theorem dX6_leastDayAtRisk_44 : decode cX6_leastDayAtRisk 44 = .ok (.iload_n 1, 1) := by decide +kernel
theorem dX6_leastDayAtRisk_45 : decode cX6_leastDayAtRisk 45 = .ok (.i2l, 1) := by decide +kernel
theorem dX6_leastDayAtRisk_46 : decode cX6_leastDayAtRisk 46 = .ok (.aload_n 0, 1) := by decide +kernel
theorem dX6_leastDayAtRisk_47 : decode cX6_leastDayAtRisk 47 = .ok (.getfield 44, 3) := by decide +kernel
theorem dX6_leastDayAtRisk_50 : decode cX6_leastDayAtRisk 50 = .ok (.lmul, 1) := by decide +kernel
theorem dX6_leastDayAtRisk_51 : decode cX6_leastDayAtRisk 51 = .ok (.lcmp, 1) := by decide +kernel
theorem dX6_leastDayAtRisk_52 : decode cX6_leastDayAtRisk 52 = .ok (.ifCond .gt 6, 3) := by decide +kernel
theorem dX6_leastDayAtRisk_55 : decode cX6_leastDayAtRisk 55 = .ok (.iload 5, 2) := by decide +kernel
theorem dX6_leastDayAtRisk_57 : decode cX6_leastDayAtRisk 57 = .ok (.ireturn, 1) := by decide +kernel
theorem dX6_leastDayAtRisk_58 : decode cX6_leastDayAtRisk 58 = .ok (.iinc 5 1, 3) := by decide +kernel
theorem dX6_leastDayAtRisk_61 : decode cX6_leastDayAtRisk 61 = .ok (.goto (-49), 3) := by decide +kernel
theorem dX6_leastDayAtRisk_64 : decode cX6_leastDayAtRisk 64 = .ok (.aload_n 0, 1) := by decide +kernel
theorem dX6_leastDayAtRisk_65 : decode cX6_leastDayAtRisk 65 = .ok (.getfield 41, 3) := by decide +kernel
theorem dX6_leastDayAtRisk_68 : decode cX6_leastDayAtRisk 68 = .ok (.ireturn, 1) := by decide +kernel
theorem dX6_gatherAll_0 : decode cX6_gatherAll 0 = .ok (.aload_n 0, 1) := by decide +kernel
theorem dX6_gatherAll_1 : decode cX6_gatherAll 1 = .ok (.invokevirtual 96, 3) := by decide +kernel
theorem dX6_gatherAll_4 : decode cX6_gatherAll 4 = .ok (.iconst 0, 1) := by decide +kernel
theorem dX6_gatherAll_5 : decode cX6_gatherAll 5 = .ok (.istore_n 1, 1) := by decide +kernel
theorem dX6_gatherAll_6 : decode cX6_gatherAll 6 = .ok (.iload_n 1, 1) := by decide +kernel
theorem dX6_gatherAll_7 : decode cX6_gatherAll 7 = .ok (.aload_n 0, 1) := by decide +kernel
theorem dX6_gatherAll_8 : decode cX6_gatherAll 8 = .ok (.getfield 37, 3) := by decide +kernel
theorem dX6_gatherAll_11 : decode cX6_gatherAll 11 = .ok (.if_icmp .ge 14, 3) := by decide +kernel
theorem dX6_gatherAll_14 : decode cX6_gatherAll 14 = .ok (.aload_n 0, 1) := by decide +kernel
theorem dX6_gatherAll_15 : decode cX6_gatherAll 15 = .ok (.iload_n 1, 1) := by decide +kernel
theorem dX6_gatherAll_16 : decode cX6_gatherAll 16 = .ok (.invokevirtual 99, 3) := by decide +kernel
theorem dX6_gatherAll_19 : decode cX6_gatherAll 19 = .ok (.iinc 1 1, 3) := by decide +kernel
theorem dX6_gatherAll_22 : decode cX6_gatherAll 22 = .ok (.goto (-16), 3) := by decide +kernel
theorem dX6_gatherAll_25 : decode cX6_gatherAll 25 = .ok (.return_, 1) := by decide +kernel
theorem dX6_gatherRow_0 : decode cX6_gatherRow 0 = .ok (.aload_n 0, 1) := by decide +kernel
theorem dX6_gatherRow_1 : decode cX6_gatherRow 1 = .ok (.invokevirtual 96, 3) := by decide +kernel
theorem dX6_gatherRow_4 : decode cX6_gatherRow 4 = .ok (.aload_n 0, 1) := by decide +kernel
theorem dX6_gatherRow_5 : decode cX6_gatherRow 5 = .ok (.getfield 22, 3) := by decide +kernel
theorem dX6_gatherRow_8 : decode cX6_gatherRow 8 = .ok (.iload_n 1, 1) := by decide +kernel
theorem dX6_gatherRow_9 : decode cX6_gatherRow 9 = .ok (.invokevirtual 103, 3) := by decide +kernel
theorem dX6_gatherRow_12 : decode cX6_gatherRow 12 = .ok (.istore_n 3, 1) := by decide +kernel
theorem dX6_gatherRow_13 : decode cX6_gatherRow 13 = .ok (.iload_n 3, 1) := by decide +kernel
theorem dX6_gatherRow_14 : decode cX6_gatherRow 14 = .ok (.aload_n 0, 1) := by decide +kernel
theorem dX6_gatherRow_15 : decode cX6_gatherRow 15 = .ok (.getfield 22, 3) := by decide +kernel
theorem dX6_gatherRow_18 : decode cX6_gatherRow 18 = .ok (.getfield 106, 3) := by decide +kernel
theorem dX6_gatherRow_21 : decode cX6_gatherRow 21 = .ok (.iload_n 1, 1) := by decide +kernel
theorem dX6_gatherRow_22 : decode cX6_gatherRow 22 = .ok (.aaload, 1) := by decide +kernel
theorem dX6_gatherRow_23 : decode cX6_gatherRow 23 = .ok (.getfield 110, 3) := by decide +kernel
theorem dX6_gatherRow_26 : decode cX6_gatherRow 26 = .ok (.imul, 1) := by decide +kernel
theorem dX6_gatherRow_27 : decode cX6_gatherRow 27 = .ok (.istore 4, 2) := by decide +kernel
theorem dX6_gatherRow_29 : decode cX6_gatherRow 29 = .ok (.iload 4, 2) := by decide +kernel
theorem dX6_gatherRow_31 : decode cX6_gatherRow 31 = .ok (.iconst 1, 1) := by decide +kernel
theorem dX6_gatherRow_32 : decode cX6_gatherRow 32 = .ok (.if_icmp .ge 4, 3) := by decide +kernel
theorem dX6_gatherRow_35 : decode cX6_gatherRow 35 = .ok (.return_, 1) := by decide +kernel
theorem dX6_gatherRow_36 : decode cX6_gatherRow 36 = .ok (.iload_n 2, 1) := by decide +kernel
theorem dX6_gatherRow_37 : decode cX6_gatherRow 37 = .ok (.iload_n 3, 1) := by decide +kernel
theorem dX6_gatherRow_38 : decode cX6_gatherRow 38 = .ok (.imul, 1) := by decide +kernel
theorem dX6_gatherRow_39 : decode cX6_gatherRow 39 = .ok (.istore 5, 2) := by decide +kernel
theorem dX6_gatherRow_41 : decode cX6_gatherRow 41 = .ok (.iload 5, 2) := by decide +kernel
theorem dX6_gatherRow_43 : decode cX6_gatherRow 43 = .ok (.aload_n 0, 1) := by decide +kernel
theorem dX6_gatherRow_44 : decode cX6_gatherRow 44 = .ok (.getfield 37, 3) := by decide +kernel
theorem dX6_gatherRow_47 : decode cX6_gatherRow 47 = .ok (.if_icmp .ge 47, 3) := by decide +kernel
theorem dX6_gatherRow_50 : decode cX6_gatherRow 50 = .ok (.iload 5, 2) := by decide +kernel
theorem dX6_gatherRow_52 : decode cX6_gatherRow 52 = .ok (.istore 6, 2) := by decide +kernel
theorem dX6_gatherRow_54 : decode cX6_gatherRow 54 = .ok (.iload 6, 2) := by decide +kernel
theorem dX6_gatherRow_56 : decode cX6_gatherRow 56 = .ok (.iload 5, 2) := by decide +kernel
theorem dX6_gatherRow_58 : decode cX6_gatherRow 58 = .ok (.iload_n 3, 1) := by decide +kernel
theorem dX6_gatherRow_59 : decode cX6_gatherRow 59 = .ok (.iadd, 1) := by decide +kernel
theorem dX6_gatherRow_60 : decode cX6_gatherRow 60 = .ok (.if_icmp .ge 24, 3) := by decide +kernel
theorem dX6_gatherRow_63 : decode cX6_gatherRow 63 = .ok (.iload 6, 2) := by decide +kernel
theorem dX6_gatherRow_65 : decode cX6_gatherRow 65 = .ok (.aload_n 0, 1) := by decide +kernel
theorem dX6_gatherRow_66 : decode cX6_gatherRow 66 = .ok (.getfield 37, 3) := by decide +kernel
theorem dX6_gatherRow_69 : decode cX6_gatherRow 69 = .ok (.if_icmp .ge 15, 3) := by decide +kernel
theorem dX6_gatherRow_72 : decode cX6_gatherRow 72 = .ok (.aload_n 0, 1) := by decide +kernel
theorem dX6_gatherRow_73 : decode cX6_gatherRow 73 = .ok (.iload 6, 2) := by decide +kernel
theorem dX6_gatherRow_75 : decode cX6_gatherRow 75 = .ok (.invokevirtual 99, 3) := by decide +kernel
theorem dX6_gatherRow_78 : decode cX6_gatherRow 78 = .ok (.iinc 6 1, 3) := by decide +kernel
theorem dX6_gatherRow_81 : decode cX6_gatherRow 81 = .ok (.goto (-27), 3) := by decide +kernel
theorem dX6_gatherRow_84 : decode cX6_gatherRow 84 = .ok (.iload 5, 2) := by decide +kernel
theorem dX6_gatherRow_86 : decode cX6_gatherRow 86 = .ok (.iload 4, 2) := by decide +kernel
theorem dX6_gatherRow_88 : decode cX6_gatherRow 88 = .ok (.iadd, 1) := by decide +kernel
theorem dX6_gatherRow_89 : decode cX6_gatherRow 89 = .ok (.istore 5, 2) := by decide +kernel
theorem dX6_gatherRow_91 : decode cX6_gatherRow 91 = .ok (.goto (-50), 3) := by decide +kernel
theorem dX6_gatherRow_94 : decode cX6_gatherRow 94 = .ok (.return_, 1) := by decide +kernel
theorem dX6_emptyDays_0 : decode cX6_emptyDays 0 = .ok (.aload_n 0, 1) := by decide +kernel
theorem dX6_emptyDays_1 : decode cX6_emptyDays 1 = .ok (.lconst 0, 1) := by decide +kernel
theorem dX6_emptyDays_2 : decode cX6_emptyDays 2 = .ok (.putfield 48, 3) := by decide +kernel
theorem dX6_emptyDays_5 : decode cX6_emptyDays 5 = .ok (.iconst 0, 1) := by decide +kernel
theorem dX6_emptyDays_6 : decode cX6_emptyDays 6 = .ok (.istore_n 1, 1) := by decide +kernel
theorem dX6_emptyDays_7 : decode cX6_emptyDays 7 = .ok (.iload_n 1, 1) := by decide +kernel
theorem dX6_emptyDays_8 : decode cX6_emptyDays 8 = .ok (.aload_n 0, 1) := by decide +kernel
theorem dX6_emptyDays_9 : decode cX6_emptyDays 9 = .ok (.getfield 41, 3) := by decide +kernel
theorem dX6_emptyDays_12 : decode cX6_emptyDays 12 = .ok (.if_icmp .gt 23, 3) := by decide +kernel
theorem dX6_emptyDays_15 : decode cX6_emptyDays 15 = .ok (.iload_n 1, 1) := by decide +kernel
theorem dX6_emptyDays_16 : decode cX6_emptyDays 16 = .ok (.sipush 4950, 3) := by decide +kernel
theorem dX6_emptyDays_19 : decode cX6_emptyDays 19 = .ok (.if_icmp .gt 16, 3) := by decide +kernel
theorem dX6_emptyDays_22 : decode cX6_emptyDays 22 = .ok (.aload_n 0, 1) := by decide +kernel
theorem dX6_emptyDays_23 : decode cX6_emptyDays 23 = .ok (.getfield 23, 3) := by decide +kernel
theorem dX6_emptyDays_26 : decode cX6_emptyDays 26 = .ok (.iload_n 1, 1) := by decide +kernel
theorem dX6_emptyDays_27 : decode cX6_emptyDays 27 = .ok (.iconst 0, 1) := by decide +kernel
theorem dX6_emptyDays_28 : decode cX6_emptyDays 28 = .ok (.iastore, 1) := by decide +kernel
theorem dX6_emptyDays_29 : decode cX6_emptyDays 29 = .ok (.iinc 1 1, 3) := by decide +kernel
theorem dX6_emptyDays_32 : decode cX6_emptyDays 32 = .ok (.goto (-25), 3) := by decide +kernel
theorem dX6_emptyDays_35 : decode cX6_emptyDays 35 = .ok (.return_, 1) := by decide +kernel
theorem dX6_gather_0 : decode cX6_gather 0 = .ok (.aload_n 0, 1) := by decide +kernel
theorem dX6_gather_1 : decode cX6_gather 1 = .ok (.getfield 27, 3) := by decide +kernel
theorem dX6_gather_4 : decode cX6_gather 4 = .ok (.iload_n 1, 1) := by decide +kernel
theorem dX6_gather_5 : decode cX6_gather 5 = .ok (.iaload, 1) := by decide +kernel
theorem dX6_gather_6 : decode cX6_gather 6 = .ok (.istore_n 2, 1) := by decide +kernel
theorem dX6_gather_7 : decode cX6_gather 7 = .ok (.iload_n 2, 1) := by decide +kernel
theorem dX6_gather_8 : decode cX6_gather 8 = .ok (.ifCond .lt 41, 3) := by decide +kernel
theorem dX6_gather_11 : decode cX6_gather 11 = .ok (.iload_n 2, 1) := by decide +kernel
theorem dX6_gather_12 : decode cX6_gather 12 = .ok (.sipush 4950, 3) := by decide +kernel
theorem dX6_gather_15 : decode cX6_gather 15 = .ok (.if_icmp .gt 34, 3) := by decide +kernel
theorem dX6_gather_18 : decode cX6_gather 18 = .ok (.aload_n 0, 1) := by decide +kernel
theorem dX6_gather_19 : decode cX6_gather 19 = .ok (.getfield 23, 3) := by decide +kernel
theorem dX6_gather_22 : decode cX6_gather 22 = .ok (.iload_n 2, 1) := by decide +kernel
theorem dX6_gather_23 : decode cX6_gather 23 = .ok (.dup2, 1) := by decide +kernel
theorem dX6_gather_24 : decode cX6_gather 24 = .ok (.iaload, 1) := by decide +kernel
theorem dX6_gather_25 : decode cX6_gather 25 = .ok (.aload_n 0, 1) := by decide +kernel
theorem dX6_gather_26 : decode cX6_gather 26 = .ok (.getfield 30, 3) := by decide +kernel
theorem dX6_gather_29 : decode cX6_gather 29 = .ok (.iload_n 1, 1) := by decide +kernel
theorem dX6_gather_30 : decode cX6_gather 30 = .ok (.iaload, 1) := by decide +kernel
theorem dX6_gather_31 : decode cX6_gather 31 = .ok (.iadd, 1) := by decide +kernel
theorem dX6_gather_32 : decode cX6_gather 32 = .ok (.iastore, 1) := by decide +kernel
theorem dX6_gather_33 : decode cX6_gather 33 = .ok (.aload_n 0, 1) := by decide +kernel
theorem dX6_gather_34 : decode cX6_gather 34 = .ok (.dup, 1) := by decide +kernel
theorem dX6_gather_35 : decode cX6_gather 35 = .ok (.getfield 48, 3) := by decide +kernel
theorem dX6_gather_38 : decode cX6_gather 38 = .ok (.aload_n 0, 1) := by decide +kernel
theorem dX6_gather_39 : decode cX6_gather 39 = .ok (.getfield 30, 3) := by decide +kernel
theorem dX6_gather_42 : decode cX6_gather 42 = .ok (.iload_n 1, 1) := by decide +kernel
theorem dX6_gather_43 : decode cX6_gather 43 = .ok (.iaload, 1) := by decide +kernel
theorem dX6_gather_44 : decode cX6_gather 44 = .ok (.i2l, 1) := by decide +kernel
theorem dX6_gather_45 : decode cX6_gather 45 = .ok (.ladd, 1) := by decide +kernel
theorem dX6_gather_46 : decode cX6_gather 46 = .ok (.putfield 48, 3) := by decide +kernel
theorem dX6_gather_49 : decode cX6_gather 49 = .ok (.return_, 1) := by decide +kernel
theorem dX6_sumApart_0 : decode cX6_sumApart 0 = .ok (.lconst 0, 1) := by decide +kernel
theorem dX6_sumApart_1 : decode cX6_sumApart 1 = .ok (.lstore_n 1, 1) := by decide +kernel
theorem dX6_sumApart_2 : decode cX6_sumApart 2 = .ok (.lconst 0, 1) := by decide +kernel
theorem dX6_sumApart_3 : decode cX6_sumApart 3 = .ok (.lstore_n 3, 1) := by decide +kernel
theorem dX6_sumApart_4 : decode cX6_sumApart 4 = .ok (.iconst 0, 1) := by decide +kernel
theorem dX6_sumApart_5 : decode cX6_sumApart 5 = .ok (.istore 5, 2) := by decide +kernel
theorem dX6_sumApart_7 : decode cX6_sumApart 7 = .ok (.iload 5, 2) := by decide +kernel
theorem dX6_sumApart_9 : decode cX6_sumApart 9 = .ok (.aload_n 0, 1) := by decide +kernel
theorem dX6_sumApart_10 : decode cX6_sumApart 10 = .ok (.getfield 41, 3) := by decide +kernel
theorem dX6_sumApart_13 : decode cX6_sumApart 13 = .ok (.if_icmp .ge 39, 3) := by decide +kernel
theorem dX6_sumApart_16 : decode cX6_sumApart 16 = .ok (.iload 5, 2) := by decide +kernel
theorem dX6_sumApart_18 : decode cX6_sumApart 18 = .ok (.sipush 4950, 3) := by decide +kernel
theorem dX6_sumApart_21 : decode cX6_sumApart 21 = .ok (.if_icmp .gt 31, 3) := by decide +kernel
theorem dX6_sumApart_24 : decode cX6_sumApart 24 = .ok (.lload_n 1, 1) := by decide +kernel
theorem dX6_sumApart_25 : decode cX6_sumApart 25 = .ok (.aload_n 0, 1) := by decide +kernel
theorem dX6_sumApart_26 : decode cX6_sumApart 26 = .ok (.getfield 23, 3) := by decide +kernel
theorem dX6_sumApart_29 : decode cX6_sumApart 29 = .ok (.iload 5, 2) := by decide +kernel
theorem dX6_sumApart_31 : decode cX6_sumApart 31 = .ok (.iaload, 1) := by decide +kernel
theorem dX6_sumApart_32 : decode cX6_sumApart 32 = .ok (.i2l, 1) := by decide +kernel
theorem dX6_sumApart_33 : decode cX6_sumApart 33 = .ok (.ladd, 1) := by decide +kernel
theorem dX6_sumApart_34 : decode cX6_sumApart 34 = .ok (.lstore_n 1, 1) := by decide +kernel
theorem dX6_sumApart_35 : decode cX6_sumApart 35 = .ok (.lload_n 3, 1) := by decide +kernel
theorem dX6_sumApart_36 : decode cX6_sumApart 36 = .ok (.lload_n 1, 1) := by decide +kernel
theorem dX6_sumApart_37 : decode cX6_sumApart 37 = .ok (.aload_n 0, 1) := by decide +kernel
theorem dX6_sumApart_38 : decode cX6_sumApart 38 = .ok (.getfield 48, 3) := by decide +kernel
theorem dX6_sumApart_41 : decode cX6_sumApart 41 = .ok (.lload_n 1, 1) := by decide +kernel
theorem dX6_sumApart_42 : decode cX6_sumApart 42 = .ok (.lsub, 1) := by decide +kernel
theorem dX6_sumApart_43 : decode cX6_sumApart 43 = .ok (.lmul, 1) := by decide +kernel
theorem dX6_sumApart_44 : decode cX6_sumApart 44 = .ok (.ladd, 1) := by decide +kernel
theorem dX6_sumApart_45 : decode cX6_sumApart 45 = .ok (.lstore_n 3, 1) := by decide +kernel
theorem dX6_sumApart_46 : decode cX6_sumApart 46 = .ok (.iinc 5 1, 3) := by decide +kernel
theorem dX6_sumApart_49 : decode cX6_sumApart 49 = .ok (.goto (-42), 3) := by decide +kernel
theorem dX6_sumApart_52 : decode cX6_sumApart 52 = .ok (.ldc2_w 115, 3) := by decide +kernel
theorem dX6_sumApart_55 : decode cX6_sumApart 55 = .ok (.lload_n 3, 1) := by decide +kernel
theorem dX6_sumApart_56 : decode cX6_sumApart 56 = .ok (.lmul, 1) := by decide +kernel
theorem dX6_sumApart_57 : decode cX6_sumApart 57 = .ok (.lreturn, 1) := by decide +kernel
theorem dX6_sumRest_0 : decode cX6_sumRest 0 = .ok (.aload_n 2, 1) := by decide +kernel
theorem dX6_sumRest_1 : decode cX6_sumRest 1 = .ok (.lconst 0, 1) := by decide +kernel
theorem dX6_sumRest_2 : decode cX6_sumRest 2 = .ok (.lconst 1, 1) := by decide +kernel
theorem dX6_sumRest_3 : decode cX6_sumRest 3 = .ok (.invokevirtual 117, 3) := by decide +kernel
theorem dX6_sumRest_6 : decode cX6_sumRest 6 = .ok (.iconst 0, 1) := by decide +kernel
theorem dX6_sumRest_7 : decode cX6_sumRest 7 = .ok (.istore_n 3, 1) := by decide +kernel
theorem dX6_sumRest_8 : decode cX6_sumRest 8 = .ok (.iload_n 3, 1) := by decide +kernel
theorem dX6_sumRest_9 : decode cX6_sumRest 9 = .ok (.aload_n 0, 1) := by decide +kernel
theorem dX6_sumRest_10 : decode cX6_sumRest 10 = .ok (.getfield 22, 3) := by decide +kernel
theorem dX6_sumRest_13 : decode cX6_sumRest 13 = .ok (.getfield 106, 3) := by decide +kernel
theorem dX6_sumRest_16 : decode cX6_sumRest 16 = .ok (.iload_n 1, 1) := by decide +kernel
theorem dX6_sumRest_17 : decode cX6_sumRest 17 = .ok (.aaload, 1) := by decide +kernel
theorem dX6_sumRest_18 : decode cX6_sumRest 18 = .ok (.getfield 110, 3) := by decide +kernel
theorem dX6_sumRest_21 : decode cX6_sumRest 21 = .ok (.if_icmp .ge 49, 3) := by decide +kernel
theorem dX6_sumRest_24 : decode cX6_sumRest 24 = .ok (.aload_n 0, 1) := by decide +kernel
theorem dX6_sumRest_25 : decode cX6_sumRest 25 = .ok (.iload_n 1, 1) := by decide +kernel
theorem dX6_sumRest_26 : decode cX6_sumRest 26 = .ok (.iload_n 3, 1) := by decide +kernel
theorem dX6_sumRest_27 : decode cX6_sumRest 27 = .ok (.invokevirtual 123, 3) := by decide +kernel
theorem dX6_sumRest_30 : decode cX6_sumRest 30 = .ok (.aload_n 0, 1) := by decide +kernel
theorem dX6_sumRest_31 : decode cX6_sumRest 31 = .ok (.getfield 48, 3) := by decide +kernel
theorem dX6_sumRest_34 : decode cX6_sumRest 34 = .ok (.lconst 0, 1) := by decide +kernel
theorem dX6_sumRest_35 : decode cX6_sumRest 35 = .ok (.lcmp, 1) := by decide +kernel
theorem dX6_sumRest_36 : decode cX6_sumRest 36 = .ok (.ifCond .le 28, 3) := by decide +kernel
theorem dX6_sumRest_39 : decode cX6_sumRest 39 = .ok (.aload_n 2, 1) := by decide +kernel
theorem dX6_sumRest_40 : decode cX6_sumRest 40 = .ok (.aload_n 0, 1) := by decide +kernel
theorem dX6_sumRest_41 : decode cX6_sumRest 41 = .ok (.invokevirtual 127, 3) := by decide +kernel
theorem dX6_sumRest_44 : decode cX6_sumRest 44 = .ok (.aload_n 0, 1) := by decide +kernel
theorem dX6_sumRest_45 : decode cX6_sumRest 45 = .ok (.getfield 48, 3) := by decide +kernel
theorem dX6_sumRest_48 : decode cX6_sumRest 48 = .ok (.invokevirtual 131, 3) := by decide +kernel
theorem dX6_sumRest_51 : decode cX6_sumRest 51 = .ok (.aload_n 2, 1) := by decide +kernel
theorem dX6_sumRest_52 : decode cX6_sumRest 52 = .ok (.getfield 134, 3) := by decide +kernel
theorem dX6_sumRest_55 : decode cX6_sumRest 55 = .ok (.ldc2_w 137, 3) := by decide +kernel
theorem dX6_sumRest_58 : decode cX6_sumRest 58 = .ok (.lcmp, 1) := by decide +kernel
theorem dX6_sumRest_59 : decode cX6_sumRest 59 = .ok (.ifCond .le 5, 3) := by decide +kernel
theorem dX6_sumRest_62 : decode cX6_sumRest 62 = .ok (.iconst 0, 1) := by decide +kernel
theorem dX6_sumRest_63 : decode cX6_sumRest 63 = .ok (.ireturn, 1) := by decide +kernel
theorem dX6_sumRest_64 : decode cX6_sumRest 64 = .ok (.iinc 3 1, 3) := by decide +kernel
theorem dX6_sumRest_67 : decode cX6_sumRest 67 = .ok (.goto (-59), 3) := by decide +kernel
theorem dX6_sumRest_70 : decode cX6_sumRest 70 = .ok (.iconst 1, 1) := by decide +kernel
theorem dX6_sumRest_71 : decode cX6_sumRest 71 = .ok (.ireturn, 1) := by decide +kernel
theorem dX7_init_0 : decode cX7_init 0 = .ok (.aload_n 0, 1) := by decide +kernel
theorem dX7_init_1 : decode cX7_init 1 = .ok (.invokespecial 3, 3) := by decide +kernel
theorem dX7_init_4 : decode cX7_init 4 = .ok (.aload_n 0, 1) := by decide +kernel
theorem dX7_init_5 : decode cX7_init 5 = .ok (.bipush 10, 2) := by decide +kernel
theorem dX7_init_7 : decode cX7_init 7 = .ok (.anewarray 9, 3) := by decide +kernel
theorem dX7_init_10 : decode cX7_init 10 = .ok (.putfield 11, 3) := by decide +kernel
theorem dX7_init_13 : decode cX7_init 13 = .ok (.aload_n 0, 1) := by decide +kernel
theorem dX7_init_14 : decode cX7_init 14 = .ok (.iconst 4, 1) := by decide +kernel
theorem dX7_init_15 : decode cX7_init 15 = .ok (.newarray .int, 2) := by decide +kernel
theorem dX7_init_17 : decode cX7_init 17 = .ok (.putfield 17, 3) := by decide +kernel
theorem dX7_init_20 : decode cX7_init 20 = .ok (.aload_n 0, 1) := by decide +kernel
theorem dX7_init_21 : decode cX7_init 21 = .ok (.iconst 4, 1) := by decide +kernel
theorem dX7_init_22 : decode cX7_init 22 = .ok (.newarray .int, 2) := by decide +kernel
theorem dX7_init_24 : decode cX7_init 24 = .ok (.putfield 21, 3) := by decide +kernel
theorem dX7_init_27 : decode cX7_init 27 = .ok (.aload_n 0, 1) := by decide +kernel
theorem dX7_init_28 : decode cX7_init 28 = .ok (.iconst 0, 1) := by decide +kernel
theorem dX7_init_29 : decode cX7_init 29 = .ok (.putfield 24, 3) := by decide +kernel
theorem dX7_init_32 : decode cX7_init 32 = .ok (.aload_n 0, 1) := by decide +kernel
theorem dX7_init_33 : decode cX7_init 33 = .ok (.iconst 0, 1) := by decide +kernel
theorem dX7_init_34 : decode cX7_init 34 = .ok (.putfield 28, 3) := by decide +kernel
theorem dX7_init_37 : decode cX7_init 37 = .ok (.aload_n 0, 1) := by decide +kernel
theorem dX7_init_38 : decode cX7_init 38 = .ok (.bipush 30, 2) := by decide +kernel
theorem dX7_init_40 : decode cX7_init 40 = .ok (.putfield 31, 3) := by decide +kernel
theorem dX7_init_43 : decode cX7_init 43 = .ok (.aload_n 0, 1) := by decide +kernel
theorem dX7_init_44 : decode cX7_init 44 = .ok (.iconst (-1), 1) := by decide +kernel
theorem dX7_init_45 : decode cX7_init 45 = .ok (.putfield 34, 3) := by decide +kernel
theorem dX7_init_48 : decode cX7_init 48 = .ok (.iconst 0, 1) := by decide +kernel
theorem dX7_init_49 : decode cX7_init 49 = .ok (.istore_n 1, 1) := by decide +kernel
theorem dX7_init_50 : decode cX7_init 50 = .ok (.iload_n 1, 1) := by decide +kernel
theorem dX7_init_51 : decode cX7_init 51 = .ok (.bipush 10, 2) := by decide +kernel
theorem dX7_init_53 : decode cX7_init 53 = .ok (.if_icmp .ge 22, 3) := by decide +kernel
theorem dX7_init_56 : decode cX7_init 56 = .ok (.aload_n 0, 1) := by decide +kernel
theorem dX7_init_57 : decode cX7_init 57 = .ok (.getfield 11, 3) := by decide +kernel
theorem dX7_init_60 : decode cX7_init 60 = .ok (.iload_n 1, 1) := by decide +kernel
theorem dX7_init_61 : decode cX7_init 61 = .ok (.new 9, 3) := by decide +kernel
theorem dX7_init_64 : decode cX7_init 64 = .ok (.dup, 1) := by decide +kernel
theorem dX7_init_65 : decode cX7_init 65 = .ok (.invokespecial 37, 3) := by decide +kernel
theorem dX7_init_68 : decode cX7_init 68 = .ok (.aastore, 1) := by decide +kernel
theorem dX7_init_69 : decode cX7_init 69 = .ok (.iinc 1 1, 3) := by decide +kernel
theorem dX7_init_72 : decode cX7_init 72 = .ok (.goto (-22), 3) := by decide +kernel
theorem dX7_init_75 : decode cX7_init 75 = .ok (.return_, 1) := by decide +kernel
theorem dX7_forget_0 : decode cX7_forget 0 = .ok (.aload_n 0, 1) := by decide +kernel
theorem dX7_forget_1 : decode cX7_forget 1 = .ok (.iconst 0, 1) := by decide +kernel
theorem dX7_forget_2 : decode cX7_forget 2 = .ok (.putfield 24, 3) := by decide +kernel
theorem dX7_forget_5 : decode cX7_forget 5 = .ok (.aload_n 0, 1) := by decide +kernel
theorem dX7_forget_6 : decode cX7_forget 6 = .ok (.iconst 0, 1) := by decide +kernel
theorem dX7_forget_7 : decode cX7_forget 7 = .ok (.putfield 28, 3) := by decide +kernel
theorem dX7_forget_10 : decode cX7_forget 10 = .ok (.aload_n 0, 1) := by decide +kernel
theorem dX7_forget_11 : decode cX7_forget 11 = .ok (.bipush 30, 2) := by decide +kernel
theorem dX7_forget_13 : decode cX7_forget 13 = .ok (.putfield 31, 3) := by decide +kernel
theorem dX7_forget_16 : decode cX7_forget 16 = .ok (.aload_n 0, 1) := by decide +kernel
theorem dX7_forget_17 : decode cX7_forget 17 = .ok (.iconst (-1), 1) := by decide +kernel
theorem dX7_forget_18 : decode cX7_forget 18 = .ok (.putfield 34, 3) := by decide +kernel
theorem dX7_forget_21 : decode cX7_forget 21 = .ok (.return_, 1) := by decide +kernel
theorem dX7_hasPart_0 : decode cX7_hasPart 0 = .ok (.iload_n 1, 1) := by decide +kernel
theorem dX7_hasPart_1 : decode cX7_hasPart 1 = .ok (.ifCond .lt 15, 3) := by decide +kernel
theorem dX7_hasPart_4 : decode cX7_hasPart 4 = .ok (.iload_n 1, 1) := by decide +kernel
theorem dX7_hasPart_5 : decode cX7_hasPart 5 = .ok (.aload_n 0, 1) := by decide +kernel
theorem dX7_hasPart_6 : decode cX7_hasPart 6 = .ok (.getfield 24, 3) := by decide +kernel
theorem dX7_hasPart_9 : decode cX7_hasPart 9 = .ok (.if_icmp .ge 7, 3) := by decide +kernel
theorem dX7_hasPart_12 : decode cX7_hasPart 12 = .ok (.iconst 1, 1) := by decide +kernel
theorem dX7_hasPart_13 : decode cX7_hasPart 13 = .ok (.goto 4, 3) := by decide +kernel
theorem dX7_hasPart_16 : decode cX7_hasPart 16 = .ok (.iconst 0, 1) := by decide +kernel
theorem dX7_hasPart_17 : decode cX7_hasPart 17 = .ok (.ireturn, 1) := by decide +kernel
theorem dX7_addPart_0 : decode cX7_addPart 0 = .ok (.aload_n 0, 1) := by decide +kernel
theorem dX7_addPart_1 : decode cX7_addPart 1 = .ok (.getfield 24, 3) := by decide +kernel
theorem dX7_addPart_4 : decode cX7_addPart 4 = .ok (.bipush 10, 2) := by decide +kernel
theorem dX7_addPart_6 : decode cX7_addPart 6 = .ok (.if_icmp .ge 27, 3) := by decide +kernel
theorem dX7_addPart_9 : decode cX7_addPart 9 = .ok (.aload_n 0, 1) := by decide +kernel
theorem dX7_addPart_10 : decode cX7_addPart 10 = .ok (.getfield 11, 3) := by decide +kernel
theorem dX7_addPart_13 : decode cX7_addPart 13 = .ok (.aload_n 0, 1) := by decide +kernel
theorem dX7_addPart_14 : decode cX7_addPart 14 = .ok (.getfield 24, 3) := by decide +kernel
theorem dX7_addPart_17 : decode cX7_addPart 17 = .ok (.aaload, 1) := by decide +kernel
theorem dX7_addPart_18 : decode cX7_addPart 18 = .ok (.aload_n 1, 1) := by decide +kernel
theorem dX7_addPart_19 : decode cX7_addPart 19 = .ok (.iload_n 2, 1) := by decide +kernel
theorem dX7_addPart_20 : decode cX7_addPart 20 = .ok (.invokevirtual 38, 3) := by decide +kernel
theorem dX7_addPart_23 : decode cX7_addPart 23 = .ok (.aload_n 0, 1) := by decide +kernel
theorem dX7_addPart_24 : decode cX7_addPart 24 = .ok (.dup, 1) := by decide +kernel
theorem dX7_addPart_25 : decode cX7_addPart 25 = .ok (.getfield 24, 3) := by decide +kernel
theorem dX7_addPart_28 : decode cX7_addPart 28 = .ok (.iconst 1, 1) := by decide +kernel
theorem dX7_addPart_29 : decode cX7_addPart 29 = .ok (.iadd, 1) := by decide +kernel
theorem dX7_addPart_30 : decode cX7_addPart 30 = .ok (.putfield 24, 3) := by decide +kernel
theorem dX7_addPart_33 : decode cX7_addPart 33 = .ok (.return_, 1) := by decide +kernel
theorem dX7_addCause_0 : decode cX7_addCause 0 = .ok (.aload_n 0, 1) := by decide +kernel
theorem dX7_addCause_1 : decode cX7_addCause 1 = .ok (.getfield 28, 3) := by decide +kernel
theorem dX7_addCause_4 : decode cX7_addCause 4 = .ok (.iconst 4, 1) := by decide +kernel
theorem dX7_addCause_5 : decode cX7_addCause 5 = .ok (.if_icmp .ge 33, 3) := by decide +kernel
theorem dX7_addCause_8 : decode cX7_addCause 8 = .ok (.aload_n 0, 1) := by decide +kernel
theorem dX7_addCause_9 : decode cX7_addCause 9 = .ok (.getfield 17, 3) := by decide +kernel
theorem dX7_addCause_12 : decode cX7_addCause 12 = .ok (.aload_n 0, 1) := by decide +kernel
theorem dX7_addCause_13 : decode cX7_addCause 13 = .ok (.getfield 28, 3) := by decide +kernel
theorem dX7_addCause_16 : decode cX7_addCause 16 = .ok (.iload_n 1, 1) := by decide +kernel
theorem dX7_addCause_17 : decode cX7_addCause 17 = .ok (.iastore, 1) := by decide +kernel
theorem dX7_addCause_18 : decode cX7_addCause 18 = .ok (.aload_n 0, 1) := by decide +kernel
theorem dX7_addCause_19 : decode cX7_addCause 19 = .ok (.getfield 21, 3) := by decide +kernel
theorem dX7_addCause_22 : decode cX7_addCause 22 = .ok (.aload_n 0, 1) := by decide +kernel
theorem dX7_addCause_23 : decode cX7_addCause 23 = .ok (.getfield 28, 3) := by decide +kernel
theorem dX7_addCause_26 : decode cX7_addCause 26 = .ok (.iload_n 2, 1) := by decide +kernel
theorem dX7_addCause_27 : decode cX7_addCause 27 = .ok (.iastore, 1) := by decide +kernel
theorem dX7_addCause_28 : decode cX7_addCause 28 = .ok (.aload_n 0, 1) := by decide +kernel
theorem dX7_addCause_29 : decode cX7_addCause 29 = .ok (.dup, 1) := by decide +kernel
theorem dX7_addCause_30 : decode cX7_addCause 30 = .ok (.getfield 28, 3) := by decide +kernel
theorem dX7_addCause_33 : decode cX7_addCause 33 = .ok (.iconst 1, 1) := by decide +kernel
theorem dX7_addCause_34 : decode cX7_addCause 34 = .ok (.iadd, 1) := by decide +kernel
theorem dX7_addCause_35 : decode cX7_addCause 35 = .ok (.putfield 28, 3) := by decide +kernel
theorem dX7_addCause_38 : decode cX7_addCause 38 = .ok (.return_, 1) := by decide +kernel
theorem dX7_isStuck_0 : decode cX7_isStuck 0 = .ok (.iconst 0, 1) := by decide +kernel
theorem dX7_isStuck_1 : decode cX7_isStuck 1 = .ok (.istore_n 1, 1) := by decide +kernel
theorem dX7_isStuck_2 : decode cX7_isStuck 2 = .ok (.iload_n 1, 1) := by decide +kernel
theorem dX7_isStuck_3 : decode cX7_isStuck 3 = .ok (.aload_n 0, 1) := by decide +kernel
theorem dX7_isStuck_4 : decode cX7_isStuck 4 = .ok (.getfield 24, 3) := by decide +kernel
theorem dX7_isStuck_7 : decode cX7_isStuck 7 = .ok (.if_icmp .ge 27, 3) := by decide +kernel
theorem dX7_isStuck_10 : decode cX7_isStuck 10 = .ok (.aload_n 0, 1) := by decide +kernel
theorem dX7_isStuck_11 : decode cX7_isStuck 11 = .ok (.getfield 11, 3) := by decide +kernel
theorem dX7_isStuck_14 : decode cX7_isStuck 14 = .ok (.iload_n 1, 1) := by decide +kernel
theorem dX7_isStuck_15 : decode cX7_isStuck 15 = .ok (.aaload, 1) := by decide +kernel
theorem dX7_isStuck_16 : decode cX7_isStuck 16 = .ok (.getfield 42, 3) := by decide +kernel
theorem dX7_isStuck_19 : decode cX7_isStuck 19 = .ok (.aload_n 0, 1) := by decide +kernel
theorem dX7_isStuck_20 : decode cX7_isStuck 20 = .ok (.getfield 31, 3) := by decide +kernel
theorem dX7_isStuck_23 : decode cX7_isStuck 23 = .ok (.if_icmp .le 5, 3) := by decide +kernel
theorem dX7_isStuck_26 : decode cX7_isStuck 26 = .ok (.iconst 1, 1) := by decide +kernel
theorem dX7_isStuck_27 : decode cX7_isStuck 27 = .ok (.ireturn, 1) := by decide +kernel
theorem dX7_isStuck_28 : decode cX7_isStuck 28 = .ok (.iinc 1 1, 3) := by decide +kernel
theorem dX7_isStuck_31 : decode cX7_isStuck 31 = .ok (.goto (-29), 3) := by decide +kernel
theorem dX7_isStuck_34 : decode cX7_isStuck 34 = .ok (.iconst 0, 1) := by decide +kernel
theorem dX7_isStuck_35 : decode cX7_isStuck 35 = .ok (.ireturn, 1) := by decide +kernel
theorem dX7_isGreat_0 : decode cX7_isGreat 0 = .ok (.lconst 1, 1) := by decide +kernel
theorem dX7_isGreat_1 : decode cX7_isGreat 1 = .ok (.lstore_n 1, 1) := by decide +kernel
theorem dX7_isGreat_2 : decode cX7_isGreat 2 = .ok (.iconst 0, 1) := by decide +kernel
theorem dX7_isGreat_3 : decode cX7_isGreat 3 = .ok (.istore_n 3, 1) := by decide +kernel
theorem dX7_isGreat_4 : decode cX7_isGreat 4 = .ok (.iload_n 3, 1) := by decide +kernel
theorem dX7_isGreat_5 : decode cX7_isGreat 5 = .ok (.aload_n 0, 1) := by decide +kernel
theorem dX7_isGreat_6 : decode cX7_isGreat 6 = .ok (.getfield 24, 3) := by decide +kernel
theorem dX7_isGreat_9 : decode cX7_isGreat 9 = .ok (.if_icmp .ge 32, 3) := by decide +kernel
theorem dX7_isGreat_12 : decode cX7_isGreat 12 = .ok (.lload_n 1, 1) := by decide +kernel
theorem dX7_isGreat_13 : decode cX7_isGreat 13 = .ok (.aload_n 0, 1) := by decide +kernel
theorem dX7_isGreat_14 : decode cX7_isGreat 14 = .ok (.getfield 11, 3) := by decide +kernel
theorem dX7_isGreat_17 : decode cX7_isGreat 17 = .ok (.iload_n 3, 1) := by decide +kernel
theorem dX7_isGreat_18 : decode cX7_isGreat 18 = .ok (.aaload, 1) := by decide +kernel
theorem dX7_isGreat_19 : decode cX7_isGreat 19 = .ok (.getfield 45, 3) := by decide +kernel
theorem dX7_isGreat_22 : decode cX7_isGreat 22 = .ok (.i2l, 1) := by decide +kernel
theorem dX7_isGreat_23 : decode cX7_isGreat 23 = .ok (.lmul, 1) := by decide +kernel
theorem dX7_isGreat_24 : decode cX7_isGreat 24 = .ok (.lstore_n 1, 1) := by decide +kernel
theorem dX7_isGreat_25 : decode cX7_isGreat 25 = .ok (.lload_n 1, 1) := by decide +kernel
theorem dX7_isGreat_26 : decode cX7_isGreat 26 = .ok (.ldc2_w 48, 3) := by decide +kernel
theorem dX7_isGreat_29 : decode cX7_isGreat 29 = .ok (.lcmp, 1) := by decide +kernel
theorem dX7_isGreat_30 : decode cX7_isGreat 30 = .ok (.ifCond .le 5, 3) := by decide +kernel
theorem dX7_isGreat_33 : decode cX7_isGreat 33 = .ok (.iconst 1, 1) := by decide +kernel
theorem dX7_isGreat_34 : decode cX7_isGreat 34 = .ok (.ireturn, 1) := by decide +kernel
theorem dX7_isGreat_35 : decode cX7_isGreat 35 = .ok (.iinc 3 1, 3) := by decide +kernel
theorem dX7_isGreat_38 : decode cX7_isGreat 38 = .ok (.goto (-34), 3) := by decide +kernel
theorem dX7_isGreat_41 : decode cX7_isGreat 41 = .ok (.iconst 0, 1) := by decide +kernel
theorem dX7_isGreat_42 : decode cX7_isGreat 42 = .ok (.istore_n 3, 1) := by decide +kernel
theorem dX7_isGreat_43 : decode cX7_isGreat 43 = .ok (.iload_n 3, 1) := by decide +kernel
theorem dX7_isGreat_44 : decode cX7_isGreat 44 = .ok (.aload_n 0, 1) := by decide +kernel
theorem dX7_isGreat_45 : decode cX7_isGreat 45 = .ok (.getfield 28, 3) := by decide +kernel
theorem dX7_isGreat_48 : decode cX7_isGreat 48 = .ok (.if_icmp .ge 19, 3) := by decide +kernel
theorem dX7_isGreat_51 : decode cX7_isGreat 51 = .ok (.lload_n 1, 1) := by decide +kernel
theorem dX7_isGreat_52 : decode cX7_isGreat 52 = .ok (.aload_n 0, 1) := by decide +kernel
theorem dX7_isGreat_53 : decode cX7_isGreat 53 = .ok (.getfield 21, 3) := by decide +kernel
theorem dX7_isGreat_56 : decode cX7_isGreat 56 = .ok (.iload_n 3, 1) := by decide +kernel
theorem dX7_isGreat_57 : decode cX7_isGreat 57 = .ok (.iaload, 1) := by decide +kernel
theorem dX7_isGreat_58 : decode cX7_isGreat 58 = .ok (.i2l, 1) := by decide +kernel
theorem dX7_isGreat_59 : decode cX7_isGreat 59 = .ok (.lmul, 1) := by decide +kernel
theorem dX7_isGreat_60 : decode cX7_isGreat 60 = .ok (.lstore_n 1, 1) := by decide +kernel
theorem dX7_isGreat_61 : decode cX7_isGreat 61 = .ok (.iinc 3 1, 3) := by decide +kernel
theorem dX7_isGreat_64 : decode cX7_isGreat 64 = .ok (.goto (-21), 3) := by decide +kernel
theorem dX7_isGreat_67 : decode cX7_isGreat 67 = .ok (.lload_n 1, 1) := by decide +kernel
theorem dX7_isGreat_68 : decode cX7_isGreat 68 = .ok (.ldc2_w 48, 3) := by decide +kernel
theorem dX7_isGreat_71 : decode cX7_isGreat 71 = .ok (.lcmp, 1) := by decide +kernel
theorem dX7_isGreat_72 : decode cX7_isGreat 72 = .ok (.ifCond .le 7, 3) := by decide +kernel
theorem dX7_isGreat_75 : decode cX7_isGreat 75 = .ok (.iconst 1, 1) := by decide +kernel
theorem dX7_isGreat_76 : decode cX7_isGreat 76 = .ok (.goto 4, 3) := by decide +kernel
theorem dX7_isGreat_79 : decode cX7_isGreat 79 = .ok (.iconst 0, 1) := by decide +kernel
theorem dX7_isGreat_80 : decode cX7_isGreat 80 = .ok (.ireturn, 1) := by decide +kernel
theorem dX7_countWays_0 : decode cX7_countWays 0 = .ok (.aload_n 0, 1) := by decide +kernel
theorem dX7_countWays_1 : decode cX7_countWays 1 = .ok (.aload_n 0, 1) := by decide +kernel
theorem dX7_countWays_2 : decode cX7_countWays 2 = .ok (.getfield 24, 3) := by decide +kernel
theorem dX7_countWays_5 : decode cX7_countWays 5 = .ok (.invokevirtual 50, 3) := by decide +kernel
theorem dX7_countWays_8 : decode cX7_countWays 8 = .ok (.aload_n 0, 1) := by decide +kernel
theorem dX7_countWays_9 : decode cX7_countWays 9 = .ok (.getfield 28, 3) := by decide +kernel
theorem dX7_countWays_12 : decode cX7_countWays 12 = .ok (.ishl, 1) := by decide +kernel
theorem dX7_countWays_13 : decode cX7_countWays 13 = .ok (.ireturn, 1) := by decide +kernel
theorem dX7_rowsAhead_0 : decode cX7_rowsAhead 0 = .ok (.iconst 1, 1) := by decide +kernel
theorem dX7_rowsAhead_1 : decode cX7_rowsAhead 1 = .ok (.istore_n 2, 1) := by decide +kernel
theorem dX7_rowsAhead_2 : decode cX7_rowsAhead 2 = .ok (.iconst 0, 1) := by decide +kernel
theorem dX7_rowsAhead_3 : decode cX7_rowsAhead 3 = .ok (.istore_n 3, 1) := by decide +kernel
theorem dX7_rowsAhead_4 : decode cX7_rowsAhead 4 = .ok (.iload_n 3, 1) := by decide +kernel
theorem dX7_rowsAhead_5 : decode cX7_rowsAhead 5 = .ok (.iload_n 1, 1) := by decide +kernel
theorem dX7_rowsAhead_6 : decode cX7_rowsAhead 6 = .ok (.if_icmp .ge 29, 3) := by decide +kernel
theorem dX7_rowsAhead_9 : decode cX7_rowsAhead 9 = .ok (.iload_n 3, 1) := by decide +kernel
theorem dX7_rowsAhead_10 : decode cX7_rowsAhead 10 = .ok (.aload_n 0, 1) := by decide +kernel
theorem dX7_rowsAhead_11 : decode cX7_rowsAhead 11 = .ok (.getfield 24, 3) := by decide +kernel
theorem dX7_rowsAhead_14 : decode cX7_rowsAhead 14 = .ok (.if_icmp .ge 21, 3) := by decide +kernel
theorem dX7_rowsAhead_17 : decode cX7_rowsAhead 17 = .ok (.iload_n 2, 1) := by decide +kernel
theorem dX7_rowsAhead_18 : decode cX7_rowsAhead 18 = .ok (.aload_n 0, 1) := by decide +kernel
theorem dX7_rowsAhead_19 : decode cX7_rowsAhead 19 = .ok (.getfield 11, 3) := by decide +kernel
theorem dX7_rowsAhead_22 : decode cX7_rowsAhead 22 = .ok (.iload_n 3, 1) := by decide +kernel
theorem dX7_rowsAhead_23 : decode cX7_rowsAhead 23 = .ok (.aaload, 1) := by decide +kernel
theorem dX7_rowsAhead_24 : decode cX7_rowsAhead 24 = .ok (.getfield 54, 3) := by decide +kernel
theorem dX7_rowsAhead_27 : decode cX7_rowsAhead 27 = .ok (.imul, 1) := by decide +kernel
theorem dX7_rowsAhead_28 : decode cX7_rowsAhead 28 = .ok (.istore_n 2, 1) := by decide +kernel
theorem dX7_rowsAhead_29 : decode cX7_rowsAhead 29 = .ok (.iinc 3 1, 3) := by decide +kernel
theorem dX7_rowsAhead_32 : decode cX7_rowsAhead 32 = .ok (.goto (-28), 3) := by decide +kernel
theorem dX7_rowsAhead_35 : decode cX7_rowsAhead 35 = .ok (.iload_n 2, 1) := by decide +kernel
theorem dX7_rowsAhead_36 : decode cX7_rowsAhead 36 = .ok (.ireturn, 1) := by decide +kernel
theorem dJ6_bitCount_0f7a4_0 : decode cJ6_bitCount_0f7a4 0 = .ok (.iload_n 0, 1) := by decide +kernel
theorem dJ6_bitCount_0f7a4_1 : decode cJ6_bitCount_0f7a4 1 = .ok (.iload_n 0, 1) := by decide +kernel
theorem dJ6_bitCount_0f7a4_2 : decode cJ6_bitCount_0f7a4 2 = .ok (.iconst 1, 1) := by decide +kernel
theorem dJ6_bitCount_0f7a4_3 : decode cJ6_bitCount_0f7a4 3 = .ok (.iushr, 1) := by decide +kernel
theorem dJ6_bitCount_0f7a4_4 : decode cJ6_bitCount_0f7a4 4 = .ok (.ldc_w 265, 3) := by decide +kernel
theorem dJ6_bitCount_0f7a4_7 : decode cJ6_bitCount_0f7a4 7 = .ok (.iand, 1) := by decide +kernel
theorem dJ6_bitCount_0f7a4_8 : decode cJ6_bitCount_0f7a4 8 = .ok (.isub, 1) := by decide +kernel
theorem dJ6_bitCount_0f7a4_9 : decode cJ6_bitCount_0f7a4 9 = .ok (.istore_n 0, 1) := by decide +kernel
theorem dJ6_bitCount_0f7a4_10 : decode cJ6_bitCount_0f7a4 10 = .ok (.iload_n 0, 1) := by decide +kernel
theorem dJ6_bitCount_0f7a4_11 : decode cJ6_bitCount_0f7a4 11 = .ok (.ldc_w 266, 3) := by decide +kernel
theorem dJ6_bitCount_0f7a4_14 : decode cJ6_bitCount_0f7a4 14 = .ok (.iand, 1) := by decide +kernel
theorem dJ6_bitCount_0f7a4_15 : decode cJ6_bitCount_0f7a4 15 = .ok (.iload_n 0, 1) := by decide +kernel
theorem dJ6_bitCount_0f7a4_16 : decode cJ6_bitCount_0f7a4 16 = .ok (.iconst 2, 1) := by decide +kernel
theorem dJ6_bitCount_0f7a4_17 : decode cJ6_bitCount_0f7a4 17 = .ok (.iushr, 1) := by decide +kernel
theorem dJ6_bitCount_0f7a4_18 : decode cJ6_bitCount_0f7a4 18 = .ok (.ldc_w 266, 3) := by decide +kernel
theorem dJ6_bitCount_0f7a4_21 : decode cJ6_bitCount_0f7a4 21 = .ok (.iand, 1) := by decide +kernel
theorem dJ6_bitCount_0f7a4_22 : decode cJ6_bitCount_0f7a4 22 = .ok (.iadd, 1) := by decide +kernel
theorem dJ6_bitCount_0f7a4_23 : decode cJ6_bitCount_0f7a4 23 = .ok (.istore_n 0, 1) := by decide +kernel
theorem dJ6_bitCount_0f7a4_24 : decode cJ6_bitCount_0f7a4 24 = .ok (.iload_n 0, 1) := by decide +kernel
theorem dJ6_bitCount_0f7a4_25 : decode cJ6_bitCount_0f7a4 25 = .ok (.iload_n 0, 1) := by decide +kernel
theorem dJ6_bitCount_0f7a4_26 : decode cJ6_bitCount_0f7a4 26 = .ok (.iconst 4, 1) := by decide +kernel
theorem dJ6_bitCount_0f7a4_27 : decode cJ6_bitCount_0f7a4 27 = .ok (.iushr, 1) := by decide +kernel
theorem dJ6_bitCount_0f7a4_28 : decode cJ6_bitCount_0f7a4 28 = .ok (.iadd, 1) := by decide +kernel
theorem dJ6_bitCount_0f7a4_29 : decode cJ6_bitCount_0f7a4 29 = .ok (.ldc_w 267, 3) := by decide +kernel
theorem dJ6_bitCount_0f7a4_32 : decode cJ6_bitCount_0f7a4 32 = .ok (.iand, 1) := by decide +kernel
theorem dJ6_bitCount_0f7a4_33 : decode cJ6_bitCount_0f7a4 33 = .ok (.istore_n 0, 1) := by decide +kernel
theorem dJ6_bitCount_0f7a4_34 : decode cJ6_bitCount_0f7a4 34 = .ok (.iload_n 0, 1) := by decide +kernel
theorem dJ6_bitCount_0f7a4_35 : decode cJ6_bitCount_0f7a4 35 = .ok (.iload_n 0, 1) := by decide +kernel
theorem dJ6_bitCount_0f7a4_36 : decode cJ6_bitCount_0f7a4 36 = .ok (.bipush 8, 2) := by decide +kernel
theorem dJ6_bitCount_0f7a4_38 : decode cJ6_bitCount_0f7a4 38 = .ok (.iushr, 1) := by decide +kernel
theorem dJ6_bitCount_0f7a4_39 : decode cJ6_bitCount_0f7a4 39 = .ok (.iadd, 1) := by decide +kernel
theorem dJ6_bitCount_0f7a4_40 : decode cJ6_bitCount_0f7a4 40 = .ok (.istore_n 0, 1) := by decide +kernel
theorem dJ6_bitCount_0f7a4_41 : decode cJ6_bitCount_0f7a4 41 = .ok (.iload_n 0, 1) := by decide +kernel
theorem dJ6_bitCount_0f7a4_42 : decode cJ6_bitCount_0f7a4 42 = .ok (.iload_n 0, 1) := by decide +kernel
theorem dJ6_bitCount_0f7a4_43 : decode cJ6_bitCount_0f7a4 43 = .ok (.bipush 16, 2) := by decide +kernel
theorem dJ6_bitCount_0f7a4_45 : decode cJ6_bitCount_0f7a4 45 = .ok (.iushr, 1) := by decide +kernel
theorem dJ6_bitCount_0f7a4_46 : decode cJ6_bitCount_0f7a4 46 = .ok (.iadd, 1) := by decide +kernel
theorem dJ6_bitCount_0f7a4_47 : decode cJ6_bitCount_0f7a4 47 = .ok (.istore_n 0, 1) := by decide +kernel
theorem dJ6_bitCount_0f7a4_48 : decode cJ6_bitCount_0f7a4 48 = .ok (.iload_n 0, 1) := by decide +kernel
theorem dJ6_bitCount_0f7a4_49 : decode cJ6_bitCount_0f7a4 49 = .ok (.bipush 63, 2) := by decide +kernel
theorem dJ6_bitCount_0f7a4_51 : decode cJ6_bitCount_0f7a4 51 = .ok (.iand, 1) := by decide +kernel
theorem dJ6_bitCount_0f7a4_52 : decode cJ6_bitCount_0f7a4 52 = .ok (.ireturn, 1) := by decide +kernel
theorem dJ9_max_7cf53_0 : decode cJ9_max_7cf53 0 = .ok (.iload_n 0, 1) := by decide +kernel
theorem dJ9_max_7cf53_1 : decode cJ9_max_7cf53 1 = .ok (.iload_n 1, 1) := by decide +kernel
theorem dJ9_max_7cf53_2 : decode cJ9_max_7cf53 2 = .ok (.if_icmp .lt 7, 3) := by decide +kernel
theorem dJ9_max_7cf53_5 : decode cJ9_max_7cf53 5 = .ok (.iload_n 0, 1) := by decide +kernel
theorem dJ9_max_7cf53_6 : decode cJ9_max_7cf53 6 = .ok (.goto 4, 3) := by decide +kernel
theorem dJ9_max_7cf53_9 : decode cJ9_max_7cf53 9 = .ok (.iload_n 1, 1) := by decide +kernel
theorem dJ9_max_7cf53_10 : decode cJ9_max_7cf53 10 = .ok (.ireturn, 1) := by decide +kernel
theorem dJ9_min_7cf53_0 : decode cJ9_min_7cf53 0 = .ok (.iload_n 0, 1) := by decide +kernel
theorem dJ9_min_7cf53_1 : decode cJ9_min_7cf53 1 = .ok (.iload_n 1, 1) := by decide +kernel
theorem dJ9_min_7cf53_2 : decode cJ9_min_7cf53 2 = .ok (.if_icmp .gt 7, 3) := by decide +kernel
theorem dJ9_min_7cf53_5 : decode cJ9_min_7cf53 5 = .ok (.iload_n 0, 1) := by decide +kernel
theorem dJ9_min_7cf53_6 : decode cJ9_min_7cf53 6 = .ok (.goto 4, 3) := by decide +kernel
theorem dJ9_min_7cf53_9 : decode cJ9_min_7cf53 9 = .ok (.iload_n 1, 1) := by decide +kernel
theorem dJ9_min_7cf53_10 : decode cJ9_min_7cf53 10 = .ok (.ireturn, 1) := by decide +kernel
theorem dJ7_fill_d0a16_0 : decode cJ7_fill_d0a16 0 = .ok (.iconst 0, 1) := by decide +kernel
theorem dJ7_fill_d0a16_1 : decode cJ7_fill_d0a16 1 = .ok (.istore_n 3, 1) := by decide +kernel
theorem dJ7_fill_d0a16_2 : decode cJ7_fill_d0a16 2 = .ok (.aload_n 0, 1) := by decide +kernel
theorem dJ7_fill_d0a16_3 : decode cJ7_fill_d0a16 3 = .ok (.arraylength, 1) := by decide +kernel
theorem dJ7_fill_d0a16_4 : decode cJ7_fill_d0a16 4 = .ok (.istore 4, 2) := by decide +kernel
theorem dJ7_fill_d0a16_6 : decode cJ7_fill_d0a16 6 = .ok (.iload_n 3, 1) := by decide +kernel
theorem dJ7_fill_d0a16_7 : decode cJ7_fill_d0a16 7 = .ok (.iload 4, 2) := by decide +kernel
theorem dJ7_fill_d0a16_9 : decode cJ7_fill_d0a16 9 = .ok (.if_icmp .ge 13, 3) := by decide +kernel
theorem dJ7_fill_d0a16_12 : decode cJ7_fill_d0a16 12 = .ok (.aload_n 0, 1) := by decide +kernel
theorem dJ7_fill_d0a16_13 : decode cJ7_fill_d0a16 13 = .ok (.iload_n 3, 1) := by decide +kernel
theorem dJ7_fill_d0a16_14 : decode cJ7_fill_d0a16 14 = .ok (.lload_n 1, 1) := by decide +kernel
theorem dJ7_fill_d0a16_15 : decode cJ7_fill_d0a16 15 = .ok (.lastore, 1) := by decide +kernel
theorem dJ7_fill_d0a16_16 : decode cJ7_fill_d0a16 16 = .ok (.iinc 3 1, 3) := by decide +kernel
theorem dJ7_fill_d0a16_19 : decode cJ7_fill_d0a16 19 = .ok (.goto (-13), 3) := by decide +kernel
theorem dJ7_fill_d0a16_22 : decode cJ7_fill_d0a16 22 = .ok (.return_, 1) := by decide +kernel
theorem dJ7_fill_53178_0 : decode cJ7_fill_53178 0 = .ok (.iconst 0, 1) := by decide +kernel
theorem dJ7_fill_53178_1 : decode cJ7_fill_53178 1 = .ok (.istore_n 2, 1) := by decide +kernel
theorem dJ7_fill_53178_2 : decode cJ7_fill_53178 2 = .ok (.aload_n 0, 1) := by decide +kernel
theorem dJ7_fill_53178_3 : decode cJ7_fill_53178 3 = .ok (.arraylength, 1) := by decide +kernel
theorem dJ7_fill_53178_4 : decode cJ7_fill_53178 4 = .ok (.istore_n 3, 1) := by decide +kernel
theorem dJ7_fill_53178_5 : decode cJ7_fill_53178 5 = .ok (.iload_n 2, 1) := by decide +kernel
theorem dJ7_fill_53178_6 : decode cJ7_fill_53178 6 = .ok (.iload_n 3, 1) := by decide +kernel
theorem dJ7_fill_53178_7 : decode cJ7_fill_53178 7 = .ok (.if_icmp .ge 13, 3) := by decide +kernel
theorem dJ7_fill_53178_10 : decode cJ7_fill_53178 10 = .ok (.aload_n 0, 1) := by decide +kernel
theorem dJ7_fill_53178_11 : decode cJ7_fill_53178 11 = .ok (.iload_n 2, 1) := by decide +kernel
theorem dJ7_fill_53178_12 : decode cJ7_fill_53178 12 = .ok (.iload_n 1, 1) := by decide +kernel
theorem dJ7_fill_53178_13 : decode cJ7_fill_53178 13 = .ok (.iastore, 1) := by decide +kernel
theorem dJ7_fill_53178_14 : decode cJ7_fill_53178 14 = .ok (.iinc 2 1, 3) := by decide +kernel
theorem dJ7_fill_53178_17 : decode cJ7_fill_53178 17 = .ok (.goto (-12), 3) := by decide +kernel
theorem dJ7_fill_53178_20 : decode cJ7_fill_53178 20 = .ok (.return_, 1) := by decide +kernel
