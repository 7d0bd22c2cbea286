theorem dX8_init_0 : decode cX8_init 0 = .ok (.aload_n 0, 1) := by decide +kernel
theorem dX8_init_1 : decode cX8_init 1 = .ok (.invokespecial 3, 3) := by decide +kernel
theorem dX8_init_4 : decode cX8_init 4 = .ok (.aload_n 0, 1) := by decide +kernel
theorem dX8_init_5 : decode cX8_init 5 = .ok (.iconst 0, 1) := by decide +kernel
theorem dX8_init_6 : decode cX8_init 6 = .ok (.putfield 9, 3) := by decide +kernel
theorem dX8_init_9 : decode cX8_init 9 = .ok (.aload_n 0, 1) := by decide +kernel
theorem dX8_init_10 : decode cX8_init 10 = .ok (.new 13, 3) := by decide +kernel
theorem dX8_init_13 : decode cX8_init 13 = .ok (.dup, 1) := by decide +kernel
theorem dX8_init_14 : decode cX8_init 14 = .ok (.invokespecial 15, 3) := by decide +kernel
theorem dX8_init_17 : decode cX8_init 17 = .ok (.putfield 16, 3) := by decide +kernel
theorem dX8_init_20 : decode cX8_init 20 = .ok (.aload_n 0, 1) := by decide +kernel
theorem dX8_init_21 : decode cX8_init 21 = .ok (.new 13, 3) := by decide +kernel
theorem dX8_init_24 : decode cX8_init 24 = .ok (.dup, 1) := by decide +kernel
theorem dX8_init_25 : decode cX8_init 25 = .ok (.invokespecial 15, 3) := by decide +kernel
theorem dX8_init_28 : decode cX8_init 28 = .ok (.putfield 20, 3) := by decide +kernel
theorem dX8_init_31 : decode cX8_init 31 = .ok (.aload_n 0, 1) := by decide +kernel
theorem dX8_init_32 : decode cX8_init 32 = .ok (.new 13, 3) := by decide +kernel
theorem dX8_init_35 : decode cX8_init 35 = .ok (.dup, 1) := by decide +kernel
theorem dX8_init_36 : decode cX8_init 36 = .ok (.invokespecial 15, 3) := by decide +kernel
theorem dX8_init_39 : decode cX8_init 39 = .ok (.putfield 23, 3) := by decide +kernel
theorem dX8_init_42 : decode cX8_init 42 = .ok (.aload_n 0, 1) := by decide +kernel
theorem dX8_init_43 : decode cX8_init 43 = .ok (.iconst 4, 1) := by decide +kernel
theorem dX8_init_44 : decode cX8_init 44 = .ok (.anewarray 26, 3) := by decide +kernel
theorem dX8_init_47 : decode cX8_init 47 = .ok (.putfield 28, 3) := by decide +kernel
theorem dX8_init_50 : decode cX8_init 50 = .ok (.aload_n 0, 1) := by decide +kernel
theorem dX8_init_51 : decode cX8_init 51 = .ok (.new 32, 3) := by decide +kernel
theorem dX8_init_54 : decode cX8_init 54 = .ok (.dup, 1) := by decide +kernel
theorem dX8_init_55 : decode cX8_init 55 = .ok (.invokespecial 34, 3) := by decide +kernel
theorem dX8_init_58 : decode cX8_init 58 = .ok (.putfield 35, 3) := by decide +kernel
theorem dX8_init_61 : decode cX8_init 61 = .ok (.aload_n 0, 1) := by decide +kernel
theorem dX8_init_62 : decode cX8_init 62 = .ok (.new 39, 3) := by decide +kernel
theorem dX8_init_65 : decode cX8_init 65 = .ok (.dup, 1) := by decide +kernel
theorem dX8_init_66 : decode cX8_init 66 = .ok (.invokespecial 41, 3) := by decide +kernel
theorem dX8_init_69 : decode cX8_init 69 = .ok (.putfield 42, 3) := by decide +kernel
theorem dX8_init_72 : decode cX8_init 72 = .ok (.aload_n 0, 1) := by decide +kernel
theorem dX8_init_73 : decode cX8_init 73 = .ok (.aload_n 0, 1) := by decide +kernel
theorem dX8_init_74 : decode cX8_init 74 = .ok (.getfield 42, 3) := by decide +kernel
theorem dX8_init_77 : decode cX8_init 77 = .ok (.getfield 46, 3) := by decide +kernel
theorem dX8_init_80 : decode cX8_init 80 = .ok (.putfield 50, 3) := by decide +kernel
theorem dX8_init_83 : decode cX8_init 83 = .ok (.aload_n 0, 1) := by decide +kernel
theorem dX8_init_84 : decode cX8_init 84 = .ok (.new 51, 3) := by decide +kernel
theorem dX8_init_87 : decode cX8_init 87 = .ok (.dup, 1) := by decide +kernel
theorem dX8_init_88 : decode cX8_init 88 = .ok (.invokespecial 53, 3) := by decide +kernel
theorem dX8_init_91 : decode cX8_init 91 = .ok (.putfield 54, 3) := by decide +kernel
theorem dX8_init_94 : decode cX8_init 94 = .ok (.iconst 0, 1) := by decide +kernel
theorem dX8_init_95 : decode cX8_init 95 = .ok (.istore_n 1, 1) := by decide +kernel
theorem dX8_init_96 : decode cX8_init 96 = .ok (.iload_n 1, 1) := by decide +kernel
theorem dX8_init_97 : decode cX8_init 97 = .ok (.iconst 4, 1) := by decide +kernel
theorem dX8_init_98 : decode cX8_init 98 = .ok (.if_icmp .ge 22, 3) := by decide +kernel
theorem dX8_init_101 : decode cX8_init 101 = .ok (.aload_n 0, 1) := by decide +kernel
theorem dX8_init_102 : decode cX8_init 102 = .ok (.getfield 28, 3) := by decide +kernel
theorem dX8_init_105 : decode cX8_init 105 = .ok (.iload_n 1, 1) := by decide +kernel
theorem dX8_init_106 : decode cX8_init 106 = .ok (.new 26, 3) := by decide +kernel
theorem dX8_init_109 : decode cX8_init 109 = .ok (.dup, 1) := by decide +kernel
theorem dX8_init_110 : decode cX8_init 110 = .ok (.invokespecial 58, 3) := by decide +kernel
theorem dX8_init_113 : decode cX8_init 113 = .ok (.aastore, 1) := by decide +kernel
theorem dX8_init_114 : decode cX8_init 114 = .ok (.iinc 1 1, 3) := by decide +kernel
theorem dX8_init_117 : decode cX8_init 117 = .ok (.goto (-21), 3) := by decide +kernel
theorem dX8_init_120 : decode cX8_init 120 = .ok (.return_, 1) := by decide +kernel
theorem dX8_status_0 : decode cX8_status 0 = .ok (.aload_n 0, 1) := by decide +kernel
theorem dX8_status_1 : decode cX8_status 1 = .ok (.getfield 9, 3) := by decide +kernel
theorem dX8_status_4 : decode cX8_status 4 = .ok (.ireturn, 1) := by decide +kernel
theorem dX8_tray_0 : decode cX8_tray 0 = .ok (.iload_n 1, 1) := by decide +kernel
theorem dX8_tray_1 : decode cX8_tray 1 = .ok (.invokestatic 59, 3) := by decide +kernel
theorem dX8_tray_4 : decode cX8_tray 4 = .ok (.ifCond .eq 12, 3) := by decide +kernel
theorem dX8_tray_7 : decode cX8_tray 7 = .ok (.iload_n 2, 1) := by decide +kernel
theorem dX8_tray_8 : decode cX8_tray 8 = .ok (.ifCond .lt 8, 3) := by decide +kernel
theorem dX8_tray_11 : decode cX8_tray 11 = .ok (.iload_n 2, 1) := by decide +kernel
theorem dX8_tray_12 : decode cX8_tray 12 = .ok (.iconst 4, 1) := by decide +kernel
theorem dX8_tray_13 : decode cX8_tray 13 = .ok (.if_icmp .lt 9, 3) := by decide +kernel
theorem dX8_tray_16 : decode cX8_tray 16 = .ok (.aload_n 0, 1) := by decide +kernel
theorem dX8_tray_17 : decode cX8_tray 17 = .ok (.iconst 1, 1) := by decide +kernel
theorem dX8_tray_18 : decode cX8_tray 18 = .ok (.invokevirtual 63, 3) := by decide +kernel
theorem dX8_tray_21 : decode cX8_tray 21 = .ok (.ireturn, 1) := by decide +kernel
theorem dX8_tray_22 : decode cX8_tray 22 = .ok (.iload_n 3, 1) := by decide +kernel
theorem dX8_tray_23 : decode cX8_tray 23 = .ok (.bipush 40, 2) := by decide +kernel
theorem dX8_tray_25 : decode cX8_tray 25 = .ok (.if_icmp .le 9, 3) := by decide +kernel
theorem dX8_tray_28 : decode cX8_tray 28 = .ok (.aload_n 0, 1) := by decide +kernel
theorem dX8_tray_29 : decode cX8_tray 29 = .ok (.iconst 5, 1) := by decide +kernel
theorem dX8_tray_30 : decode cX8_tray 30 = .ok (.invokevirtual 63, 3) := by decide +kernel
theorem dX8_tray_33 : decode cX8_tray 33 = .ok (.ireturn, 1) := by decide +kernel
theorem dX8_tray_34 : decode cX8_tray 34 = .ok (.iload_n 3, 1) := by decide +kernel
theorem dX8_tray_35 : decode cX8_tray 35 = .ok (.ifCond .ge 10, 3) := by decide +kernel
theorem dX8_tray_38 : decode cX8_tray 38 = .ok (.aload_n 0, 1) := by decide +kernel
theorem dX8_tray_39 : decode cX8_tray 39 = .ok (.bipush 6, 2) := by decide +kernel
theorem dX8_tray_41 : decode cX8_tray 41 = .ok (.invokevirtual 63, 3) := by decide +kernel
theorem dX8_tray_44 : decode cX8_tray 44 = .ok (.ireturn, 1) := by decide +kernel
theorem dX8_tray_45 : decode cX8_tray 45 = .ok (.aload_n 0, 1) := by decide +kernel
theorem dX8_tray_46 : decode cX8_tray 46 = .ok (.getfield 28, 3) := by decide +kernel
theorem dX8_tray_49 : decode cX8_tray 49 = .ok (.iload_n 1, 1) := by decide +kernel
theorem dX8_tray_50 : decode cX8_tray 50 = .ok (.aaload, 1) := by decide +kernel
theorem dX8_tray_51 : decode cX8_tray 51 = .ok (.iload_n 2, 1) := by decide +kernel
theorem dX8_tray_52 : decode cX8_tray 52 = .ok (.iload_n 3, 1) := by decide +kernel
theorem dX8_tray_53 : decode cX8_tray 53 = .ok (.invokevirtual 66, 3) := by decide +kernel
theorem dX8_tray_56 : decode cX8_tray 56 = .ok (.aload_n 0, 1) := by decide +kernel
theorem dX8_tray_57 : decode cX8_tray 57 = .ok (.invokevirtual 70, 3) := by decide +kernel
theorem dX8_tray_60 : decode cX8_tray 60 = .ok (.ireturn, 1) := by decide +kernel
theorem dX8_write_0 : decode cX8_write 0 = .ok (.aload_n 0, 1) := by decide +kernel
theorem dX8_write_1 : decode cX8_write 1 = .ok (.iload_n 1, 1) := by decide +kernel
theorem dX8_write_2 : decode cX8_write 2 = .ok (.iload_n 2, 1) := by decide +kernel
theorem dX8_write_3 : decode cX8_write 3 = .ok (.invokevirtual 74, 3) := by decide +kernel
theorem dX8_write_6 : decode cX8_write 6 = .ok (.istore 5, 2) := by decide +kernel
theorem dX8_write_8 : decode cX8_write 8 = .ok (.iload 5, 2) := by decide +kernel
theorem dX8_write_10 : decode cX8_write 10 = .ok (.ifCond .eq 10, 3) := by decide +kernel
theorem dX8_write_13 : decode cX8_write 13 = .ok (.aload_n 0, 1) := by decide +kernel
theorem dX8_write_14 : decode cX8_write 14 = .ok (.iload 5, 2) := by decide +kernel
theorem dX8_write_16 : decode cX8_write 16 = .ok (.invokevirtual 63, 3) := by decide +kernel
theorem dX8_write_19 : decode cX8_write 19 = .ok (.ireturn, 1) := by decide +kernel
theorem dX8_write_20 : decode cX8_write 20 = .ok (.aload_n 0, 1) := by decide +kernel
theorem dX8_write_21 : decode cX8_write 21 = .ok (.getfield 28, 3) := by decide +kernel
theorem dX8_write_24 : decode cX8_write 24 = .ok (.iload_n 1, 1) := by decide +kernel
theorem dX8_write_25 : decode cX8_write 25 = .ok (.aaload, 1) := by decide +kernel
theorem dX8_write_26 : decode cX8_write 26 = .ok (.iload_n 2, 1) := by decide +kernel
theorem dX8_write_27 : decode cX8_write 27 = .ok (.lload_n 3, 1) := by decide +kernel
theorem dX8_write_28 : decode cX8_write 28 = .ok (.invokevirtual 78, 3) := by decide +kernel
theorem dX8_write_31 : decode cX8_write 31 = .ok (.aload_n 0, 1) := by decide +kernel
theorem dX8_write_32 : decode cX8_write 32 = .ok (.invokevirtual 70, 3) := by decide +kernel
theorem dX8_write_35 : decode cX8_write 35 = .ok (.ireturn, 1) := by decide +kernel
theorem dX8_read_0 : decode cX8_read 0 = .ok (.aload_n 0, 1) := by decide +kernel
theorem dX8_read_1 : decode cX8_read 1 = .ok (.iload_n 1, 1) := by decide +kernel
theorem dX8_read_2 : decode cX8_read 2 = .ok (.iload_n 2, 1) := by decide +kernel
theorem dX8_read_3 : decode cX8_read 3 = .ok (.invokevirtual 74, 3) := by decide +kernel
theorem dX8_read_6 : decode cX8_read 6 = .ok (.istore_n 3, 1) := by decide +kernel
theorem dX8_read_7 : decode cX8_read 7 = .ok (.iload_n 3, 1) := by decide +kernel
theorem dX8_read_8 : decode cX8_read 8 = .ok (.ifCond .eq 10, 3) := by decide +kernel
theorem dX8_read_11 : decode cX8_read 11 = .ok (.aload_n 0, 1) := by decide +kernel
theorem dX8_read_12 : decode cX8_read 12 = .ok (.iload_n 3, 1) := by decide +kernel
theorem dX8_read_13 : decode cX8_read 13 = .ok (.invokevirtual 82, 3) := by decide +kernel
theorem dX8_read_16 : decode cX8_read 16 = .ok (.i2l, 1) := by decide +kernel
theorem dX8_read_17 : decode cX8_read 17 = .ok (.lreturn, 1) := by decide +kernel
theorem dX8_read_18 : decode cX8_read 18 = .ok (.aload_n 0, 1) := by decide +kernel
theorem dX8_read_19 : decode cX8_read 19 = .ok (.iconst 0, 1) := by decide +kernel
theorem dX8_read_20 : decode cX8_read 20 = .ok (.putfield 9, 3) := by decide +kernel
theorem dX8_read_23 : decode cX8_read 23 = .ok (.aload_n 0, 1) := by decide +kernel
theorem dX8_read_24 : decode cX8_read 24 = .ok (.getfield 28, 3) := by decide +kernel
theorem dX8_read_27 : decode cX8_read 27 = .ok (.iload_n 1, 1) := by decide +kernel
theorem dX8_read_28 : decode cX8_read 28 = .ok (.aaload, 1) := by decide +kernel
theorem dX8_read_29 : decode cX8_read 29 = .ok (.iload_n 2, 1) := by decide +kernel
theorem dX8_read_30 : decode cX8_read 30 = .ok (.invokevirtual 86, 3) := by decide +kernel
theorem dX8_read_33 : decode cX8_read 33 = .ok (.lreturn, 1) := by decide +kernel
theorem dX8_pour_0 : decode cX8_pour 0 = .ok (.iload_n 1, 1) := by decide +kernel
theorem dX8_pour_1 : decode cX8_pour 1 = .ok (.invokestatic 59, 3) := by decide +kernel
theorem dX8_pour_4 : decode cX8_pour 4 = .ok (.ifCond .eq 10, 3) := by decide +kernel
theorem dX8_pour_7 : decode cX8_pour 7 = .ok (.iload_n 3, 1) := by decide +kernel
theorem dX8_pour_8 : decode cX8_pour 8 = .ok (.invokestatic 59, 3) := by decide +kernel
theorem dX8_pour_11 : decode cX8_pour 11 = .ok (.ifCond .ne 9, 3) := by decide +kernel
theorem dX8_pour_14 : decode cX8_pour 14 = .ok (.aload_n 0, 1) := by decide +kernel
theorem dX8_pour_15 : decode cX8_pour 15 = .ok (.iconst 1, 1) := by decide +kernel
theorem dX8_pour_16 : decode cX8_pour 16 = .ok (.invokevirtual 63, 3) := by decide +kernel
theorem dX8_pour_19 : decode cX8_pour 19 = .ok (.ireturn, 1) := by decide +kernel
theorem dX8_pour_20 : decode cX8_pour 20 = .ok (.aload_n 0, 1) := by decide +kernel
theorem dX8_pour_21 : decode cX8_pour 21 = .ok (.getfield 28, 3) := by decide +kernel
theorem dX8_pour_24 : decode cX8_pour 24 = .ok (.iload_n 1, 1) := by decide +kernel
theorem dX8_pour_25 : decode cX8_pour 25 = .ok (.aaload, 1) := by decide +kernel
theorem dX8_pour_26 : decode cX8_pour 26 = .ok (.astore 6, 2) := by decide +kernel
theorem dX8_pour_28 : decode cX8_pour 28 = .ok (.aload_n 0, 1) := by decide +kernel
theorem dX8_pour_29 : decode cX8_pour 29 = .ok (.getfield 28, 3) := by decide +kernel
theorem dX8_pour_32 : decode cX8_pour 32 = .ok (.iload_n 3, 1) := by decide +kernel
theorem dX8_pour_33 : decode cX8_pour 33 = .ok (.aaload, 1) := by decide +kernel
theorem dX8_pour_34 : decode cX8_pour 34 = .ok (.astore 7, 2) := by decide +kernel
theorem dX8_pour_36 : decode cX8_pour 36 = .ok (.aload 6, 2) := by decide +kernel
theorem dX8_pour_38 : decode cX8_pour 38 = .ok (.invokevirtual 90, 3) := by decide +kernel
theorem dX8_pour_41 : decode cX8_pour 41 = .ok (.ifCond .ne 11, 3) := by decide +kernel
theorem dX8_pour_44 : decode cX8_pour 44 = .ok (.aload 7, 2) := by decide +kernel
theorem dX8_pour_46 : decode cX8_pour 46 = .ok (.invokevirtual 90, 3) := by decide +kernel
theorem dX8_pour_49 : decode cX8_pour 49 = .ok (.ifCond .eq 9, 3) := by decide +kernel
theorem dX8_pour_52 : decode cX8_pour 52 = .ok (.aload_n 0, 1) := by decide +kernel
theorem dX8_pour_53 : decode cX8_pour 53 = .ok (.iconst 3, 1) := by decide +kernel
theorem dX8_pour_54 : decode cX8_pour 54 = .ok (.invokevirtual 63, 3) := by decide +kernel
theorem dX8_pour_57 : decode cX8_pour 57 = .ok (.ireturn, 1) := by decide +kernel
theorem dX8_pour_58 : decode cX8_pour 58 = .ok (.aload 6, 2) := by decide +kernel
theorem dX8_pour_60 : decode cX8_pour 60 = .ok (.getfield 93, 3) := by decide +kernel
theorem dX8_pour_63 : decode cX8_pour 63 = .ok (.aload 7, 2) := by decide +kernel
theorem dX8_pour_65 : decode cX8_pour 65 = .ok (.getfield 93, 3) := by decide +kernel
theorem dX8_pour_68 : decode cX8_pour 68 = .ok (.if_icmp .eq 10, 3) := by decide +kernel
theorem dX8_pour_71 : decode cX8_pour 71 = .ok (.aload_n 0, 1) := by decide +kernel
theorem dX8_pour_72 : decode cX8_pour 72 = .ok (.bipush 11, 2) := by decide +kernel
theorem dX8_pour_74 : decode cX8_pour 74 = .ok (.invokevirtual 63, 3) := by decide +kernel
theorem dX8_pour_77 : decode cX8_pour 77 = .ok (.ireturn, 1) := by decide +kernel
theorem dX8_pour_78 : decode cX8_pour 78 = .ok (.iload 5, 2) := by decide +kernel
theorem dX8_pour_80 : decode cX8_pour 80 = .ok (.ifCond .ge 10, 3) := by decide +kernel
theorem dX8_pour_83 : decode cX8_pour 83 = .ok (.aload_n 0, 1) := by decide +kernel
theorem dX8_pour_84 : decode cX8_pour 84 = .ok (.bipush 6, 2) := by decide +kernel
theorem dX8_pour_86 : decode cX8_pour 86 = .ok (.invokevirtual 63, 3) := by decide +kernel
theorem dX8_pour_89 : decode cX8_pour 89 = .ok (.ireturn, 1) := by decide +kernel
theorem dX8_pour_90 : decode cX8_pour 90 = .ok (.aload 6, 2) := by decide +kernel
theorem dX8_pour_92 : decode cX8_pour 92 = .ok (.iload_n 2, 1) := by decide +kernel
theorem dX8_pour_93 : decode cX8_pour 93 = .ok (.iload 5, 2) := by decide +kernel
theorem dX8_pour_95 : decode cX8_pour 95 = .ok (.invokevirtual 96, 3) := by decide +kernel
theorem dX8_pour_98 : decode cX8_pour 98 = .ok (.ifCond .eq 15, 3) := by decide +kernel
theorem dX8_pour_101 : decode cX8_pour 101 = .ok (.aload 7, 2) := by decide +kernel
theorem dX8_pour_103 : decode cX8_pour 103 = .ok (.iload 4, 2) := by decide +kernel
theorem dX8_pour_105 : decode cX8_pour 105 = .ok (.iload 5, 2) := by decide +kernel
theorem dX8_pour_107 : decode cX8_pour 107 = .ok (.invokevirtual 96, 3) := by decide +kernel
theorem dX8_pour_110 : decode cX8_pour 110 = .ok (.ifCond .ne 9, 3) := by decide +kernel
theorem dX8_pour_113 : decode cX8_pour 113 = .ok (.aload_n 0, 1) := by decide +kernel
theorem dX8_pour_114 : decode cX8_pour 114 = .ok (.iconst 4, 1) := by decide +kernel
theorem dX8_pour_115 : decode cX8_pour 115 = .ok (.invokevirtual 63, 3) := by decide +kernel
theorem dX8_pour_118 : decode cX8_pour 118 = .ok (.ireturn, 1) := by decide +kernel
theorem dX8_pour_119 : decode cX8_pour 119 = .ok (.aload 6, 2) := by decide +kernel
theorem dX8_pour_121 : decode cX8_pour 121 = .ok (.getfield 100, 3) := by decide +kernel
theorem dX8_pour_124 : decode cX8_pour 124 = .ok (.iload_n 2, 1) := by decide +kernel
theorem dX8_pour_125 : decode cX8_pour 125 = .ok (.aload 7, 2) := by decide +kernel
theorem dX8_pour_127 : decode cX8_pour 127 = .ok (.getfield 100, 3) := by decide +kernel
theorem dX8_pour_130 : decode cX8_pour 130 = .ok (.iload 4, 2) := by decide +kernel
theorem dX8_pour_132 : decode cX8_pour 132 = .ok (.iload 5, 2) := by decide +kernel
theorem dX8_pour_134 : decode cX8_pour 134 = .ok (.invokestatic 104, 3) := by decide +kernel
theorem dX8_pour_137 : decode cX8_pour 137 = .ok (.aload_n 0, 1) := by decide +kernel
theorem dX8_pour_138 : decode cX8_pour 138 = .ok (.invokevirtual 70, 3) := by decide +kernel
theorem dX8_pour_141 : decode cX8_pour 141 = .ok (.ireturn, 1) := by decide +kernel
theorem dX8_part_0 : decode cX8_part 0 = .ok (.iload_n 1, 1) := by decide +kernel
theorem dX8_part_1 : decode cX8_part 1 = .ok (.invokestatic 59, 3) := by decide +kernel
theorem dX8_part_4 : decode cX8_part 4 = .ok (.ifCond .ne 9, 3) := by decide +kernel
theorem dX8_part_7 : decode cX8_part 7 = .ok (.aload_n 0, 1) := by decide +kernel
theorem dX8_part_8 : decode cX8_part 8 = .ok (.iconst 1, 1) := by decide +kernel
theorem dX8_part_9 : decode cX8_part 9 = .ok (.invokevirtual 82, 3) := by decide +kernel
theorem dX8_part_12 : decode cX8_part 12 = .ok (.ireturn, 1) := by decide +kernel
theorem dX8_part_13 : decode cX8_part 13 = .ok (.aload_n 0, 1) := by decide +kernel
theorem dX8_part_14 : decode cX8_part 14 = .ok (.getfield 28, 3) := by decide +kernel
theorem dX8_part_17 : decode cX8_part 17 = .ok (.iload_n 1, 1) := by decide +kernel
theorem dX8_part_18 : decode cX8_part 18 = .ok (.aaload, 1) := by decide +kernel
theorem dX8_part_19 : decode cX8_part 19 = .ok (.astore 4, 2) := by decide +kernel
theorem dX8_part_21 : decode cX8_part 21 = .ok (.aload 4, 2) := by decide +kernel
theorem dX8_part_23 : decode cX8_part 23 = .ok (.invokevirtual 90, 3) := by decide +kernel
theorem dX8_part_26 : decode cX8_part 26 = .ok (.ifCond .eq 9, 3) := by decide +kernel
theorem dX8_part_29 : decode cX8_part 29 = .ok (.aload_n 0, 1) := by decide +kernel
theorem dX8_part_30 : decode cX8_part 30 = .ok (.iconst 3, 1) := by decide +kernel
theorem dX8_part_31 : decode cX8_part 31 = .ok (.invokevirtual 82, 3) := by decide +kernel
theorem dX8_part_34 : decode cX8_part 34 = .ok (.ireturn, 1) := by decide +kernel
theorem dX8_part_35 : decode cX8_part 35 = .ok (.iload_n 2, 1) := by decide +kernel
theorem dX8_part_36 : decode cX8_part 36 = .ok (.iconst 1, 1) := by decide +kernel
theorem dX8_part_37 : decode cX8_part 37 = .ok (.if_icmp .lt 16, 3) := by decide +kernel
theorem dX8_part_40 : decode cX8_part 40 = .ok (.iload_n 2, 1) := by decide +kernel
theorem dX8_part_41 : decode cX8_part 41 = .ok (.bipush 8, 2) := by decide +kernel
theorem dX8_part_43 : decode cX8_part 43 = .ok (.if_icmp .gt 10, 3) := by decide +kernel
theorem dX8_part_46 : decode cX8_part 46 = .ok (.iload_n 3, 1) := by decide +kernel
theorem dX8_part_47 : decode cX8_part 47 = .ok (.invokestatic 110, 3) := by decide +kernel
theorem dX8_part_50 : decode cX8_part 50 = .ok (.ifCond .ne 9, 3) := by decide +kernel
theorem dX8_part_53 : decode cX8_part 53 = .ok (.aload_n 0, 1) := by decide +kernel
theorem dX8_part_54 : decode cX8_part 54 = .ok (.iconst 5, 1) := by decide +kernel
theorem dX8_part_55 : decode cX8_part 55 = .ok (.invokevirtual 82, 3) := by decide +kernel
theorem dX8_part_58 : decode cX8_part 58 = .ok (.ireturn, 1) := by decide +kernel
theorem dX8_part_59 : decode cX8_part 59 = .ok (.aload 4, 2) := by decide +kernel
theorem dX8_part_61 : decode cX8_part 61 = .ok (.iconst 0, 1) := by decide +kernel
theorem dX8_part_62 : decode cX8_part 62 = .ok (.iconst 2, 1) := by decide +kernel
theorem dX8_part_63 : decode cX8_part 63 = .ok (.iload_n 2, 1) := by decide +kernel
theorem dX8_part_64 : decode cX8_part 64 = .ok (.imul, 1) := by decide +kernel
theorem dX8_part_65 : decode cX8_part 65 = .ok (.invokevirtual 96, 3) := by decide +kernel
theorem dX8_part_68 : decode cX8_part 68 = .ok (.ifCond .ne 9, 3) := by decide +kernel
theorem dX8_part_71 : decode cX8_part 71 = .ok (.aload_n 0, 1) := by decide +kernel
theorem dX8_part_72 : decode cX8_part 72 = .ok (.iconst 4, 1) := by decide +kernel
theorem dX8_part_73 : decode cX8_part 73 = .ok (.invokevirtual 82, 3) := by decide +kernel
theorem dX8_part_76 : decode cX8_part 76 = .ok (.ireturn, 1) := by decide +kernel
theorem dX8_part_77 : decode cX8_part 77 = .ok (.aload 4, 2) := by decide +kernel
theorem dX8_part_79 : decode cX8_part 79 = .ok (.iload_n 2, 1) := by decide +kernel
theorem dX8_part_80 : decode cX8_part 80 = .ok (.invokevirtual 113, 3) := by decide +kernel
theorem dX8_part_83 : decode cX8_part 83 = .ok (.ifCond .ne 9, 3) := by decide +kernel
theorem dX8_part_86 : decode cX8_part 86 = .ok (.aload_n 0, 1) := by decide +kernel
theorem dX8_part_87 : decode cX8_part 87 = .ok (.iconst 5, 1) := by decide +kernel
theorem dX8_part_88 : decode cX8_part 88 = .ok (.invokevirtual 82, 3) := by decide +kernel
theorem dX8_part_91 : decode cX8_part 91 = .ok (.ireturn, 1) := by decide +kernel
theorem dX8_part_92 : decode cX8_part 92 = .ok (.aload_n 0, 1) := by decide +kernel
theorem dX8_part_93 : decode cX8_part 93 = .ok (.getfield 35, 3) := by decide +kernel
theorem dX8_part_96 : decode cX8_part 96 = .ok (.invokevirtual 116, 3) := by decide +kernel
theorem dX8_part_99 : decode cX8_part 99 = .ok (.iconst 0, 1) := by decide +kernel
theorem dX8_part_100 : decode cX8_part 100 = .ok (.istore 5, 2) := by decide +kernel
theorem dX8_part_102 : decode cX8_part 102 = .ok (.iload 5, 2) := by decide +kernel
theorem dX8_part_104 : decode cX8_part 104 = .ok (.iload_n 2, 1) := by decide +kernel
theorem dX8_part_105 : decode cX8_part 105 = .ok (.if_icmp .ge 37, 3) := by decide +kernel
theorem dX8_part_108 : decode cX8_part 108 = .ok (.aload_n 0, 1) := by decide +kernel
theorem dX8_part_109 : decode cX8_part 109 = .ok (.getfield 35, 3) := by decide +kernel
theorem dX8_part_112 : decode cX8_part 112 = .ok (.aload 4, 2) := by decide +kernel
theorem dX8_part_114 : decode cX8_part 114 = .ok (.iconst 2, 1) := by decide +kernel
theorem dX8_part_115 : decode cX8_part 115 = .ok (.iload 5, 2) := by decide +kernel
theorem dX8_part_117 : decode cX8_part 117 = .ok (.imul, 1) := by decide +kernel
theorem dX8_part_118 : decode cX8_part 118 = .ok (.invokevirtual 86, 3) := by decide +kernel
theorem dX8_part_121 : decode cX8_part 121 = .ok (.l2i, 1) := by decide +kernel
theorem dX8_part_122 : decode cX8_part 122 = .ok (.aload 4, 2) := by decide +kernel
theorem dX8_part_124 : decode cX8_part 124 = .ok (.iconst 2, 1) := by decide +kernel
theorem dX8_part_125 : decode cX8_part 125 = .ok (.iload 5, 2) := by decide +kernel
theorem dX8_part_127 : decode cX8_part 127 = .ok (.imul, 1) := by decide +kernel
theorem dX8_part_128 : decode cX8_part 128 = .ok (.iconst 1, 1) := by decide +kernel
theorem dX8_part_129 : decode cX8_part 129 = .ok (.iadd, 1) := by decide +kernel
theorem dX8_part_130 : decode cX8_part 130 = .ok (.invokevirtual 86, 3) := by decide +kernel
theorem dX8_part_133 : decode cX8_part 133 = .ok (.invokevirtual 119, 3) := by decide +kernel
theorem dX8_part_136 : decode cX8_part 136 = .ok (.iinc 5 1, 3) := by decide +kernel
theorem dX8_part_139 : decode cX8_part 139 = .ok (.goto (-37), 3) := by decide +kernel
theorem dX8_part_142 : decode cX8_part 142 = .ok (.aload_n 0, 1) := by decide +kernel
theorem dX8_part_143 : decode cX8_part 143 = .ok (.iload_n 3, 1) := by decide +kernel
theorem dX8_part_144 : decode cX8_part 144 = .ok (.invokevirtual 122, 3) := by decide +kernel
theorem dX8_part_147 : decode cX8_part 147 = .ok (.ireturn, 1) := by decide +kernel
theorem dX8_fixed_0 : decode cX8_fixed 0 = .ok (.iload_n 1, 1) := by decide +kernel
theorem dX8_fixed_1 : decode cX8_fixed 1 = .ok (.ifCond .lt 16, 3) := by decide +kernel
theorem dX8_fixed_4 : decode cX8_fixed 4 = .ok (.iload_n 1, 1) := by decide +kernel
theorem dX8_fixed_5 : decode cX8_fixed 5 = .ok (.bipush 99, 2) := by decide +kernel
theorem dX8_fixed_7 : decode cX8_fixed 7 = .ok (.if_icmp .gt 10, 3) := by decide +kernel
theorem dX8_fixed_10 : decode cX8_fixed 10 = .ok (.iload_n 2, 1) := by decide +kernel
theorem dX8_fixed_11 : decode cX8_fixed 11 = .ok (.invokestatic 110, 3) := by decide +kernel
theorem dX8_fixed_14 : decode cX8_fixed 14 = .ok (.ifCond .ne 9, 3) := by decide +kernel
theorem dX8_fixed_17 : decode cX8_fixed 17 = .ok (.aload_n 0, 1) := by decide +kernel
theorem dX8_fixed_18 : decode cX8_fixed 18 = .ok (.iconst 5, 1) := by decide +kernel
theorem dX8_fixed_19 : decode cX8_fixed 19 = .ok (.invokevirtual 82, 3) := by decide +kernel
theorem dX8_fixed_22 : decode cX8_fixed 22 = .ok (.ireturn, 1) := by decide +kernel
theorem dX8_fixed_23 : decode cX8_fixed 23 = .ok (.aload_n 0, 1) := by decide +kernel
theorem dX8_fixed_24 : decode cX8_fixed 24 = .ok (.getfield 35, 3) := by decide +kernel
theorem dX8_fixed_27 : decode cX8_fixed 27 = .ok (.invokevirtual 116, 3) := by decide +kernel
theorem dX8_fixed_30 : decode cX8_fixed 30 = .ok (.aload_n 0, 1) := by decide +kernel
theorem dX8_fixed_31 : decode cX8_fixed 31 = .ok (.getfield 35, 3) := by decide +kernel
theorem dX8_fixed_34 : decode cX8_fixed 34 = .ok (.iload_n 1, 1) := by decide +kernel
theorem dX8_fixed_35 : decode cX8_fixed 35 = .ok (.lconst 1, 1) := by decide +kernel
theorem dX8_fixed_36 : decode cX8_fixed 36 = .ok (.invokevirtual 119, 3) := by decide +kernel
theorem dX8_fixed_39 : decode cX8_fixed 39 = .ok (.aload_n 0, 1) := by decide +kernel
theorem dX8_fixed_40 : decode cX8_fixed 40 = .ok (.iload_n 2, 1) := by decide +kernel
theorem dX8_fixed_41 : decode cX8_fixed 41 = .ok (.invokevirtual 122, 3) := by decide +kernel
theorem dX8_fixed_44 : decode cX8_fixed 44 = .ok (.ireturn, 1) := by decide +kernel
theorem dX8_either_0 : decode cX8_either 0 = .ok (.aload_n 0, 1) := by decide +kernel
theorem dX8_either_1 : decode cX8_either 1 = .ok (.getfield 50, 3) := by decide +kernel
theorem dX8_either_4 : decode cX8_either 4 = .ok (.iload_n 1, 1) := by decide +kernel
theorem dX8_either_5 : decode cX8_either 5 = .ok (.invokevirtual 125, 3) := by decide +kernel
theorem dX8_either_8 : decode cX8_either 8 = .ok (.ifCond .eq 14, 3) := by decide +kernel
theorem dX8_either_11 : decode cX8_either 11 = .ok (.aload_n 0, 1) := by decide +kernel
theorem dX8_either_12 : decode cX8_either 12 = .ok (.getfield 50, 3) := by decide +kernel
theorem dX8_either_15 : decode cX8_either 15 = .ok (.iload_n 2, 1) := by decide +kernel
theorem dX8_either_16 : decode cX8_either 16 = .ok (.invokevirtual 125, 3) := by decide +kernel
theorem dX8_either_19 : decode cX8_either 19 = .ok (.ifCond .ne 9, 3) := by decide +kernel
theorem dX8_either_22 : decode cX8_either 22 = .ok (.aload_n 0, 1) := by decide +kernel
theorem dX8_either_23 : decode cX8_either 23 = .ok (.iconst 2, 1) := by decide +kernel
theorem dX8_either_24 : decode cX8_either 24 = .ok (.invokevirtual 82, 3) := by decide +kernel
theorem dX8_either_27 : decode cX8_either 27 = .ok (.ireturn, 1) := by decide +kernel
theorem dX8_either_28 : decode cX8_either 28 = .ok (.iload_n 3, 1) := by decide +kernel
theorem dX8_either_29 : decode cX8_either 29 = .ok (.iconst 1, 1) := by decide +kernel
theorem dX8_either_30 : decode cX8_either 30 = .ok (.if_icmp .lt 30, 3) := by decide +kernel
theorem dX8_either_33 : decode cX8_either 33 = .ok (.iload_n 3, 1) := by decide +kernel
theorem dX8_either_34 : decode cX8_either 34 = .ok (.bipush 99, 2) := by decide +kernel
theorem dX8_either_36 : decode cX8_either 36 = .ok (.if_icmp .gt 24, 3) := by decide +kernel
theorem dX8_either_39 : decode cX8_either 39 = .ok (.iload 4, 2) := by decide +kernel
theorem dX8_either_41 : decode cX8_either 41 = .ok (.iconst 1, 1) := by decide +kernel
theorem dX8_either_42 : decode cX8_either 42 = .ok (.if_icmp .lt 18, 3) := by decide +kernel
theorem dX8_either_45 : decode cX8_either 45 = .ok (.iload 4, 2) := by decide +kernel
theorem dX8_either_47 : decode cX8_either 47 = .ok (.bipush 99, 2) := by decide +kernel
theorem dX8_either_49 : decode cX8_either 49 = .ok (.if_icmp .gt 11, 3) := by decide +kernel
theorem dX8_either_52 : decode cX8_either 52 = .ok (.iload 5, 2) := by decide +kernel
theorem dX8_either_54 : decode cX8_either 54 = .ok (.invokestatic 110, 3) := by decide +kernel
theorem dX8_either_57 : decode cX8_either 57 = .ok (.ifCond .ne 9, 3) := by decide +kernel
theorem dX8_either_60 : decode cX8_either 60 = .ok (.aload_n 0, 1) := by decide +kernel
theorem dX8_either_61 : decode cX8_either 61 = .ok (.iconst 5, 1) := by decide +kernel
theorem dX8_either_62 : decode cX8_either 62 = .ok (.invokevirtual 82, 3) := by decide +kernel
theorem dX8_either_65 : decode cX8_either 65 = .ok (.ireturn, 1) := by decide +kernel
theorem dX8_either_66 : decode cX8_either 66 = .ok (.aload_n 0, 1) := by decide +kernel
theorem dX8_either_67 : decode cX8_either 67 = .ok (.getfield 50, 3) := by decide +kernel
theorem dX8_either_70 : decode cX8_either 70 = .ok (.getfield 130, 3) := by decide +kernel
theorem dX8_either_73 : decode cX8_either 73 = .ok (.iload_n 1, 1) := by decide +kernel
theorem dX8_either_74 : decode cX8_either 74 = .ok (.aaload, 1) := by decide +kernel
theorem dX8_either_75 : decode cX8_either 75 = .ok (.astore 6, 2) := by decide +kernel
theorem dX8_either_77 : decode cX8_either 77 = .ok (.aload_n 0, 1) := by decide +kernel
theorem dX8_either_78 : decode cX8_either 78 = .ok (.getfield 50, 3) := by decide +kernel
theorem dX8_either_81 : decode cX8_either 81 = .ok (.getfield 130, 3) := by decide +kernel
theorem dX8_either_84 : decode cX8_either 84 = .ok (.iload_n 2, 1) := by decide +kernel
theorem dX8_either_85 : decode cX8_either 85 = .ok (.aaload, 1) := by decide +kernel
theorem dX8_either_86 : decode cX8_either 86 = .ok (.astore 7, 2) := by decide +kernel
theorem dX8_either_88 : decode cX8_either 88 = .ok (.aload_n 0, 1) := by decide +kernel
theorem dX8_either_89 : decode cX8_either 89 = .ok (.getfield 35, 3) := by decide +kernel
theorem dX8_either_92 : decode cX8_either 92 = .ok (.invokevirtual 116, 3) := by decide +kernel
theorem dX8_either_95 : decode cX8_either 95 = .ok (.aload_n 0, 1) := by decide +kernel
theorem dX8_either_96 : decode cX8_either 96 = .ok (.getfield 35, 3) := by decide +kernel
theorem dX8_either_99 : decode cX8_either 99 = .ok (.aload 6, 2) := by decide +kernel
theorem dX8_either_101 : decode cX8_either 101 = .ok (.iload_n 3, 1) := by decide +kernel
theorem dX8_either_102 : decode cX8_either 102 = .ok (.i2l, 1) := by decide +kernel
theorem dX8_either_103 : decode cX8_either 103 = .ok (.aload 7, 2) := by decide +kernel
theorem dX8_either_105 : decode cX8_either 105 = .ok (.getfield 134, 3) := by decide +kernel
theorem dX8_either_108 : decode cX8_either 108 = .ok (.i2l, 1) := by decide +kernel
theorem dX8_either_109 : decode cX8_either 109 = .ok (.lmul, 1) := by decide +kernel
theorem dX8_either_110 : decode cX8_either 110 = .ok (.invokevirtual 139, 3) := by decide +kernel
theorem dX8_either_113 : decode cX8_either 113 = .ok (.aload_n 0, 1) := by decide +kernel
theorem dX8_either_114 : decode cX8_either 114 = .ok (.getfield 35, 3) := by decide +kernel
theorem dX8_either_117 : decode cX8_either 117 = .ok (.aload 7, 2) := by decide +kernel
theorem dX8_either_119 : decode cX8_either 119 = .ok (.iload 4, 2) := by decide +kernel
theorem dX8_either_121 : decode cX8_either 121 = .ok (.i2l, 1) := by decide +kernel
theorem dX8_either_122 : decode cX8_either 122 = .ok (.aload 6, 2) := by decide +kernel
theorem dX8_either_124 : decode cX8_either 124 = .ok (.getfield 134, 3) := by decide +kernel
theorem dX8_either_127 : decode cX8_either 127 = .ok (.i2l, 1) := by decide +kernel
theorem dX8_either_128 : decode cX8_either 128 = .ok (.lmul, 1) := by decide +kernel
theorem dX8_either_129 : decode cX8_either 129 = .ok (.invokevirtual 139, 3) := by decide +kernel
theorem dX8_either_132 : decode cX8_either 132 = .ok (.aload_n 0, 1) := by decide +kernel
theorem dX8_either_133 : decode cX8_either 133 = .ok (.iload 5, 2) := by decide +kernel
theorem dX8_either_135 : decode cX8_either 135 = .ok (.invokevirtual 122, 3) := by decide +kernel
theorem dX8_either_138 : decode cX8_either 138 = .ok (.ireturn, 1) := by decide +kernel
theorem dX8_again_0 : decode cX8_again 0 = .ok (.aload_n 0, 1) := by decide +kernel
theorem dX8_again_1 : decode cX8_again 1 = .ok (.getfield 50, 3) := by decide +kernel
theorem dX8_again_4 : decode cX8_again 4 = .ok (.iload_n 1, 1) := by decide +kernel
theorem dX8_again_5 : decode cX8_again 5 = .ok (.invokevirtual 125, 3) := by decide +kernel
theorem dX8_again_8 : decode cX8_again 8 = .ok (.ifCond .ne 9, 3) := by decide +kernel
theorem dX8_again_11 : decode cX8_again 11 = .ok (.aload_n 0, 1) := by decide +kernel
theorem dX8_again_12 : decode cX8_again 12 = .ok (.iconst 2, 1) := by decide +kernel
theorem dX8_again_13 : decode cX8_again 13 = .ok (.invokevirtual 82, 3) := by decide +kernel
theorem dX8_again_16 : decode cX8_again 16 = .ok (.ireturn, 1) := by decide +kernel
theorem dX8_again_17 : decode cX8_again 17 = .ok (.iload_n 2, 1) := by decide +kernel
theorem dX8_again_18 : decode cX8_again 18 = .ok (.iconst 1, 1) := by decide +kernel
theorem dX8_again_19 : decode cX8_again 19 = .ok (.if_icmp .lt 22, 3) := by decide +kernel
theorem dX8_again_22 : decode cX8_again 22 = .ok (.iload_n 2, 1) := by decide +kernel
theorem dX8_again_23 : decode cX8_again 23 = .ok (.iload_n 3, 1) := by decide +kernel
theorem dX8_again_24 : decode cX8_again 24 = .ok (.if_icmp .ge 17, 3) := by decide +kernel
theorem dX8_again_27 : decode cX8_again 27 = .ok (.iload_n 3, 1) := by decide +kernel
theorem dX8_again_28 : decode cX8_again 28 = .ok (.bipush 99, 2) := by decide +kernel
theorem dX8_again_30 : decode cX8_again 30 = .ok (.if_icmp .gt 11, 3) := by decide +kernel
theorem dX8_again_33 : decode cX8_again 33 = .ok (.iload 4, 2) := by decide +kernel
theorem dX8_again_35 : decode cX8_again 35 = .ok (.invokestatic 110, 3) := by decide +kernel
theorem dX8_again_38 : decode cX8_again 38 = .ok (.ifCond .ne 9, 3) := by decide +kernel
theorem dX8_again_41 : decode cX8_again 41 = .ok (.aload_n 0, 1) := by decide +kernel
theorem dX8_again_42 : decode cX8_again 42 = .ok (.iconst 5, 1) := by decide +kernel
theorem dX8_again_43 : decode cX8_again 43 = .ok (.invokevirtual 82, 3) := by decide +kernel
theorem dX8_again_46 : decode cX8_again 46 = .ok (.ireturn, 1) := by decide +kernel
theorem dX8_again_47 : decode cX8_again 47 = .ok (.aload_n 0, 1) := by decide +kernel
theorem dX8_again_48 : decode cX8_again 48 = .ok (.getfield 50, 3) := by decide +kernel
theorem dX8_again_51 : decode cX8_again 51 = .ok (.getfield 130, 3) := by decide +kernel
theorem dX8_again_54 : decode cX8_again 54 = .ok (.iload_n 1, 1) := by decide +kernel
theorem dX8_again_55 : decode cX8_again 55 = .ok (.aaload, 1) := by decide +kernel
theorem dX8_again_56 : decode cX8_again 56 = .ok (.astore 5, 2) := by decide +kernel
theorem dX8_again_58 : decode cX8_again 58 = .ok (.aload_n 0, 1) := by decide +kernel
theorem dX8_again_59 : decode cX8_again 59 = .ok (.getfield 35, 3) := by decide +kernel
theorem dX8_again_62 : decode cX8_again 62 = .ok (.invokevirtual 116, 3) := by decide +kernel
theorem dX8_again_65 : decode cX8_again 65 = .ok (.aload_n 0, 1) := by decide +kernel
theorem dX8_again_66 : decode cX8_again 66 = .ok (.getfield 35, 3) := by decide +kernel
theorem dX8_again_69 : decode cX8_again 69 = .ok (.aload 5, 2) := by decide +kernel
theorem dX8_again_71 : decode cX8_again 71 = .ok (.iload_n 3, 1) := by decide +kernel
theorem dX8_again_72 : decode cX8_again 72 = .ok (.iload_n 2, 1) := by decide +kernel
theorem dX8_again_73 : decode cX8_again 73 = .ok (.isub, 1) := by decide +kernel
theorem dX8_again_74 : decode cX8_again 74 = .ok (.i2l, 1) := by decide +kernel
theorem dX8_again_75 : decode cX8_again 75 = .ok (.aload 5, 2) := by decide +kernel
theorem dX8_again_77 : decode cX8_again 77 = .ok (.getfield 134, 3) := by decide +kernel
theorem dX8_again_80 : decode cX8_again 80 = .ok (.i2l, 1) := by decide +kernel
theorem dX8_again_81 : decode cX8_again 81 = .ok (.lmul, 1) := by decide +kernel
theorem dX8_again_82 : decode cX8_again 82 = .ok (.invokevirtual 139, 3) := by decide +kernel
theorem dX8_again_85 : decode cX8_again 85 = .ok (.aload_n 0, 1) := by decide +kernel
theorem dX8_again_86 : decode cX8_again 86 = .ok (.getfield 35, 3) := by decide +kernel
theorem dX8_again_89 : decode cX8_again 89 = .ok (.aload 5, 2) := by decide +kernel
theorem dX8_again_91 : decode cX8_again 91 = .ok (.iload_n 2, 1) := by decide +kernel
theorem dX8_again_92 : decode cX8_again 92 = .ok (.i2l, 1) := by decide +kernel
theorem dX8_again_93 : decode cX8_again 93 = .ok (.invokevirtual 143, 3) := by decide +kernel
theorem dX8_again_96 : decode cX8_again 96 = .ok (.aload_n 0, 1) := by decide +kernel
theorem dX8_again_97 : decode cX8_again 97 = .ok (.iload 4, 2) := by decide +kernel
theorem dX8_again_99 : decode cX8_again 99 = .ok (.invokevirtual 122, 3) := by decide +kernel
theorem dX8_again_102 : decode cX8_again 102 = .ok (.ireturn, 1) := by decide +kernel
theorem dX8_need_0 : decode cX8_need 0 = .ok (.aload_n 0, 1) := by decide +kernel
theorem dX8_need_1 : decode cX8_need 1 = .ok (.getfield 50, 3) := by decide +kernel
theorem dX8_need_4 : decode cX8_need 4 = .ok (.iload_n 1, 1) := by decide +kernel
theorem dX8_need_5 : decode cX8_need 5 = .ok (.invokevirtual 125, 3) := by decide +kernel
theorem dX8_need_8 : decode cX8_need 8 = .ok (.ifCond .eq 14, 3) := by decide +kernel
theorem dX8_need_11 : decode cX8_need 11 = .ok (.aload_n 0, 1) := by decide +kernel
theorem dX8_need_12 : decode cX8_need 12 = .ok (.getfield 50, 3) := by decide +kernel
theorem dX8_need_15 : decode cX8_need 15 = .ok (.iload_n 2, 1) := by decide +kernel
theorem dX8_need_16 : decode cX8_need 16 = .ok (.invokevirtual 125, 3) := by decide +kernel
theorem dX8_need_19 : decode cX8_need 19 = .ok (.ifCond .ne 9, 3) := by decide +kernel
theorem dX8_need_22 : decode cX8_need 22 = .ok (.aload_n 0, 1) := by decide +kernel
theorem dX8_need_23 : decode cX8_need 23 = .ok (.iconst 2, 1) := by decide +kernel
theorem dX8_need_24 : decode cX8_need 24 = .ok (.invokevirtual 63, 3) := by decide +kernel
theorem dX8_need_27 : decode cX8_need 27 = .ok (.ireturn, 1) := by decide +kernel
theorem dX8_need_28 : decode cX8_need 28 = .ok (.iload_n 2, 1) := by decide +kernel
theorem dX8_need_29 : decode cX8_need 29 = .ok (.iload_n 1, 1) := by decide +kernel
theorem dX8_need_30 : decode cX8_need 30 = .ok (.if_icmp .lt 9, 3) := by decide +kernel
theorem dX8_need_33 : decode cX8_need 33 = .ok (.aload_n 0, 1) := by decide +kernel
theorem dX8_need_34 : decode cX8_need 34 = .ok (.iconst 5, 1) := by decide +kernel
theorem dX8_need_35 : decode cX8_need 35 = .ok (.invokevirtual 63, 3) := by decide +kernel
theorem dX8_need_38 : decode cX8_need 38 = .ok (.ireturn, 1) := by decide +kernel
theorem dX8_need_39 : decode cX8_need 39 = .ok (.aload_n 0, 1) := by decide +kernel
theorem dX8_need_40 : decode cX8_need 40 = .ok (.getfield 50, 3) := by decide +kernel
theorem dX8_need_43 : decode cX8_need 43 = .ok (.getfield 130, 3) := by decide +kernel
theorem dX8_need_46 : decode cX8_need 46 = .ok (.iload_n 1, 1) := by decide +kernel
theorem dX8_need_47 : decode cX8_need 47 = .ok (.aaload, 1) := by decide +kernel
theorem dX8_need_48 : decode cX8_need 48 = .ok (.iload_n 2, 1) := by decide +kernel
theorem dX8_need_49 : decode cX8_need 49 = .ok (.iload_n 3, 1) := by decide +kernel
theorem dX8_need_50 : decode cX8_need 50 = .ok (.invokevirtual 146, 3) := by decide +kernel
theorem dX8_need_53 : decode cX8_need 53 = .ok (.aload_n 0, 1) := by decide +kernel
theorem dX8_need_54 : decode cX8_need 54 = .ok (.invokevirtual 150, 3) := by decide +kernel
theorem dX8_need_57 : decode cX8_need 57 = .ok (.ireturn, 1) := by decide +kernel
theorem dX8_cause_0 : decode cX8_cause 0 = .ok (.iload_n 1, 1) := by decide +kernel
theorem dX8_cause_1 : decode cX8_cause 1 = .ok (.iconst 1, 1) := by decide +kernel
theorem dX8_cause_2 : decode cX8_cause 2 = .ok (.if_icmp .lt 14, 3) := by decide +kernel
theorem dX8_cause_5 : decode cX8_cause 5 = .ok (.iload_n 1, 1) := by decide +kernel
theorem dX8_cause_6 : decode cX8_cause 6 = .ok (.iload_n 2, 1) := by decide +kernel
theorem dX8_cause_7 : decode cX8_cause 7 = .ok (.if_icmp .ge 9, 3) := by decide +kernel
theorem dX8_cause_10 : decode cX8_cause 10 = .ok (.iload_n 2, 1) := by decide +kernel
theorem dX8_cause_11 : decode cX8_cause 11 = .ok (.bipush 12, 2) := by decide +kernel
theorem dX8_cause_13 : decode cX8_cause 13 = .ok (.if_icmp .le 9, 3) := by decide +kernel
theorem dX8_cause_16 : decode cX8_cause 16 = .ok (.aload_n 0, 1) := by decide +kernel
theorem dX8_cause_17 : decode cX8_cause 17 = .ok (.iconst 5, 1) := by decide +kernel
theorem dX8_cause_18 : decode cX8_cause 18 = .ok (.invokevirtual 82, 3) := by decide +kernel
theorem dX8_cause_21 : decode cX8_cause 21 = .ok (.ireturn, 1) := by decide +kernel
theorem dX8_cause_22 : decode cX8_cause 22 = .ok (.aload_n 0, 1) := by decide +kernel
theorem dX8_cause_23 : decode cX8_cause 23 = .ok (.getfield 50, 3) := by decide +kernel
theorem dX8_cause_26 : decode cX8_cause 26 = .ok (.getfield 153, 3) := by decide +kernel
theorem dX8_cause_29 : decode cX8_cause 29 = .ok (.iconst 4, 1) := by decide +kernel
theorem dX8_cause_30 : decode cX8_cause 30 = .ok (.if_icmp .lt 10, 3) := by decide +kernel
theorem dX8_cause_33 : decode cX8_cause 33 = .ok (.aload_n 0, 1) := by decide +kernel
theorem dX8_cause_34 : decode cX8_cause 34 = .ok (.bipush 7, 2) := by decide +kernel
theorem dX8_cause_36 : decode cX8_cause 36 = .ok (.invokevirtual 82, 3) := by decide +kernel
theorem dX8_cause_39 : decode cX8_cause 39 = .ok (.ireturn, 1) := by decide +kernel
theorem dX8_cause_40 : decode cX8_cause 40 = .ok (.aload_n 0, 1) := by decide +kernel
theorem dX8_cause_41 : decode cX8_cause 41 = .ok (.getfield 50, 3) := by decide +kernel
theorem dX8_cause_44 : decode cX8_cause 44 = .ok (.iload_n 1, 1) := by decide +kernel
theorem dX8_cause_45 : decode cX8_cause 45 = .ok (.iload_n 2, 1) := by decide +kernel
theorem dX8_cause_46 : decode cX8_cause 46 = .ok (.invokevirtual 156, 3) := by decide +kernel
theorem dX8_cause_49 : decode cX8_cause 49 = .ok (.aload_n 0, 1) := by decide +kernel
theorem dX8_cause_50 : decode cX8_cause 50 = .ok (.invokevirtual 150, 3) := by decide +kernel
theorem dX8_cause_53 : decode cX8_cause 53 = .ok (.pop, 1) := by decide +kernel
theorem dX8_cause_54 : decode cX8_cause 54 = .ok (.aload_n 0, 1) := by decide +kernel
theorem dX8_cause_55 : decode cX8_cause 55 = .ok (.getfield 50, 3) := by decide +kernel
theorem dX8_cause_58 : decode cX8_cause 58 = .ok (.getfield 153, 3) := by decide +kernel
theorem dX8_cause_61 : decode cX8_cause 61 = .ok (.iconst 1, 1) := by decide +kernel
theorem dX8_cause_62 : decode cX8_cause 62 = .ok (.isub, 1) := by decide +kernel
theorem dX8_cause_63 : decode cX8_cause 63 = .ok (.ireturn, 1) := by decide +kernel
theorem dX8_late_0 : decode cX8_late 0 = .ok (.aload_n 0, 1) := by decide +kernel
theorem dX8_late_1 : decode cX8_late 1 = .ok (.getfield 50, 3) := by decide +kernel
theorem dX8_late_4 : decode cX8_late 4 = .ok (.iload_n 1, 1) := by decide +kernel
theorem dX8_late_5 : decode cX8_late 5 = .ok (.invokevirtual 125, 3) := by decide +kernel
theorem dX8_late_8 : decode cX8_late 8 = .ok (.ifCond .eq 18, 3) := by decide +kernel
theorem dX8_late_11 : decode cX8_late 11 = .ok (.iload_n 2, 1) := by decide +kernel
theorem dX8_late_12 : decode cX8_late 12 = .ok (.ifCond .lt 14, 3) := by decide +kernel
theorem dX8_late_15 : decode cX8_late 15 = .ok (.iload_n 2, 1) := by decide +kernel
theorem dX8_late_16 : decode cX8_late 16 = .ok (.aload_n 0, 1) := by decide +kernel
theorem dX8_late_17 : decode cX8_late 17 = .ok (.getfield 50, 3) := by decide +kernel
theorem dX8_late_20 : decode cX8_late 20 = .ok (.getfield 153, 3) := by decide +kernel
theorem dX8_late_23 : decode cX8_late 23 = .ok (.if_icmp .lt 9, 3) := by decide +kernel
theorem dX8_late_26 : decode cX8_late 26 = .ok (.aload_n 0, 1) := by decide +kernel
theorem dX8_late_27 : decode cX8_late 27 = .ok (.iconst 2, 1) := by decide +kernel
theorem dX8_late_28 : decode cX8_late 28 = .ok (.invokevirtual 63, 3) := by decide +kernel
theorem dX8_late_31 : decode cX8_late 31 = .ok (.ireturn, 1) := by decide +kernel
theorem dX8_late_32 : decode cX8_late 32 = .ok (.iload_n 3, 1) := by decide +kernel
theorem dX8_late_33 : decode cX8_late 33 = .ok (.ifCond .lt 9, 3) := by decide +kernel
theorem dX8_late_36 : decode cX8_late 36 = .ok (.iload_n 3, 1) := by decide +kernel
theorem dX8_late_37 : decode cX8_late 37 = .ok (.bipush 99, 2) := by decide +kernel
theorem dX8_late_39 : decode cX8_late 39 = .ok (.if_icmp .le 9, 3) := by decide +kernel
theorem dX8_late_42 : decode cX8_late 42 = .ok (.aload_n 0, 1) := by decide +kernel
theorem dX8_late_43 : decode cX8_late 43 = .ok (.iconst 5, 1) := by decide +kernel
theorem dX8_late_44 : decode cX8_late 44 = .ok (.invokevirtual 63, 3) := by decide +kernel
theorem dX8_late_47 : decode cX8_late 47 = .ok (.ireturn, 1) := by decide +kernel
theorem dX8_late_48 : decode cX8_late 48 = .ok (.aload_n 0, 1) := by decide +kernel
theorem dX8_late_49 : decode cX8_late 49 = .ok (.getfield 50, 3) := by decide +kernel
theorem dX8_late_52 : decode cX8_late 52 = .ok (.getfield 130, 3) := by decide +kernel
theorem dX8_late_55 : decode cX8_late 55 = .ok (.iload_n 1, 1) := by decide +kernel
theorem dX8_late_56 : decode cX8_late 56 = .ok (.aaload, 1) := by decide +kernel
theorem dX8_late_57 : decode cX8_late 57 = .ok (.getfield 159, 3) := by decide +kernel
theorem dX8_late_60 : decode cX8_late 60 = .ok (.iload_n 2, 1) := by decide +kernel
theorem dX8_late_61 : decode cX8_late 61 = .ok (.iload_n 3, 1) := by decide +kernel
theorem dX8_late_62 : decode cX8_late 62 = .ok (.iastore, 1) := by decide +kernel
theorem dX8_late_63 : decode cX8_late 63 = .ok (.aload_n 0, 1) := by decide +kernel
theorem dX8_late_64 : decode cX8_late 64 = .ok (.invokevirtual 150, 3) := by decide +kernel
theorem dX8_late_67 : decode cX8_late 67 = .ok (.ireturn, 1) := by decide +kernel
theorem dX8_hands_0 : decode cX8_hands 0 = .ok (.iload_n 1, 1) := by decide +kernel
theorem dX8_hands_1 : decode cX8_hands 1 = .ok (.iconst 1, 1) := by decide +kernel
theorem dX8_hands_2 : decode cX8_hands 2 = .ok (.if_icmp .lt 9, 3) := by decide +kernel
theorem dX8_hands_5 : decode cX8_hands 5 = .ok (.iload_n 1, 1) := by decide +kernel
theorem dX8_hands_6 : decode cX8_hands 6 = .ok (.bipush 30, 2) := by decide +kernel
theorem dX8_hands_8 : decode cX8_hands 8 = .ok (.if_icmp .le 9, 3) := by decide +kernel
theorem dX8_hands_11 : decode cX8_hands 11 = .ok (.aload_n 0, 1) := by decide +kernel
theorem dX8_hands_12 : decode cX8_hands 12 = .ok (.iconst 5, 1) := by decide +kernel
theorem dX8_hands_13 : decode cX8_hands 13 = .ok (.invokevirtual 63, 3) := by decide +kernel
theorem dX8_hands_16 : decode cX8_hands 16 = .ok (.ireturn, 1) := by decide +kernel
theorem dX8_hands_17 : decode cX8_hands 17 = .ok (.aload_n 0, 1) := by decide +kernel
theorem dX8_hands_18 : decode cX8_hands 18 = .ok (.getfield 50, 3) := by decide +kernel
theorem dX8_hands_21 : decode cX8_hands 21 = .ok (.iload_n 1, 1) := by decide +kernel
theorem dX8_hands_22 : decode cX8_hands 22 = .ok (.putfield 163, 3) := by decide +kernel
theorem dX8_hands_25 : decode cX8_hands 25 = .ok (.aload_n 0, 1) := by decide +kernel
theorem dX8_hands_26 : decode cX8_hands 26 = .ok (.invokevirtual 150, 3) := by decide +kernel
theorem dX8_hands_29 : decode cX8_hands 29 = .ok (.ireturn, 1) := by decide +kernel
theorem dX8_clear_0 : decode cX8_clear 0 = .ok (.aload_n 0, 1) := by decide +kernel
theorem dX8_clear_1 : decode cX8_clear 1 = .ok (.getfield 50, 3) := by decide +kernel
theorem dX8_clear_4 : decode cX8_clear 4 = .ok (.invokevirtual 166, 3) := by decide +kernel
theorem dX8_clear_7 : decode cX8_clear 7 = .ok (.aload_n 0, 1) := by decide +kernel
theorem dX8_clear_8 : decode cX8_clear 8 = .ok (.invokevirtual 150, 3) := by decide +kernel
theorem dX8_clear_11 : decode cX8_clear 11 = .ok (.ireturn, 1) := by decide +kernel
theorem dX8_told_0 : decode cX8_told 0 = .ok (.aload_n 0, 1) := by decide +kernel
theorem dX8_told_1 : decode cX8_told 1 = .ok (.getfield 50, 3) := by decide +kernel
theorem dX8_told_4 : decode cX8_told 4 = .ok (.iload_n 1, 1) := by decide +kernel
theorem dX8_told_5 : decode cX8_told 5 = .ok (.invokevirtual 125, 3) := by decide +kernel
theorem dX8_told_8 : decode cX8_told 8 = .ok (.ifCond .ne 9, 3) := by decide +kernel
theorem dX8_told_11 : decode cX8_told 11 = .ok (.aload_n 0, 1) := by decide +kernel
theorem dX8_told_12 : decode cX8_told 12 = .ok (.iconst 2, 1) := by decide +kernel
theorem dX8_told_13 : decode cX8_told 13 = .ok (.invokevirtual 82, 3) := by decide +kernel
theorem dX8_told_16 : decode cX8_told 16 = .ok (.ireturn, 1) := by decide +kernel
theorem dX8_told_17 : decode cX8_told 17 = .ok (.iload_n 2, 1) := by decide +kernel
theorem dX8_told_18 : decode cX8_told 18 = .ok (.ifCond .lt 8, 3) := by decide +kernel
theorem dX8_told_21 : decode cX8_told 21 = .ok (.iload_n 2, 1) := by decide +kernel
theorem dX8_told_22 : decode cX8_told 22 = .ok (.iconst 4, 1) := by decide +kernel
theorem dX8_told_23 : decode cX8_told 23 = .ok (.if_icmp .le 9, 3) := by decide +kernel
theorem dX8_told_26 : decode cX8_told 26 = .ok (.aload_n 0, 1) := by decide +kernel
theorem dX8_told_27 : decode cX8_told 27 = .ok (.iconst 5, 1) := by decide +kernel
theorem dX8_told_28 : decode cX8_told 28 = .ok (.invokevirtual 82, 3) := by decide +kernel
theorem dX8_told_31 : decode cX8_told 31 = .ok (.ireturn, 1) := by decide +kernel
theorem dX8_told_32 : decode cX8_told 32 = .ok (.aload_n 0, 1) := by decide +kernel
theorem dX8_told_33 : decode cX8_told 33 = .ok (.iconst 0, 1) := by decide +kernel
theorem dX8_told_34 : decode cX8_told 34 = .ok (.putfield 9, 3) := by decide +kernel
theorem dX8_told_37 : decode cX8_told 37 = .ok (.aload_n 0, 1) := by decide +kernel
theorem dX8_told_38 : decode cX8_told 38 = .ok (.getfield 50, 3) := by decide +kernel
theorem dX8_told_41 : decode cX8_told 41 = .ok (.getfield 130, 3) := by decide +kernel
theorem dX8_told_44 : decode cX8_told 44 = .ok (.iload_n 1, 1) := by decide +kernel
theorem dX8_told_45 : decode cX8_told 45 = .ok (.aaload, 1) := by decide +kernel
theorem dX8_told_46 : decode cX8_told 46 = .ok (.astore_n 3, 1) := by decide +kernel
theorem dX8_told_47 : decode cX8_told 47 = .ok (.iload_n 2, 1) := by decide +kernel
theorem dX8_told_48 : decode cX8_told 48 = .ok (.tableswitch 55 0 3 #[32, 37, 42, 47], 32) := by decide +kernel
theorem dX8_told_80 : decode cX8_told 80 = .ok (.aload_n 3, 1) := by decide +kernel
theorem dX8_told_81 : decode cX8_told 81 = .ok (.getfield 169, 3) := by decide +kernel
theorem dX8_told_84 : decode cX8_told 84 = .ok (.ireturn, 1) := by decide +kernel
theorem dX8_told_85 : decode cX8_told 85 = .ok (.aload_n 3, 1) := by decide +kernel
theorem dX8_told_86 : decode cX8_told 86 = .ok (.getfield 134, 3) := by decide +kernel
theorem dX8_told_89 : decode cX8_told 89 = .ok (.ireturn, 1) := by decide +kernel
theorem dX8_told_90 : decode cX8_told 90 = .ok (.aload_n 3, 1) := by decide +kernel
theorem dX8_told_91 : decode cX8_told 91 = .ok (.getfield 172, 3) := by decide +kernel
theorem dX8_told_94 : decode cX8_told 94 = .ok (.ireturn, 1) := by decide +kernel
theorem dX8_told_95 : decode cX8_told 95 = .ok (.aload_n 3, 1) := by decide +kernel
theorem dX8_told_96 : decode cX8_told 96 = .ok (.getfield 175, 3) := by decide +kernel
theorem dX8_told_99 : decode cX8_told 99 = .ok (.invokestatic 178, 3) := by decide +kernel
theorem dX8_told_102 : decode cX8_told 102 = .ok (.ireturn, 1) := by decide +kernel
theorem dX8_told_103 : decode cX8_told 103 = .ok (.aload_n 3, 1) := by decide +kernel
theorem dX8_told_104 : decode cX8_told 104 = .ok (.getfield 183, 3) := by decide +kernel
theorem dX8_told_107 : decode cX8_told 107 = .ok (.ireturn, 1) := by decide +kernel
theorem dX8_row_0 : decode cX8_row 0 = .ok (.aload_n 0, 1) := by decide +kernel
theorem dX8_row_1 : decode cX8_row 1 = .ok (.getfield 50, 3) := by decide +kernel
theorem dX8_row_4 : decode cX8_row 4 = .ok (.iload_n 1, 1) := by decide +kernel
theorem dX8_row_5 : decode cX8_row 5 = .ok (.invokevirtual 125, 3) := by decide +kernel
theorem dX8_row_8 : decode cX8_row 8 = .ok (.ifCond .eq 23, 3) := by decide +kernel
theorem dX8_row_11 : decode cX8_row 11 = .ok (.iload_n 2, 1) := by decide +kernel
theorem dX8_row_12 : decode cX8_row 12 = .ok (.ifCond .lt 19, 3) := by decide +kernel
theorem dX8_row_15 : decode cX8_row 15 = .ok (.iload_n 2, 1) := by decide +kernel
theorem dX8_row_16 : decode cX8_row 16 = .ok (.aload_n 0, 1) := by decide +kernel
theorem dX8_row_17 : decode cX8_row 17 = .ok (.getfield 50, 3) := by decide +kernel
theorem dX8_row_20 : decode cX8_row 20 = .ok (.getfield 130, 3) := by decide +kernel
theorem dX8_row_23 : decode cX8_row 23 = .ok (.iload_n 1, 1) := by decide +kernel
theorem dX8_row_24 : decode cX8_row 24 = .ok (.aaload, 1) := by decide +kernel
theorem dX8_row_25 : decode cX8_row 25 = .ok (.getfield 169, 3) := by decide +kernel
theorem dX8_row_28 : decode cX8_row 28 = .ok (.if_icmp .lt 9, 3) := by decide +kernel
theorem dX8_row_31 : decode cX8_row 31 = .ok (.aload_n 0, 1) := by decide +kernel
theorem dX8_row_32 : decode cX8_row 32 = .ok (.iconst 2, 1) := by decide +kernel
theorem dX8_row_33 : decode cX8_row 33 = .ok (.invokevirtual 82, 3) := by decide +kernel
theorem dX8_row_36 : decode cX8_row 36 = .ok (.ireturn, 1) := by decide +kernel
theorem dX8_row_37 : decode cX8_row 37 = .ok (.iload_n 3, 1) := by decide +kernel
theorem dX8_row_38 : decode cX8_row 38 = .ok (.ifCond .lt 8, 3) := by decide +kernel
theorem dX8_row_41 : decode cX8_row 41 = .ok (.iload_n 3, 1) := by decide +kernel
theorem dX8_row_42 : decode cX8_row 42 = .ok (.iconst 1, 1) := by decide +kernel
theorem dX8_row_43 : decode cX8_row 43 = .ok (.if_icmp .le 9, 3) := by decide +kernel
theorem dX8_row_46 : decode cX8_row 46 = .ok (.aload_n 0, 1) := by decide +kernel
theorem dX8_row_47 : decode cX8_row 47 = .ok (.iconst 5, 1) := by decide +kernel
theorem dX8_row_48 : decode cX8_row 48 = .ok (.invokevirtual 82, 3) := by decide +kernel
theorem dX8_row_51 : decode cX8_row 51 = .ok (.ireturn, 1) := by decide +kernel
theorem dX8_row_52 : decode cX8_row 52 = .ok (.aload_n 0, 1) := by decide +kernel
theorem dX8_row_53 : decode cX8_row 53 = .ok (.iconst 0, 1) := by decide +kernel
theorem dX8_row_54 : decode cX8_row 54 = .ok (.putfield 9, 3) := by decide +kernel
theorem dX8_row_57 : decode cX8_row 57 = .ok (.aload_n 0, 1) := by decide +kernel
theorem dX8_row_58 : decode cX8_row 58 = .ok (.getfield 50, 3) := by decide +kernel
theorem dX8_row_61 : decode cX8_row 61 = .ok (.getfield 130, 3) := by decide +kernel
theorem dX8_row_64 : decode cX8_row 64 = .ok (.iload_n 1, 1) := by decide +kernel
theorem dX8_row_65 : decode cX8_row 65 = .ok (.aaload, 1) := by decide +kernel
theorem dX8_row_66 : decode cX8_row 66 = .ok (.astore 4, 2) := by decide +kernel
theorem dX8_row_68 : decode cX8_row 68 = .ok (.iload_n 3, 1) := by decide +kernel
theorem dX8_row_69 : decode cX8_row 69 = .ok (.ifCond .ne 13, 3) := by decide +kernel
theorem dX8_row_72 : decode cX8_row 72 = .ok (.aload 4, 2) := by decide +kernel
theorem dX8_row_74 : decode cX8_row 74 = .ok (.getfield 186, 3) := by decide +kernel
theorem dX8_row_77 : decode cX8_row 77 = .ok (.iload_n 2, 1) := by decide +kernel
theorem dX8_row_78 : decode cX8_row 78 = .ok (.iaload, 1) := by decide +kernel
theorem dX8_row_79 : decode cX8_row 79 = .ok (.goto 10, 3) := by decide +kernel
theorem dX8_row_82 : decode cX8_row 82 = .ok (.aload 4, 2) := by decide +kernel
theorem dX8_row_84 : decode cX8_row 84 = .ok (.getfield 189, 3) := by decide +kernel
theorem dX8_row_87 : decode cX8_row 87 = .ok (.iload_n 2, 1) := by decide +kernel
theorem dX8_row_88 : decode cX8_row 88 = .ok (.iaload, 1) := by decide +kernel
theorem dX8_row_89 : decode cX8_row 89 = .ok (.ireturn, 1) := by decide +kernel
theorem dX8_upper_0 : decode cX8_upper 0 = .ok (.aload_n 0, 1) := by decide +kernel
theorem dX8_upper_1 : decode cX8_upper 1 = .ok (.getfield 16, 3) := by decide +kernel
theorem dX8_upper_4 : decode cX8_upper 4 = .ok (.getfield 192, 3) := by decide +kernel
theorem dX8_upper_7 : decode cX8_upper 7 = .ok (.lreturn, 1) := by decide +kernel
theorem dX8_lower_0 : decode cX8_lower 0 = .ok (.aload_n 0, 1) := by decide +kernel
theorem dX8_lower_1 : decode cX8_lower 1 = .ok (.getfield 16, 3) := by decide +kernel
theorem dX8_lower_4 : decode cX8_lower 4 = .ok (.getfield 196, 3) := by decide +kernel
theorem dX8_lower_7 : decode cX8_lower 7 = .ok (.lreturn, 1) := by decide +kernel
theorem dX8_ways_0 : decode cX8_ways 0 = .ok (.aload_n 0, 1) := by decide +kernel
theorem dX8_ways_1 : decode cX8_ways 1 = .ok (.getfield 50, 3) := by decide +kernel
theorem dX8_ways_4 : decode cX8_ways 4 = .ok (.invokevirtual 199, 3) := by decide +kernel
theorem dX8_ways_7 : decode cX8_ways 7 = .ok (.ifCond .eq 10, 3) := by decide +kernel
theorem dX8_ways_10 : decode cX8_ways 10 = .ok (.aload_n 0, 1) := by decide +kernel
theorem dX8_ways_11 : decode cX8_ways 11 = .ok (.bipush 9, 2) := by decide +kernel
theorem dX8_ways_13 : decode cX8_ways 13 = .ok (.invokevirtual 82, 3) := by decide +kernel
theorem dX8_ways_16 : decode cX8_ways 16 = .ok (.ireturn, 1) := by decide +kernel
theorem dX8_ways_17 : decode cX8_ways 17 = .ok (.aload_n 0, 1) := by decide +kernel
theorem dX8_ways_18 : decode cX8_ways 18 = .ok (.iconst 0, 1) := by decide +kernel
theorem dX8_ways_19 : decode cX8_ways 19 = .ok (.putfield 9, 3) := by decide +kernel
theorem dX8_ways_22 : decode cX8_ways 22 = .ok (.aload_n 0, 1) := by decide +kernel
theorem dX8_ways_23 : decode cX8_ways 23 = .ok (.getfield 50, 3) := by decide +kernel
theorem dX8_ways_26 : decode cX8_ways 26 = .ok (.invokevirtual 202, 3) := by decide +kernel
theorem dX8_ways_29 : decode cX8_ways 29 = .ok (.ireturn, 1) := by decide +kernel
theorem dX8_ends_0 : decode cX8_ends 0 = .ok (.iload_n 1, 1) := by decide +kernel
theorem dX8_ends_1 : decode cX8_ends 1 = .ok (.ifCond .ge 7, 3) := by decide +kernel
theorem dX8_ends_4 : decode cX8_ends 4 = .ok (.iconst 5, 1) := by decide +kernel
theorem dX8_ends_5 : decode cX8_ends 5 = .ok (.goto 7, 3) := by decide +kernel
theorem dX8_ends_8 : decode cX8_ends 8 = .ok (.aload_n 0, 1) := by decide +kernel
theorem dX8_ends_9 : decode cX8_ends 9 = .ok (.invokevirtual 206, 3) := by decide +kernel
theorem dX8_ends_12 : decode cX8_ends 12 = .ok (.istore_n 2, 1) := by decide +kernel
theorem dX8_ends_13 : decode cX8_ends 13 = .ok (.iload_n 2, 1) := by decide +kernel
theorem dX8_ends_14 : decode cX8_ends 14 = .ok (.ifCond .eq 9, 3) := by decide +kernel
theorem dX8_ends_17 : decode cX8_ends 17 = .ok (.aload_n 0, 1) := by decide +kernel
theorem dX8_ends_18 : decode cX8_ends 18 = .ok (.iload_n 2, 1) := by decide +kernel
theorem dX8_ends_19 : decode cX8_ends 19 = .ok (.invokevirtual 63, 3) := by decide +kernel
theorem dX8_ends_22 : decode cX8_ends 22 = .ok (.ireturn, 1) := by decide +kernel
theorem dX8_ends_23 : decode cX8_ends 23 = .ok (.aload_n 0, 1) := by decide +kernel
theorem dX8_ends_24 : decode cX8_ends 24 = .ok (.aload_n 0, 1) := by decide +kernel
theorem dX8_ends_25 : decode cX8_ends 25 = .ok (.getfield 42, 3) := by decide +kernel
theorem dX8_ends_28 : decode cX8_ends 28 = .ok (.iload_n 1, 1) := by decide +kernel
theorem dX8_ends_29 : decode cX8_ends 29 = .ok (.invokevirtual 209, 3) := by decide +kernel
theorem dX8_ends_32 : decode cX8_ends 32 = .ok (.aload_n 0, 1) := by decide +kernel
theorem dX8_ends_33 : decode cX8_ends 33 = .ok (.getfield 42, 3) := by decide +kernel
theorem dX8_ends_36 : decode cX8_ends 36 = .ok (.getfield 212, 3) := by decide +kernel
theorem dX8_ends_39 : decode cX8_ends 39 = .ok (.invokevirtual 215, 3) := by decide +kernel
theorem dX8_ends_42 : decode cX8_ends 42 = .ok (.ireturn, 1) := by decide +kernel
theorem dX8_done_0 : decode cX8_done 0 = .ok (.aload_n 0, 1) := by decide +kernel
theorem dX8_done_1 : decode cX8_done 1 = .ok (.getfield 50, 3) := by decide +kernel
theorem dX8_done_4 : decode cX8_done 4 = .ok (.iload_n 1, 1) := by decide +kernel
theorem dX8_done_5 : decode cX8_done 5 = .ok (.invokevirtual 125, 3) := by decide +kernel
theorem dX8_done_8 : decode cX8_done 8 = .ok (.ifCond .ne 9, 3) := by decide +kernel
theorem dX8_done_11 : decode cX8_done 11 = .ok (.aload_n 0, 1) := by decide +kernel
theorem dX8_done_12 : decode cX8_done 12 = .ok (.iconst 2, 1) := by decide +kernel
theorem dX8_done_13 : decode cX8_done 13 = .ok (.invokevirtual 63, 3) := by decide +kernel
theorem dX8_done_16 : decode cX8_done 16 = .ok (.ireturn, 1) := by decide +kernel
theorem dX8_done_17 : decode cX8_done 17 = .ok (.iload_n 2, 1) := by decide +kernel
theorem dX8_done_18 : decode cX8_done 18 = .ok (.ifCond .ge 7, 3) := by decide +kernel
theorem dX8_done_21 : decode cX8_done 21 = .ok (.iconst 5, 1) := by decide +kernel
theorem dX8_done_22 : decode cX8_done 22 = .ok (.goto 7, 3) := by decide +kernel
theorem dX8_done_25 : decode cX8_done 25 = .ok (.aload_n 0, 1) := by decide +kernel
theorem dX8_done_26 : decode cX8_done 26 = .ok (.invokevirtual 206, 3) := by decide +kernel
theorem dX8_done_29 : decode cX8_done 29 = .ok (.istore_n 3, 1) := by decide +kernel
theorem dX8_done_30 : decode cX8_done 30 = .ok (.iload_n 3, 1) := by decide +kernel
theorem dX8_done_31 : decode cX8_done 31 = .ok (.ifCond .eq 9, 3) := by decide +kernel
theorem dX8_done_34 : decode cX8_done 34 = .ok (.aload_n 0, 1) := by decide +kernel
theorem dX8_done_35 : decode cX8_done 35 = .ok (.iload_n 3, 1) := by decide +kernel
theorem dX8_done_36 : decode cX8_done 36 = .ok (.invokevirtual 63, 3) := by decide +kernel
theorem dX8_done_39 : decode cX8_done 39 = .ok (.ireturn, 1) := by decide +kernel
theorem dX8_done_40 : decode cX8_done 40 = .ok (.aload_n 0, 1) := by decide +kernel
theorem dX8_done_41 : decode cX8_done 41 = .ok (.aload_n 0, 1) := by decide +kernel
theorem dX8_done_42 : decode cX8_done 42 = .ok (.getfield 42, 3) := by decide +kernel
theorem dX8_done_45 : decode cX8_done 45 = .ok (.iload_n 1, 1) := by decide +kernel
theorem dX8_done_46 : decode cX8_done 46 = .ok (.iload_n 2, 1) := by decide +kernel
theorem dX8_done_47 : decode cX8_done 47 = .ok (.invokevirtual 219, 3) := by decide +kernel
theorem dX8_done_50 : decode cX8_done 50 = .ok (.aload_n 0, 1) := by decide +kernel
theorem dX8_done_51 : decode cX8_done 51 = .ok (.getfield 42, 3) := by decide +kernel
theorem dX8_done_54 : decode cX8_done 54 = .ok (.getfield 212, 3) := by decide +kernel
theorem dX8_done_57 : decode cX8_done 57 = .ok (.invokevirtual 215, 3) := by decide +kernel
theorem dX8_done_60 : decode cX8_done 60 = .ok (.ireturn, 1) := by decide +kernel
theorem dX8_promise_0 : decode cX8_promise 0 = .ok (.iload_n 1, 1) := by decide +kernel
theorem dX8_promise_1 : decode cX8_promise 1 = .ok (.ifCond .lt 23, 3) := by decide +kernel
theorem dX8_promise_4 : decode cX8_promise 4 = .ok (.iload_n 1, 1) := by decide +kernel
theorem dX8_promise_5 : decode cX8_promise 5 = .ok (.iload_n 2, 1) := by decide +kernel
theorem dX8_promise_6 : decode cX8_promise 6 = .ok (.if_icmp .gt 18, 3) := by decide +kernel
theorem dX8_promise_9 : decode cX8_promise 9 = .ok (.iload_n 2, 1) := by decide +kernel
theorem dX8_promise_10 : decode cX8_promise 10 = .ok (.iconst 1, 1) := by decide +kernel
theorem dX8_promise_11 : decode cX8_promise 11 = .ok (.if_icmp .lt 13, 3) := by decide +kernel
theorem dX8_promise_14 : decode cX8_promise 14 = .ok (.iload_n 2, 1) := by decide +kernel
theorem dX8_promise_15 : decode cX8_promise 15 = .ok (.ldc 223, 2) := by decide +kernel
theorem dX8_promise_17 : decode cX8_promise 17 = .ok (.if_icmp .gt 7, 3) := by decide +kernel
theorem dX8_promise_20 : decode cX8_promise 20 = .ok (.iconst 1, 1) := by decide +kernel
theorem dX8_promise_21 : decode cX8_promise 21 = .ok (.goto 4, 3) := by decide +kernel
theorem dX8_promise_24 : decode cX8_promise 24 = .ok (.iconst 0, 1) := by decide +kernel
theorem dX8_promise_25 : decode cX8_promise 25 = .ok (.istore_n 3, 1) := by decide +kernel
theorem dX8_promise_26 : decode cX8_promise 26 = .ok (.iload_n 3, 1) := by decide +kernel
theorem dX8_promise_27 : decode cX8_promise 27 = .ok (.ifCond .eq 10, 3) := by decide +kernel
theorem dX8_promise_30 : decode cX8_promise 30 = .ok (.aload_n 0, 1) := by decide +kernel
theorem dX8_promise_31 : decode cX8_promise 31 = .ok (.invokevirtual 206, 3) := by decide +kernel
theorem dX8_promise_34 : decode cX8_promise 34 = .ok (.goto 4, 3) := by decide +kernel
theorem dX8_promise_37 : decode cX8_promise 37 = .ok (.iconst 5, 1) := by decide +kernel
theorem dX8_promise_38 : decode cX8_promise 38 = .ok (.istore 4, 2) := by decide +kernel
theorem dX8_promise_40 : decode cX8_promise 40 = .ok (.iload 4, 2) := by decide +kernel
theorem dX8_promise_42 : decode cX8_promise 42 = .ok (.ifCond .eq 10, 3) := by decide +kernel
theorem dX8_promise_45 : decode cX8_promise 45 = .ok (.aload_n 0, 1) := by decide +kernel
theorem dX8_promise_46 : decode cX8_promise 46 = .ok (.iload 4, 2) := by decide +kernel
theorem dX8_promise_48 : decode cX8_promise 48 = .ok (.invokevirtual 82, 3) := by decide +kernel
theorem dX8_promise_51 : decode cX8_promise 51 = .ok (.ireturn, 1) := by decide +kernel
theorem dX8_promise_52 : decode cX8_promise 52 = .ok (.aload_n 0, 1) := by decide +kernel
theorem dX8_promise_53 : decode cX8_promise 53 = .ok (.iconst 0, 1) := by decide +kernel
theorem dX8_promise_54 : decode cX8_promise 54 = .ok (.putfield 9, 3) := by decide +kernel
theorem dX8_promise_57 : decode cX8_promise 57 = .ok (.aload_n 0, 1) := by decide +kernel
theorem dX8_promise_58 : decode cX8_promise 58 = .ok (.getfield 42, 3) := by decide +kernel
theorem dX8_promise_61 : decode cX8_promise 61 = .ok (.iload_n 1, 1) := by decide +kernel
theorem dX8_promise_62 : decode cX8_promise 62 = .ok (.iload_n 2, 1) := by decide +kernel
theorem dX8_promise_63 : decode cX8_promise 63 = .ok (.invokevirtual 224, 3) := by decide +kernel
theorem dX8_promise_66 : decode cX8_promise 66 = .ok (.ireturn, 1) := by decide +kernel
theorem dX8_mean_0 : decode cX8_mean 0 = .ok (.aload_n 0, 1) := by decide +kernel
theorem dX8_mean_1 : decode cX8_mean 1 = .ok (.invokevirtual 206, 3) := by decide +kernel
theorem dX8_mean_4 : decode cX8_mean 4 = .ok (.istore_n 1, 1) := by decide +kernel
theorem dX8_mean_5 : decode cX8_mean 5 = .ok (.iload_n 1, 1) := by decide +kernel
theorem dX8_mean_6 : decode cX8_mean 6 = .ok (.ifCond .eq 9, 3) := by decide +kernel
theorem dX8_mean_9 : decode cX8_mean 9 = .ok (.aload_n 0, 1) := by decide +kernel
theorem dX8_mean_10 : decode cX8_mean 10 = .ok (.iload_n 1, 1) := by decide +kernel
theorem dX8_mean_11 : decode cX8_mean 11 = .ok (.invokevirtual 63, 3) := by decide +kernel
theorem dX8_mean_14 : decode cX8_mean 14 = .ok (.ireturn, 1) := by decide +kernel
theorem dX8_mean_15 : decode cX8_mean 15 = .ok (.aload_n 0, 1) := by decide +kernel
theorem dX8_mean_16 : decode cX8_mean 16 = .ok (.aload_n 0, 1) := by decide +kernel
theorem dX8_mean_17 : decode cX8_mean 17 = .ok (.getfield 42, 3) := by decide +kernel
theorem dX8_mean_20 : decode cX8_mean 20 = .ok (.invokevirtual 227, 3) := by decide +kernel
theorem dX8_mean_23 : decode cX8_mean 23 = .ok (.aload_n 0, 1) := by decide +kernel
theorem dX8_mean_24 : decode cX8_mean 24 = .ok (.getfield 42, 3) := by decide +kernel
theorem dX8_mean_27 : decode cX8_mean 27 = .ok (.getfield 212, 3) := by decide +kernel
theorem dX8_mean_30 : decode cX8_mean 30 = .ok (.invokevirtual 215, 3) := by decide +kernel
theorem dX8_mean_33 : decode cX8_mean 33 = .ok (.ireturn, 1) := by decide +kernel
theorem dX8_spread_0 : decode cX8_spread 0 = .ok (.aload_n 0, 1) := by decide +kernel
theorem dX8_spread_1 : decode cX8_spread 1 = .ok (.invokevirtual 206, 3) := by decide +kernel
theorem dX8_spread_4 : decode cX8_spread 4 = .ok (.istore_n 1, 1) := by decide +kernel
theorem dX8_spread_5 : decode cX8_spread 5 = .ok (.iload_n 1, 1) := by decide +kernel
theorem dX8_spread_6 : decode cX8_spread 6 = .ok (.ifCond .eq 9, 3) := by decide +kernel
theorem dX8_spread_9 : decode cX8_spread 9 = .ok (.aload_n 0, 1) := by decide +kernel
theorem dX8_spread_10 : decode cX8_spread 10 = .ok (.iload_n 1, 1) := by decide +kernel
theorem dX8_spread_11 : decode cX8_spread 11 = .ok (.invokevirtual 63, 3) := by decide +kernel
theorem dX8_spread_14 : decode cX8_spread 14 = .ok (.ireturn, 1) := by decide +kernel
theorem dX8_spread_15 : decode cX8_spread 15 = .ok (.aload_n 0, 1) := by decide +kernel
theorem dX8_spread_16 : decode cX8_spread 16 = .ok (.getfield 42, 3) := by decide +kernel
theorem dX8_spread_19 : decode cX8_spread 19 = .ok (.invokevirtual 231, 3) := by decide +kernel
theorem dX8_spread_22 : decode cX8_spread 22 = .ok (.aload_n 0, 1) := by decide +kernel
theorem dX8_spread_23 : decode cX8_spread 23 = .ok (.aload_n 0, 1) := by decide +kernel
theorem dX8_spread_24 : decode cX8_spread 24 = .ok (.getfield 42, 3) := by decide +kernel
theorem dX8_spread_27 : decode cX8_spread 27 = .ok (.invokevirtual 234, 3) := by decide +kernel
theorem dX8_spread_30 : decode cX8_spread 30 = .ok (.aload_n 0, 1) := by decide +kernel
theorem dX8_spread_31 : decode cX8_spread 31 = .ok (.getfield 42, 3) := by decide +kernel
theorem dX8_spread_34 : decode cX8_spread 34 = .ok (.getfield 212, 3) := by decide +kernel
theorem dX8_spread_37 : decode cX8_spread 37 = .ok (.aload_n 0, 1) := by decide +kernel
theorem dX8_spread_38 : decode cX8_spread 38 = .ok (.getfield 42, 3) := by decide +kernel
theorem dX8_spread_41 : decode cX8_spread 41 = .ok (.getfield 212, 3) := by decide +kernel
theorem dX8_spread_44 : decode cX8_spread 44 = .ok (.lmul, 1) := by decide +kernel
theorem dX8_spread_45 : decode cX8_spread 45 = .ok (.invokevirtual 215, 3) := by decide +kernel
theorem dX8_spread_48 : decode cX8_spread 48 = .ok (.ireturn, 1) := by decide +kernel
theorem dX8_sure_0 : decode cX8_sure 0 = .ok (.aload_n 0, 1) := by decide +kernel
theorem dX8_sure_1 : decode cX8_sure 1 = .ok (.getfield 50, 3) := by decide +kernel
theorem dX8_sure_4 : decode cX8_sure 4 = .ok (.iload_n 1, 1) := by decide +kernel
theorem dX8_sure_5 : decode cX8_sure 5 = .ok (.invokevirtual 125, 3) := by decide +kernel
theorem dX8_sure_8 : decode cX8_sure 8 = .ok (.ifCond .eq 10, 3) := by decide +kernel
theorem dX8_sure_11 : decode cX8_sure 11 = .ok (.aload_n 0, 1) := by decide +kernel
theorem dX8_sure_12 : decode cX8_sure 12 = .ok (.invokevirtual 206, 3) := by decide +kernel
theorem dX8_sure_15 : decode cX8_sure 15 = .ok (.goto 4, 3) := by decide +kernel
theorem dX8_sure_18 : decode cX8_sure 18 = .ok (.iconst 2, 1) := by decide +kernel
theorem dX8_sure_19 : decode cX8_sure 19 = .ok (.istore_n 2, 1) := by decide +kernel
theorem dX8_sure_20 : decode cX8_sure 20 = .ok (.iload_n 2, 1) := by decide +kernel
theorem dX8_sure_21 : decode cX8_sure 21 = .ok (.ifCond .eq 9, 3) := by decide +kernel
theorem dX8_sure_24 : decode cX8_sure 24 = .ok (.aload_n 0, 1) := by decide +kernel
theorem dX8_sure_25 : decode cX8_sure 25 = .ok (.iload_n 2, 1) := by decide +kernel
theorem dX8_sure_26 : decode cX8_sure 26 = .ok (.invokevirtual 63, 3) := by decide +kernel
theorem dX8_sure_29 : decode cX8_sure 29 = .ok (.ireturn, 1) := by decide +kernel
theorem dX8_sure_30 : decode cX8_sure 30 = .ok (.aload_n 0, 1) := by decide +kernel
theorem dX8_sure_31 : decode cX8_sure 31 = .ok (.getfield 42, 3) := by decide +kernel
theorem dX8_sure_34 : decode cX8_sure 34 = .ok (.iload_n 1, 1) := by decide +kernel
theorem dX8_sure_35 : decode cX8_sure 35 = .ok (.aload_n 0, 1) := by decide +kernel
theorem dX8_sure_36 : decode cX8_sure 36 = .ok (.getfield 20, 3) := by decide +kernel
theorem dX8_sure_39 : decode cX8_sure 39 = .ok (.invokevirtual 237, 3) := by decide +kernel
theorem dX8_sure_42 : decode cX8_sure 42 = .ok (.ifCond .ne 10, 3) := by decide +kernel
theorem dX8_sure_45 : decode cX8_sure 45 = .ok (.aload_n 0, 1) := by decide +kernel
theorem dX8_sure_46 : decode cX8_sure 46 = .ok (.bipush 9, 2) := by decide +kernel
theorem dX8_sure_48 : decode cX8_sure 48 = .ok (.invokevirtual 63, 3) := by decide +kernel
theorem dX8_sure_51 : decode cX8_sure 51 = .ok (.ireturn, 1) := by decide +kernel
theorem dX8_sure_52 : decode cX8_sure 52 = .ok (.aload_n 0, 1) := by decide +kernel
theorem dX8_sure_53 : decode cX8_sure 53 = .ok (.aload_n 0, 1) := by decide +kernel
theorem dX8_sure_54 : decode cX8_sure 54 = .ok (.getfield 20, 3) := by decide +kernel
theorem dX8_sure_57 : decode cX8_sure 57 = .ok (.getfield 192, 3) := by decide +kernel
theorem dX8_sure_60 : decode cX8_sure 60 = .ok (.aload_n 0, 1) := by decide +kernel
theorem dX8_sure_61 : decode cX8_sure 61 = .ok (.getfield 20, 3) := by decide +kernel
theorem dX8_sure_64 : decode cX8_sure 64 = .ok (.getfield 196, 3) := by decide +kernel
theorem dX8_sure_67 : decode cX8_sure 67 = .ok (.aload_n 0, 1) := by decide +kernel
theorem dX8_sure_68 : decode cX8_sure 68 = .ok (.getfield 42, 3) := by decide +kernel
theorem dX8_sure_71 : decode cX8_sure 71 = .ok (.getfield 212, 3) := by decide +kernel
theorem dX8_sure_74 : decode cX8_sure 74 = .ok (.lmul, 1) := by decide +kernel
theorem dX8_sure_75 : decode cX8_sure 75 = .ok (.invokevirtual 215, 3) := by decide +kernel
theorem dX8_sure_78 : decode cX8_sure 78 = .ok (.ireturn, 1) := by decide +kernel
theorem dX8_surest_0 : decode cX8_surest 0 = .ok (.aload_n 0, 1) := by decide +kernel
theorem dX8_surest_1 : decode cX8_surest 1 = .ok (.getfield 50, 3) := by decide +kernel
theorem dX8_surest_4 : decode cX8_surest 4 = .ok (.getfield 241, 3) := by decide +kernel
theorem dX8_surest_7 : decode cX8_surest 7 = .ok (.ifCond .le 10, 3) := by decide +kernel
theorem dX8_surest_10 : decode cX8_surest 10 = .ok (.aload_n 0, 1) := by decide +kernel
theorem dX8_surest_11 : decode cX8_surest 11 = .ok (.invokevirtual 206, 3) := by decide +kernel
theorem dX8_surest_14 : decode cX8_surest 14 = .ok (.goto 4, 3) := by decide +kernel
theorem dX8_surest_17 : decode cX8_surest 17 = .ok (.iconst 2, 1) := by decide +kernel
theorem dX8_surest_18 : decode cX8_surest 18 = .ok (.istore_n 1, 1) := by decide +kernel
theorem dX8_surest_19 : decode cX8_surest 19 = .ok (.iload_n 1, 1) := by decide +kernel
theorem dX8_surest_20 : decode cX8_surest 20 = .ok (.ifCond .eq 9, 3) := by decide +kernel
theorem dX8_surest_23 : decode cX8_surest 23 = .ok (.aload_n 0, 1) := by decide +kernel
theorem dX8_surest_24 : decode cX8_surest 24 = .ok (.iload_n 1, 1) := by decide +kernel
theorem dX8_surest_25 : decode cX8_surest 25 = .ok (.invokevirtual 82, 3) := by decide +kernel
theorem dX8_surest_28 : decode cX8_surest 28 = .ok (.ireturn, 1) := by decide +kernel
theorem dX8_surest_29 : decode cX8_surest 29 = .ok (.iconst (-1), 1) := by decide +kernel
theorem dX8_surest_30 : decode cX8_surest 30 = .ok (.istore_n 2, 1) := by decide +kernel
theorem dX8_surest_31 : decode cX8_surest 31 = .ok (.iconst 0, 1) := by decide +kernel
theorem dX8_surest_32 : decode cX8_surest 32 = .ok (.istore_n 3, 1) := by decide +kernel
theorem dX8_surest_33 : decode cX8_surest 33 = .ok (.iload_n 3, 1) := by decide +kernel
theorem dX8_surest_34 : decode cX8_surest 34 = .ok (.aload_n 0, 1) := by decide +kernel
theorem dX8_surest_35 : decode cX8_surest 35 = .ok (.getfield 50, 3) := by decide +kernel
theorem dX8_surest_38 : decode cX8_surest 38 = .ok (.getfield 241, 3) := by decide +kernel
theorem dX8_surest_41 : decode cX8_surest 41 = .ok (.if_icmp .ge 73, 3) := by decide +kernel
theorem dX8_surest_44 : decode cX8_surest 44 = .ok (.aload_n 0, 1) := by decide +kernel
theorem dX8_surest_45 : decode cX8_surest 45 = .ok (.getfield 42, 3) := by decide +kernel
theorem dX8_surest_48 : decode cX8_surest 48 = .ok (.iload_n 3, 1) := by decide +kernel
theorem dX8_surest_49 : decode cX8_surest 49 = .ok (.aload_n 0, 1) := by decide +kernel
theorem dX8_surest_50 : decode cX8_surest 50 = .ok (.getfield 20, 3) := by decide +kernel
theorem dX8_surest_53 : decode cX8_surest 53 = .ok (.invokevirtual 237, 3) := by decide +kernel
theorem dX8_surest_56 : decode cX8_surest 56 = .ok (.ifCond .ne 10, 3) := by decide +kernel
theorem dX8_surest_59 : decode cX8_surest 59 = .ok (.aload_n 0, 1) := by decide +kernel
theorem dX8_surest_60 : decode cX8_surest 60 = .ok (.bipush 9, 2) := by decide +kernel
theorem dX8_surest_62 : decode cX8_surest 62 = .ok (.invokevirtual 82, 3) := by decide +kernel
theorem dX8_surest_65 : decode cX8_surest 65 = .ok (.ireturn, 1) := by decide +kernel
theorem dX8_surest_66 : decode cX8_surest 66 = .ok (.iload_n 2, 1) := by decide +kernel
theorem dX8_surest_67 : decode cX8_surest 67 = .ok (.iconst (-1), 1) := by decide +kernel
theorem dX8_surest_68 : decode cX8_surest 68 = .ok (.if_icmp .eq 17, 3) := by decide +kernel
theorem dX8_surest_71 : decode cX8_surest 71 = .ok (.aload_n 0, 1) := by decide +kernel
theorem dX8_surest_72 : decode cX8_surest 72 = .ok (.getfield 20, 3) := by decide +kernel
theorem dX8_surest_75 : decode cX8_surest 75 = .ok (.aload_n 0, 1) := by decide +kernel
theorem dX8_surest_76 : decode cX8_surest 76 = .ok (.getfield 23, 3) := by decide +kernel
theorem dX8_surest_79 : decode cX8_surest 79 = .ok (.invokevirtual 244, 3) := by decide +kernel
theorem dX8_surest_82 : decode cX8_surest 82 = .ok (.ifCond .eq 26, 3) := by decide +kernel
theorem dX8_surest_85 : decode cX8_surest 85 = .ok (.iload_n 3, 1) := by decide +kernel
theorem dX8_surest_86 : decode cX8_surest 86 = .ok (.istore_n 2, 1) := by decide +kernel
theorem dX8_surest_87 : decode cX8_surest 87 = .ok (.aload_n 0, 1) := by decide +kernel
theorem dX8_surest_88 : decode cX8_surest 88 = .ok (.getfield 23, 3) := by decide +kernel
theorem dX8_surest_91 : decode cX8_surest 91 = .ok (.aload_n 0, 1) := by decide +kernel
theorem dX8_surest_92 : decode cX8_surest 92 = .ok (.getfield 20, 3) := by decide +kernel
theorem dX8_surest_95 : decode cX8_surest 95 = .ok (.getfield 192, 3) := by decide +kernel
theorem dX8_surest_98 : decode cX8_surest 98 = .ok (.aload_n 0, 1) := by decide +kernel
theorem dX8_surest_99 : decode cX8_surest 99 = .ok (.getfield 20, 3) := by decide +kernel
theorem dX8_surest_102 : decode cX8_surest 102 = .ok (.getfield 196, 3) := by decide +kernel
theorem dX8_surest_105 : decode cX8_surest 105 = .ok (.invokevirtual 248, 3) := by decide +kernel
theorem dX8_surest_108 : decode cX8_surest 108 = .ok (.iinc 3 1, 3) := by decide +kernel
theorem dX8_surest_111 : decode cX8_surest 111 = .ok (.goto (-78), 3) := by decide +kernel
theorem dX8_surest_114 : decode cX8_surest 114 = .ok (.aload_n 0, 1) := by decide +kernel
theorem dX8_surest_115 : decode cX8_surest 115 = .ok (.iconst 0, 1) := by decide +kernel
theorem dX8_surest_116 : decode cX8_surest 116 = .ok (.putfield 9, 3) := by decide +kernel
theorem dX8_surest_119 : decode cX8_surest 119 = .ok (.iload_n 2, 1) := by decide +kernel
theorem dX8_surest_120 : decode cX8_surest 120 = .ok (.ireturn, 1) := by decide +kernel
theorem dX8_moves_0 : decode cX8_moves 0 = .ok (.aload_n 0, 1) := by decide +kernel
theorem dX8_moves_1 : decode cX8_moves 1 = .ok (.getfield 50, 3) := by decide +kernel
theorem dX8_moves_4 : decode cX8_moves 4 = .ok (.iload_n 1, 1) := by decide +kernel
theorem dX8_moves_5 : decode cX8_moves 5 = .ok (.invokevirtual 125, 3) := by decide +kernel
theorem dX8_moves_8 : decode cX8_moves 8 = .ok (.ifCond .eq 10, 3) := by decide +kernel
theorem dX8_moves_11 : decode cX8_moves 11 = .ok (.aload_n 0, 1) := by decide +kernel
theorem dX8_moves_12 : decode cX8_moves 12 = .ok (.invokevirtual 206, 3) := by decide +kernel
theorem dX8_moves_15 : decode cX8_moves 15 = .ok (.goto 4, 3) := by decide +kernel
theorem dX8_moves_18 : decode cX8_moves 18 = .ok (.iconst 2, 1) := by decide +kernel
theorem dX8_moves_19 : decode cX8_moves 19 = .ok (.istore_n 2, 1) := by decide +kernel
theorem dX8_moves_20 : decode cX8_moves 20 = .ok (.iload_n 2, 1) := by decide +kernel
theorem dX8_moves_21 : decode cX8_moves 21 = .ok (.ifCond .eq 9, 3) := by decide +kernel
theorem dX8_moves_24 : decode cX8_moves 24 = .ok (.aload_n 0, 1) := by decide +kernel
theorem dX8_moves_25 : decode cX8_moves 25 = .ok (.iload_n 2, 1) := by decide +kernel
theorem dX8_moves_26 : decode cX8_moves 26 = .ok (.invokevirtual 63, 3) := by decide +kernel
theorem dX8_moves_29 : decode cX8_moves 29 = .ok (.ireturn, 1) := by decide +kernel
theorem dX8_moves_30 : decode cX8_moves 30 = .ok (.aload_n 0, 1) := by decide +kernel
theorem dX8_moves_31 : decode cX8_moves 31 = .ok (.aload_n 0, 1) := by decide +kernel
theorem dX8_moves_32 : decode cX8_moves 32 = .ok (.getfield 42, 3) := by decide +kernel
theorem dX8_moves_35 : decode cX8_moves 35 = .ok (.iload_n 1, 1) := by decide +kernel
theorem dX8_moves_36 : decode cX8_moves 36 = .ok (.invokevirtual 252, 3) := by decide +kernel
theorem dX8_moves_39 : decode cX8_moves 39 = .ok (.aload_n 0, 1) := by decide +kernel
theorem dX8_moves_40 : decode cX8_moves 40 = .ok (.getfield 42, 3) := by decide +kernel
theorem dX8_moves_43 : decode cX8_moves 43 = .ok (.getfield 212, 3) := by decide +kernel
theorem dX8_moves_46 : decode cX8_moves 46 = .ok (.invokevirtual 215, 3) := by decide +kernel
theorem dX8_moves_49 : decode cX8_moves 49 = .ok (.ireturn, 1) := by decide +kernel
theorem dX8_end_0 : decode cX8_end 0 = .ok (.aload_n 0, 1) := by decide +kernel
theorem dX8_end_1 : decode cX8_end 1 = .ok (.getfield 50, 3) := by decide +kernel
theorem dX8_end_4 : decode cX8_end 4 = .ok (.iload_n 1, 1) := by decide +kernel
theorem dX8_end_5 : decode cX8_end 5 = .ok (.invokevirtual 125, 3) := by decide +kernel
theorem dX8_end_8 : decode cX8_end 8 = .ok (.ifCond .ne 9, 3) := by decide +kernel
theorem dX8_end_11 : decode cX8_end 11 = .ok (.aload_n 0, 1) := by decide +kernel
theorem dX8_end_12 : decode cX8_end 12 = .ok (.iconst 2, 1) := by decide +kernel
theorem dX8_end_13 : decode cX8_end 13 = .ok (.invokevirtual 63, 3) := by decide +kernel
theorem dX8_end_16 : decode cX8_end 16 = .ok (.ireturn, 1) := by decide +kernel
theorem dX8_end_17 : decode cX8_end 17 = .ok (.iload_n 2, 1) := by decide +kernel
theorem dX8_end_18 : decode cX8_end 18 = .ok (.invokestatic 255, 3) := by decide +kernel
theorem dX8_end_21 : decode cX8_end 21 = .ok (.ifCond .ne 9, 3) := by decide +kernel
theorem dX8_end_24 : decode cX8_end 24 = .ok (.aload_n 0, 1) := by decide +kernel
theorem dX8_end_25 : decode cX8_end 25 = .ok (.iconst 5, 1) := by decide +kernel
theorem dX8_end_26 : decode cX8_end 26 = .ok (.invokevirtual 63, 3) := by decide +kernel
theorem dX8_end_29 : decode cX8_end 29 = .ok (.ireturn, 1) := by decide +kernel
theorem dX8_end_30 : decode cX8_end 30 = .ok (.aload_n 0, 1) := by decide +kernel
theorem dX8_end_31 : decode cX8_end 31 = .ok (.getfield 50, 3) := by decide +kernel
theorem dX8_end_34 : decode cX8_end 34 = .ok (.getfield 130, 3) := by decide +kernel
theorem dX8_end_37 : decode cX8_end 37 = .ok (.iload_n 1, 1) := by decide +kernel
theorem dX8_end_38 : decode cX8_end 38 = .ok (.aaload, 1) := by decide +kernel
theorem dX8_end_39 : decode cX8_end 39 = .ok (.iload_n 2, 1) := by decide +kernel
theorem dX8_end_40 : decode cX8_end 40 = .ok (.putfield 183, 3) := by decide +kernel
theorem dX8_end_43 : decode cX8_end 43 = .ok (.aload_n 0, 1) := by decide +kernel
theorem dX8_end_44 : decode cX8_end 44 = .ok (.invokevirtual 150, 3) := by decide +kernel
theorem dX8_end_47 : decode cX8_end 47 = .ok (.ireturn, 1) := by decide +kernel
theorem dX8_today_0 : decode cX8_today 0 = .ok (.iload_n 1, 1) := by decide +kernel
theorem dX8_today_1 : decode cX8_today 1 = .ok (.invokestatic 255, 3) := by decide +kernel
theorem dX8_today_4 : decode cX8_today 4 = .ok (.ifCond .ne 9, 3) := by decide +kernel
theorem dX8_today_7 : decode cX8_today 7 = .ok (.aload_n 0, 1) := by decide +kernel
theorem dX8_today_8 : decode cX8_today 8 = .ok (.iconst 5, 1) := by decide +kernel
theorem dX8_today_9 : decode cX8_today 9 = .ok (.invokevirtual 63, 3) := by decide +kernel
theorem dX8_today_12 : decode cX8_today 12 = .ok (.ireturn, 1) := by decide +kernel
theorem dX8_today_13 : decode cX8_today 13 = .ok (.aload_n 0, 1) := by decide +kernel
theorem dX8_today_14 : decode cX8_today 14 = .ok (.getfield 50, 3) := by decide +kernel
theorem dX8_today_17 : decode cX8_today 17 = .ok (.iload_n 1, 1) := by decide +kernel
theorem dX8_today_18 : decode cX8_today 18 = .ok (.putfield 258, 3) := by decide +kernel
theorem dX8_today_21 : decode cX8_today 21 = .ok (.aload_n 0, 1) := by decide +kernel
theorem dX8_today_22 : decode cX8_today 22 = .ok (.invokevirtual 150, 3) := by decide +kernel
theorem dX8_today_25 : decode cX8_today 25 = .ok (.ireturn, 1) := by decide +kernel
theorem dX8_telling_0 : decode cX8_telling 0 = .ok (.iload_n 1, 1) := by decide +kernel
theorem dX8_telling_1 : decode cX8_telling 1 = .ok (.ifCond .lt 20, 3) := by decide +kernel
theorem dX8_telling_4 : decode cX8_telling 4 = .ok (.iload_n 1, 1) := by decide +kernel
theorem dX8_telling_5 : decode cX8_telling 5 = .ok (.iload_n 2, 1) := by decide +kernel
theorem dX8_telling_6 : decode cX8_telling 6 = .ok (.if_icmp .gt 15, 3) := by decide +kernel
theorem dX8_telling_9 : decode cX8_telling 9 = .ok (.iload_n 2, 1) := by decide +kernel
theorem dX8_telling_10 : decode cX8_telling 10 = .ok (.iconst 1, 1) := by decide +kernel
theorem dX8_telling_11 : decode cX8_telling 11 = .ok (.if_icmp .lt 10, 3) := by decide +kernel
theorem dX8_telling_14 : decode cX8_telling 14 = .ok (.iload_n 2, 1) := by decide +kernel
theorem dX8_telling_15 : decode cX8_telling 15 = .ok (.sipush 1000, 3) := by decide +kernel
theorem dX8_telling_18 : decode cX8_telling 18 = .ok (.if_icmp .le 9, 3) := by decide +kernel
theorem dX8_telling_21 : decode cX8_telling 21 = .ok (.aload_n 0, 1) := by decide +kernel
theorem dX8_telling_22 : decode cX8_telling 22 = .ok (.iconst 5, 1) := by decide +kernel
theorem dX8_telling_23 : decode cX8_telling 23 = .ok (.invokevirtual 63, 3) := by decide +kernel
theorem dX8_telling_26 : decode cX8_telling 26 = .ok (.ireturn, 1) := by decide +kernel
theorem dX8_telling_27 : decode cX8_telling 27 = .ok (.aload_n 0, 1) := by decide +kernel
theorem dX8_telling_28 : decode cX8_telling 28 = .ok (.getfield 54, 3) := by decide +kernel
theorem dX8_telling_31 : decode cX8_telling 31 = .ok (.getfield 261, 3) := by decide +kernel
theorem dX8_telling_34 : decode cX8_telling 34 = .ok (.sipush 1000, 3) := by decide +kernel
theorem dX8_telling_37 : decode cX8_telling 37 = .ok (.if_icmp .lt 10, 3) := by decide +kernel
theorem dX8_telling_40 : decode cX8_telling 40 = .ok (.aload_n 0, 1) := by decide +kernel
theorem dX8_telling_41 : decode cX8_telling 41 = .ok (.bipush 7, 2) := by decide +kernel
theorem dX8_telling_43 : decode cX8_telling 43 = .ok (.invokevirtual 63, 3) := by decide +kernel
theorem dX8_telling_46 : decode cX8_telling 46 = .ok (.ireturn, 1) := by decide +kernel
theorem dX8_telling_47 : decode cX8_telling 47 = .ok (.aload_n 0, 1) := by decide +kernel
theorem dX8_telling_48 : decode cX8_telling 48 = .ok (.getfield 54, 3) := by decide +kernel
theorem dX8_telling_51 : decode cX8_telling 51 = .ok (.iload_n 1, 1) := by decide +kernel
theorem dX8_telling_52 : decode cX8_telling 52 = .ok (.iload_n 2, 1) := by decide +kernel
theorem dX8_telling_53 : decode cX8_telling 53 = .ok (.iload_n 3, 1) := by decide +kernel
theorem dX8_telling_54 : decode cX8_telling 54 = .ok (.invokevirtual 262, 3) := by decide +kernel
theorem dX8_telling_57 : decode cX8_telling 57 = .ok (.aload_n 0, 1) := by decide +kernel
theorem dX8_telling_58 : decode cX8_telling 58 = .ok (.invokevirtual 70, 3) := by decide +kernel
theorem dX8_telling_61 : decode cX8_telling 61 = .ok (.ireturn, 1) := by decide +kernel
theorem dX8_judged_0 : decode cX8_judged 0 = .ok (.iload_n 1, 1) := by decide +kernel
theorem dX8_judged_1 : decode cX8_judged 1 = .ok (.invokestatic 265, 3) := by decide +kernel
theorem dX8_judged_4 : decode cX8_judged 4 = .ok (.ifCond .ne 9, 3) := by decide +kernel
theorem dX8_judged_7 : decode cX8_judged 7 = .ok (.aload_n 0, 1) := by decide +kernel
theorem dX8_judged_8 : decode cX8_judged 8 = .ok (.iconst 2, 1) := by decide +kernel
theorem dX8_judged_9 : decode cX8_judged 9 = .ok (.invokevirtual 82, 3) := by decide +kernel
theorem dX8_judged_12 : decode cX8_judged 12 = .ok (.ireturn, 1) := by decide +kernel
theorem dX8_judged_13 : decode cX8_judged 13 = .ok (.iload_n 2, 1) := by decide +kernel
theorem dX8_judged_14 : decode cX8_judged 14 = .ok (.ifCond .lt 8, 3) := by decide +kernel
theorem dX8_judged_17 : decode cX8_judged 17 = .ok (.iload_n 2, 1) := by decide +kernel
theorem dX8_judged_18 : decode cX8_judged 18 = .ok (.iconst 1, 1) := by decide +kernel
theorem dX8_judged_19 : decode cX8_judged 19 = .ok (.if_icmp .le 9, 3) := by decide +kernel
theorem dX8_judged_22 : decode cX8_judged 22 = .ok (.aload_n 0, 1) := by decide +kernel
theorem dX8_judged_23 : decode cX8_judged 23 = .ok (.iconst 5, 1) := by decide +kernel
theorem dX8_judged_24 : decode cX8_judged 24 = .ok (.invokevirtual 82, 3) := by decide +kernel
theorem dX8_judged_27 : decode cX8_judged 27 = .ok (.ireturn, 1) := by decide +kernel
theorem dX8_judged_28 : decode cX8_judged 28 = .ok (.aload_n 0, 1) := by decide +kernel
theorem dX8_judged_29 : decode cX8_judged 29 = .ok (.iconst 0, 1) := by decide +kernel
theorem dX8_judged_30 : decode cX8_judged 30 = .ok (.putfield 9, 3) := by decide +kernel
theorem dX8_judged_33 : decode cX8_judged 33 = .ok (.iload_n 2, 1) := by decide +kernel
theorem dX8_judged_34 : decode cX8_judged 34 = .ok (.ifCond .ne 15, 3) := by decide +kernel
theorem dX8_judged_37 : decode cX8_judged 37 = .ok (.aload_n 0, 1) := by decide +kernel
theorem dX8_judged_38 : decode cX8_judged 38 = .ok (.getfield 54, 3) := by decide +kernel
theorem dX8_judged_41 : decode cX8_judged 41 = .ok (.getfield 268, 3) := by decide +kernel
theorem dX8_judged_44 : decode cX8_judged 44 = .ok (.iload_n 1, 1) := by decide +kernel
theorem dX8_judged_45 : decode cX8_judged 45 = .ok (.iaload, 1) := by decide +kernel
theorem dX8_judged_46 : decode cX8_judged 46 = .ok (.goto 12, 3) := by decide +kernel
theorem dX8_judged_49 : decode cX8_judged 49 = .ok (.aload_n 0, 1) := by decide +kernel
theorem dX8_judged_50 : decode cX8_judged 50 = .ok (.getfield 54, 3) := by decide +kernel
theorem dX8_judged_53 : decode cX8_judged 53 = .ok (.getfield 271, 3) := by decide +kernel
theorem dX8_judged_56 : decode cX8_judged 56 = .ok (.iload_n 1, 1) := by decide +kernel
theorem dX8_judged_57 : decode cX8_judged 57 = .ok (.iaload, 1) := by decide +kernel
theorem dX8_judged_58 : decode cX8_judged 58 = .ok (.ireturn, 1) := by decide +kernel
theorem dX8_said_0 : decode cX8_said 0 = .ok (.iload_n 1, 1) := by decide +kernel
theorem dX8_said_1 : decode cX8_said 1 = .ok (.invokestatic 265, 3) := by decide +kernel
theorem dX8_said_4 : decode cX8_said 4 = .ok (.ifCond .ne 9, 3) := by decide +kernel
theorem dX8_said_7 : decode cX8_said 7 = .ok (.aload_n 0, 1) := by decide +kernel
theorem dX8_said_8 : decode cX8_said 8 = .ok (.iconst 2, 1) := by decide +kernel
theorem dX8_said_9 : decode cX8_said 9 = .ok (.invokevirtual 63, 3) := by decide +kernel
theorem dX8_said_12 : decode cX8_said 12 = .ok (.ireturn, 1) := by decide +kernel
theorem dX8_said_13 : decode cX8_said 13 = .ok (.aload_n 0, 1) := by decide +kernel
theorem dX8_said_14 : decode cX8_said 14 = .ok (.getfield 54, 3) := by decide +kernel
theorem dX8_said_17 : decode cX8_said 17 = .ok (.getfield 268, 3) := by decide +kernel
theorem dX8_said_20 : decode cX8_said 20 = .ok (.iload_n 1, 1) := by decide +kernel
theorem dX8_said_21 : decode cX8_said 21 = .ok (.iaload, 1) := by decide +kernel
theorem dX8_said_22 : decode cX8_said 22 = .ok (.istore_n 2, 1) := by decide +kernel
theorem dX8_said_23 : decode cX8_said 23 = .ok (.iload_n 2, 1) := by decide +kernel
theorem dX8_said_24 : decode cX8_said 24 = .ok (.ifCond .ne 9, 3) := by decide +kernel
theorem dX8_said_27 : decode cX8_said 27 = .ok (.aload_n 0, 1) := by decide +kernel
theorem dX8_said_28 : decode cX8_said 28 = .ok (.iconst 5, 1) := by decide +kernel
theorem dX8_said_29 : decode cX8_said 29 = .ok (.invokevirtual 63, 3) := by decide +kernel
theorem dX8_said_32 : decode cX8_said 32 = .ok (.ireturn, 1) := by decide +kernel
theorem dX8_said_33 : decode cX8_said 33 = .ok (.aload_n 0, 1) := by decide +kernel
theorem dX8_said_34 : decode cX8_said 34 = .ok (.getfield 54, 3) := by decide +kernel
theorem dX8_said_37 : decode cX8_said 37 = .ok (.getfield 274, 3) := by decide +kernel
theorem dX8_said_40 : decode cX8_said 40 = .ok (.iload_n 1, 1) := by decide +kernel
theorem dX8_said_41 : decode cX8_said 41 = .ok (.baload, 1) := by decide +kernel
theorem dX8_said_42 : decode cX8_said 42 = .ok (.ifCond .eq 10, 3) := by decide +kernel
theorem dX8_said_45 : decode cX8_said 45 = .ok (.aload_n 0, 1) := by decide +kernel
theorem dX8_said_46 : decode cX8_said 46 = .ok (.bipush 9, 2) := by decide +kernel
theorem dX8_said_48 : decode cX8_said 48 = .ok (.invokevirtual 63, 3) := by decide +kernel
theorem dX8_said_51 : decode cX8_said 51 = .ok (.ireturn, 1) := by decide +kernel
theorem dX8_said_52 : decode cX8_said 52 = .ok (.aload_n 0, 1) := by decide +kernel
theorem dX8_said_53 : decode cX8_said 53 = .ok (.getfield 54, 3) := by decide +kernel
theorem dX8_said_56 : decode cX8_said 56 = .ok (.getfield 278, 3) := by decide +kernel
theorem dX8_said_59 : decode cX8_said 59 = .ok (.iload_n 1, 1) := by decide +kernel
theorem dX8_said_60 : decode cX8_said 60 = .ok (.aaload, 1) := by decide +kernel
theorem dX8_said_61 : decode cX8_said 61 = .ok (.astore_n 3, 1) := by decide +kernel
theorem dX8_said_62 : decode cX8_said 62 = .ok (.aload_n 0, 1) := by decide +kernel
theorem dX8_said_63 : decode cX8_said 63 = .ok (.aload_n 3, 1) := by decide +kernel
theorem dX8_said_64 : decode cX8_said 64 = .ok (.getfield 192, 3) := by decide +kernel
theorem dX8_said_67 : decode cX8_said 67 = .ok (.aload_n 3, 1) := by decide +kernel
theorem dX8_said_68 : decode cX8_said 68 = .ok (.getfield 196, 3) := by decide +kernel
theorem dX8_said_71 : decode cX8_said 71 = .ok (.iload_n 2, 1) := by decide +kernel
theorem dX8_said_72 : decode cX8_said 72 = .ok (.i2l, 1) := by decide +kernel
theorem dX8_said_73 : decode cX8_said 73 = .ok (.lmul, 1) := by decide +kernel
theorem dX8_said_74 : decode cX8_said 74 = .ok (.invokevirtual 215, 3) := by decide +kernel
theorem dX8_said_77 : decode cX8_said 77 = .ok (.ireturn, 1) := by decide +kernel
theorem dX8_refuse_0 : decode cX8_refuse 0 = .ok (.aload_n 0, 1) := by decide +kernel
theorem dX8_refuse_1 : decode cX8_refuse 1 = .ok (.iload_n 1, 1) := by decide +kernel
theorem dX8_refuse_2 : decode cX8_refuse 2 = .ok (.putfield 9, 3) := by decide +kernel
theorem dX8_refuse_5 : decode cX8_refuse 5 = .ok (.iconst 0, 1) := by decide +kernel
theorem dX8_refuse_6 : decode cX8_refuse 6 = .ok (.ireturn, 1) := by decide +kernel
theorem dX8_refuseNumber_0 : decode cX8_refuseNumber 0 = .ok (.aload_n 0, 1) := by decide +kernel
theorem dX8_refuseNumber_1 : decode cX8_refuseNumber 1 = .ok (.iload_n 1, 1) := by decide +kernel
theorem dX8_refuseNumber_2 : decode cX8_refuseNumber 2 = .ok (.putfield 9, 3) := by decide +kernel
theorem dX8_refuseNumber_5 : decode cX8_refuseNumber 5 = .ok (.iconst (-1), 1) := by decide +kernel
theorem dX8_refuseNumber_6 : decode cX8_refuseNumber 6 = .ok (.ireturn, 1) := by decide +kernel
theorem dX8_well_0 : decode cX8_well 0 = .ok (.aload_n 0, 1) := by decide +kernel
theorem dX8_well_1 : decode cX8_well 1 = .ok (.iconst 0, 1) := by decide +kernel
theorem dX8_well_2 : decode cX8_well 2 = .ok (.putfield 9, 3) := by decide +kernel
theorem dX8_well_5 : decode cX8_well 5 = .ok (.iconst 1, 1) := by decide +kernel
theorem dX8_well_6 : decode cX8_well 6 = .ok (.ireturn, 1) := by decide +kernel
theorem dX8_changed_0 : decode cX8_changed 0 = .ok (.aload_n 0, 1) := by decide +kernel
theorem dX8_changed_1 : decode cX8_changed 1 = .ok (.getfield 42, 3) := by decide +kernel
theorem dX8_changed_4 : decode cX8_changed 4 = .ok (.iconst 1, 1) := by decide +kernel
theorem dX8_changed_5 : decode cX8_changed 5 = .ok (.putfield 282, 3) := by decide +kernel
theorem dX8_changed_8 : decode cX8_changed 8 = .ok (.aload_n 0, 1) := by decide +kernel
theorem dX8_changed_9 : decode cX8_changed 9 = .ok (.invokevirtual 70, 3) := by decide +kernel
theorem dX8_changed_12 : decode cX8_changed 12 = .ok (.ireturn, 1) := by decide +kernel
theorem dX8_tell_0 : decode cX8_tell 0 = .ok (.aload_n 0, 1) := by decide +kernel
theorem dX8_tell_1 : decode cX8_tell 1 = .ok (.getfield 16, 3) := by decide +kernel
theorem dX8_tell_4 : decode cX8_tell 4 = .ok (.lload_n 1, 1) := by decide +kernel
theorem dX8_tell_5 : decode cX8_tell 5 = .ok (.lload_n 3, 1) := by decide +kernel
theorem dX8_tell_6 : decode cX8_tell 6 = .ok (.invokevirtual 248, 3) := by decide +kernel
theorem dX8_tell_9 : decode cX8_tell 9 = .ok (.aload_n 0, 1) := by decide +kernel
theorem dX8_tell_10 : decode cX8_tell 10 = .ok (.invokevirtual 70, 3) := by decide +kernel
theorem dX8_tell_13 : decode cX8_tell 13 = .ok (.ireturn, 1) := by decide +kernel
theorem dX8_addPart_0 : decode cX8_addPart 0 = .ok (.aload_n 0, 1) := by decide +kernel
theorem dX8_addPart_1 : decode cX8_addPart 1 = .ok (.getfield 35, 3) := by decide +kernel
theorem dX8_addPart_4 : decode cX8_addPart 4 = .ok (.invokevirtual 286, 3) := by decide +kernel
theorem dX8_addPart_7 : decode cX8_addPart 7 = .ok (.aload_n 0, 1) := by decide +kernel
theorem dX8_addPart_8 : decode cX8_addPart 8 = .ok (.getfield 50, 3) := by decide +kernel
theorem dX8_addPart_11 : decode cX8_addPart 11 = .ok (.getfield 241, 3) := by decide +kernel
theorem dX8_addPart_14 : decode cX8_addPart 14 = .ok (.bipush 10, 2) := by decide +kernel
theorem dX8_addPart_16 : decode cX8_addPart 16 = .ok (.if_icmp .ge 13, 3) := by decide +kernel
theorem dX8_addPart_19 : decode cX8_addPart 19 = .ok (.aload_n 0, 1) := by decide +kernel
theorem dX8_addPart_20 : decode cX8_addPart 20 = .ok (.getfield 35, 3) := by decide +kernel
theorem dX8_addPart_23 : decode cX8_addPart 23 = .ok (.invokevirtual 289, 3) := by decide +kernel
theorem dX8_addPart_26 : decode cX8_addPart 26 = .ok (.ifCond .ne 10, 3) := by decide +kernel
theorem dX8_addPart_29 : decode cX8_addPart 29 = .ok (.aload_n 0, 1) := by decide +kernel
theorem dX8_addPart_30 : decode cX8_addPart 30 = .ok (.bipush 7, 2) := by decide +kernel
theorem dX8_addPart_32 : decode cX8_addPart 32 = .ok (.invokevirtual 82, 3) := by decide +kernel
theorem dX8_addPart_35 : decode cX8_addPart 35 = .ok (.ireturn, 1) := by decide +kernel
theorem dX8_addPart_36 : decode cX8_addPart 36 = .ok (.aload_n 0, 1) := by decide +kernel
theorem dX8_addPart_37 : decode cX8_addPart 37 = .ok (.getfield 50, 3) := by decide +kernel
theorem dX8_addPart_40 : decode cX8_addPart 40 = .ok (.aload_n 0, 1) := by decide +kernel
theorem dX8_addPart_41 : decode cX8_addPart 41 = .ok (.getfield 35, 3) := by decide +kernel
theorem dX8_addPart_44 : decode cX8_addPart 44 = .ok (.iload_n 1, 1) := by decide +kernel
theorem dX8_addPart_45 : decode cX8_addPart 45 = .ok (.invokevirtual 292, 3) := by decide +kernel
theorem dX8_addPart_48 : decode cX8_addPart 48 = .ok (.aload_n 0, 1) := by decide +kernel
theorem dX8_addPart_49 : decode cX8_addPart 49 = .ok (.invokevirtual 150, 3) := by decide +kernel
theorem dX8_addPart_52 : decode cX8_addPart 52 = .ok (.pop, 1) := by decide +kernel
theorem dX8_addPart_53 : decode cX8_addPart 53 = .ok (.aload_n 0, 1) := by decide +kernel
theorem dX8_addPart_54 : decode cX8_addPart 54 = .ok (.getfield 50, 3) := by decide +kernel
theorem dX8_addPart_57 : decode cX8_addPart 57 = .ok (.getfield 241, 3) := by decide +kernel
theorem dX8_addPart_60 : decode cX8_addPart 60 = .ok (.iconst 1, 1) := by decide +kernel
theorem dX8_addPart_61 : decode cX8_addPart 61 = .ok (.isub, 1) := by decide +kernel
theorem dX8_addPart_62 : decode cX8_addPart 62 = .ok (.ireturn, 1) := by decide +kernel
theorem dX8_placeTrouble_0 : decode cX8_placeTrouble 0 = .ok (.iload_n 1, 1) := by decide +kernel
theorem dX8_placeTrouble_1 : decode cX8_placeTrouble 1 = .ok (.invokestatic 59, 3) := by decide +kernel
theorem dX8_placeTrouble_4 : decode cX8_placeTrouble 4 = .ok (.ifCond .ne 5, 3) := by decide +kernel
theorem dX8_placeTrouble_7 : decode cX8_placeTrouble 7 = .ok (.iconst 1, 1) := by decide +kernel
theorem dX8_placeTrouble_8 : decode cX8_placeTrouble 8 = .ok (.ireturn, 1) := by decide +kernel
theorem dX8_placeTrouble_9 : decode cX8_placeTrouble 9 = .ok (.aload_n 0, 1) := by decide +kernel
theorem dX8_placeTrouble_10 : decode cX8_placeTrouble 10 = .ok (.getfield 28, 3) := by decide +kernel
theorem dX8_placeTrouble_13 : decode cX8_placeTrouble 13 = .ok (.iload_n 1, 1) := by decide +kernel
theorem dX8_placeTrouble_14 : decode cX8_placeTrouble 14 = .ok (.aaload, 1) := by decide +kernel
theorem dX8_placeTrouble_15 : decode cX8_placeTrouble 15 = .ok (.invokevirtual 90, 3) := by decide +kernel
theorem dX8_placeTrouble_18 : decode cX8_placeTrouble 18 = .ok (.ifCond .eq 5, 3) := by decide +kernel
theorem dX8_placeTrouble_21 : decode cX8_placeTrouble 21 = .ok (.iconst 3, 1) := by decide +kernel
theorem dX8_placeTrouble_22 : decode cX8_placeTrouble 22 = .ok (.ireturn, 1) := by decide +kernel
theorem dX8_placeTrouble_23 : decode cX8_placeTrouble 23 = .ok (.aload_n 0, 1) := by decide +kernel
theorem dX8_placeTrouble_24 : decode cX8_placeTrouble 24 = .ok (.getfield 28, 3) := by decide +kernel
theorem dX8_placeTrouble_27 : decode cX8_placeTrouble 27 = .ok (.iload_n 1, 1) := by decide +kernel
theorem dX8_placeTrouble_28 : decode cX8_placeTrouble 28 = .ok (.aaload, 1) := by decide +kernel
theorem dX8_placeTrouble_29 : decode cX8_placeTrouble 29 = .ok (.iload_n 2, 1) := by decide +kernel
theorem dX8_placeTrouble_30 : decode cX8_placeTrouble 30 = .ok (.invokevirtual 295, 3) := by decide +kernel
theorem dX8_placeTrouble_33 : decode cX8_placeTrouble 33 = .ok (.ifCond .eq 7, 3) := by decide +kernel
theorem dX8_placeTrouble_36 : decode cX8_placeTrouble 36 = .ok (.iconst 0, 1) := by decide +kernel
theorem dX8_placeTrouble_37 : decode cX8_placeTrouble 37 = .ok (.goto 4, 3) := by decide +kernel
theorem dX8_placeTrouble_40 : decode cX8_placeTrouble 40 = .ok (.iconst 4, 1) := by decide +kernel
theorem dX8_placeTrouble_41 : decode cX8_placeTrouble 41 = .ok (.ireturn, 1) := by decide +kernel
theorem dX8_chanceTrouble_0 : decode cX8_chanceTrouble 0 = .ok (.aload_n 0, 1) := by decide +kernel
theorem dX8_chanceTrouble_1 : decode cX8_chanceTrouble 1 = .ok (.getfield 50, 3) := by decide +kernel
theorem dX8_chanceTrouble_4 : decode cX8_chanceTrouble 4 = .ok (.invokevirtual 298, 3) := by decide +kernel
theorem dX8_chanceTrouble_7 : decode cX8_chanceTrouble 7 = .ok (.ifCond .eq 6, 3) := by decide +kernel
theorem dX8_chanceTrouble_10 : decode cX8_chanceTrouble 10 = .ok (.bipush 8, 2) := by decide +kernel
theorem dX8_chanceTrouble_12 : decode cX8_chanceTrouble 12 = .ok (.ireturn, 1) := by decide +kernel
theorem dX8_chanceTrouble_13 : decode cX8_chanceTrouble 13 = .ok (.aload_n 0, 1) := by decide +kernel
theorem dX8_chanceTrouble_14 : decode cX8_chanceTrouble 14 = .ok (.getfield 50, 3) := by decide +kernel
theorem dX8_chanceTrouble_17 : decode cX8_chanceTrouble 17 = .ok (.invokevirtual 199, 3) := by decide +kernel
theorem dX8_chanceTrouble_20 : decode cX8_chanceTrouble 20 = .ok (.ifCond .eq 6, 3) := by decide +kernel
theorem dX8_chanceTrouble_23 : decode cX8_chanceTrouble 23 = .ok (.bipush 9, 2) := by decide +kernel
theorem dX8_chanceTrouble_25 : decode cX8_chanceTrouble 25 = .ok (.ireturn, 1) := by decide +kernel
theorem dX8_chanceTrouble_26 : decode cX8_chanceTrouble 26 = .ok (.aload_n 0, 1) := by decide +kernel
theorem dX8_chanceTrouble_27 : decode cX8_chanceTrouble 27 = .ok (.getfield 42, 3) := by decide +kernel
theorem dX8_chanceTrouble_30 : decode cX8_chanceTrouble 30 = .ok (.invokevirtual 301, 3) := by decide +kernel
theorem dX8_chanceTrouble_33 : decode cX8_chanceTrouble 33 = .ok (.aload_n 0, 1) := by decide +kernel
theorem dX8_chanceTrouble_34 : decode cX8_chanceTrouble 34 = .ok (.getfield 42, 3) := by decide +kernel
theorem dX8_chanceTrouble_37 : decode cX8_chanceTrouble 37 = .ok (.getfield 212, 3) := by decide +kernel
theorem dX8_chanceTrouble_40 : decode cX8_chanceTrouble 40 = .ok (.lconst 0, 1) := by decide +kernel
theorem dX8_chanceTrouble_41 : decode cX8_chanceTrouble 41 = .ok (.lcmp, 1) := by decide +kernel
theorem dX8_chanceTrouble_42 : decode cX8_chanceTrouble 42 = .ok (.ifCond .le 7, 3) := by decide +kernel
theorem dX8_chanceTrouble_45 : decode cX8_chanceTrouble 45 = .ok (.iconst 0, 1) := by decide +kernel
theorem dX8_chanceTrouble_46 : decode cX8_chanceTrouble 46 = .ok (.goto 5, 3) := by decide +kernel
theorem dX8_chanceTrouble_49 : decode cX8_chanceTrouble 49 = .ok (.bipush 10, 2) := by decide +kernel
theorem dX8_chanceTrouble_51 : decode cX8_chanceTrouble 51 = .ok (.ireturn, 1) := by decide +kernel
theorem dX8_isTray_0 : decode cX8_isTray 0 = .ok (.iload_n 0, 1) := by decide +kernel
theorem dX8_isTray_1 : decode cX8_isTray 1 = .ok (.ifCond .lt 12, 3) := by decide +kernel
theorem dX8_isTray_4 : decode cX8_isTray 4 = .ok (.iload_n 0, 1) := by decide +kernel
theorem dX8_isTray_5 : decode cX8_isTray 5 = .ok (.iconst 4, 1) := by decide +kernel
theorem dX8_isTray_6 : decode cX8_isTray 6 = .ok (.if_icmp .ge 7, 3) := by decide +kernel
theorem dX8_isTray_9 : decode cX8_isTray 9 = .ok (.iconst 1, 1) := by decide +kernel
theorem dX8_isTray_10 : decode cX8_isTray 10 = .ok (.goto 4, 3) := by decide +kernel
theorem dX8_isTray_13 : decode cX8_isTray 13 = .ok (.iconst 0, 1) := by decide +kernel
theorem dX8_isTray_14 : decode cX8_isTray 14 = .ok (.ireturn, 1) := by decide +kernel
theorem dX8_isStep_0 : decode cX8_isStep 0 = .ok (.iload_n 0, 1) := by decide +kernel
theorem dX8_isStep_1 : decode cX8_isStep 1 = .ok (.ifCond .lt 13, 3) := by decide +kernel
theorem dX8_isStep_4 : decode cX8_isStep 4 = .ok (.iload_n 0, 1) := by decide +kernel
theorem dX8_isStep_5 : decode cX8_isStep 5 = .ok (.bipush 10, 2) := by decide +kernel
theorem dX8_isStep_7 : decode cX8_isStep 7 = .ok (.if_icmp .ge 7, 3) := by decide +kernel
theorem dX8_isStep_10 : decode cX8_isStep 10 = .ok (.iconst 1, 1) := by decide +kernel
theorem dX8_isStep_11 : decode cX8_isStep 11 = .ok (.goto 4, 3) := by decide +kernel
theorem dX8_isStep_14 : decode cX8_isStep 14 = .ok (.iconst 0, 1) := by decide +kernel
theorem dX8_isStep_15 : decode cX8_isStep 15 = .ok (.ireturn, 1) := by decide +kernel
theorem dX8_arePartHands_0 : decode cX8_arePartHands 0 = .ok (.iload_n 0, 1) := by decide +kernel
theorem dX8_arePartHands_1 : decode cX8_arePartHands 1 = .ok (.ifCond .lt 13, 3) := by decide +kernel
theorem dX8_arePartHands_4 : decode cX8_arePartHands 4 = .ok (.iload_n 0, 1) := by decide +kernel
theorem dX8_arePartHands_5 : decode cX8_arePartHands 5 = .ok (.bipush 9, 2) := by decide +kernel
theorem dX8_arePartHands_7 : decode cX8_arePartHands 7 = .ok (.if_icmp .gt 7, 3) := by decide +kernel
theorem dX8_arePartHands_10 : decode cX8_arePartHands 10 = .ok (.iconst 1, 1) := by decide +kernel
theorem dX8_arePartHands_11 : decode cX8_arePartHands 11 = .ok (.goto 4, 3) := by decide +kernel
theorem dX8_arePartHands_14 : decode cX8_arePartHands 14 = .ok (.iconst 0, 1) := by decide +kernel
theorem dX8_arePartHands_15 : decode cX8_arePartHands 15 = .ok (.ireturn, 1) := by decide +kernel
theorem dX8_isCameDay_0 : decode cX8_isCameDay 0 = .ok (.iload_n 0, 1) := by decide +kernel
theorem dX8_isCameDay_1 : decode cX8_isCameDay 1 = .ok (.iconst (-1), 1) := by decide +kernel
theorem dX8_isCameDay_2 : decode cX8_isCameDay 2 = .ok (.if_icmp .eq 14, 3) := by decide +kernel
theorem dX8_isCameDay_5 : decode cX8_isCameDay 5 = .ok (.iload_n 0, 1) := by decide +kernel
theorem dX8_isCameDay_6 : decode cX8_isCameDay 6 = .ok (.ifCond .lt 14, 3) := by decide +kernel
theorem dX8_isCameDay_9 : decode cX8_isCameDay 9 = .ok (.iload_n 0, 1) := by decide +kernel
theorem dX8_isCameDay_10 : decode cX8_isCameDay 10 = .ok (.sipush 9999, 3) := by decide +kernel
theorem dX8_isCameDay_13 : decode cX8_isCameDay 13 = .ok (.if_icmp .gt 7, 3) := by decide +kernel
theorem dX8_isCameDay_16 : decode cX8_isCameDay 16 = .ok (.iconst 1, 1) := by decide +kernel
theorem dX8_isCameDay_17 : decode cX8_isCameDay 17 = .ok (.goto 4, 3) := by decide +kernel
theorem dX8_isCameDay_20 : decode cX8_isCameDay 20 = .ok (.iconst 0, 1) := by decide +kernel
theorem dX8_isCameDay_21 : decode cX8_isCameDay 21 = .ok (.ireturn, 1) := by decide +kernel
theorem dX8_commonDivisor_0 : decode cX8_commonDivisor 0 = .ok (.lload_n 0, 1) := by decide +kernel
theorem dX8_commonDivisor_1 : decode cX8_commonDivisor 1 = .ok (.lstore 4, 2) := by decide +kernel
theorem dX8_commonDivisor_3 : decode cX8_commonDivisor 3 = .ok (.lload_n 2, 1) := by decide +kernel
theorem dX8_commonDivisor_4 : decode cX8_commonDivisor 4 = .ok (.lstore 6, 2) := by decide +kernel
theorem dX8_commonDivisor_6 : decode cX8_commonDivisor 6 = .ok (.iconst 0, 1) := by decide +kernel
theorem dX8_commonDivisor_7 : decode cX8_commonDivisor 7 = .ok (.istore 8, 2) := by decide +kernel
theorem dX8_commonDivisor_9 : decode cX8_commonDivisor 9 = .ok (.iload 8, 2) := by decide +kernel
theorem dX8_commonDivisor_11 : decode cX8_commonDivisor 11 = .ok (.sipush 200, 3) := by decide +kernel
theorem dX8_commonDivisor_14 : decode cX8_commonDivisor 14 = .ok (.if_icmp .ge 31, 3) := by decide +kernel
theorem dX8_commonDivisor_17 : decode cX8_commonDivisor 17 = .ok (.lload 6, 2) := by decide +kernel
theorem dX8_commonDivisor_19 : decode cX8_commonDivisor 19 = .ok (.lconst 0, 1) := by decide +kernel
theorem dX8_commonDivisor_20 : decode cX8_commonDivisor 20 = .ok (.lcmp, 1) := by decide +kernel
theorem dX8_commonDivisor_21 : decode cX8_commonDivisor 21 = .ok (.ifCond .eq 24, 3) := by decide +kernel
theorem dX8_commonDivisor_24 : decode cX8_commonDivisor 24 = .ok (.lload 4, 2) := by decide +kernel
theorem dX8_commonDivisor_26 : decode cX8_commonDivisor 26 = .ok (.lload 6, 2) := by decide +kernel
theorem dX8_commonDivisor_28 : decode cX8_commonDivisor 28 = .ok (.lrem, 1) := by decide +kernel
theorem dX8_commonDivisor_29 : decode cX8_commonDivisor 29 = .ok (.lstore 9, 2) := by decide +kernel
theorem dX8_commonDivisor_31 : decode cX8_commonDivisor 31 = .ok (.lload 6, 2) := by decide +kernel
theorem dX8_commonDivisor_33 : decode cX8_commonDivisor 33 = .ok (.lstore 4, 2) := by decide +kernel
theorem dX8_commonDivisor_35 : decode cX8_commonDivisor 35 = .ok (.lload 9, 2) := by decide +kernel
theorem dX8_commonDivisor_37 : decode cX8_commonDivisor 37 = .ok (.lstore 6, 2) := by decide +kernel
theorem dX8_commonDivisor_39 : decode cX8_commonDivisor 39 = .ok (.iinc 8 1, 3) := by decide +kernel
theorem dX8_commonDivisor_42 : decode cX8_commonDivisor 42 = .ok (.goto (-33), 3) := by decide +kernel
theorem dX8_commonDivisor_45 : decode cX8_commonDivisor 45 = .ok (.lload 4, 2) := by decide +kernel
theorem dX8_commonDivisor_47 : decode cX8_commonDivisor 47 = .ok (.lreturn, 1) := by decide +kernel
