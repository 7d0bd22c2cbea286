theorem dX9_init_0 : decode cX9_init 0 = .ok (.aload_n 0, 1) := by decide +kernel
theorem dX9_init_1 : decode cX9_init 1 = .ok (.invokespecial 1, 3) := by decide +kernel
theorem dX9_init_4 : decode cX9_init 4 = .ok (.aload_n 0, 1) := by decide +kernel
theorem dX9_init_5 : decode cX9_init 5 = .ok (.lconst 1, 1) := by decide +kernel
theorem dX9_init_6 : decode cX9_init 6 = .ok (.putfield 7, 3) := by decide +kernel
theorem dX9_init_9 : decode cX9_init 9 = .ok (.aload_n 0, 1) := by decide +kernel
theorem dX9_init_10 : decode cX9_init 10 = .ok (.iconst 4, 1) := by decide +kernel
theorem dX9_init_11 : decode cX9_init 11 = .ok (.newarray .int, 2) := by decide +kernel
theorem dX9_init_13 : decode cX9_init 13 = .ok (.putfield 13, 3) := by decide +kernel
theorem dX9_init_16 : decode cX9_init 16 = .ok (.aload_n 0, 1) := by decide +kernel
theorem dX9_init_17 : decode cX9_init 17 = .ok (.iconst 4, 1) := by decide +kernel
theorem dX9_init_18 : decode cX9_init 18 = .ok (.newarray .int, 2) := by decide +kernel
theorem dX9_init_20 : decode cX9_init 20 = .ok (.putfield 17, 3) := by decide +kernel
theorem dX9_init_23 : decode cX9_init 23 = .ok (.aload_n 0, 1) := by decide +kernel
theorem dX9_init_24 : decode cX9_init 24 = .ok (.sipush 160, 3) := by decide +kernel
theorem dX9_init_27 : decode cX9_init 27 = .ok (.newarray .long, 2) := by decide +kernel
theorem dX9_init_29 : decode cX9_init 29 = .ok (.putfield 20, 3) := by decide +kernel
theorem dX9_init_32 : decode cX9_init 32 = .ok (.aload_n 0, 1) := by decide +kernel
theorem dX9_init_33 : decode cX9_init 33 = .ok (.bipush 30, 2) := by decide +kernel
theorem dX9_init_35 : decode cX9_init 35 = .ok (.putfield 24, 3) := by decide +kernel
theorem dX9_init_38 : decode cX9_init 38 = .ok (.aload_n 0, 1) := by decide +kernel
theorem dX9_init_39 : decode cX9_init 39 = .ok (.iconst (-1), 1) := by decide +kernel
theorem dX9_init_40 : decode cX9_init 40 = .ok (.putfield 28, 3) := by decide +kernel
theorem dX9_init_43 : decode cX9_init 43 = .ok (.aload_n 0, 1) := by decide +kernel
theorem dX9_init_44 : decode cX9_init 44 = .ok (.bipush 10, 2) := by decide +kernel
theorem dX9_init_46 : decode cX9_init 46 = .ok (.newarray .int, 2) := by decide +kernel
theorem dX9_init_48 : decode cX9_init 48 = .ok (.putfield 31, 3) := by decide +kernel
theorem dX9_init_51 : decode cX9_init 51 = .ok (.aload_n 0, 1) := by decide +kernel
theorem dX9_init_52 : decode cX9_init 52 = .ok (.bipush 10, 2) := by decide +kernel
theorem dX9_init_54 : decode cX9_init 54 = .ok (.newarray .int, 2) := by decide +kernel
theorem dX9_init_56 : decode cX9_init 56 = .ok (.putfield 34, 3) := by decide +kernel
theorem dX9_init_59 : decode cX9_init 59 = .ok (.aload_n 0, 1) := by decide +kernel
theorem dX9_init_60 : decode cX9_init 60 = .ok (.bipush 10, 2) := by decide +kernel
theorem dX9_init_62 : decode cX9_init 62 = .ok (.newarray .int, 2) := by decide +kernel
theorem dX9_init_64 : decode cX9_init 64 = .ok (.putfield 37, 3) := by decide +kernel
theorem dX9_init_67 : decode cX9_init 67 = .ok (.aload_n 0, 1) := by decide +kernel
theorem dX9_init_68 : decode cX9_init 68 = .ok (.bipush 10, 2) := by decide +kernel
theorem dX9_init_70 : decode cX9_init 70 = .ok (.newarray .int, 2) := by decide +kernel
theorem dX9_init_72 : decode cX9_init 72 = .ok (.putfield 40, 3) := by decide +kernel
theorem dX9_init_75 : decode cX9_init 75 = .ok (.aload_n 0, 1) := by decide +kernel
theorem dX9_init_76 : decode cX9_init 76 = .ok (.bipush 80, 2) := by decide +kernel
theorem dX9_init_78 : decode cX9_init 78 = .ok (.newarray .int, 2) := by decide +kernel
theorem dX9_init_80 : decode cX9_init 80 = .ok (.putfield 43, 3) := by decide +kernel
theorem dX9_init_83 : decode cX9_init 83 = .ok (.aload_n 0, 1) := by decide +kernel
theorem dX9_init_84 : decode cX9_init 84 = .ok (.bipush 80, 2) := by decide +kernel
theorem dX9_init_86 : decode cX9_init 86 = .ok (.newarray .int, 2) := by decide +kernel
theorem dX9_init_88 : decode cX9_init 88 = .ok (.putfield 46, 3) := by decide +kernel
theorem dX9_init_91 : decode cX9_init 91 = .ok (.aload_n 0, 1) := by decide +kernel
theorem dX9_init_92 : decode cX9_init 92 = .ok (.bipush 40, 2) := by decide +kernel
theorem dX9_init_94 : decode cX9_init 94 = .ok (.newarray .int, 2) := by decide +kernel
theorem dX9_init_96 : decode cX9_init 96 = .ok (.putfield 49, 3) := by decide +kernel
theorem dX9_init_99 : decode cX9_init 99 = .ok (.aload_n 0, 1) := by decide +kernel
theorem dX9_init_100 : decode cX9_init 100 = .ok (.iconst 4, 1) := by decide +kernel
theorem dX9_init_101 : decode cX9_init 101 = .ok (.newarray .int, 2) := by decide +kernel
theorem dX9_init_103 : decode cX9_init 103 = .ok (.putfield 52, 3) := by decide +kernel
theorem dX9_init_106 : decode cX9_init 106 = .ok (.aload_n 0, 1) := by decide +kernel
theorem dX9_init_107 : decode cX9_init 107 = .ok (.iconst 4, 1) := by decide +kernel
theorem dX9_init_108 : decode cX9_init 108 = .ok (.newarray .int, 2) := by decide +kernel
theorem dX9_init_110 : decode cX9_init 110 = .ok (.putfield 55, 3) := by decide +kernel
theorem dX9_init_113 : decode cX9_init 113 = .ok (.aload_n 0, 1) := by decide +kernel
theorem dX9_init_114 : decode cX9_init 114 = .ok (.sipush 300, 3) := by decide +kernel
theorem dX9_init_117 : decode cX9_init 117 = .ok (.newarray .long, 2) := by decide +kernel
theorem dX9_init_119 : decode cX9_init 119 = .ok (.putfield 58, 3) := by decide +kernel
theorem dX9_init_122 : decode cX9_init 122 = .ok (.aload_n 0, 1) := by decide +kernel
theorem dX9_init_123 : decode cX9_init 123 = .ok (.bipush 10, 2) := by decide +kernel
theorem dX9_init_125 : decode cX9_init 125 = .ok (.newarray .int, 2) := by decide +kernel
theorem dX9_init_127 : decode cX9_init 127 = .ok (.putfield 61, 3) := by decide +kernel
theorem dX9_init_130 : decode cX9_init 130 = .ok (.aload_n 0, 1) := by decide +kernel
theorem dX9_init_131 : decode cX9_init 131 = .ok (.bipush 10, 2) := by decide +kernel
theorem dX9_init_133 : decode cX9_init 133 = .ok (.newarray .int, 2) := by decide +kernel
theorem dX9_init_135 : decode cX9_init 135 = .ok (.putfield 64, 3) := by decide +kernel
theorem dX9_init_138 : decode cX9_init 138 = .ok (.aload_n 0, 1) := by decide +kernel
theorem dX9_init_139 : decode cX9_init 139 = .ok (.bipush 10, 2) := by decide +kernel
theorem dX9_init_141 : decode cX9_init 141 = .ok (.newarray .int, 2) := by decide +kernel
theorem dX9_init_143 : decode cX9_init 143 = .ok (.putfield 67, 3) := by decide +kernel
theorem dX9_init_146 : decode cX9_init 146 = .ok (.aload_n 0, 1) := by decide +kernel
theorem dX9_init_147 : decode cX9_init 147 = .ok (.iconst 4, 1) := by decide +kernel
theorem dX9_init_148 : decode cX9_init 148 = .ok (.newarray .boolean, 2) := by decide +kernel
theorem dX9_init_150 : decode cX9_init 150 = .ok (.putfield 70, 3) := by decide +kernel
theorem dX9_init_153 : decode cX9_init 153 = .ok (.aload_n 0, 1) := by decide +kernel
theorem dX9_init_154 : decode cX9_init 154 = .ok (.sipush 6000, 3) := by decide +kernel
theorem dX9_init_157 : decode cX9_init 157 = .ok (.newarray .long, 2) := by decide +kernel
theorem dX9_init_159 : decode cX9_init 159 = .ok (.putfield 74, 3) := by decide +kernel
theorem dX9_init_162 : decode cX9_init 162 = .ok (.aload_n 0, 1) := by decide +kernel
theorem dX9_init_163 : decode cX9_init 163 = .ok (.sipush 6000, 3) := by decide +kernel
theorem dX9_init_166 : decode cX9_init 166 = .ok (.newarray .long, 2) := by decide +kernel
theorem dX9_init_168 : decode cX9_init 168 = .ok (.putfield 77, 3) := by decide +kernel
theorem dX9_init_171 : decode cX9_init 171 = .ok (.aload_n 0, 1) := by decide +kernel
theorem dX9_init_172 : decode cX9_init 172 = .ok (.sipush 1000, 3) := by decide +kernel
theorem dX9_init_175 : decode cX9_init 175 = .ok (.newarray .int, 2) := by decide +kernel
theorem dX9_init_177 : decode cX9_init 177 = .ok (.putfield 80, 3) := by decide +kernel
theorem dX9_init_180 : decode cX9_init 180 = .ok (.aload_n 0, 1) := by decide +kernel
theorem dX9_init_181 : decode cX9_init 181 = .ok (.sipush 1000, 3) := by decide +kernel
theorem dX9_init_184 : decode cX9_init 184 = .ok (.newarray .int, 2) := by decide +kernel
theorem dX9_init_186 : decode cX9_init 186 = .ok (.putfield 83, 3) := by decide +kernel
theorem dX9_init_189 : decode cX9_init 189 = .ok (.aload_n 0, 1) := by decide +kernel
theorem dX9_init_190 : decode cX9_init 190 = .ok (.sipush 1000, 3) := by decide +kernel
theorem dX9_init_193 : decode cX9_init 193 = .ok (.newarray .boolean, 2) := by decide +kernel
theorem dX9_init_195 : decode cX9_init 195 = .ok (.putfield 86, 3) := by decide +kernel
theorem dX9_init_198 : decode cX9_init 198 = .ok (.aload_n 0, 1) := by decide +kernel
theorem dX9_init_199 : decode cX9_init 199 = .ok (.bipush 10, 2) := by decide +kernel
theorem dX9_init_201 : decode cX9_init 201 = .ok (.newarray .boolean, 2) := by decide +kernel
theorem dX9_init_203 : decode cX9_init 203 = .ok (.putfield 89, 3) := by decide +kernel
theorem dX9_init_206 : decode cX9_init 206 = .ok (.aload_n 0, 1) := by decide +kernel
theorem dX9_init_207 : decode cX9_init 207 = .ok (.bipush 10, 2) := by decide +kernel
theorem dX9_init_209 : decode cX9_init 209 = .ok (.newarray .boolean, 2) := by decide +kernel
theorem dX9_init_211 : decode cX9_init 211 = .ok (.putfield 92, 3) := by decide +kernel
theorem dX9_init_214 : decode cX9_init 214 = .ok (.iconst 0, 1) := by decide +kernel
theorem dX9_init_215 : decode cX9_init 215 = .ok (.istore_n 1, 1) := by decide +kernel
theorem dX9_init_216 : decode cX9_init 216 = .ok (.iload_n 1, 1) := by decide +kernel
theorem dX9_init_217 : decode cX9_init 217 = .ok (.iconst 4, 1) := by decide +kernel
theorem dX9_init_218 : decode cX9_init 218 = .ok (.if_icmp .ge 16, 3) := by decide +kernel
theorem dX9_init_221 : decode cX9_init 221 = .ok (.aload_n 0, 1) := by decide +kernel
theorem dX9_init_222 : decode cX9_init 222 = .ok (.getfield 17, 3) := by decide +kernel
theorem dX9_init_225 : decode cX9_init 225 = .ok (.iload_n 1, 1) := by decide +kernel
theorem dX9_init_226 : decode cX9_init 226 = .ok (.iconst (-1), 1) := by decide +kernel
theorem dX9_init_227 : decode cX9_init 227 = .ok (.iastore, 1) := by decide +kernel
theorem dX9_init_228 : decode cX9_init 228 = .ok (.iinc 1 1, 3) := by decide +kernel
theorem dX9_init_231 : decode cX9_init 231 = .ok (.goto (-15), 3) := by decide +kernel
theorem dX9_init_234 : decode cX9_init 234 = .ok (.return_, 1) := by decide +kernel
theorem dX9_status_0 : decode cX9_status 0 = .ok (.aload_n 0, 1) := by decide +kernel
theorem dX9_status_1 : decode cX9_status 1 = .ok (.iconst 0, 1) := by decide +kernel
theorem dX9_status_2 : decode cX9_status 2 = .ok (.putfield 95, 3) := by decide +kernel
theorem dX9_status_5 : decode cX9_status 5 = .ok (.aload_n 0, 1) := by decide +kernel
theorem dX9_status_6 : decode cX9_status 6 = .ok (.getfield 98, 3) := by decide +kernel
theorem dX9_status_9 : decode cX9_status 9 = .ok (.ireturn, 1) := by decide +kernel
theorem dX9_refuse_0 : decode cX9_refuse 0 = .ok (.aload_n 0, 1) := by decide +kernel
theorem dX9_refuse_1 : decode cX9_refuse 1 = .ok (.iload_n 1, 1) := by decide +kernel
theorem dX9_refuse_2 : decode cX9_refuse 2 = .ok (.putfield 98, 3) := by decide +kernel
theorem dX9_refuse_5 : decode cX9_refuse 5 = .ok (.iconst (-1), 1) := by decide +kernel
theorem dX9_refuse_6 : decode cX9_refuse 6 = .ok (.ireturn, 1) := by decide +kernel
theorem dX9_no_0 : decode cX9_no 0 = .ok (.aload_n 0, 1) := by decide +kernel
theorem dX9_no_1 : decode cX9_no 1 = .ok (.iload_n 1, 1) := by decide +kernel
theorem dX9_no_2 : decode cX9_no 2 = .ok (.putfield 98, 3) := by decide +kernel
theorem dX9_no_5 : decode cX9_no 5 = .ok (.iconst 0, 1) := by decide +kernel
theorem dX9_no_6 : decode cX9_no 6 = .ok (.ireturn, 1) := by decide +kernel
theorem dX9_cut_0 : decode cX9_cut 0 = .ok (.iload_n 0, 1) := by decide +kernel
theorem dX9_cut_1 : decode cX9_cut 1 = .ok (.ifCond .ne 10, 3) := by decide +kernel
theorem dX9_cut_4 : decode cX9_cut 4 = .ok (.lload_n 1, 1) := by decide +kernel
theorem dX9_cut_5 : decode cX9_cut 5 = .ok (.l2i, 1) := by decide +kernel
theorem dX9_cut_6 : decode cX9_cut 6 = .ok (.i2b, 1) := by decide +kernel
theorem dX9_cut_7 : decode cX9_cut 7 = .ok (.i2l, 1) := by decide +kernel
theorem dX9_cut_8 : decode cX9_cut 8 = .ok (.goto 27, 3) := by decide +kernel
theorem dX9_cut_11 : decode cX9_cut 11 = .ok (.iload_n 0, 1) := by decide +kernel
theorem dX9_cut_12 : decode cX9_cut 12 = .ok (.iconst 1, 1) := by decide +kernel
theorem dX9_cut_13 : decode cX9_cut 13 = .ok (.if_icmp .ne 10, 3) := by decide +kernel
theorem dX9_cut_16 : decode cX9_cut 16 = .ok (.lload_n 1, 1) := by decide +kernel
theorem dX9_cut_17 : decode cX9_cut 17 = .ok (.l2i, 1) := by decide +kernel
theorem dX9_cut_18 : decode cX9_cut 18 = .ok (.i2s, 1) := by decide +kernel
theorem dX9_cut_19 : decode cX9_cut 19 = .ok (.i2l, 1) := by decide +kernel
theorem dX9_cut_20 : decode cX9_cut 20 = .ok (.goto 15, 3) := by decide +kernel
theorem dX9_cut_23 : decode cX9_cut 23 = .ok (.iload_n 0, 1) := by decide +kernel
theorem dX9_cut_24 : decode cX9_cut 24 = .ok (.iconst 2, 1) := by decide +kernel
theorem dX9_cut_25 : decode cX9_cut 25 = .ok (.if_icmp .ne 9, 3) := by decide +kernel
theorem dX9_cut_28 : decode cX9_cut 28 = .ok (.lload_n 1, 1) := by decide +kernel
theorem dX9_cut_29 : decode cX9_cut 29 = .ok (.l2i, 1) := by decide +kernel
theorem dX9_cut_30 : decode cX9_cut 30 = .ok (.i2l, 1) := by decide +kernel
theorem dX9_cut_31 : decode cX9_cut 31 = .ok (.goto 4, 3) := by decide +kernel
theorem dX9_cut_34 : decode cX9_cut 34 = .ok (.lload_n 1, 1) := by decide +kernel
theorem dX9_cut_35 : decode cX9_cut 35 = .ok (.lreturn, 1) := by decide +kernel
theorem dX9_tray_0 : decode cX9_tray 0 = .ok (.aload_n 0, 1) := by decide +kernel
theorem dX9_tray_1 : decode cX9_tray 1 = .ok (.iconst 0, 1) := by decide +kernel
theorem dX9_tray_2 : decode cX9_tray 2 = .ok (.putfield 95, 3) := by decide +kernel
theorem dX9_tray_5 : decode cX9_tray 5 = .ok (.aload_n 0, 1) := by decide +kernel
theorem dX9_tray_6 : decode cX9_tray 6 = .ok (.iconst 0, 1) := by decide +kernel
theorem dX9_tray_7 : decode cX9_tray 7 = .ok (.putfield 98, 3) := by decide +kernel
theorem dX9_tray_10 : decode cX9_tray 10 = .ok (.iload_n 1, 1) := by decide +kernel
theorem dX9_tray_11 : decode cX9_tray 11 = .ok (.ifCond .lt 17, 3) := by decide +kernel
theorem dX9_tray_14 : decode cX9_tray 14 = .ok (.iload_n 1, 1) := by decide +kernel
theorem dX9_tray_15 : decode cX9_tray 15 = .ok (.iconst 4, 1) := by decide +kernel
theorem dX9_tray_16 : decode cX9_tray 16 = .ok (.if_icmp .ge 12, 3) := by decide +kernel
theorem dX9_tray_19 : decode cX9_tray 19 = .ok (.iload_n 2, 1) := by decide +kernel
theorem dX9_tray_20 : decode cX9_tray 20 = .ok (.ifCond .lt 8, 3) := by decide +kernel
theorem dX9_tray_23 : decode cX9_tray 23 = .ok (.iload_n 2, 1) := by decide +kernel
theorem dX9_tray_24 : decode cX9_tray 24 = .ok (.iconst 3, 1) := by decide +kernel
theorem dX9_tray_25 : decode cX9_tray 25 = .ok (.if_icmp .le 9, 3) := by decide +kernel
theorem dX9_tray_28 : decode cX9_tray 28 = .ok (.aload_n 0, 1) := by decide +kernel
theorem dX9_tray_29 : decode cX9_tray 29 = .ok (.iconst 1, 1) := by decide +kernel
theorem dX9_tray_30 : decode cX9_tray 30 = .ok (.invokevirtual 101, 3) := by decide +kernel
theorem dX9_tray_33 : decode cX9_tray 33 = .ok (.ireturn, 1) := by decide +kernel
theorem dX9_tray_34 : decode cX9_tray 34 = .ok (.iload_n 3, 1) := by decide +kernel
theorem dX9_tray_35 : decode cX9_tray 35 = .ok (.bipush 40, 2) := by decide +kernel
theorem dX9_tray_37 : decode cX9_tray 37 = .ok (.if_icmp .le 9, 3) := by decide +kernel
theorem dX9_tray_40 : decode cX9_tray 40 = .ok (.aload_n 0, 1) := by decide +kernel
theorem dX9_tray_41 : decode cX9_tray 41 = .ok (.iconst 5, 1) := by decide +kernel
theorem dX9_tray_42 : decode cX9_tray 42 = .ok (.invokevirtual 101, 3) := by decide +kernel
theorem dX9_tray_45 : decode cX9_tray 45 = .ok (.ireturn, 1) := by decide +kernel
theorem dX9_tray_46 : decode cX9_tray 46 = .ok (.iload_n 3, 1) := by decide +kernel
theorem dX9_tray_47 : decode cX9_tray 47 = .ok (.ifCond .ge 10, 3) := by decide +kernel
theorem dX9_tray_50 : decode cX9_tray 50 = .ok (.aload_n 0, 1) := by decide +kernel
theorem dX9_tray_51 : decode cX9_tray 51 = .ok (.bipush 6, 2) := by decide +kernel
theorem dX9_tray_53 : decode cX9_tray 53 = .ok (.invokevirtual 101, 3) := by decide +kernel
theorem dX9_tray_56 : decode cX9_tray 56 = .ok (.ireturn, 1) := by decide +kernel
theorem dX9_tray_57 : decode cX9_tray 57 = .ok (.aload_n 0, 1) := by decide +kernel
theorem dX9_tray_58 : decode cX9_tray 58 = .ok (.getfield 13, 3) := by decide +kernel
theorem dX9_tray_61 : decode cX9_tray 61 = .ok (.iload_n 1, 1) := by decide +kernel
theorem dX9_tray_62 : decode cX9_tray 62 = .ok (.iload_n 2, 1) := by decide +kernel
theorem dX9_tray_63 : decode cX9_tray 63 = .ok (.iastore, 1) := by decide +kernel
theorem dX9_tray_64 : decode cX9_tray 64 = .ok (.aload_n 0, 1) := by decide +kernel
theorem dX9_tray_65 : decode cX9_tray 65 = .ok (.getfield 17, 3) := by decide +kernel
theorem dX9_tray_68 : decode cX9_tray 68 = .ok (.iload_n 1, 1) := by decide +kernel
theorem dX9_tray_69 : decode cX9_tray 69 = .ok (.iload_n 3, 1) := by decide +kernel
theorem dX9_tray_70 : decode cX9_tray 70 = .ok (.iastore, 1) := by decide +kernel
theorem dX9_tray_71 : decode cX9_tray 71 = .ok (.iconst 0, 1) := by decide +kernel
theorem dX9_tray_72 : decode cX9_tray 72 = .ok (.istore 4, 2) := by decide +kernel
theorem dX9_tray_74 : decode cX9_tray 74 = .ok (.iload 4, 2) := by decide +kernel
theorem dX9_tray_76 : decode cX9_tray 76 = .ok (.iload_n 3, 1) := by decide +kernel
theorem dX9_tray_77 : decode cX9_tray 77 = .ok (.if_icmp .ge 22, 3) := by decide +kernel
theorem dX9_tray_80 : decode cX9_tray 80 = .ok (.aload_n 0, 1) := by decide +kernel
theorem dX9_tray_81 : decode cX9_tray 81 = .ok (.getfield 20, 3) := by decide +kernel
theorem dX9_tray_84 : decode cX9_tray 84 = .ok (.bipush 40, 2) := by decide +kernel
theorem dX9_tray_86 : decode cX9_tray 86 = .ok (.iload_n 1, 1) := by decide +kernel
theorem dX9_tray_87 : decode cX9_tray 87 = .ok (.imul, 1) := by decide +kernel
theorem dX9_tray_88 : decode cX9_tray 88 = .ok (.iload 4, 2) := by decide +kernel
theorem dX9_tray_90 : decode cX9_tray 90 = .ok (.iadd, 1) := by decide +kernel
theorem dX9_tray_91 : decode cX9_tray 91 = .ok (.lconst 0, 1) := by decide +kernel
theorem dX9_tray_92 : decode cX9_tray 92 = .ok (.lastore, 1) := by decide +kernel
theorem dX9_tray_93 : decode cX9_tray 93 = .ok (.iinc 4 1, 3) := by decide +kernel
theorem dX9_tray_96 : decode cX9_tray 96 = .ok (.goto (-22), 3) := by decide +kernel
theorem dX9_tray_99 : decode cX9_tray 99 = .ok (.iconst 1, 1) := by decide +kernel
theorem dX9_tray_100 : decode cX9_tray 100 = .ok (.ireturn, 1) := by decide +kernel
theorem dX9_trayed_0 : decode cX9_trayed 0 = .ok (.iload_n 1, 1) := by decide +kernel
theorem dX9_trayed_1 : decode cX9_trayed 1 = .ok (.ifCond .lt 8, 3) := by decide +kernel
theorem dX9_trayed_4 : decode cX9_trayed 4 = .ok (.iload_n 1, 1) := by decide +kernel
theorem dX9_trayed_5 : decode cX9_trayed 5 = .ok (.iconst 4, 1) := by decide +kernel
theorem dX9_trayed_6 : decode cX9_trayed 6 = .ok (.if_icmp .lt 7, 3) := by decide +kernel
theorem dX9_trayed_9 : decode cX9_trayed 9 = .ok (.iconst 1, 1) := by decide +kernel
theorem dX9_trayed_10 : decode cX9_trayed 10 = .ok (.goto 17, 3) := by decide +kernel
theorem dX9_trayed_13 : decode cX9_trayed 13 = .ok (.aload_n 0, 1) := by decide +kernel
theorem dX9_trayed_14 : decode cX9_trayed 14 = .ok (.getfield 17, 3) := by decide +kernel
theorem dX9_trayed_17 : decode cX9_trayed 17 = .ok (.iload_n 1, 1) := by decide +kernel
theorem dX9_trayed_18 : decode cX9_trayed 18 = .ok (.iaload, 1) := by decide +kernel
theorem dX9_trayed_19 : decode cX9_trayed 19 = .ok (.ifCond .ge 7, 3) := by decide +kernel
theorem dX9_trayed_22 : decode cX9_trayed 22 = .ok (.iconst 3, 1) := by decide +kernel
theorem dX9_trayed_23 : decode cX9_trayed 23 = .ok (.goto 4, 3) := by decide +kernel
theorem dX9_trayed_26 : decode cX9_trayed 26 = .ok (.iconst 0, 1) := by decide +kernel
theorem dX9_trayed_27 : decode cX9_trayed 27 = .ok (.ireturn, 1) := by decide +kernel
theorem dX9_placed_0 : decode cX9_placed 0 = .ok (.aload_n 0, 1) := by decide +kernel
theorem dX9_placed_1 : decode cX9_placed 1 = .ok (.iload_n 1, 1) := by decide +kernel
theorem dX9_placed_2 : decode cX9_placed 2 = .ok (.invokevirtual 105, 3) := by decide +kernel
theorem dX9_placed_5 : decode cX9_placed 5 = .ok (.istore_n 3, 1) := by decide +kernel
theorem dX9_placed_6 : decode cX9_placed 6 = .ok (.iload_n 3, 1) := by decide +kernel
theorem dX9_placed_7 : decode cX9_placed 7 = .ok (.ifCond .le 7, 3) := by decide +kernel
theorem dX9_placed_10 : decode cX9_placed 10 = .ok (.iload_n 3, 1) := by decide +kernel
theorem dX9_placed_11 : decode cX9_placed 11 = .ok (.goto 22, 3) := by decide +kernel
theorem dX9_placed_14 : decode cX9_placed 14 = .ok (.iload_n 2, 1) := by decide +kernel
theorem dX9_placed_15 : decode cX9_placed 15 = .ok (.ifCond .lt 13, 3) := by decide +kernel
theorem dX9_placed_18 : decode cX9_placed 18 = .ok (.iload_n 2, 1) := by decide +kernel
theorem dX9_placed_19 : decode cX9_placed 19 = .ok (.aload_n 0, 1) := by decide +kernel
theorem dX9_placed_20 : decode cX9_placed 20 = .ok (.getfield 17, 3) := by decide +kernel
theorem dX9_placed_23 : decode cX9_placed 23 = .ok (.iload_n 1, 1) := by decide +kernel
theorem dX9_placed_24 : decode cX9_placed 24 = .ok (.iaload, 1) := by decide +kernel
theorem dX9_placed_25 : decode cX9_placed 25 = .ok (.if_icmp .lt 7, 3) := by decide +kernel
theorem dX9_placed_28 : decode cX9_placed 28 = .ok (.iconst 4, 1) := by decide +kernel
theorem dX9_placed_29 : decode cX9_placed 29 = .ok (.goto 4, 3) := by decide +kernel
theorem dX9_placed_32 : decode cX9_placed 32 = .ok (.iconst 0, 1) := by decide +kernel
theorem dX9_placed_33 : decode cX9_placed 33 = .ok (.ireturn, 1) := by decide +kernel
theorem dX9_write_0 : decode cX9_write 0 = .ok (.aload_n 0, 1) := by decide +kernel
theorem dX9_write_1 : decode cX9_write 1 = .ok (.iconst 0, 1) := by decide +kernel
theorem dX9_write_2 : decode cX9_write 2 = .ok (.putfield 95, 3) := by decide +kernel
theorem dX9_write_5 : decode cX9_write 5 = .ok (.aload_n 0, 1) := by decide +kernel
theorem dX9_write_6 : decode cX9_write 6 = .ok (.aload_n 0, 1) := by decide +kernel
theorem dX9_write_7 : decode cX9_write 7 = .ok (.iload_n 1, 1) := by decide +kernel
theorem dX9_write_8 : decode cX9_write 8 = .ok (.iload_n 2, 1) := by decide +kernel
theorem dX9_write_9 : decode cX9_write 9 = .ok (.invokevirtual 109, 3) := by decide +kernel
theorem dX9_write_12 : decode cX9_write 12 = .ok (.putfield 98, 3) := by decide +kernel
theorem dX9_write_15 : decode cX9_write 15 = .ok (.aload_n 0, 1) := by decide +kernel
theorem dX9_write_16 : decode cX9_write 16 = .ok (.getfield 98, 3) := by decide +kernel
theorem dX9_write_19 : decode cX9_write 19 = .ok (.ifCond .le 5, 3) := by decide +kernel
theorem dX9_write_22 : decode cX9_write 22 = .ok (.iconst 0, 1) := by decide +kernel
theorem dX9_write_23 : decode cX9_write 23 = .ok (.ireturn, 1) := by decide +kernel
theorem dX9_write_24 : decode cX9_write 24 = .ok (.aload_n 0, 1) := by decide +kernel
theorem dX9_write_25 : decode cX9_write 25 = .ok (.getfield 20, 3) := by decide +kernel
theorem dX9_write_28 : decode cX9_write 28 = .ok (.bipush 40, 2) := by decide +kernel
theorem dX9_write_30 : decode cX9_write 30 = .ok (.iload_n 1, 1) := by decide +kernel
theorem dX9_write_31 : decode cX9_write 31 = .ok (.imul, 1) := by decide +kernel
theorem dX9_write_32 : decode cX9_write 32 = .ok (.iload_n 2, 1) := by decide +kernel
theorem dX9_write_33 : decode cX9_write 33 = .ok (.iadd, 1) := by decide +kernel
theorem dX9_write_34 : decode cX9_write 34 = .ok (.aload_n 0, 1) := by decide +kernel
theorem dX9_write_35 : decode cX9_write 35 = .ok (.getfield 13, 3) := by decide +kernel
theorem dX9_write_38 : decode cX9_write 38 = .ok (.iload_n 1, 1) := by decide +kernel
theorem dX9_write_39 : decode cX9_write 39 = .ok (.iaload, 1) := by decide +kernel
theorem dX9_write_40 : decode cX9_write 40 = .ok (.lload_n 3, 1) := by decide +kernel
theorem dX9_write_41 : decode cX9_write 41 = .ok (.invokestatic 113, 3) := by decide +kernel
theorem dX9_write_44 : decode cX9_write 44 = .ok (.lastore, 1) := by decide +kernel
theorem dX9_write_45 : decode cX9_write 45 = .ok (.iconst 1, 1) := by decide +kernel
theorem dX9_write_46 : decode cX9_write 46 = .ok (.ireturn, 1) := by decide +kernel
theorem dX9_read_0 : decode cX9_read 0 = .ok (.aload_n 0, 1) := by decide +kernel
theorem dX9_read_1 : decode cX9_read 1 = .ok (.iconst 0, 1) := by decide +kernel
theorem dX9_read_2 : decode cX9_read 2 = .ok (.putfield 95, 3) := by decide +kernel
theorem dX9_read_5 : decode cX9_read 5 = .ok (.aload_n 0, 1) := by decide +kernel
theorem dX9_read_6 : decode cX9_read 6 = .ok (.aload_n 0, 1) := by decide +kernel
theorem dX9_read_7 : decode cX9_read 7 = .ok (.iload_n 1, 1) := by decide +kernel
theorem dX9_read_8 : decode cX9_read 8 = .ok (.iload_n 2, 1) := by decide +kernel
theorem dX9_read_9 : decode cX9_read 9 = .ok (.invokevirtual 109, 3) := by decide +kernel
theorem dX9_read_12 : decode cX9_read 12 = .ok (.putfield 98, 3) := by decide +kernel
theorem dX9_read_15 : decode cX9_read 15 = .ok (.aload_n 0, 1) := by decide +kernel
theorem dX9_read_16 : decode cX9_read 16 = .ok (.getfield 98, 3) := by decide +kernel
theorem dX9_read_19 : decode cX9_read 19 = .ok (.ifCond .le 9, 3) := by decide +kernel
theorem dX9_read_22 : decode cX9_read 22 = .ok (.ldc2_w 117, 3) := by decide +kernel
theorem dX9_read_25 : decode cX9_read 25 = .ok (.goto 14, 3) := by decide +kernel
theorem dX9_read_28 : decode cX9_read 28 = .ok (.aload_n 0, 1) := by decide +kernel
theorem dX9_read_29 : decode cX9_read 29 = .ok (.getfield 20, 3) := by decide +kernel
theorem dX9_read_32 : decode cX9_read 32 = .ok (.bipush 40, 2) := by decide +kernel
theorem dX9_read_34 : decode cX9_read 34 = .ok (.iload_n 1, 1) := by decide +kernel
theorem dX9_read_35 : decode cX9_read 35 = .ok (.imul, 1) := by decide +kernel
theorem dX9_read_36 : decode cX9_read 36 = .ok (.iload_n 2, 1) := by decide +kernel
theorem dX9_read_37 : decode cX9_read 37 = .ok (.iadd, 1) := by decide +kernel
theorem dX9_read_38 : decode cX9_read 38 = .ok (.laload, 1) := by decide +kernel
theorem dX9_read_39 : decode cX9_read 39 = .ok (.lreturn, 1) := by decide +kernel
theorem dX9_pour_0 : decode cX9_pour 0 = .ok (.aload_n 0, 1) := by decide +kernel
theorem dX9_pour_1 : decode cX9_pour 1 = .ok (.iconst 0, 1) := by decide +kernel
theorem dX9_pour_2 : decode cX9_pour 2 = .ok (.putfield 95, 3) := by decide +kernel
theorem dX9_pour_5 : decode cX9_pour 5 = .ok (.aload_n 0, 1) := by decide +kernel
theorem dX9_pour_6 : decode cX9_pour 6 = .ok (.iconst 0, 1) := by decide +kernel
theorem dX9_pour_7 : decode cX9_pour 7 = .ok (.putfield 98, 3) := by decide +kernel
theorem dX9_pour_10 : decode cX9_pour 10 = .ok (.iload_n 1, 1) := by decide +kernel
theorem dX9_pour_11 : decode cX9_pour 11 = .ok (.ifCond .lt 17, 3) := by decide +kernel
theorem dX9_pour_14 : decode cX9_pour 14 = .ok (.iload_n 1, 1) := by decide +kernel
theorem dX9_pour_15 : decode cX9_pour 15 = .ok (.iconst 4, 1) := by decide +kernel
theorem dX9_pour_16 : decode cX9_pour 16 = .ok (.if_icmp .ge 12, 3) := by decide +kernel
theorem dX9_pour_19 : decode cX9_pour 19 = .ok (.iload_n 3, 1) := by decide +kernel
theorem dX9_pour_20 : decode cX9_pour 20 = .ok (.ifCond .lt 8, 3) := by decide +kernel
theorem dX9_pour_23 : decode cX9_pour 23 = .ok (.iload_n 3, 1) := by decide +kernel
theorem dX9_pour_24 : decode cX9_pour 24 = .ok (.iconst 4, 1) := by decide +kernel
theorem dX9_pour_25 : decode cX9_pour 25 = .ok (.if_icmp .lt 9, 3) := by decide +kernel
theorem dX9_pour_28 : decode cX9_pour 28 = .ok (.aload_n 0, 1) := by decide +kernel
theorem dX9_pour_29 : decode cX9_pour 29 = .ok (.iconst 1, 1) := by decide +kernel
theorem dX9_pour_30 : decode cX9_pour 30 = .ok (.invokevirtual 101, 3) := by decide +kernel
theorem dX9_pour_33 : decode cX9_pour 33 = .ok (.ireturn, 1) := by decide +kernel
theorem dX9_pour_34 : decode cX9_pour 34 = .ok (.aload_n 0, 1) := by decide +kernel
theorem dX9_pour_35 : decode cX9_pour 35 = .ok (.getfield 17, 3) := by decide +kernel
theorem dX9_pour_38 : decode cX9_pour 38 = .ok (.iload_n 1, 1) := by decide +kernel
theorem dX9_pour_39 : decode cX9_pour 39 = .ok (.iaload, 1) := by decide +kernel
theorem dX9_pour_40 : decode cX9_pour 40 = .ok (.ifCond .lt 12, 3) := by decide +kernel
theorem dX9_pour_43 : decode cX9_pour 43 = .ok (.aload_n 0, 1) := by decide +kernel
theorem dX9_pour_44 : decode cX9_pour 44 = .ok (.getfield 17, 3) := by decide +kernel
theorem dX9_pour_47 : decode cX9_pour 47 = .ok (.iload_n 3, 1) := by decide +kernel
theorem dX9_pour_48 : decode cX9_pour 48 = .ok (.iaload, 1) := by decide +kernel
theorem dX9_pour_49 : decode cX9_pour 49 = .ok (.ifCond .ge 9, 3) := by decide +kernel
theorem dX9_pour_52 : decode cX9_pour 52 = .ok (.aload_n 0, 1) := by decide +kernel
theorem dX9_pour_53 : decode cX9_pour 53 = .ok (.iconst 3, 1) := by decide +kernel
theorem dX9_pour_54 : decode cX9_pour 54 = .ok (.invokevirtual 101, 3) := by decide +kernel
theorem dX9_pour_57 : decode cX9_pour 57 = .ok (.ireturn, 1) := by decide +kernel
theorem dX9_pour_58 : decode cX9_pour 58 = .ok (.aload_n 0, 1) := by decide +kernel
theorem dX9_pour_59 : decode cX9_pour 59 = .ok (.getfield 13, 3) := by decide +kernel
theorem dX9_pour_62 : decode cX9_pour 62 = .ok (.iload_n 1, 1) := by decide +kernel
theorem dX9_pour_63 : decode cX9_pour 63 = .ok (.iaload, 1) := by decide +kernel
theorem dX9_pour_64 : decode cX9_pour 64 = .ok (.aload_n 0, 1) := by decide +kernel
theorem dX9_pour_65 : decode cX9_pour 65 = .ok (.getfield 13, 3) := by decide +kernel
theorem dX9_pour_68 : decode cX9_pour 68 = .ok (.iload_n 3, 1) := by decide +kernel
theorem dX9_pour_69 : decode cX9_pour 69 = .ok (.iaload, 1) := by decide +kernel
theorem dX9_pour_70 : decode cX9_pour 70 = .ok (.if_icmp .eq 10, 3) := by decide +kernel
theorem dX9_pour_73 : decode cX9_pour 73 = .ok (.aload_n 0, 1) := by decide +kernel
theorem dX9_pour_74 : decode cX9_pour 74 = .ok (.bipush 11, 2) := by decide +kernel
theorem dX9_pour_76 : decode cX9_pour 76 = .ok (.invokevirtual 101, 3) := by decide +kernel
theorem dX9_pour_79 : decode cX9_pour 79 = .ok (.ireturn, 1) := by decide +kernel
theorem dX9_pour_80 : decode cX9_pour 80 = .ok (.iload 5, 2) := by decide +kernel
theorem dX9_pour_82 : decode cX9_pour 82 = .ok (.ifCond .ge 10, 3) := by decide +kernel
theorem dX9_pour_85 : decode cX9_pour 85 = .ok (.aload_n 0, 1) := by decide +kernel
theorem dX9_pour_86 : decode cX9_pour 86 = .ok (.bipush 6, 2) := by decide +kernel
theorem dX9_pour_88 : decode cX9_pour 88 = .ok (.invokevirtual 101, 3) := by decide +kernel
theorem dX9_pour_91 : decode cX9_pour 91 = .ok (.ireturn, 1) := by decide +kernel
theorem dX9_pour_92 : decode cX9_pour 92 = .ok (.iload_n 2, 1) := by decide +kernel
theorem dX9_pour_93 : decode cX9_pour 93 = .ok (.ifCond .lt 43, 3) := by decide +kernel
theorem dX9_pour_96 : decode cX9_pour 96 = .ok (.iload 4, 2) := by decide +kernel
theorem dX9_pour_98 : decode cX9_pour 98 = .ok (.ifCond .lt 38, 3) := by decide +kernel
theorem dX9_pour_101 : decode cX9_pour 101 = .ok (.iload_n 2, 1) := by decide +kernel
theorem dX9_pour_102 : decode cX9_pour 102 = .ok (.i2l, 1) := by decide +kernel
theorem dX9_pour_103 : decode cX9_pour 103 = .ok (.iload 5, 2) := by decide +kernel
theorem dX9_pour_105 : decode cX9_pour 105 = .ok (.i2l, 1) := by decide +kernel
theorem dX9_pour_106 : decode cX9_pour 106 = .ok (.ladd, 1) := by decide +kernel
theorem dX9_pour_107 : decode cX9_pour 107 = .ok (.aload_n 0, 1) := by decide +kernel
theorem dX9_pour_108 : decode cX9_pour 108 = .ok (.getfield 17, 3) := by decide +kernel
theorem dX9_pour_111 : decode cX9_pour 111 = .ok (.iload_n 1, 1) := by decide +kernel
theorem dX9_pour_112 : decode cX9_pour 112 = .ok (.iaload, 1) := by decide +kernel
theorem dX9_pour_113 : decode cX9_pour 113 = .ok (.i2l, 1) := by decide +kernel
theorem dX9_pour_114 : decode cX9_pour 114 = .ok (.lcmp, 1) := by decide +kernel
theorem dX9_pour_115 : decode cX9_pour 115 = .ok (.ifCond .gt 21, 3) := by decide +kernel
theorem dX9_pour_118 : decode cX9_pour 118 = .ok (.iload 4, 2) := by decide +kernel
theorem dX9_pour_120 : decode cX9_pour 120 = .ok (.i2l, 1) := by decide +kernel
theorem dX9_pour_121 : decode cX9_pour 121 = .ok (.iload 5, 2) := by decide +kernel
theorem dX9_pour_123 : decode cX9_pour 123 = .ok (.i2l, 1) := by decide +kernel
theorem dX9_pour_124 : decode cX9_pour 124 = .ok (.ladd, 1) := by decide +kernel
theorem dX9_pour_125 : decode cX9_pour 125 = .ok (.aload_n 0, 1) := by decide +kernel
theorem dX9_pour_126 : decode cX9_pour 126 = .ok (.getfield 17, 3) := by decide +kernel
theorem dX9_pour_129 : decode cX9_pour 129 = .ok (.iload_n 3, 1) := by decide +kernel
theorem dX9_pour_130 : decode cX9_pour 130 = .ok (.iaload, 1) := by decide +kernel
theorem dX9_pour_131 : decode cX9_pour 131 = .ok (.i2l, 1) := by decide +kernel
theorem dX9_pour_132 : decode cX9_pour 132 = .ok (.lcmp, 1) := by decide +kernel
theorem dX9_pour_133 : decode cX9_pour 133 = .ok (.ifCond .le 9, 3) := by decide +kernel
theorem dX9_pour_136 : decode cX9_pour 136 = .ok (.aload_n 0, 1) := by decide +kernel
theorem dX9_pour_137 : decode cX9_pour 137 = .ok (.iconst 4, 1) := by decide +kernel
theorem dX9_pour_138 : decode cX9_pour 138 = .ok (.invokevirtual 101, 3) := by decide +kernel
theorem dX9_pour_141 : decode cX9_pour 141 = .ok (.ireturn, 1) := by decide +kernel
theorem dX9_pour_142 : decode cX9_pour 142 = .ok (.iload_n 2, 1) := by decide +kernel
theorem dX9_pour_143 : decode cX9_pour 143 = .ok (.iload 4, 2) := by decide +kernel
theorem dX9_pour_145 : decode cX9_pour 145 = .ok (.if_icmp .ge 7, 3) := by decide +kernel
theorem dX9_pour_148 : decode cX9_pour 148 = .ok (.iconst 1, 1) := by decide +kernel
theorem dX9_pour_149 : decode cX9_pour 149 = .ok (.goto 4, 3) := by decide +kernel
theorem dX9_pour_152 : decode cX9_pour 152 = .ok (.iconst 0, 1) := by decide +kernel
theorem dX9_pour_153 : decode cX9_pour 153 = .ok (.istore 6, 2) := by decide +kernel
theorem dX9_pour_155 : decode cX9_pour 155 = .ok (.iconst 0, 1) := by decide +kernel
theorem dX9_pour_156 : decode cX9_pour 156 = .ok (.istore 7, 2) := by decide +kernel
theorem dX9_pour_158 : decode cX9_pour 158 = .ok (.iload 7, 2) := by decide +kernel
theorem dX9_pour_160 : decode cX9_pour 160 = .ok (.iload 5, 2) := by decide +kernel
theorem dX9_pour_162 : decode cX9_pour 162 = .ok (.if_icmp .ge 57, 3) := by decide +kernel
theorem dX9_pour_165 : decode cX9_pour 165 = .ok (.iload 6, 2) := by decide +kernel
theorem dX9_pour_167 : decode cX9_pour 167 = .ok (.ifCond .eq 13, 3) := by decide +kernel
theorem dX9_pour_170 : decode cX9_pour 170 = .ok (.iload 5, 2) := by decide +kernel
theorem dX9_pour_172 : decode cX9_pour 172 = .ok (.iconst 1, 1) := by decide +kernel
theorem dX9_pour_173 : decode cX9_pour 173 = .ok (.isub, 1) := by decide +kernel
theorem dX9_pour_174 : decode cX9_pour 174 = .ok (.iload 7, 2) := by decide +kernel
theorem dX9_pour_176 : decode cX9_pour 176 = .ok (.isub, 1) := by decide +kernel
theorem dX9_pour_177 : decode cX9_pour 177 = .ok (.goto 5, 3) := by decide +kernel
theorem dX9_pour_180 : decode cX9_pour 180 = .ok (.iload 7, 2) := by decide +kernel
theorem dX9_pour_182 : decode cX9_pour 182 = .ok (.istore 8, 2) := by decide +kernel
theorem dX9_pour_184 : decode cX9_pour 184 = .ok (.aload_n 0, 1) := by decide +kernel
theorem dX9_pour_185 : decode cX9_pour 185 = .ok (.getfield 20, 3) := by decide +kernel
theorem dX9_pour_188 : decode cX9_pour 188 = .ok (.bipush 40, 2) := by decide +kernel
theorem dX9_pour_190 : decode cX9_pour 190 = .ok (.iload_n 3, 1) := by decide +kernel
theorem dX9_pour_191 : decode cX9_pour 191 = .ok (.imul, 1) := by decide +kernel
theorem dX9_pour_192 : decode cX9_pour 192 = .ok (.iload 4, 2) := by decide +kernel
theorem dX9_pour_194 : decode cX9_pour 194 = .ok (.iadd, 1) := by decide +kernel
theorem dX9_pour_195 : decode cX9_pour 195 = .ok (.iload 8, 2) := by decide +kernel
theorem dX9_pour_197 : decode cX9_pour 197 = .ok (.iadd, 1) := by decide +kernel
theorem dX9_pour_198 : decode cX9_pour 198 = .ok (.aload_n 0, 1) := by decide +kernel
theorem dX9_pour_199 : decode cX9_pour 199 = .ok (.getfield 20, 3) := by decide +kernel
theorem dX9_pour_202 : decode cX9_pour 202 = .ok (.bipush 40, 2) := by decide +kernel
theorem dX9_pour_204 : decode cX9_pour 204 = .ok (.iload_n 1, 1) := by decide +kernel
theorem dX9_pour_205 : decode cX9_pour 205 = .ok (.imul, 1) := by decide +kernel
theorem dX9_pour_206 : decode cX9_pour 206 = .ok (.iload_n 2, 1) := by decide +kernel
theorem dX9_pour_207 : decode cX9_pour 207 = .ok (.iadd, 1) := by decide +kernel
theorem dX9_pour_208 : decode cX9_pour 208 = .ok (.iload 8, 2) := by decide +kernel
theorem dX9_pour_210 : decode cX9_pour 210 = .ok (.iadd, 1) := by decide +kernel
theorem dX9_pour_211 : decode cX9_pour 211 = .ok (.laload, 1) := by decide +kernel
theorem dX9_pour_212 : decode cX9_pour 212 = .ok (.lastore, 1) := by decide +kernel
theorem dX9_pour_213 : decode cX9_pour 213 = .ok (.iinc 7 1, 3) := by decide +kernel
theorem dX9_pour_216 : decode cX9_pour 216 = .ok (.goto (-58), 3) := by decide +kernel
theorem dX9_pour_219 : decode cX9_pour 219 = .ok (.iconst 1, 1) := by decide +kernel
theorem dX9_pour_220 : decode cX9_pour 220 = .ok (.ireturn, 1) := by decide +kernel
theorem dX9_common_0 : decode cX9_common 0 = .ok (.lload_n 0, 1) := by decide +kernel
theorem dX9_common_1 : decode cX9_common 1 = .ok (.lstore 4, 2) := by decide +kernel
theorem dX9_common_3 : decode cX9_common 3 = .ok (.lload_n 2, 1) := by decide +kernel
theorem dX9_common_4 : decode cX9_common 4 = .ok (.lstore 6, 2) := by decide +kernel
theorem dX9_common_6 : decode cX9_common 6 = .ok (.lload 6, 2) := by decide +kernel
theorem dX9_common_8 : decode cX9_common 8 = .ok (.lconst 0, 1) := by decide +kernel
theorem dX9_common_9 : decode cX9_common 9 = .ok (.lcmp, 1) := by decide +kernel
theorem dX9_common_10 : decode cX9_common 10 = .ok (.ifCond .eq 21, 3) := by decide +kernel
theorem dX9_common_13 : decode cX9_common 13 = .ok (.lload 4, 2) := by decide +kernel
theorem dX9_common_15 : decode cX9_common 15 = .ok (.lload 6, 2) := by decide +kernel
theorem dX9_common_17 : decode cX9_common 17 = .ok (.lrem, 1) := by decide +kernel
theorem dX9_common_18 : decode cX9_common 18 = .ok (.lstore 8, 2) := by decide +kernel
theorem dX9_common_20 : decode cX9_common 20 = .ok (.lload 6, 2) := by decide +kernel
theorem dX9_common_22 : decode cX9_common 22 = .ok (.lstore 4, 2) := by decide +kernel
theorem dX9_common_24 : decode cX9_common 24 = .ok (.lload 8, 2) := by decide +kernel
theorem dX9_common_26 : decode cX9_common 26 = .ok (.lstore 6, 2) := by decide +kernel
theorem dX9_common_28 : decode cX9_common 28 = .ok (.goto (-22), 3) := by decide +kernel
theorem dX9_common_31 : decode cX9_common 31 = .ok (.lload 4, 2) := by decide +kernel
theorem dX9_common_33 : decode cX9_common 33 = .ok (.lreturn, 1) := by decide +kernel
theorem dX9_clearMade_0 : decode cX9_clearMade 0 = .ok (.iconst 0, 1) := by decide +kernel
theorem dX9_clearMade_1 : decode cX9_clearMade 1 = .ok (.istore_n 1, 1) := by decide +kernel
theorem dX9_clearMade_2 : decode cX9_clearMade 2 = .ok (.iload_n 1, 1) := by decide +kernel
theorem dX9_clearMade_3 : decode cX9_clearMade 3 = .ok (.sipush 300, 3) := by decide +kernel
theorem dX9_clearMade_6 : decode cX9_clearMade 6 = .ok (.if_icmp .ge 16, 3) := by decide +kernel
theorem dX9_clearMade_9 : decode cX9_clearMade 9 = .ok (.aload_n 0, 1) := by decide +kernel
theorem dX9_clearMade_10 : decode cX9_clearMade 10 = .ok (.getfield 58, 3) := by decide +kernel
theorem dX9_clearMade_13 : decode cX9_clearMade 13 = .ok (.iload_n 1, 1) := by decide +kernel
theorem dX9_clearMade_14 : decode cX9_clearMade 14 = .ok (.lconst 0, 1) := by decide +kernel
theorem dX9_clearMade_15 : decode cX9_clearMade 15 = .ok (.lastore, 1) := by decide +kernel
theorem dX9_clearMade_16 : decode cX9_clearMade 16 = .ok (.iinc 1 1, 3) := by decide +kernel
theorem dX9_clearMade_19 : decode cX9_clearMade 19 = .ok (.goto (-17), 3) := by decide +kernel
theorem dX9_clearMade_22 : decode cX9_clearMade 22 = .ok (.return_, 1) := by decide +kernel
theorem dX9_adds_0 : decode cX9_adds 0 = .ok (.aload_n 0, 1) := by decide +kernel
theorem dX9_adds_1 : decode cX9_adds 1 = .ok (.getfield 119, 3) := by decide +kernel
theorem dX9_adds_4 : decode cX9_adds 4 = .ok (.bipush 10, 2) := by decide +kernel
theorem dX9_adds_6 : decode cX9_adds 6 = .ok (.if_icmp .ne 10, 3) := by decide +kernel
theorem dX9_adds_9 : decode cX9_adds 9 = .ok (.aload_n 0, 1) := by decide +kernel
theorem dX9_adds_10 : decode cX9_adds 10 = .ok (.bipush 7, 2) := by decide +kernel
theorem dX9_adds_12 : decode cX9_adds 12 = .ok (.invokevirtual 122, 3) := by decide +kernel
theorem dX9_adds_15 : decode cX9_adds 15 = .ok (.ireturn, 1) := by decide +kernel
theorem dX9_adds_16 : decode cX9_adds 16 = .ok (.lconst 0, 1) := by decide +kernel
theorem dX9_adds_17 : decode cX9_adds 17 = .ok (.lstore_n 2, 1) := by decide +kernel
theorem dX9_adds_18 : decode cX9_adds 18 = .ok (.iconst 0, 1) := by decide +kernel
theorem dX9_adds_19 : decode cX9_adds 19 = .ok (.istore 4, 2) := by decide +kernel
theorem dX9_adds_21 : decode cX9_adds 21 = .ok (.iconst 0, 1) := by decide +kernel
theorem dX9_adds_22 : decode cX9_adds 22 = .ok (.istore 5, 2) := by decide +kernel
theorem dX9_adds_24 : decode cX9_adds 24 = .ok (.iload 5, 2) := by decide +kernel
theorem dX9_adds_26 : decode cX9_adds 26 = .ok (.sipush 300, 3) := by decide +kernel
theorem dX9_adds_29 : decode cX9_adds 29 = .ok (.if_icmp .ge 43, 3) := by decide +kernel
theorem dX9_adds_32 : decode cX9_adds 32 = .ok (.aload_n 0, 1) := by decide +kernel
theorem dX9_adds_33 : decode cX9_adds 33 = .ok (.getfield 58, 3) := by decide +kernel
theorem dX9_adds_36 : decode cX9_adds 36 = .ok (.iload 5, 2) := by decide +kernel
theorem dX9_adds_38 : decode cX9_adds 38 = .ok (.laload, 1) := by decide +kernel
theorem dX9_adds_39 : decode cX9_adds 39 = .ok (.lload_n 2, 1) := by decide +kernel
theorem dX9_adds_40 : decode cX9_adds 40 = .ok (.invokestatic 125, 3) := by decide +kernel
theorem dX9_adds_43 : decode cX9_adds 43 = .ok (.lstore_n 2, 1) := by decide +kernel
theorem dX9_adds_44 : decode cX9_adds 44 = .ok (.iload 4, 2) := by decide +kernel
theorem dX9_adds_46 : decode cX9_adds 46 = .ok (.aload_n 0, 1) := by decide +kernel
theorem dX9_adds_47 : decode cX9_adds 47 = .ok (.getfield 58, 3) := by decide +kernel
theorem dX9_adds_50 : decode cX9_adds 50 = .ok (.iload 5, 2) := by decide +kernel
theorem dX9_adds_52 : decode cX9_adds 52 = .ok (.laload, 1) := by decide +kernel
theorem dX9_adds_53 : decode cX9_adds 53 = .ok (.lconst 0, 1) := by decide +kernel
theorem dX9_adds_54 : decode cX9_adds 54 = .ok (.lcmp, 1) := by decide +kernel
theorem dX9_adds_55 : decode cX9_adds 55 = .ok (.ifCond .le 7, 3) := by decide +kernel
theorem dX9_adds_58 : decode cX9_adds 58 = .ok (.iconst 1, 1) := by decide +kernel
theorem dX9_adds_59 : decode cX9_adds 59 = .ok (.goto 4, 3) := by decide +kernel
theorem dX9_adds_62 : decode cX9_adds 62 = .ok (.iconst 0, 1) := by decide +kernel
theorem dX9_adds_63 : decode cX9_adds 63 = .ok (.iadd, 1) := by decide +kernel
theorem dX9_adds_64 : decode cX9_adds 64 = .ok (.istore 4, 2) := by decide +kernel
theorem dX9_adds_66 : decode cX9_adds 66 = .ok (.iinc 5 1, 3) := by decide +kernel
theorem dX9_adds_69 : decode cX9_adds 69 = .ok (.goto (-45), 3) := by decide +kernel
theorem dX9_adds_72 : decode cX9_adds 72 = .ok (.iload 4, 2) := by decide +kernel
theorem dX9_adds_74 : decode cX9_adds 74 = .ok (.bipush 8, 2) := by decide +kernel
theorem dX9_adds_76 : decode cX9_adds 76 = .ok (.if_icmp .le 10, 3) := by decide +kernel
theorem dX9_adds_79 : decode cX9_adds 79 = .ok (.aload_n 0, 1) := by decide +kernel
theorem dX9_adds_80 : decode cX9_adds 80 = .ok (.bipush 7, 2) := by decide +kernel
theorem dX9_adds_82 : decode cX9_adds 82 = .ok (.invokevirtual 122, 3) := by decide +kernel
theorem dX9_adds_85 : decode cX9_adds 85 = .ok (.ireturn, 1) := by decide +kernel
theorem dX9_adds_86 : decode cX9_adds 86 = .ok (.iconst 0, 1) := by decide +kernel
theorem dX9_adds_87 : decode cX9_adds 87 = .ok (.istore 5, 2) := by decide +kernel
theorem dX9_adds_89 : decode cX9_adds 89 = .ok (.iload 5, 2) := by decide +kernel
theorem dX9_adds_91 : decode cX9_adds 91 = .ok (.sipush 300, 3) := by decide +kernel
theorem dX9_adds_94 : decode cX9_adds 94 = .ok (.if_icmp .ge 51, 3) := by decide +kernel
theorem dX9_adds_97 : decode cX9_adds 97 = .ok (.aload_n 0, 1) := by decide +kernel
theorem dX9_adds_98 : decode cX9_adds 98 = .ok (.getfield 58, 3) := by decide +kernel
theorem dX9_adds_101 : decode cX9_adds 101 = .ok (.iload 5, 2) := by decide +kernel
theorem dX9_adds_103 : decode cX9_adds 103 = .ok (.laload, 1) := by decide +kernel
theorem dX9_adds_104 : decode cX9_adds 104 = .ok (.lconst 0, 1) := by decide +kernel
theorem dX9_adds_105 : decode cX9_adds 105 = .ok (.lcmp, 1) := by decide +kernel
theorem dX9_adds_106 : decode cX9_adds 106 = .ok (.ifCond .le 33, 3) := by decide +kernel
theorem dX9_adds_109 : decode cX9_adds 109 = .ok (.iload 5, 2) := by decide +kernel
theorem dX9_adds_111 : decode cX9_adds 111 = .ok (.bipush 99, 2) := by decide +kernel
theorem dX9_adds_113 : decode cX9_adds 113 = .ok (.if_icmp .gt 19, 3) := by decide +kernel
theorem dX9_adds_116 : decode cX9_adds 116 = .ok (.aload_n 0, 1) := by decide +kernel
theorem dX9_adds_117 : decode cX9_adds 117 = .ok (.getfield 58, 3) := by decide +kernel
theorem dX9_adds_120 : decode cX9_adds 120 = .ok (.iload 5, 2) := by decide +kernel
theorem dX9_adds_122 : decode cX9_adds 122 = .ok (.laload, 1) := by decide +kernel
theorem dX9_adds_123 : decode cX9_adds 123 = .ok (.lload_n 2, 1) := by decide +kernel
theorem dX9_adds_124 : decode cX9_adds 124 = .ok (.ldiv, 1) := by decide +kernel
theorem dX9_adds_125 : decode cX9_adds 125 = .ok (.ldc2_w 129, 3) := by decide +kernel
theorem dX9_adds_128 : decode cX9_adds 128 = .ok (.lcmp, 1) := by decide +kernel
theorem dX9_adds_129 : decode cX9_adds 129 = .ok (.ifCond .le 10, 3) := by decide +kernel
theorem dX9_adds_132 : decode cX9_adds 132 = .ok (.aload_n 0, 1) := by decide +kernel
theorem dX9_adds_133 : decode cX9_adds 133 = .ok (.bipush 7, 2) := by decide +kernel
theorem dX9_adds_135 : decode cX9_adds 135 = .ok (.invokevirtual 122, 3) := by decide +kernel
theorem dX9_adds_138 : decode cX9_adds 138 = .ok (.ireturn, 1) := by decide +kernel
theorem dX9_adds_139 : decode cX9_adds 139 = .ok (.iinc 5 1, 3) := by decide +kernel
theorem dX9_adds_142 : decode cX9_adds 142 = .ok (.goto (-53), 3) := by decide +kernel
theorem dX9_adds_145 : decode cX9_adds 145 = .ok (.bipush 8, 2) := by decide +kernel
theorem dX9_adds_147 : decode cX9_adds 147 = .ok (.aload_n 0, 1) := by decide +kernel
theorem dX9_adds_148 : decode cX9_adds 148 = .ok (.getfield 119, 3) := by decide +kernel
theorem dX9_adds_151 : decode cX9_adds 151 = .ok (.imul, 1) := by decide +kernel
theorem dX9_adds_152 : decode cX9_adds 152 = .ok (.istore 5, 2) := by decide +kernel
theorem dX9_adds_154 : decode cX9_adds 154 = .ok (.iconst 0, 1) := by decide +kernel
theorem dX9_adds_155 : decode cX9_adds 155 = .ok (.istore 6, 2) := by decide +kernel
theorem dX9_adds_157 : decode cX9_adds 157 = .ok (.iload 6, 2) := by decide +kernel
theorem dX9_adds_159 : decode cX9_adds 159 = .ok (.sipush 300, 3) := by decide +kernel
theorem dX9_adds_162 : decode cX9_adds 162 = .ok (.if_icmp .ge 53, 3) := by decide +kernel
theorem dX9_adds_165 : decode cX9_adds 165 = .ok (.aload_n 0, 1) := by decide +kernel
theorem dX9_adds_166 : decode cX9_adds 166 = .ok (.getfield 58, 3) := by decide +kernel
theorem dX9_adds_169 : decode cX9_adds 169 = .ok (.iload 6, 2) := by decide +kernel
theorem dX9_adds_171 : decode cX9_adds 171 = .ok (.laload, 1) := by decide +kernel
theorem dX9_adds_172 : decode cX9_adds 172 = .ok (.lconst 0, 1) := by decide +kernel
theorem dX9_adds_173 : decode cX9_adds 173 = .ok (.lcmp, 1) := by decide +kernel
theorem dX9_adds_174 : decode cX9_adds 174 = .ok (.ifCond .ne 6, 3) := by decide +kernel
theorem dX9_adds_177 : decode cX9_adds 177 = .ok (.goto 32, 3) := by decide +kernel
theorem dX9_adds_180 : decode cX9_adds 180 = .ok (.aload_n 0, 1) := by decide +kernel
theorem dX9_adds_181 : decode cX9_adds 181 = .ok (.getfield 43, 3) := by decide +kernel
theorem dX9_adds_184 : decode cX9_adds 184 = .ok (.iload 5, 2) := by decide +kernel
theorem dX9_adds_186 : decode cX9_adds 186 = .ok (.iload 6, 2) := by decide +kernel
theorem dX9_adds_188 : decode cX9_adds 188 = .ok (.iastore, 1) := by decide +kernel
theorem dX9_adds_189 : decode cX9_adds 189 = .ok (.aload_n 0, 1) := by decide +kernel
theorem dX9_adds_190 : decode cX9_adds 190 = .ok (.getfield 46, 3) := by decide +kernel
theorem dX9_adds_193 : decode cX9_adds 193 = .ok (.iload 5, 2) := by decide +kernel
theorem dX9_adds_195 : decode cX9_adds 195 = .ok (.aload_n 0, 1) := by decide +kernel
theorem dX9_adds_196 : decode cX9_adds 196 = .ok (.getfield 58, 3) := by decide +kernel
theorem dX9_adds_199 : decode cX9_adds 199 = .ok (.iload 6, 2) := by decide +kernel
theorem dX9_adds_201 : decode cX9_adds 201 = .ok (.laload, 1) := by decide +kernel
theorem dX9_adds_202 : decode cX9_adds 202 = .ok (.lload_n 2, 1) := by decide +kernel
theorem dX9_adds_203 : decode cX9_adds 203 = .ok (.ldiv, 1) := by decide +kernel
theorem dX9_adds_204 : decode cX9_adds 204 = .ok (.l2i, 1) := by decide +kernel
theorem dX9_adds_205 : decode cX9_adds 205 = .ok (.iastore, 1) := by decide +kernel
theorem dX9_adds_206 : decode cX9_adds 206 = .ok (.iinc 5 1, 3) := by decide +kernel
theorem dX9_adds_209 : decode cX9_adds 209 = .ok (.iinc 6 1, 3) := by decide +kernel
theorem dX9_adds_212 : decode cX9_adds 212 = .ok (.goto (-55), 3) := by decide +kernel
theorem dX9_adds_215 : decode cX9_adds 215 = .ok (.aload_n 0, 1) := by decide +kernel
theorem dX9_adds_216 : decode cX9_adds 216 = .ok (.getfield 31, 3) := by decide +kernel
theorem dX9_adds_219 : decode cX9_adds 219 = .ok (.aload_n 0, 1) := by decide +kernel
theorem dX9_adds_220 : decode cX9_adds 220 = .ok (.getfield 119, 3) := by decide +kernel
theorem dX9_adds_223 : decode cX9_adds 223 = .ok (.iload 4, 2) := by decide +kernel
theorem dX9_adds_225 : decode cX9_adds 225 = .ok (.iastore, 1) := by decide +kernel
theorem dX9_adds_226 : decode cX9_adds 226 = .ok (.aload_n 0, 1) := by decide +kernel
theorem dX9_adds_227 : decode cX9_adds 227 = .ok (.getfield 34, 3) := by decide +kernel
theorem dX9_adds_230 : decode cX9_adds 230 = .ok (.aload_n 0, 1) := by decide +kernel
theorem dX9_adds_231 : decode cX9_adds 231 = .ok (.getfield 119, 3) := by decide +kernel
theorem dX9_adds_234 : decode cX9_adds 234 = .ok (.iload_n 1, 1) := by decide +kernel
theorem dX9_adds_235 : decode cX9_adds 235 = .ok (.iastore, 1) := by decide +kernel
theorem dX9_adds_236 : decode cX9_adds 236 = .ok (.aload_n 0, 1) := by decide +kernel
theorem dX9_adds_237 : decode cX9_adds 237 = .ok (.getfield 37, 3) := by decide +kernel
theorem dX9_adds_240 : decode cX9_adds 240 = .ok (.aload_n 0, 1) := by decide +kernel
theorem dX9_adds_241 : decode cX9_adds 241 = .ok (.getfield 119, 3) := by decide +kernel
theorem dX9_adds_244 : decode cX9_adds 244 = .ok (.iconst 0, 1) := by decide +kernel
theorem dX9_adds_245 : decode cX9_adds 245 = .ok (.iastore, 1) := by decide +kernel
theorem dX9_adds_246 : decode cX9_adds 246 = .ok (.aload_n 0, 1) := by decide +kernel
theorem dX9_adds_247 : decode cX9_adds 247 = .ok (.getfield 40, 3) := by decide +kernel
theorem dX9_adds_250 : decode cX9_adds 250 = .ok (.aload_n 0, 1) := by decide +kernel
theorem dX9_adds_251 : decode cX9_adds 251 = .ok (.getfield 119, 3) := by decide +kernel
theorem dX9_adds_254 : decode cX9_adds 254 = .ok (.iconst (-1), 1) := by decide +kernel
theorem dX9_adds_255 : decode cX9_adds 255 = .ok (.iastore, 1) := by decide +kernel
theorem dX9_adds_256 : decode cX9_adds 256 = .ok (.iconst 0, 1) := by decide +kernel
theorem dX9_adds_257 : decode cX9_adds 257 = .ok (.istore 6, 2) := by decide +kernel
theorem dX9_adds_259 : decode cX9_adds 259 = .ok (.iload 6, 2) := by decide +kernel
theorem dX9_adds_261 : decode cX9_adds 261 = .ok (.iconst 4, 1) := by decide +kernel
theorem dX9_adds_262 : decode cX9_adds 262 = .ok (.if_icmp .ge 24, 3) := by decide +kernel
theorem dX9_adds_265 : decode cX9_adds 265 = .ok (.aload_n 0, 1) := by decide +kernel
theorem dX9_adds_266 : decode cX9_adds 266 = .ok (.getfield 49, 3) := by decide +kernel
theorem dX9_adds_269 : decode cX9_adds 269 = .ok (.iconst 4, 1) := by decide +kernel
theorem dX9_adds_270 : decode cX9_adds 270 = .ok (.aload_n 0, 1) := by decide +kernel
theorem dX9_adds_271 : decode cX9_adds 271 = .ok (.getfield 119, 3) := by decide +kernel
theorem dX9_adds_274 : decode cX9_adds 274 = .ok (.imul, 1) := by decide +kernel
theorem dX9_adds_275 : decode cX9_adds 275 = .ok (.iload 6, 2) := by decide +kernel
theorem dX9_adds_277 : decode cX9_adds 277 = .ok (.iadd, 1) := by decide +kernel
theorem dX9_adds_278 : decode cX9_adds 278 = .ok (.iconst 0, 1) := by decide +kernel
theorem dX9_adds_279 : decode cX9_adds 279 = .ok (.iastore, 1) := by decide +kernel
theorem dX9_adds_280 : decode cX9_adds 280 = .ok (.iinc 6 1, 3) := by decide +kernel
theorem dX9_adds_283 : decode cX9_adds 283 = .ok (.goto (-24), 3) := by decide +kernel
theorem dX9_adds_286 : decode cX9_adds 286 = .ok (.aload_n 0, 1) := by decide +kernel
theorem dX9_adds_287 : decode cX9_adds 287 = .ok (.dup, 1) := by decide +kernel
theorem dX9_adds_288 : decode cX9_adds 288 = .ok (.getfield 119, 3) := by decide +kernel
theorem dX9_adds_291 : decode cX9_adds 291 = .ok (.iconst 1, 1) := by decide +kernel
theorem dX9_adds_292 : decode cX9_adds 292 = .ok (.iadd, 1) := by decide +kernel
theorem dX9_adds_293 : decode cX9_adds 293 = .ok (.putfield 119, 3) := by decide +kernel
theorem dX9_adds_296 : decode cX9_adds 296 = .ok (.aload_n 0, 1) := by decide +kernel
theorem dX9_adds_297 : decode cX9_adds 297 = .ok (.getfield 119, 3) := by decide +kernel
theorem dX9_adds_300 : decode cX9_adds 300 = .ok (.iconst 1, 1) := by decide +kernel
theorem dX9_adds_301 : decode cX9_adds 301 = .ok (.isub, 1) := by decide +kernel
theorem dX9_adds_302 : decode cX9_adds 302 = .ok (.ireturn, 1) := by decide +kernel
theorem dX9_areHands_0 : decode cX9_areHands 0 = .ok (.iload_n 0, 1) := by decide +kernel
theorem dX9_areHands_1 : decode cX9_areHands 1 = .ok (.ifCond .lt 13, 3) := by decide +kernel
theorem dX9_areHands_4 : decode cX9_areHands 4 = .ok (.iload_n 0, 1) := by decide +kernel
theorem dX9_areHands_5 : decode cX9_areHands 5 = .ok (.bipush 9, 2) := by decide +kernel
theorem dX9_areHands_7 : decode cX9_areHands 7 = .ok (.if_icmp .gt 7, 3) := by decide +kernel
theorem dX9_areHands_10 : decode cX9_areHands 10 = .ok (.iconst 1, 1) := by decide +kernel
theorem dX9_areHands_11 : decode cX9_areHands 11 = .ok (.goto 4, 3) := by decide +kernel
theorem dX9_areHands_14 : decode cX9_areHands 14 = .ok (.iconst 0, 1) := by decide +kernel
theorem dX9_areHands_15 : decode cX9_areHands 15 = .ok (.ireturn, 1) := by decide +kernel
theorem dX9_part_0 : decode cX9_part 0 = .ok (.aload_n 0, 1) := by decide +kernel
theorem dX9_part_1 : decode cX9_part 1 = .ok (.iconst 0, 1) := by decide +kernel
theorem dX9_part_2 : decode cX9_part 2 = .ok (.putfield 95, 3) := by decide +kernel
theorem dX9_part_5 : decode cX9_part 5 = .ok (.aload_n 0, 1) := by decide +kernel
theorem dX9_part_6 : decode cX9_part 6 = .ok (.aload_n 0, 1) := by decide +kernel
theorem dX9_part_7 : decode cX9_part 7 = .ok (.iload_n 1, 1) := by decide +kernel
theorem dX9_part_8 : decode cX9_part 8 = .ok (.invokevirtual 105, 3) := by decide +kernel
theorem dX9_part_11 : decode cX9_part 11 = .ok (.putfield 98, 3) := by decide +kernel
theorem dX9_part_14 : decode cX9_part 14 = .ok (.aload_n 0, 1) := by decide +kernel
theorem dX9_part_15 : decode cX9_part 15 = .ok (.getfield 98, 3) := by decide +kernel
theorem dX9_part_18 : decode cX9_part 18 = .ok (.ifCond .le 5, 3) := by decide +kernel
theorem dX9_part_21 : decode cX9_part 21 = .ok (.iconst (-1), 1) := by decide +kernel
theorem dX9_part_22 : decode cX9_part 22 = .ok (.ireturn, 1) := by decide +kernel
theorem dX9_part_23 : decode cX9_part 23 = .ok (.iload_n 2, 1) := by decide +kernel
theorem dX9_part_24 : decode cX9_part 24 = .ok (.iconst 1, 1) := by decide +kernel
theorem dX9_part_25 : decode cX9_part 25 = .ok (.if_icmp .lt 16, 3) := by decide +kernel
theorem dX9_part_28 : decode cX9_part 28 = .ok (.iload_n 2, 1) := by decide +kernel
theorem dX9_part_29 : decode cX9_part 29 = .ok (.bipush 8, 2) := by decide +kernel
theorem dX9_part_31 : decode cX9_part 31 = .ok (.if_icmp .gt 10, 3) := by decide +kernel
theorem dX9_part_34 : decode cX9_part 34 = .ok (.iload_n 3, 1) := by decide +kernel
theorem dX9_part_35 : decode cX9_part 35 = .ok (.invokestatic 131, 3) := by decide +kernel
theorem dX9_part_38 : decode cX9_part 38 = .ok (.ifCond .ne 9, 3) := by decide +kernel
theorem dX9_part_41 : decode cX9_part 41 = .ok (.aload_n 0, 1) := by decide +kernel
theorem dX9_part_42 : decode cX9_part 42 = .ok (.iconst 5, 1) := by decide +kernel
theorem dX9_part_43 : decode cX9_part 43 = .ok (.invokevirtual 122, 3) := by decide +kernel
theorem dX9_part_46 : decode cX9_part 46 = .ok (.ireturn, 1) := by decide +kernel
theorem dX9_part_47 : decode cX9_part 47 = .ok (.iconst 2, 1) := by decide +kernel
theorem dX9_part_48 : decode cX9_part 48 = .ok (.iload_n 2, 1) := by decide +kernel
theorem dX9_part_49 : decode cX9_part 49 = .ok (.imul, 1) := by decide +kernel
theorem dX9_part_50 : decode cX9_part 50 = .ok (.aload_n 0, 1) := by decide +kernel
theorem dX9_part_51 : decode cX9_part 51 = .ok (.getfield 17, 3) := by decide +kernel
theorem dX9_part_54 : decode cX9_part 54 = .ok (.iload_n 1, 1) := by decide +kernel
theorem dX9_part_55 : decode cX9_part 55 = .ok (.iaload, 1) := by decide +kernel
theorem dX9_part_56 : decode cX9_part 56 = .ok (.if_icmp .le 9, 3) := by decide +kernel
theorem dX9_part_59 : decode cX9_part 59 = .ok (.aload_n 0, 1) := by decide +kernel
theorem dX9_part_60 : decode cX9_part 60 = .ok (.iconst 4, 1) := by decide +kernel
theorem dX9_part_61 : decode cX9_part 61 = .ok (.invokevirtual 122, 3) := by decide +kernel
theorem dX9_part_64 : decode cX9_part 64 = .ok (.ireturn, 1) := by decide +kernel
theorem dX9_part_65 : decode cX9_part 65 = .ok (.aload_n 0, 1) := by decide +kernel
theorem dX9_part_66 : decode cX9_part 66 = .ok (.invokevirtual 134, 3) := by decide +kernel
theorem dX9_part_69 : decode cX9_part 69 = .ok (.ldc2_w 117, 3) := by decide +kernel
theorem dX9_part_72 : decode cX9_part 72 = .ok (.lstore 4, 2) := by decide +kernel
theorem dX9_part_74 : decode cX9_part 74 = .ok (.iconst 0, 1) := by decide +kernel
theorem dX9_part_75 : decode cX9_part 75 = .ok (.istore 6, 2) := by decide +kernel
theorem dX9_part_77 : decode cX9_part 77 = .ok (.iload 6, 2) := by decide +kernel
theorem dX9_part_79 : decode cX9_part 79 = .ok (.iload_n 2, 1) := by decide +kernel
theorem dX9_part_80 : decode cX9_part 80 = .ok (.if_icmp .ge 96, 3) := by decide +kernel
theorem dX9_part_83 : decode cX9_part 83 = .ok (.aload_n 0, 1) := by decide +kernel
theorem dX9_part_84 : decode cX9_part 84 = .ok (.getfield 20, 3) := by decide +kernel
theorem dX9_part_87 : decode cX9_part 87 = .ok (.bipush 40, 2) := by decide +kernel
theorem dX9_part_89 : decode cX9_part 89 = .ok (.iload_n 1, 1) := by decide +kernel
theorem dX9_part_90 : decode cX9_part 90 = .ok (.imul, 1) := by decide +kernel
theorem dX9_part_91 : decode cX9_part 91 = .ok (.iconst 2, 1) := by decide +kernel
theorem dX9_part_92 : decode cX9_part 92 = .ok (.iload 6, 2) := by decide +kernel
theorem dX9_part_94 : decode cX9_part 94 = .ok (.imul, 1) := by decide +kernel
theorem dX9_part_95 : decode cX9_part 95 = .ok (.iadd, 1) := by decide +kernel
theorem dX9_part_96 : decode cX9_part 96 = .ok (.laload, 1) := by decide +kernel
theorem dX9_part_97 : decode cX9_part 97 = .ok (.lstore 7, 2) := by decide +kernel
theorem dX9_part_99 : decode cX9_part 99 = .ok (.aload_n 0, 1) := by decide +kernel
theorem dX9_part_100 : decode cX9_part 100 = .ok (.getfield 20, 3) := by decide +kernel
theorem dX9_part_103 : decode cX9_part 103 = .ok (.bipush 40, 2) := by decide +kernel
theorem dX9_part_105 : decode cX9_part 105 = .ok (.iload_n 1, 1) := by decide +kernel
theorem dX9_part_106 : decode cX9_part 106 = .ok (.imul, 1) := by decide +kernel
theorem dX9_part_107 : decode cX9_part 107 = .ok (.iconst 2, 1) := by decide +kernel
theorem dX9_part_108 : decode cX9_part 108 = .ok (.iload 6, 2) := by decide +kernel
theorem dX9_part_110 : decode cX9_part 110 = .ok (.imul, 1) := by decide +kernel
theorem dX9_part_111 : decode cX9_part 111 = .ok (.iadd, 1) := by decide +kernel
theorem dX9_part_112 : decode cX9_part 112 = .ok (.iconst 1, 1) := by decide +kernel
theorem dX9_part_113 : decode cX9_part 113 = .ok (.iadd, 1) := by decide +kernel
theorem dX9_part_114 : decode cX9_part 114 = .ok (.laload, 1) := by decide +kernel
theorem dX9_part_115 : decode cX9_part 115 = .ok (.lstore 9, 2) := by decide +kernel
theorem dX9_part_117 : decode cX9_part 117 = .ok (.lload 7, 2) := by decide +kernel
theorem dX9_part_119 : decode cX9_part 119 = .ok (.lload 4, 2) := by decide +kernel
theorem dX9_part_121 : decode cX9_part 121 = .ok (.lcmp, 1) := by decide +kernel
theorem dX9_part_122 : decode cX9_part 122 = .ok (.ifCond .le 28, 3) := by decide +kernel
theorem dX9_part_125 : decode cX9_part 125 = .ok (.lload 7, 2) := by decide +kernel
theorem dX9_part_127 : decode cX9_part 127 = .ok (.ldc2_w 137, 3) := by decide +kernel
theorem dX9_part_130 : decode cX9_part 130 = .ok (.lcmp, 1) := by decide +kernel
theorem dX9_part_131 : decode cX9_part 131 = .ok (.ifCond .gt 19, 3) := by decide +kernel
theorem dX9_part_134 : decode cX9_part 134 = .ok (.lload 9, 2) := by decide +kernel
theorem dX9_part_136 : decode cX9_part 136 = .ok (.lconst 1, 1) := by decide +kernel
theorem dX9_part_137 : decode cX9_part 137 = .ok (.lcmp, 1) := by decide +kernel
theorem dX9_part_138 : decode cX9_part 138 = .ok (.ifCond .lt 12, 3) := by decide +kernel
theorem dX9_part_141 : decode cX9_part 141 = .ok (.lload 9, 2) := by decide +kernel
theorem dX9_part_143 : decode cX9_part 143 = .ok (.ldc2_w 129, 3) := by decide +kernel
theorem dX9_part_146 : decode cX9_part 146 = .ok (.lcmp, 1) := by decide +kernel
theorem dX9_part_147 : decode cX9_part 147 = .ok (.ifCond .le 9, 3) := by decide +kernel
theorem dX9_part_150 : decode cX9_part 150 = .ok (.aload_n 0, 1) := by decide +kernel
theorem dX9_part_151 : decode cX9_part 151 = .ok (.iconst 5, 1) := by decide +kernel
theorem dX9_part_152 : decode cX9_part 152 = .ok (.invokevirtual 122, 3) := by decide +kernel
theorem dX9_part_155 : decode cX9_part 155 = .ok (.ireturn, 1) := by decide +kernel
theorem dX9_part_156 : decode cX9_part 156 = .ok (.aload_n 0, 1) := by decide +kernel
theorem dX9_part_157 : decode cX9_part 157 = .ok (.getfield 58, 3) := by decide +kernel
theorem dX9_part_160 : decode cX9_part 160 = .ok (.lload 7, 2) := by decide +kernel
theorem dX9_part_162 : decode cX9_part 162 = .ok (.l2i, 1) := by decide +kernel
theorem dX9_part_163 : decode cX9_part 163 = .ok (.lload 9, 2) := by decide +kernel
theorem dX9_part_165 : decode cX9_part 165 = .ok (.lastore, 1) := by decide +kernel
theorem dX9_part_166 : decode cX9_part 166 = .ok (.lload 7, 2) := by decide +kernel
theorem dX9_part_168 : decode cX9_part 168 = .ok (.lstore 4, 2) := by decide +kernel
theorem dX9_part_170 : decode cX9_part 170 = .ok (.iinc 6 1, 3) := by decide +kernel
theorem dX9_part_173 : decode cX9_part 173 = .ok (.goto (-96), 3) := by decide +kernel
theorem dX9_part_176 : decode cX9_part 176 = .ok (.aload_n 0, 1) := by decide +kernel
theorem dX9_part_177 : decode cX9_part 177 = .ok (.iload_n 3, 1) := by decide +kernel
theorem dX9_part_178 : decode cX9_part 178 = .ok (.invokevirtual 139, 3) := by decide +kernel
theorem dX9_part_181 : decode cX9_part 181 = .ok (.ireturn, 1) := by decide +kernel
theorem dX9_fixed_0 : decode cX9_fixed 0 = .ok (.aload_n 0, 1) := by decide +kernel
theorem dX9_fixed_1 : decode cX9_fixed 1 = .ok (.iconst 0, 1) := by decide +kernel
theorem dX9_fixed_2 : decode cX9_fixed 2 = .ok (.putfield 95, 3) := by decide +kernel
theorem dX9_fixed_5 : decode cX9_fixed 5 = .ok (.aload_n 0, 1) := by decide +kernel
theorem dX9_fixed_6 : decode cX9_fixed 6 = .ok (.iconst 0, 1) := by decide +kernel
theorem dX9_fixed_7 : decode cX9_fixed 7 = .ok (.putfield 98, 3) := by decide +kernel
theorem dX9_fixed_10 : decode cX9_fixed 10 = .ok (.iload_n 1, 1) := by decide +kernel
theorem dX9_fixed_11 : decode cX9_fixed 11 = .ok (.ifCond .lt 16, 3) := by decide +kernel
theorem dX9_fixed_14 : decode cX9_fixed 14 = .ok (.iload_n 1, 1) := by decide +kernel
theorem dX9_fixed_15 : decode cX9_fixed 15 = .ok (.bipush 99, 2) := by decide +kernel
theorem dX9_fixed_17 : decode cX9_fixed 17 = .ok (.if_icmp .gt 10, 3) := by decide +kernel
theorem dX9_fixed_20 : decode cX9_fixed 20 = .ok (.iload_n 2, 1) := by decide +kernel
theorem dX9_fixed_21 : decode cX9_fixed 21 = .ok (.invokestatic 131, 3) := by decide +kernel
theorem dX9_fixed_24 : decode cX9_fixed 24 = .ok (.ifCond .ne 9, 3) := by decide +kernel
theorem dX9_fixed_27 : decode cX9_fixed 27 = .ok (.aload_n 0, 1) := by decide +kernel
theorem dX9_fixed_28 : decode cX9_fixed 28 = .ok (.iconst 5, 1) := by decide +kernel
theorem dX9_fixed_29 : decode cX9_fixed 29 = .ok (.invokevirtual 122, 3) := by decide +kernel
theorem dX9_fixed_32 : decode cX9_fixed 32 = .ok (.ireturn, 1) := by decide +kernel
theorem dX9_fixed_33 : decode cX9_fixed 33 = .ok (.aload_n 0, 1) := by decide +kernel
theorem dX9_fixed_34 : decode cX9_fixed 34 = .ok (.invokevirtual 134, 3) := by decide +kernel
theorem dX9_fixed_37 : decode cX9_fixed 37 = .ok (.aload_n 0, 1) := by decide +kernel
theorem dX9_fixed_38 : decode cX9_fixed 38 = .ok (.getfield 58, 3) := by decide +kernel
theorem dX9_fixed_41 : decode cX9_fixed 41 = .ok (.iload_n 1, 1) := by decide +kernel
theorem dX9_fixed_42 : decode cX9_fixed 42 = .ok (.lconst 1, 1) := by decide +kernel
theorem dX9_fixed_43 : decode cX9_fixed 43 = .ok (.lastore, 1) := by decide +kernel
theorem dX9_fixed_44 : decode cX9_fixed 44 = .ok (.aload_n 0, 1) := by decide +kernel
theorem dX9_fixed_45 : decode cX9_fixed 45 = .ok (.iload_n 2, 1) := by decide +kernel
theorem dX9_fixed_46 : decode cX9_fixed 46 = .ok (.invokevirtual 139, 3) := by decide +kernel
theorem dX9_fixed_49 : decode cX9_fixed 49 = .ok (.ireturn, 1) := by decide +kernel
theorem dX9_isPart_0 : decode cX9_isPart 0 = .ok (.iload_n 1, 1) := by decide +kernel
theorem dX9_isPart_1 : decode cX9_isPart 1 = .ok (.ifCond .lt 15, 3) := by decide +kernel
theorem dX9_isPart_4 : decode cX9_isPart 4 = .ok (.iload_n 1, 1) := by decide +kernel
theorem dX9_isPart_5 : decode cX9_isPart 5 = .ok (.aload_n 0, 1) := by decide +kernel
theorem dX9_isPart_6 : decode cX9_isPart 6 = .ok (.getfield 119, 3) := by decide +kernel
theorem dX9_isPart_9 : decode cX9_isPart 9 = .ok (.if_icmp .ge 7, 3) := by decide +kernel
theorem dX9_isPart_12 : decode cX9_isPart 12 = .ok (.iconst 1, 1) := by decide +kernel
theorem dX9_isPart_13 : decode cX9_isPart 13 = .ok (.goto 4, 3) := by decide +kernel
theorem dX9_isPart_16 : decode cX9_isPart 16 = .ok (.iconst 0, 1) := by decide +kernel
theorem dX9_isPart_17 : decode cX9_isPart 17 = .ok (.ireturn, 1) := by decide +kernel
theorem dX9_sumOf_0 : decode cX9_sumOf 0 = .ok (.iconst 0, 1) := by decide +kernel
theorem dX9_sumOf_1 : decode cX9_sumOf 1 = .ok (.istore_n 2, 1) := by decide +kernel
theorem dX9_sumOf_2 : decode cX9_sumOf 2 = .ok (.iconst 0, 1) := by decide +kernel
theorem dX9_sumOf_3 : decode cX9_sumOf 3 = .ok (.istore_n 3, 1) := by decide +kernel
theorem dX9_sumOf_4 : decode cX9_sumOf 4 = .ok (.iload_n 3, 1) := by decide +kernel
theorem dX9_sumOf_5 : decode cX9_sumOf 5 = .ok (.aload_n 0, 1) := by decide +kernel
theorem dX9_sumOf_6 : decode cX9_sumOf 6 = .ok (.getfield 31, 3) := by decide +kernel
theorem dX9_sumOf_9 : decode cX9_sumOf 9 = .ok (.iload_n 1, 1) := by decide +kernel
theorem dX9_sumOf_10 : decode cX9_sumOf 10 = .ok (.iaload, 1) := by decide +kernel
theorem dX9_sumOf_11 : decode cX9_sumOf 11 = .ok (.if_icmp .ge 23, 3) := by decide +kernel
theorem dX9_sumOf_14 : decode cX9_sumOf 14 = .ok (.iload_n 2, 1) := by decide +kernel
theorem dX9_sumOf_15 : decode cX9_sumOf 15 = .ok (.aload_n 0, 1) := by decide +kernel
theorem dX9_sumOf_16 : decode cX9_sumOf 16 = .ok (.getfield 46, 3) := by decide +kernel
theorem dX9_sumOf_19 : decode cX9_sumOf 19 = .ok (.bipush 8, 2) := by decide +kernel
theorem dX9_sumOf_21 : decode cX9_sumOf 21 = .ok (.iload_n 1, 1) := by decide +kernel
theorem dX9_sumOf_22 : decode cX9_sumOf 22 = .ok (.imul, 1) := by decide +kernel
theorem dX9_sumOf_23 : decode cX9_sumOf 23 = .ok (.iload_n 3, 1) := by decide +kernel
theorem dX9_sumOf_24 : decode cX9_sumOf 24 = .ok (.iadd, 1) := by decide +kernel
theorem dX9_sumOf_25 : decode cX9_sumOf 25 = .ok (.iaload, 1) := by decide +kernel
theorem dX9_sumOf_26 : decode cX9_sumOf 26 = .ok (.iadd, 1) := by decide +kernel
theorem dX9_sumOf_27 : decode cX9_sumOf 27 = .ok (.istore_n 2, 1) := by decide +kernel
theorem dX9_sumOf_28 : decode cX9_sumOf 28 = .ok (.iinc 3 1, 3) := by decide +kernel
theorem dX9_sumOf_31 : decode cX9_sumOf 31 = .ok (.goto (-27), 3) := by decide +kernel
theorem dX9_sumOf_34 : decode cX9_sumOf 34 = .ok (.iload_n 2, 1) := by decide +kernel
theorem dX9_sumOf_35 : decode cX9_sumOf 35 = .ok (.ireturn, 1) := by decide +kernel
theorem dX9_either_0 : decode cX9_either 0 = .ok (.aload_n 0, 1) := by decide +kernel
theorem dX9_either_1 : decode cX9_either 1 = .ok (.iconst 0, 1) := by decide +kernel
theorem dX9_either_2 : decode cX9_either 2 = .ok (.putfield 95, 3) := by decide +kernel
theorem dX9_either_5 : decode cX9_either 5 = .ok (.aload_n 0, 1) := by decide +kernel
theorem dX9_either_6 : decode cX9_either 6 = .ok (.iconst 0, 1) := by decide +kernel
theorem dX9_either_7 : decode cX9_either 7 = .ok (.putfield 98, 3) := by decide +kernel
theorem dX9_either_10 : decode cX9_either 10 = .ok (.aload_n 0, 1) := by decide +kernel
theorem dX9_either_11 : decode cX9_either 11 = .ok (.iload_n 1, 1) := by decide +kernel
theorem dX9_either_12 : decode cX9_either 12 = .ok (.invokevirtual 142, 3) := by decide +kernel
theorem dX9_either_15 : decode cX9_either 15 = .ok (.ifCond .eq 11, 3) := by decide +kernel
theorem dX9_either_18 : decode cX9_either 18 = .ok (.aload_n 0, 1) := by decide +kernel
theorem dX9_either_19 : decode cX9_either 19 = .ok (.iload_n 2, 1) := by decide +kernel
theorem dX9_either_20 : decode cX9_either 20 = .ok (.invokevirtual 142, 3) := by decide +kernel
theorem dX9_either_23 : decode cX9_either 23 = .ok (.ifCond .ne 9, 3) := by decide +kernel
theorem dX9_either_26 : decode cX9_either 26 = .ok (.aload_n 0, 1) := by decide +kernel
theorem dX9_either_27 : decode cX9_either 27 = .ok (.iconst 2, 1) := by decide +kernel
theorem dX9_either_28 : decode cX9_either 28 = .ok (.invokevirtual 122, 3) := by decide +kernel
theorem dX9_either_31 : decode cX9_either 31 = .ok (.ireturn, 1) := by decide +kernel
theorem dX9_either_32 : decode cX9_either 32 = .ok (.iload_n 3, 1) := by decide +kernel
theorem dX9_either_33 : decode cX9_either 33 = .ok (.iconst 1, 1) := by decide +kernel
theorem dX9_either_34 : decode cX9_either 34 = .ok (.if_icmp .lt 30, 3) := by decide +kernel
theorem dX9_either_37 : decode cX9_either 37 = .ok (.iload_n 3, 1) := by decide +kernel
theorem dX9_either_38 : decode cX9_either 38 = .ok (.bipush 99, 2) := by decide +kernel
theorem dX9_either_40 : decode cX9_either 40 = .ok (.if_icmp .gt 24, 3) := by decide +kernel
theorem dX9_either_43 : decode cX9_either 43 = .ok (.iload 4, 2) := by decide +kernel
theorem dX9_either_45 : decode cX9_either 45 = .ok (.iconst 1, 1) := by decide +kernel
theorem dX9_either_46 : decode cX9_either 46 = .ok (.if_icmp .lt 18, 3) := by decide +kernel
theorem dX9_either_49 : decode cX9_either 49 = .ok (.iload 4, 2) := by decide +kernel
theorem dX9_either_51 : decode cX9_either 51 = .ok (.bipush 99, 2) := by decide +kernel
theorem dX9_either_53 : decode cX9_either 53 = .ok (.if_icmp .gt 11, 3) := by decide +kernel
theorem dX9_either_56 : decode cX9_either 56 = .ok (.iload 5, 2) := by decide +kernel
theorem dX9_either_58 : decode cX9_either 58 = .ok (.invokestatic 131, 3) := by decide +kernel
theorem dX9_either_61 : decode cX9_either 61 = .ok (.ifCond .ne 9, 3) := by decide +kernel
theorem dX9_either_64 : decode cX9_either 64 = .ok (.aload_n 0, 1) := by decide +kernel
theorem dX9_either_65 : decode cX9_either 65 = .ok (.iconst 5, 1) := by decide +kernel
theorem dX9_either_66 : decode cX9_either 66 = .ok (.invokevirtual 122, 3) := by decide +kernel
theorem dX9_either_69 : decode cX9_either 69 = .ok (.ireturn, 1) := by decide +kernel
theorem dX9_either_70 : decode cX9_either 70 = .ok (.aload_n 0, 1) := by decide +kernel
theorem dX9_either_71 : decode cX9_either 71 = .ok (.invokevirtual 134, 3) := by decide +kernel
theorem dX9_either_74 : decode cX9_either 74 = .ok (.iconst 0, 1) := by decide +kernel
theorem dX9_either_75 : decode cX9_either 75 = .ok (.istore 6, 2) := by decide +kernel
theorem dX9_either_77 : decode cX9_either 77 = .ok (.iload 6, 2) := by decide +kernel
theorem dX9_either_79 : decode cX9_either 79 = .ok (.aload_n 0, 1) := by decide +kernel
theorem dX9_either_80 : decode cX9_either 80 = .ok (.getfield 31, 3) := by decide +kernel
theorem dX9_either_83 : decode cX9_either 83 = .ok (.iload_n 1, 1) := by decide +kernel
theorem dX9_either_84 : decode cX9_either 84 = .ok (.iaload, 1) := by decide +kernel
theorem dX9_either_85 : decode cX9_either 85 = .ok (.if_icmp .ge 52, 3) := by decide +kernel
theorem dX9_either_88 : decode cX9_either 88 = .ok (.aload_n 0, 1) := by decide +kernel
theorem dX9_either_89 : decode cX9_either 89 = .ok (.getfield 58, 3) := by decide +kernel
theorem dX9_either_92 : decode cX9_either 92 = .ok (.aload_n 0, 1) := by decide +kernel
theorem dX9_either_93 : decode cX9_either 93 = .ok (.getfield 43, 3) := by decide +kernel
theorem dX9_either_96 : decode cX9_either 96 = .ok (.bipush 8, 2) := by decide +kernel
theorem dX9_either_98 : decode cX9_either 98 = .ok (.iload_n 1, 1) := by decide +kernel
theorem dX9_either_99 : decode cX9_either 99 = .ok (.imul, 1) := by decide +kernel
theorem dX9_either_100 : decode cX9_either 100 = .ok (.iload 6, 2) := by decide +kernel
theorem dX9_either_102 : decode cX9_either 102 = .ok (.iadd, 1) := by decide +kernel
theorem dX9_either_103 : decode cX9_either 103 = .ok (.iaload, 1) := by decide +kernel
theorem dX9_either_104 : decode cX9_either 104 = .ok (.dup2, 1) := by decide +kernel
theorem dX9_either_105 : decode cX9_either 105 = .ok (.laload, 1) := by decide +kernel
theorem dX9_either_106 : decode cX9_either 106 = .ok (.iload_n 3, 1) := by decide +kernel
theorem dX9_either_107 : decode cX9_either 107 = .ok (.i2l, 1) := by decide +kernel
theorem dX9_either_108 : decode cX9_either 108 = .ok (.aload_n 0, 1) := by decide +kernel
theorem dX9_either_109 : decode cX9_either 109 = .ok (.getfield 46, 3) := by decide +kernel
theorem dX9_either_112 : decode cX9_either 112 = .ok (.bipush 8, 2) := by decide +kernel
theorem dX9_either_114 : decode cX9_either 114 = .ok (.iload_n 1, 1) := by decide +kernel
theorem dX9_either_115 : decode cX9_either 115 = .ok (.imul, 1) := by decide +kernel
theorem dX9_either_116 : decode cX9_either 116 = .ok (.iload 6, 2) := by decide +kernel
theorem dX9_either_118 : decode cX9_either 118 = .ok (.iadd, 1) := by decide +kernel
theorem dX9_either_119 : decode cX9_either 119 = .ok (.iaload, 1) := by decide +kernel
theorem dX9_either_120 : decode cX9_either 120 = .ok (.i2l, 1) := by decide +kernel
theorem dX9_either_121 : decode cX9_either 121 = .ok (.lmul, 1) := by decide +kernel
theorem dX9_either_122 : decode cX9_either 122 = .ok (.aload_n 0, 1) := by decide +kernel
theorem dX9_either_123 : decode cX9_either 123 = .ok (.iload_n 2, 1) := by decide +kernel
theorem dX9_either_124 : decode cX9_either 124 = .ok (.invokevirtual 145, 3) := by decide +kernel
theorem dX9_either_127 : decode cX9_either 127 = .ok (.i2l, 1) := by decide +kernel
theorem dX9_either_128 : decode cX9_either 128 = .ok (.lmul, 1) := by decide +kernel
theorem dX9_either_129 : decode cX9_either 129 = .ok (.ladd, 1) := by decide +kernel
theorem dX9_either_130 : decode cX9_either 130 = .ok (.lastore, 1) := by decide +kernel
theorem dX9_either_131 : decode cX9_either 131 = .ok (.iinc 6 1, 3) := by decide +kernel
theorem dX9_either_134 : decode cX9_either 134 = .ok (.goto (-57), 3) := by decide +kernel
theorem dX9_either_137 : decode cX9_either 137 = .ok (.iconst 0, 1) := by decide +kernel
theorem dX9_either_138 : decode cX9_either 138 = .ok (.istore 6, 2) := by decide +kernel
theorem dX9_either_140 : decode cX9_either 140 = .ok (.iload 6, 2) := by decide +kernel
theorem dX9_either_142 : decode cX9_either 142 = .ok (.aload_n 0, 1) := by decide +kernel
theorem dX9_either_143 : decode cX9_either 143 = .ok (.getfield 31, 3) := by decide +kernel
theorem dX9_either_146 : decode cX9_either 146 = .ok (.iload_n 2, 1) := by decide +kernel
theorem dX9_either_147 : decode cX9_either 147 = .ok (.iaload, 1) := by decide +kernel
theorem dX9_either_148 : decode cX9_either 148 = .ok (.if_icmp .ge 53, 3) := by decide +kernel
theorem dX9_either_151 : decode cX9_either 151 = .ok (.aload_n 0, 1) := by decide +kernel
theorem dX9_either_152 : decode cX9_either 152 = .ok (.getfield 58, 3) := by decide +kernel
theorem dX9_either_155 : decode cX9_either 155 = .ok (.aload_n 0, 1) := by decide +kernel
theorem dX9_either_156 : decode cX9_either 156 = .ok (.getfield 43, 3) := by decide +kernel
theorem dX9_either_159 : decode cX9_either 159 = .ok (.bipush 8, 2) := by decide +kernel
theorem dX9_either_161 : decode cX9_either 161 = .ok (.iload_n 2, 1) := by decide +kernel
theorem dX9_either_162 : decode cX9_either 162 = .ok (.imul, 1) := by decide +kernel
theorem dX9_either_163 : decode cX9_either 163 = .ok (.iload 6, 2) := by decide +kernel
theorem dX9_either_165 : decode cX9_either 165 = .ok (.iadd, 1) := by decide +kernel
theorem dX9_either_166 : decode cX9_either 166 = .ok (.iaload, 1) := by decide +kernel
theorem dX9_either_167 : decode cX9_either 167 = .ok (.dup2, 1) := by decide +kernel
theorem dX9_either_168 : decode cX9_either 168 = .ok (.laload, 1) := by decide +kernel
theorem dX9_either_169 : decode cX9_either 169 = .ok (.iload 4, 2) := by decide +kernel
theorem dX9_either_171 : decode cX9_either 171 = .ok (.i2l, 1) := by decide +kernel
theorem dX9_either_172 : decode cX9_either 172 = .ok (.aload_n 0, 1) := by decide +kernel
theorem dX9_either_173 : decode cX9_either 173 = .ok (.getfield 46, 3) := by decide +kernel
theorem dX9_either_176 : decode cX9_either 176 = .ok (.bipush 8, 2) := by decide +kernel
theorem dX9_either_178 : decode cX9_either 178 = .ok (.iload_n 2, 1) := by decide +kernel
theorem dX9_either_179 : decode cX9_either 179 = .ok (.imul, 1) := by decide +kernel
theorem dX9_either_180 : decode cX9_either 180 = .ok (.iload 6, 2) := by decide +kernel
theorem dX9_either_182 : decode cX9_either 182 = .ok (.iadd, 1) := by decide +kernel
theorem dX9_either_183 : decode cX9_either 183 = .ok (.iaload, 1) := by decide +kernel
theorem dX9_either_184 : decode cX9_either 184 = .ok (.i2l, 1) := by decide +kernel
theorem dX9_either_185 : decode cX9_either 185 = .ok (.lmul, 1) := by decide +kernel
theorem dX9_either_186 : decode cX9_either 186 = .ok (.aload_n 0, 1) := by decide +kernel
theorem dX9_either_187 : decode cX9_either 187 = .ok (.iload_n 1, 1) := by decide +kernel
theorem dX9_either_188 : decode cX9_either 188 = .ok (.invokevirtual 145, 3) := by decide +kernel
theorem dX9_either_191 : decode cX9_either 191 = .ok (.i2l, 1) := by decide +kernel
theorem dX9_either_192 : decode cX9_either 192 = .ok (.lmul, 1) := by decide +kernel
theorem dX9_either_193 : decode cX9_either 193 = .ok (.ladd, 1) := by decide +kernel
theorem dX9_either_194 : decode cX9_either 194 = .ok (.lastore, 1) := by decide +kernel
theorem dX9_either_195 : decode cX9_either 195 = .ok (.iinc 6 1, 3) := by decide +kernel
theorem dX9_either_198 : decode cX9_either 198 = .ok (.goto (-58), 3) := by decide +kernel
theorem dX9_either_201 : decode cX9_either 201 = .ok (.aload_n 0, 1) := by decide +kernel
theorem dX9_either_202 : decode cX9_either 202 = .ok (.iload 5, 2) := by decide +kernel
theorem dX9_either_204 : decode cX9_either 204 = .ok (.invokevirtual 139, 3) := by decide +kernel
theorem dX9_either_207 : decode cX9_either 207 = .ok (.ireturn, 1) := by decide +kernel
theorem dX9_again_0 : decode cX9_again 0 = .ok (.aload_n 0, 1) := by decide +kernel
theorem dX9_again_1 : decode cX9_again 1 = .ok (.iconst 0, 1) := by decide +kernel
theorem dX9_again_2 : decode cX9_again 2 = .ok (.putfield 95, 3) := by decide +kernel
theorem dX9_again_5 : decode cX9_again 5 = .ok (.aload_n 0, 1) := by decide +kernel
theorem dX9_again_6 : decode cX9_again 6 = .ok (.iconst 0, 1) := by decide +kernel
theorem dX9_again_7 : decode cX9_again 7 = .ok (.putfield 98, 3) := by decide +kernel
theorem dX9_again_10 : decode cX9_again 10 = .ok (.aload_n 0, 1) := by decide +kernel
theorem dX9_again_11 : decode cX9_again 11 = .ok (.iload_n 1, 1) := by decide +kernel
theorem dX9_again_12 : decode cX9_again 12 = .ok (.invokevirtual 142, 3) := by decide +kernel
theorem dX9_again_15 : decode cX9_again 15 = .ok (.ifCond .ne 9, 3) := by decide +kernel
theorem dX9_again_18 : decode cX9_again 18 = .ok (.aload_n 0, 1) := by decide +kernel
theorem dX9_again_19 : decode cX9_again 19 = .ok (.iconst 2, 1) := by decide +kernel
theorem dX9_again_20 : decode cX9_again 20 = .ok (.invokevirtual 122, 3) := by decide +kernel
theorem dX9_again_23 : decode cX9_again 23 = .ok (.ireturn, 1) := by decide +kernel
theorem dX9_again_24 : decode cX9_again 24 = .ok (.iload_n 3, 1) := by decide +kernel
theorem dX9_again_25 : decode cX9_again 25 = .ok (.iconst 2, 1) := by decide +kernel
theorem dX9_again_26 : decode cX9_again 26 = .ok (.if_icmp .lt 27, 3) := by decide +kernel
theorem dX9_again_29 : decode cX9_again 29 = .ok (.iload_n 3, 1) := by decide +kernel
theorem dX9_again_30 : decode cX9_again 30 = .ok (.bipush 99, 2) := by decide +kernel
theorem dX9_again_32 : decode cX9_again 32 = .ok (.if_icmp .gt 21, 3) := by decide +kernel
theorem dX9_again_35 : decode cX9_again 35 = .ok (.iload_n 2, 1) := by decide +kernel
theorem dX9_again_36 : decode cX9_again 36 = .ok (.iconst 1, 1) := by decide +kernel
theorem dX9_again_37 : decode cX9_again 37 = .ok (.if_icmp .lt 16, 3) := by decide +kernel
theorem dX9_again_40 : decode cX9_again 40 = .ok (.iload_n 2, 1) := by decide +kernel
theorem dX9_again_41 : decode cX9_again 41 = .ok (.iload_n 3, 1) := by decide +kernel
theorem dX9_again_42 : decode cX9_again 42 = .ok (.if_icmp .ge 11, 3) := by decide +kernel
theorem dX9_again_45 : decode cX9_again 45 = .ok (.iload 4, 2) := by decide +kernel
theorem dX9_again_47 : decode cX9_again 47 = .ok (.invokestatic 131, 3) := by decide +kernel
theorem dX9_again_50 : decode cX9_again 50 = .ok (.ifCond .ne 9, 3) := by decide +kernel
theorem dX9_again_53 : decode cX9_again 53 = .ok (.aload_n 0, 1) := by decide +kernel
theorem dX9_again_54 : decode cX9_again 54 = .ok (.iconst 5, 1) := by decide +kernel
theorem dX9_again_55 : decode cX9_again 55 = .ok (.invokevirtual 122, 3) := by decide +kernel
theorem dX9_again_58 : decode cX9_again 58 = .ok (.ireturn, 1) := by decide +kernel
theorem dX9_again_59 : decode cX9_again 59 = .ok (.aload_n 0, 1) := by decide +kernel
theorem dX9_again_60 : decode cX9_again 60 = .ok (.invokevirtual 134, 3) := by decide +kernel
theorem dX9_again_63 : decode cX9_again 63 = .ok (.iconst 0, 1) := by decide +kernel
theorem dX9_again_64 : decode cX9_again 64 = .ok (.istore 5, 2) := by decide +kernel
theorem dX9_again_66 : decode cX9_again 66 = .ok (.iload 5, 2) := by decide +kernel
theorem dX9_again_68 : decode cX9_again 68 = .ok (.aload_n 0, 1) := by decide +kernel
theorem dX9_again_69 : decode cX9_again 69 = .ok (.getfield 31, 3) := by decide +kernel
theorem dX9_again_72 : decode cX9_again 72 = .ok (.iload_n 1, 1) := by decide +kernel
theorem dX9_again_73 : decode cX9_again 73 = .ok (.iaload, 1) := by decide +kernel
theorem dX9_again_74 : decode cX9_again 74 = .ok (.if_icmp .ge 126, 3) := by decide +kernel
theorem dX9_again_77 : decode cX9_again 77 = .ok (.bipush 8, 2) := by decide +kernel
theorem dX9_again_79 : decode cX9_again 79 = .ok (.iload_n 1, 1) := by decide +kernel
theorem dX9_again_80 : decode cX9_again 80 = .ok (.imul, 1) := by decide +kernel
theorem dX9_again_81 : decode cX9_again 81 = .ok (.iload 5, 2) := by decide +kernel
theorem dX9_again_83 : decode cX9_again 83 = .ok (.iadd, 1) := by decide +kernel
theorem dX9_again_84 : decode cX9_again 84 = .ok (.istore 6, 2) := by decide +kernel
theorem dX9_again_86 : decode cX9_again 86 = .ok (.aload_n 0, 1) := by decide +kernel
theorem dX9_again_87 : decode cX9_again 87 = .ok (.getfield 58, 3) := by decide +kernel
theorem dX9_again_90 : decode cX9_again 90 = .ok (.aload_n 0, 1) := by decide +kernel
theorem dX9_again_91 : decode cX9_again 91 = .ok (.getfield 43, 3) := by decide +kernel
theorem dX9_again_94 : decode cX9_again 94 = .ok (.iload 6, 2) := by decide +kernel
theorem dX9_again_96 : decode cX9_again 96 = .ok (.iaload, 1) := by decide +kernel
theorem dX9_again_97 : decode cX9_again 97 = .ok (.dup2, 1) := by decide +kernel
theorem dX9_again_98 : decode cX9_again 98 = .ok (.laload, 1) := by decide +kernel
theorem dX9_again_99 : decode cX9_again 99 = .ok (.iload_n 3, 1) := by decide +kernel
theorem dX9_again_100 : decode cX9_again 100 = .ok (.iload_n 2, 1) := by decide +kernel
theorem dX9_again_101 : decode cX9_again 101 = .ok (.isub, 1) := by decide +kernel
theorem dX9_again_102 : decode cX9_again 102 = .ok (.i2l, 1) := by decide +kernel
theorem dX9_again_103 : decode cX9_again 103 = .ok (.aload_n 0, 1) := by decide +kernel
theorem dX9_again_104 : decode cX9_again 104 = .ok (.getfield 46, 3) := by decide +kernel
theorem dX9_again_107 : decode cX9_again 107 = .ok (.iload 6, 2) := by decide +kernel
theorem dX9_again_109 : decode cX9_again 109 = .ok (.iaload, 1) := by decide +kernel
theorem dX9_again_110 : decode cX9_again 110 = .ok (.i2l, 1) := by decide +kernel
theorem dX9_again_111 : decode cX9_again 111 = .ok (.lmul, 1) := by decide +kernel
theorem dX9_again_112 : decode cX9_again 112 = .ok (.aload_n 0, 1) := by decide +kernel
theorem dX9_again_113 : decode cX9_again 113 = .ok (.iload_n 1, 1) := by decide +kernel
theorem dX9_again_114 : decode cX9_again 114 = .ok (.invokevirtual 145, 3) := by decide +kernel
theorem dX9_again_117 : decode cX9_again 117 = .ok (.i2l, 1) := by decide +kernel
theorem dX9_again_118 : decode cX9_again 118 = .ok (.lmul, 1) := by decide +kernel
theorem dX9_again_119 : decode cX9_again 119 = .ok (.ladd, 1) := by decide +kernel
theorem dX9_again_120 : decode cX9_again 120 = .ok (.lastore, 1) := by decide +kernel
theorem dX9_again_121 : decode cX9_again 121 = .ok (.iconst 0, 1) := by decide +kernel
theorem dX9_again_122 : decode cX9_again 122 = .ok (.istore 7, 2) := by decide +kernel
theorem dX9_again_124 : decode cX9_again 124 = .ok (.iload 7, 2) := by decide +kernel
theorem dX9_again_126 : decode cX9_again 126 = .ok (.aload_n 0, 1) := by decide +kernel
theorem dX9_again_127 : decode cX9_again 127 = .ok (.getfield 31, 3) := by decide +kernel
theorem dX9_again_130 : decode cX9_again 130 = .ok (.iload_n 1, 1) := by decide +kernel
theorem dX9_again_131 : decode cX9_again 131 = .ok (.iaload, 1) := by decide +kernel
theorem dX9_again_132 : decode cX9_again 132 = .ok (.if_icmp .ge 62, 3) := by decide +kernel
theorem dX9_again_135 : decode cX9_again 135 = .ok (.aload_n 0, 1) := by decide +kernel
theorem dX9_again_136 : decode cX9_again 136 = .ok (.getfield 58, 3) := by decide +kernel
theorem dX9_again_139 : decode cX9_again 139 = .ok (.aload_n 0, 1) := by decide +kernel
theorem dX9_again_140 : decode cX9_again 140 = .ok (.getfield 43, 3) := by decide +kernel
theorem dX9_again_143 : decode cX9_again 143 = .ok (.iload 6, 2) := by decide +kernel
theorem dX9_again_145 : decode cX9_again 145 = .ok (.iaload, 1) := by decide +kernel
theorem dX9_again_146 : decode cX9_again 146 = .ok (.aload_n 0, 1) := by decide +kernel
theorem dX9_again_147 : decode cX9_again 147 = .ok (.getfield 43, 3) := by decide +kernel
theorem dX9_again_150 : decode cX9_again 150 = .ok (.bipush 8, 2) := by decide +kernel
theorem dX9_again_152 : decode cX9_again 152 = .ok (.iload_n 1, 1) := by decide +kernel
theorem dX9_again_153 : decode cX9_again 153 = .ok (.imul, 1) := by decide +kernel
theorem dX9_again_154 : decode cX9_again 154 = .ok (.iload 7, 2) := by decide +kernel
theorem dX9_again_156 : decode cX9_again 156 = .ok (.iadd, 1) := by decide +kernel
theorem dX9_again_157 : decode cX9_again 157 = .ok (.iaload, 1) := by decide +kernel
theorem dX9_again_158 : decode cX9_again 158 = .ok (.iadd, 1) := by decide +kernel
theorem dX9_again_159 : decode cX9_again 159 = .ok (.dup2, 1) := by decide +kernel
theorem dX9_again_160 : decode cX9_again 160 = .ok (.laload, 1) := by decide +kernel
theorem dX9_again_161 : decode cX9_again 161 = .ok (.iload_n 2, 1) := by decide +kernel
theorem dX9_again_162 : decode cX9_again 162 = .ok (.i2l, 1) := by decide +kernel
theorem dX9_again_163 : decode cX9_again 163 = .ok (.aload_n 0, 1) := by decide +kernel
theorem dX9_again_164 : decode cX9_again 164 = .ok (.getfield 46, 3) := by decide +kernel
theorem dX9_again_167 : decode cX9_again 167 = .ok (.iload 6, 2) := by decide +kernel
theorem dX9_again_169 : decode cX9_again 169 = .ok (.iaload, 1) := by decide +kernel
theorem dX9_again_170 : decode cX9_again 170 = .ok (.i2l, 1) := by decide +kernel
theorem dX9_again_171 : decode cX9_again 171 = .ok (.lmul, 1) := by decide +kernel
theorem dX9_again_172 : decode cX9_again 172 = .ok (.aload_n 0, 1) := by decide +kernel
theorem dX9_again_173 : decode cX9_again 173 = .ok (.getfield 46, 3) := by decide +kernel
theorem dX9_again_176 : decode cX9_again 176 = .ok (.bipush 8, 2) := by decide +kernel
theorem dX9_again_178 : decode cX9_again 178 = .ok (.iload_n 1, 1) := by decide +kernel
theorem dX9_again_179 : decode cX9_again 179 = .ok (.imul, 1) := by decide +kernel
theorem dX9_again_180 : decode cX9_again 180 = .ok (.iload 7, 2) := by decide +kernel
theorem dX9_again_182 : decode cX9_again 182 = .ok (.iadd, 1) := by decide +kernel
theorem dX9_again_183 : decode cX9_again 183 = .ok (.iaload, 1) := by decide +kernel
theorem dX9_again_184 : decode cX9_again 184 = .ok (.i2l, 1) := by decide +kernel
theorem dX9_again_185 : decode cX9_again 185 = .ok (.lmul, 1) := by decide +kernel
theorem dX9_again_186 : decode cX9_again 186 = .ok (.ladd, 1) := by decide +kernel
theorem dX9_again_187 : decode cX9_again 187 = .ok (.lastore, 1) := by decide +kernel
theorem dX9_again_188 : decode cX9_again 188 = .ok (.iinc 7 1, 3) := by decide +kernel
theorem dX9_again_191 : decode cX9_again 191 = .ok (.goto (-67), 3) := by decide +kernel
theorem dX9_again_194 : decode cX9_again 194 = .ok (.iinc 5 1, 3) := by decide +kernel
theorem dX9_again_197 : decode cX9_again 197 = .ok (.goto (-131), 3) := by decide +kernel
theorem dX9_again_200 : decode cX9_again 200 = .ok (.aload_n 0, 1) := by decide +kernel
theorem dX9_again_201 : decode cX9_again 201 = .ok (.iload 4, 2) := by decide +kernel
theorem dX9_again_203 : decode cX9_again 203 = .ok (.invokevirtual 139, 3) := by decide +kernel
theorem dX9_again_206 : decode cX9_again 206 = .ok (.ireturn, 1) := by decide +kernel
theorem dX9_need_0 : decode cX9_need 0 = .ok (.aload_n 0, 1) := by decide +kernel
theorem dX9_need_1 : decode cX9_need 1 = .ok (.iconst 0, 1) := by decide +kernel
theorem dX9_need_2 : decode cX9_need 2 = .ok (.putfield 95, 3) := by decide +kernel
theorem dX9_need_5 : decode cX9_need 5 = .ok (.aload_n 0, 1) := by decide +kernel
theorem dX9_need_6 : decode cX9_need 6 = .ok (.iconst 0, 1) := by decide +kernel
theorem dX9_need_7 : decode cX9_need 7 = .ok (.putfield 98, 3) := by decide +kernel
theorem dX9_need_10 : decode cX9_need 10 = .ok (.aload_n 0, 1) := by decide +kernel
theorem dX9_need_11 : decode cX9_need 11 = .ok (.iload_n 1, 1) := by decide +kernel
theorem dX9_need_12 : decode cX9_need 12 = .ok (.invokevirtual 142, 3) := by decide +kernel
theorem dX9_need_15 : decode cX9_need 15 = .ok (.ifCond .eq 11, 3) := by decide +kernel
theorem dX9_need_18 : decode cX9_need 18 = .ok (.aload_n 0, 1) := by decide +kernel
theorem dX9_need_19 : decode cX9_need 19 = .ok (.iload_n 2, 1) := by decide +kernel
theorem dX9_need_20 : decode cX9_need 20 = .ok (.invokevirtual 142, 3) := by decide +kernel
theorem dX9_need_23 : decode cX9_need 23 = .ok (.ifCond .ne 9, 3) := by decide +kernel
theorem dX9_need_26 : decode cX9_need 26 = .ok (.aload_n 0, 1) := by decide +kernel
theorem dX9_need_27 : decode cX9_need 27 = .ok (.iconst 2, 1) := by decide +kernel
theorem dX9_need_28 : decode cX9_need 28 = .ok (.invokevirtual 101, 3) := by decide +kernel
theorem dX9_need_31 : decode cX9_need 31 = .ok (.ireturn, 1) := by decide +kernel
theorem dX9_need_32 : decode cX9_need 32 = .ok (.iload_n 2, 1) := by decide +kernel
theorem dX9_need_33 : decode cX9_need 33 = .ok (.iload_n 1, 1) := by decide +kernel
theorem dX9_need_34 : decode cX9_need 34 = .ok (.if_icmp .lt 9, 3) := by decide +kernel
theorem dX9_need_37 : decode cX9_need 37 = .ok (.aload_n 0, 1) := by decide +kernel
theorem dX9_need_38 : decode cX9_need 38 = .ok (.iconst 5, 1) := by decide +kernel
theorem dX9_need_39 : decode cX9_need 39 = .ok (.invokevirtual 101, 3) := by decide +kernel
theorem dX9_need_42 : decode cX9_need 42 = .ok (.ireturn, 1) := by decide +kernel
theorem dX9_need_43 : decode cX9_need 43 = .ok (.aload_n 0, 1) := by decide +kernel
theorem dX9_need_44 : decode cX9_need 44 = .ok (.getfield 37, 3) := by decide +kernel
theorem dX9_need_47 : decode cX9_need 47 = .ok (.iload_n 1, 1) := by decide +kernel
theorem dX9_need_48 : decode cX9_need 48 = .ok (.iload_n 3, 1) := by decide +kernel
theorem dX9_need_49 : decode cX9_need 49 = .ok (.ifCond .eq 16, 3) := by decide +kernel
theorem dX9_need_52 : decode cX9_need 52 = .ok (.aload_n 0, 1) := by decide +kernel
theorem dX9_need_53 : decode cX9_need 53 = .ok (.getfield 37, 3) := by decide +kernel
theorem dX9_need_56 : decode cX9_need 56 = .ok (.iload_n 1, 1) := by decide +kernel
theorem dX9_need_57 : decode cX9_need 57 = .ok (.iaload, 1) := by decide +kernel
theorem dX9_need_58 : decode cX9_need 58 = .ok (.iconst 1, 1) := by decide +kernel
theorem dX9_need_59 : decode cX9_need 59 = .ok (.iload_n 2, 1) := by decide +kernel
theorem dX9_need_60 : decode cX9_need 60 = .ok (.ishl, 1) := by decide +kernel
theorem dX9_need_61 : decode cX9_need 61 = .ok (.ior, 1) := by decide +kernel
theorem dX9_need_62 : decode cX9_need 62 = .ok (.goto 15, 3) := by decide +kernel
theorem dX9_need_65 : decode cX9_need 65 = .ok (.aload_n 0, 1) := by decide +kernel
theorem dX9_need_66 : decode cX9_need 66 = .ok (.getfield 37, 3) := by decide +kernel
theorem dX9_need_69 : decode cX9_need 69 = .ok (.iload_n 1, 1) := by decide +kernel
theorem dX9_need_70 : decode cX9_need 70 = .ok (.iaload, 1) := by decide +kernel
theorem dX9_need_71 : decode cX9_need 71 = .ok (.iconst 1, 1) := by decide +kernel
theorem dX9_need_72 : decode cX9_need 72 = .ok (.iload_n 2, 1) := by decide +kernel
theorem dX9_need_73 : decode cX9_need 73 = .ok (.ishl, 1) := by decide +kernel
theorem dX9_need_74 : decode cX9_need 74 = .ok (.iconst (-1), 1) := by decide +kernel
theorem dX9_need_75 : decode cX9_need 75 = .ok (.ixor, 1) := by decide +kernel
theorem dX9_need_76 : decode cX9_need 76 = .ok (.iand, 1) := by decide +kernel
theorem dX9_need_77 : decode cX9_need 77 = .ok (.iastore, 1) := by decide +kernel
theorem dX9_need_78 : decode cX9_need 78 = .ok (.iconst 1, 1) := by decide +kernel
theorem dX9_need_79 : decode cX9_need 79 = .ok (.ireturn, 1) := by decide +kernel
theorem dX9_cause_0 : decode cX9_cause 0 = .ok (.aload_n 0, 1) := by decide +kernel
theorem dX9_cause_1 : decode cX9_cause 1 = .ok (.iconst 0, 1) := by decide +kernel
theorem dX9_cause_2 : decode cX9_cause 2 = .ok (.putfield 95, 3) := by decide +kernel
theorem dX9_cause_5 : decode cX9_cause 5 = .ok (.aload_n 0, 1) := by decide +kernel
theorem dX9_cause_6 : decode cX9_cause 6 = .ok (.iconst 0, 1) := by decide +kernel
theorem dX9_cause_7 : decode cX9_cause 7 = .ok (.putfield 98, 3) := by decide +kernel
theorem dX9_cause_10 : decode cX9_cause 10 = .ok (.iload_n 2, 1) := by decide +kernel
theorem dX9_cause_11 : decode cX9_cause 11 = .ok (.iconst 2, 1) := by decide +kernel
theorem dX9_cause_12 : decode cX9_cause 12 = .ok (.if_icmp .lt 19, 3) := by decide +kernel
theorem dX9_cause_15 : decode cX9_cause 15 = .ok (.iload_n 2, 1) := by decide +kernel
theorem dX9_cause_16 : decode cX9_cause 16 = .ok (.bipush 12, 2) := by decide +kernel
theorem dX9_cause_18 : decode cX9_cause 18 = .ok (.if_icmp .gt 13, 3) := by decide +kernel
theorem dX9_cause_21 : decode cX9_cause 21 = .ok (.iload_n 1, 1) := by decide +kernel
theorem dX9_cause_22 : decode cX9_cause 22 = .ok (.iconst 1, 1) := by decide +kernel
theorem dX9_cause_23 : decode cX9_cause 23 = .ok (.if_icmp .lt 8, 3) := by decide +kernel
theorem dX9_cause_26 : decode cX9_cause 26 = .ok (.iload_n 1, 1) := by decide +kernel
theorem dX9_cause_27 : decode cX9_cause 27 = .ok (.iload_n 2, 1) := by decide +kernel
theorem dX9_cause_28 : decode cX9_cause 28 = .ok (.if_icmp .lt 9, 3) := by decide +kernel
theorem dX9_cause_31 : decode cX9_cause 31 = .ok (.aload_n 0, 1) := by decide +kernel
theorem dX9_cause_32 : decode cX9_cause 32 = .ok (.iconst 5, 1) := by decide +kernel
theorem dX9_cause_33 : decode cX9_cause 33 = .ok (.invokevirtual 122, 3) := by decide +kernel
theorem dX9_cause_36 : decode cX9_cause 36 = .ok (.ireturn, 1) := by decide +kernel
theorem dX9_cause_37 : decode cX9_cause 37 = .ok (.aload_n 0, 1) := by decide +kernel
theorem dX9_cause_38 : decode cX9_cause 38 = .ok (.getfield 148, 3) := by decide +kernel
theorem dX9_cause_41 : decode cX9_cause 41 = .ok (.iconst 4, 1) := by decide +kernel
theorem dX9_cause_42 : decode cX9_cause 42 = .ok (.if_icmp .ne 10, 3) := by decide +kernel
theorem dX9_cause_45 : decode cX9_cause 45 = .ok (.aload_n 0, 1) := by decide +kernel
theorem dX9_cause_46 : decode cX9_cause 46 = .ok (.bipush 7, 2) := by decide +kernel
theorem dX9_cause_48 : decode cX9_cause 48 = .ok (.invokevirtual 122, 3) := by decide +kernel
theorem dX9_cause_51 : decode cX9_cause 51 = .ok (.ireturn, 1) := by decide +kernel
theorem dX9_cause_52 : decode cX9_cause 52 = .ok (.aload_n 0, 1) := by decide +kernel
theorem dX9_cause_53 : decode cX9_cause 53 = .ok (.getfield 52, 3) := by decide +kernel
theorem dX9_cause_56 : decode cX9_cause 56 = .ok (.aload_n 0, 1) := by decide +kernel
theorem dX9_cause_57 : decode cX9_cause 57 = .ok (.getfield 148, 3) := by decide +kernel
theorem dX9_cause_60 : decode cX9_cause 60 = .ok (.iload_n 1, 1) := by decide +kernel
theorem dX9_cause_61 : decode cX9_cause 61 = .ok (.iastore, 1) := by decide +kernel
theorem dX9_cause_62 : decode cX9_cause 62 = .ok (.aload_n 0, 1) := by decide +kernel
theorem dX9_cause_63 : decode cX9_cause 63 = .ok (.getfield 55, 3) := by decide +kernel
theorem dX9_cause_66 : decode cX9_cause 66 = .ok (.aload_n 0, 1) := by decide +kernel
theorem dX9_cause_67 : decode cX9_cause 67 = .ok (.getfield 148, 3) := by decide +kernel
theorem dX9_cause_70 : decode cX9_cause 70 = .ok (.iload_n 2, 1) := by decide +kernel
theorem dX9_cause_71 : decode cX9_cause 71 = .ok (.iastore, 1) := by decide +kernel
theorem dX9_cause_72 : decode cX9_cause 72 = .ok (.aload_n 0, 1) := by decide +kernel
theorem dX9_cause_73 : decode cX9_cause 73 = .ok (.dup, 1) := by decide +kernel
theorem dX9_cause_74 : decode cX9_cause 74 = .ok (.getfield 148, 3) := by decide +kernel
theorem dX9_cause_77 : decode cX9_cause 77 = .ok (.iconst 1, 1) := by decide +kernel
theorem dX9_cause_78 : decode cX9_cause 78 = .ok (.iadd, 1) := by decide +kernel
theorem dX9_cause_79 : decode cX9_cause 79 = .ok (.putfield 148, 3) := by decide +kernel
theorem dX9_cause_82 : decode cX9_cause 82 = .ok (.aload_n 0, 1) := by decide +kernel
theorem dX9_cause_83 : decode cX9_cause 83 = .ok (.getfield 148, 3) := by decide +kernel
theorem dX9_cause_86 : decode cX9_cause 86 = .ok (.iconst 1, 1) := by decide +kernel
theorem dX9_cause_87 : decode cX9_cause 87 = .ok (.isub, 1) := by decide +kernel
theorem dX9_cause_88 : decode cX9_cause 88 = .ok (.ireturn, 1) := by decide +kernel
theorem dX9_late_0 : decode cX9_late 0 = .ok (.aload_n 0, 1) := by decide +kernel
theorem dX9_late_1 : decode cX9_late 1 = .ok (.iconst 0, 1) := by decide +kernel
theorem dX9_late_2 : decode cX9_late 2 = .ok (.putfield 95, 3) := by decide +kernel
theorem dX9_late_5 : decode cX9_late 5 = .ok (.aload_n 0, 1) := by decide +kernel
theorem dX9_late_6 : decode cX9_late 6 = .ok (.iconst 0, 1) := by decide +kernel
theorem dX9_late_7 : decode cX9_late 7 = .ok (.putfield 98, 3) := by decide +kernel
theorem dX9_late_10 : decode cX9_late 10 = .ok (.aload_n 0, 1) := by decide +kernel
theorem dX9_late_11 : decode cX9_late 11 = .ok (.iload_n 1, 1) := by decide +kernel
theorem dX9_late_12 : decode cX9_late 12 = .ok (.invokevirtual 142, 3) := by decide +kernel
theorem dX9_late_15 : decode cX9_late 15 = .ok (.ifCond .eq 15, 3) := by decide +kernel
theorem dX9_late_18 : decode cX9_late 18 = .ok (.iload_n 2, 1) := by decide +kernel
theorem dX9_late_19 : decode cX9_late 19 = .ok (.ifCond .lt 11, 3) := by decide +kernel
theorem dX9_late_22 : decode cX9_late 22 = .ok (.iload_n 2, 1) := by decide +kernel
theorem dX9_late_23 : decode cX9_late 23 = .ok (.aload_n 0, 1) := by decide +kernel
theorem dX9_late_24 : decode cX9_late 24 = .ok (.getfield 148, 3) := by decide +kernel
theorem dX9_late_27 : decode cX9_late 27 = .ok (.if_icmp .lt 9, 3) := by decide +kernel
theorem dX9_late_30 : decode cX9_late 30 = .ok (.aload_n 0, 1) := by decide +kernel
theorem dX9_late_31 : decode cX9_late 31 = .ok (.iconst 2, 1) := by decide +kernel
theorem dX9_late_32 : decode cX9_late 32 = .ok (.invokevirtual 101, 3) := by decide +kernel
theorem dX9_late_35 : decode cX9_late 35 = .ok (.ireturn, 1) := by decide +kernel
theorem dX9_late_36 : decode cX9_late 36 = .ok (.iload_n 3, 1) := by decide +kernel
theorem dX9_late_37 : decode cX9_late 37 = .ok (.ifCond .lt 9, 3) := by decide +kernel
theorem dX9_late_40 : decode cX9_late 40 = .ok (.iload_n 3, 1) := by decide +kernel
theorem dX9_late_41 : decode cX9_late 41 = .ok (.bipush 99, 2) := by decide +kernel
theorem dX9_late_43 : decode cX9_late 43 = .ok (.if_icmp .le 9, 3) := by decide +kernel
theorem dX9_late_46 : decode cX9_late 46 = .ok (.aload_n 0, 1) := by decide +kernel
theorem dX9_late_47 : decode cX9_late 47 = .ok (.iconst 5, 1) := by decide +kernel
theorem dX9_late_48 : decode cX9_late 48 = .ok (.invokevirtual 101, 3) := by decide +kernel
theorem dX9_late_51 : decode cX9_late 51 = .ok (.ireturn, 1) := by decide +kernel
theorem dX9_late_52 : decode cX9_late 52 = .ok (.aload_n 0, 1) := by decide +kernel
theorem dX9_late_53 : decode cX9_late 53 = .ok (.getfield 49, 3) := by decide +kernel
theorem dX9_late_56 : decode cX9_late 56 = .ok (.iconst 4, 1) := by decide +kernel
theorem dX9_late_57 : decode cX9_late 57 = .ok (.iload_n 1, 1) := by decide +kernel
theorem dX9_late_58 : decode cX9_late 58 = .ok (.imul, 1) := by decide +kernel
theorem dX9_late_59 : decode cX9_late 59 = .ok (.iload_n 2, 1) := by decide +kernel
theorem dX9_late_60 : decode cX9_late 60 = .ok (.iadd, 1) := by decide +kernel
theorem dX9_late_61 : decode cX9_late 61 = .ok (.iload_n 3, 1) := by decide +kernel
theorem dX9_late_62 : decode cX9_late 62 = .ok (.iastore, 1) := by decide +kernel
theorem dX9_late_63 : decode cX9_late 63 = .ok (.iconst 1, 1) := by decide +kernel
theorem dX9_late_64 : decode cX9_late 64 = .ok (.ireturn, 1) := by decide +kernel
theorem dX9_hands_0 : decode cX9_hands 0 = .ok (.aload_n 0, 1) := by decide +kernel
theorem dX9_hands_1 : decode cX9_hands 1 = .ok (.iconst 0, 1) := by decide +kernel
theorem dX9_hands_2 : decode cX9_hands 2 = .ok (.putfield 95, 3) := by decide +kernel
theorem dX9_hands_5 : decode cX9_hands 5 = .ok (.aload_n 0, 1) := by decide +kernel
theorem dX9_hands_6 : decode cX9_hands 6 = .ok (.iconst 0, 1) := by decide +kernel
theorem dX9_hands_7 : decode cX9_hands 7 = .ok (.putfield 98, 3) := by decide +kernel
theorem dX9_hands_10 : decode cX9_hands 10 = .ok (.iload_n 1, 1) := by decide +kernel
theorem dX9_hands_11 : decode cX9_hands 11 = .ok (.iconst 1, 1) := by decide +kernel
theorem dX9_hands_12 : decode cX9_hands 12 = .ok (.if_icmp .lt 9, 3) := by decide +kernel
theorem dX9_hands_15 : decode cX9_hands 15 = .ok (.iload_n 1, 1) := by decide +kernel
theorem dX9_hands_16 : decode cX9_hands 16 = .ok (.bipush 30, 2) := by decide +kernel
theorem dX9_hands_18 : decode cX9_hands 18 = .ok (.if_icmp .le 9, 3) := by decide +kernel
theorem dX9_hands_21 : decode cX9_hands 21 = .ok (.aload_n 0, 1) := by decide +kernel
theorem dX9_hands_22 : decode cX9_hands 22 = .ok (.iconst 5, 1) := by decide +kernel
theorem dX9_hands_23 : decode cX9_hands 23 = .ok (.invokevirtual 101, 3) := by decide +kernel
theorem dX9_hands_26 : decode cX9_hands 26 = .ok (.ireturn, 1) := by decide +kernel
theorem dX9_hands_27 : decode cX9_hands 27 = .ok (.aload_n 0, 1) := by decide +kernel
theorem dX9_hands_28 : decode cX9_hands 28 = .ok (.iload_n 1, 1) := by decide +kernel
theorem dX9_hands_29 : decode cX9_hands 29 = .ok (.putfield 24, 3) := by decide +kernel
theorem dX9_hands_32 : decode cX9_hands 32 = .ok (.iconst 1, 1) := by decide +kernel
theorem dX9_hands_33 : decode cX9_hands 33 = .ok (.ireturn, 1) := by decide +kernel
theorem dX9_clear_0 : decode cX9_clear 0 = .ok (.aload_n 0, 1) := by decide +kernel
theorem dX9_clear_1 : decode cX9_clear 1 = .ok (.iconst 0, 1) := by decide +kernel
theorem dX9_clear_2 : decode cX9_clear 2 = .ok (.putfield 95, 3) := by decide +kernel
theorem dX9_clear_5 : decode cX9_clear 5 = .ok (.aload_n 0, 1) := by decide +kernel
theorem dX9_clear_6 : decode cX9_clear 6 = .ok (.iconst 0, 1) := by decide +kernel
theorem dX9_clear_7 : decode cX9_clear 7 = .ok (.putfield 98, 3) := by decide +kernel
theorem dX9_clear_10 : decode cX9_clear 10 = .ok (.aload_n 0, 1) := by decide +kernel
theorem dX9_clear_11 : decode cX9_clear 11 = .ok (.iconst 0, 1) := by decide +kernel
theorem dX9_clear_12 : decode cX9_clear 12 = .ok (.putfield 119, 3) := by decide +kernel
theorem dX9_clear_15 : decode cX9_clear 15 = .ok (.aload_n 0, 1) := by decide +kernel
theorem dX9_clear_16 : decode cX9_clear 16 = .ok (.iconst 0, 1) := by decide +kernel
theorem dX9_clear_17 : decode cX9_clear 17 = .ok (.putfield 148, 3) := by decide +kernel
theorem dX9_clear_20 : decode cX9_clear 20 = .ok (.aload_n 0, 1) := by decide +kernel
theorem dX9_clear_21 : decode cX9_clear 21 = .ok (.bipush 30, 2) := by decide +kernel
theorem dX9_clear_23 : decode cX9_clear 23 = .ok (.putfield 24, 3) := by decide +kernel
theorem dX9_clear_26 : decode cX9_clear 26 = .ok (.aload_n 0, 1) := by decide +kernel
theorem dX9_clear_27 : decode cX9_clear 27 = .ok (.iconst (-1), 1) := by decide +kernel
theorem dX9_clear_28 : decode cX9_clear 28 = .ok (.putfield 28, 3) := by decide +kernel
theorem dX9_clear_31 : decode cX9_clear 31 = .ok (.iconst 1, 1) := by decide +kernel
theorem dX9_clear_32 : decode cX9_clear 32 = .ok (.ireturn, 1) := by decide +kernel
theorem dX9_told_0 : decode cX9_told 0 = .ok (.aload_n 0, 1) := by decide +kernel
theorem dX9_told_1 : decode cX9_told 1 = .ok (.iconst 0, 1) := by decide +kernel
theorem dX9_told_2 : decode cX9_told 2 = .ok (.putfield 95, 3) := by decide +kernel
theorem dX9_told_5 : decode cX9_told 5 = .ok (.aload_n 0, 1) := by decide +kernel
theorem dX9_told_6 : decode cX9_told 6 = .ok (.iconst 0, 1) := by decide +kernel
theorem dX9_told_7 : decode cX9_told 7 = .ok (.putfield 98, 3) := by decide +kernel
theorem dX9_told_10 : decode cX9_told 10 = .ok (.aload_n 0, 1) := by decide +kernel
theorem dX9_told_11 : decode cX9_told 11 = .ok (.iload_n 1, 1) := by decide +kernel
theorem dX9_told_12 : decode cX9_told 12 = .ok (.invokevirtual 142, 3) := by decide +kernel
theorem dX9_told_15 : decode cX9_told 15 = .ok (.ifCond .ne 9, 3) := by decide +kernel
theorem dX9_told_18 : decode cX9_told 18 = .ok (.aload_n 0, 1) := by decide +kernel
theorem dX9_told_19 : decode cX9_told 19 = .ok (.iconst 2, 1) := by decide +kernel
theorem dX9_told_20 : decode cX9_told 20 = .ok (.invokevirtual 122, 3) := by decide +kernel
theorem dX9_told_23 : decode cX9_told 23 = .ok (.ireturn, 1) := by decide +kernel
theorem dX9_told_24 : decode cX9_told 24 = .ok (.iload_n 2, 1) := by decide +kernel
theorem dX9_told_25 : decode cX9_told 25 = .ok (.tableswitch 72 0 4 #[35, 42, 48, 55, 65], 35) := by decide +kernel
theorem dX9_told_60 : decode cX9_told 60 = .ok (.aload_n 0, 1) := by decide +kernel
theorem dX9_told_61 : decode cX9_told 61 = .ok (.getfield 31, 3) := by decide +kernel
theorem dX9_told_64 : decode cX9_told 64 = .ok (.iload_n 1, 1) := by decide +kernel
theorem dX9_told_65 : decode cX9_told 65 = .ok (.iaload, 1) := by decide +kernel
theorem dX9_told_66 : decode cX9_told 66 = .ok (.ireturn, 1) := by decide +kernel
theorem dX9_told_67 : decode cX9_told 67 = .ok (.aload_n 0, 1) := by decide +kernel
theorem dX9_told_68 : decode cX9_told 68 = .ok (.iload_n 1, 1) := by decide +kernel
theorem dX9_told_69 : decode cX9_told 69 = .ok (.invokevirtual 145, 3) := by decide +kernel
theorem dX9_told_72 : decode cX9_told 72 = .ok (.ireturn, 1) := by decide +kernel
theorem dX9_told_73 : decode cX9_told 73 = .ok (.aload_n 0, 1) := by decide +kernel
theorem dX9_told_74 : decode cX9_told 74 = .ok (.getfield 34, 3) := by decide +kernel
theorem dX9_told_77 : decode cX9_told 77 = .ok (.iload_n 1, 1) := by decide +kernel
theorem dX9_told_78 : decode cX9_told 78 = .ok (.iaload, 1) := by decide +kernel
theorem dX9_told_79 : decode cX9_told 79 = .ok (.ireturn, 1) := by decide +kernel
theorem dX9_told_80 : decode cX9_told 80 = .ok (.aload_n 0, 1) := by decide +kernel
theorem dX9_told_81 : decode cX9_told 81 = .ok (.getfield 37, 3) := by decide +kernel
theorem dX9_told_84 : decode cX9_told 84 = .ok (.iload_n 1, 1) := by decide +kernel
theorem dX9_told_85 : decode cX9_told 85 = .ok (.iaload, 1) := by decide +kernel
theorem dX9_told_86 : decode cX9_told 86 = .ok (.invokestatic 151, 3) := by decide +kernel
theorem dX9_told_89 : decode cX9_told 89 = .ok (.ireturn, 1) := by decide +kernel
theorem dX9_told_90 : decode cX9_told 90 = .ok (.aload_n 0, 1) := by decide +kernel
theorem dX9_told_91 : decode cX9_told 91 = .ok (.getfield 40, 3) := by decide +kernel
theorem dX9_told_94 : decode cX9_told 94 = .ok (.iload_n 1, 1) := by decide +kernel
theorem dX9_told_95 : decode cX9_told 95 = .ok (.iaload, 1) := by decide +kernel
theorem dX9_told_96 : decode cX9_told 96 = .ok (.ireturn, 1) := by decide +kernel
theorem dX9_told_97 : decode cX9_told 97 = .ok (.aload_n 0, 1) := by decide +kernel
theorem dX9_told_98 : decode cX9_told 98 = .ok (.iconst 5, 1) := by decide +kernel
theorem dX9_told_99 : decode cX9_told 99 = .ok (.invokevirtual 122, 3) := by decide +kernel
theorem dX9_told_102 : decode cX9_told 102 = .ok (.ireturn, 1) := by decide +kernel
theorem dX9_row_0 : decode cX9_row 0 = .ok (.aload_n 0, 1) := by decide +kernel
theorem dX9_row_1 : decode cX9_row 1 = .ok (.iconst 0, 1) := by decide +kernel
theorem dX9_row_2 : decode cX9_row 2 = .ok (.putfield 95, 3) := by decide +kernel
theorem dX9_row_5 : decode cX9_row 5 = .ok (.aload_n 0, 1) := by decide +kernel
theorem dX9_row_6 : decode cX9_row 6 = .ok (.iconst 0, 1) := by decide +kernel
theorem dX9_row_7 : decode cX9_row 7 = .ok (.putfield 98, 3) := by decide +kernel
theorem dX9_row_10 : decode cX9_row 10 = .ok (.aload_n 0, 1) := by decide +kernel
theorem dX9_row_11 : decode cX9_row 11 = .ok (.iload_n 1, 1) := by decide +kernel
theorem dX9_row_12 : decode cX9_row 12 = .ok (.invokevirtual 142, 3) := by decide +kernel
theorem dX9_row_15 : decode cX9_row 15 = .ok (.ifCond .eq 17, 3) := by decide +kernel
theorem dX9_row_18 : decode cX9_row 18 = .ok (.iload_n 2, 1) := by decide +kernel
theorem dX9_row_19 : decode cX9_row 19 = .ok (.ifCond .lt 13, 3) := by decide +kernel
theorem dX9_row_22 : decode cX9_row 22 = .ok (.iload_n 2, 1) := by decide +kernel
theorem dX9_row_23 : decode cX9_row 23 = .ok (.aload_n 0, 1) := by decide +kernel
theorem dX9_row_24 : decode cX9_row 24 = .ok (.getfield 31, 3) := by decide +kernel
theorem dX9_row_27 : decode cX9_row 27 = .ok (.iload_n 1, 1) := by decide +kernel
theorem dX9_row_28 : decode cX9_row 28 = .ok (.iaload, 1) := by decide +kernel
theorem dX9_row_29 : decode cX9_row 29 = .ok (.if_icmp .lt 9, 3) := by decide +kernel
theorem dX9_row_32 : decode cX9_row 32 = .ok (.aload_n 0, 1) := by decide +kernel
theorem dX9_row_33 : decode cX9_row 33 = .ok (.iconst 2, 1) := by decide +kernel
theorem dX9_row_34 : decode cX9_row 34 = .ok (.invokevirtual 122, 3) := by decide +kernel
theorem dX9_row_37 : decode cX9_row 37 = .ok (.ireturn, 1) := by decide +kernel
theorem dX9_row_38 : decode cX9_row 38 = .ok (.iload_n 3, 1) := by decide +kernel
theorem dX9_row_39 : decode cX9_row 39 = .ok (.ifCond .lt 8, 3) := by decide +kernel
theorem dX9_row_42 : decode cX9_row 42 = .ok (.iload_n 3, 1) := by decide +kernel
theorem dX9_row_43 : decode cX9_row 43 = .ok (.iconst 1, 1) := by decide +kernel
theorem dX9_row_44 : decode cX9_row 44 = .ok (.if_icmp .le 9, 3) := by decide +kernel
theorem dX9_row_47 : decode cX9_row 47 = .ok (.aload_n 0, 1) := by decide +kernel
theorem dX9_row_48 : decode cX9_row 48 = .ok (.iconst 5, 1) := by decide +kernel
theorem dX9_row_49 : decode cX9_row 49 = .ok (.invokevirtual 122, 3) := by decide +kernel
theorem dX9_row_52 : decode cX9_row 52 = .ok (.ireturn, 1) := by decide +kernel
theorem dX9_row_53 : decode cX9_row 53 = .ok (.iload_n 3, 1) := by decide +kernel
theorem dX9_row_54 : decode cX9_row 54 = .ok (.ifCond .ne 17, 3) := by decide +kernel
theorem dX9_row_57 : decode cX9_row 57 = .ok (.aload_n 0, 1) := by decide +kernel
theorem dX9_row_58 : decode cX9_row 58 = .ok (.getfield 43, 3) := by decide +kernel
theorem dX9_row_61 : decode cX9_row 61 = .ok (.bipush 8, 2) := by decide +kernel
theorem dX9_row_63 : decode cX9_row 63 = .ok (.iload_n 1, 1) := by decide +kernel
theorem dX9_row_64 : decode cX9_row 64 = .ok (.imul, 1) := by decide +kernel
theorem dX9_row_65 : decode cX9_row 65 = .ok (.iload_n 2, 1) := by decide +kernel
theorem dX9_row_66 : decode cX9_row 66 = .ok (.iadd, 1) := by decide +kernel
theorem dX9_row_67 : decode cX9_row 67 = .ok (.iaload, 1) := by decide +kernel
theorem dX9_row_68 : decode cX9_row 68 = .ok (.goto 14, 3) := by decide +kernel
theorem dX9_row_71 : decode cX9_row 71 = .ok (.aload_n 0, 1) := by decide +kernel
theorem dX9_row_72 : decode cX9_row 72 = .ok (.getfield 46, 3) := by decide +kernel
theorem dX9_row_75 : decode cX9_row 75 = .ok (.bipush 8, 2) := by decide +kernel
theorem dX9_row_77 : decode cX9_row 77 = .ok (.iload_n 1, 1) := by decide +kernel
theorem dX9_row_78 : decode cX9_row 78 = .ok (.imul, 1) := by decide +kernel
theorem dX9_row_79 : decode cX9_row 79 = .ok (.iload_n 2, 1) := by decide +kernel
theorem dX9_row_80 : decode cX9_row 80 = .ok (.iadd, 1) := by decide +kernel
theorem dX9_row_81 : decode cX9_row 81 = .ok (.iaload, 1) := by decide +kernel
theorem dX9_row_82 : decode cX9_row 82 = .ok (.ireturn, 1) := by decide +kernel
theorem dX9_tells_0 : decode cX9_tells 0 = .ok (.lload_n 1, 1) := by decide +kernel
theorem dX9_tells_1 : decode cX9_tells 1 = .ok (.lload_n 3, 1) := by decide +kernel
theorem dX9_tells_2 : decode cX9_tells 2 = .ok (.invokestatic 125, 3) := by decide +kernel
theorem dX9_tells_5 : decode cX9_tells 5 = .ok (.lstore 5, 2) := by decide +kernel
theorem dX9_tells_7 : decode cX9_tells 7 = .ok (.aload_n 0, 1) := by decide +kernel
theorem dX9_tells_8 : decode cX9_tells 8 = .ok (.lload_n 1, 1) := by decide +kernel
theorem dX9_tells_9 : decode cX9_tells 9 = .ok (.lload 5, 2) := by decide +kernel
theorem dX9_tells_11 : decode cX9_tells 11 = .ok (.ldiv, 1) := by decide +kernel
theorem dX9_tells_12 : decode cX9_tells 12 = .ok (.putfield 156, 3) := by decide +kernel
theorem dX9_tells_15 : decode cX9_tells 15 = .ok (.aload_n 0, 1) := by decide +kernel
theorem dX9_tells_16 : decode cX9_tells 16 = .ok (.lload_n 3, 1) := by decide +kernel
theorem dX9_tells_17 : decode cX9_tells 17 = .ok (.lload 5, 2) := by decide +kernel
theorem dX9_tells_19 : decode cX9_tells 19 = .ok (.ldiv, 1) := by decide +kernel
theorem dX9_tells_20 : decode cX9_tells 20 = .ok (.putfield 7, 3) := by decide +kernel
theorem dX9_tells_23 : decode cX9_tells 23 = .ok (.iconst 0, 1) := by decide +kernel
theorem dX9_tells_24 : decode cX9_tells 24 = .ok (.ireturn, 1) := by decide +kernel
theorem dX9_upper_0 : decode cX9_upper 0 = .ok (.aload_n 0, 1) := by decide +kernel
theorem dX9_upper_1 : decode cX9_upper 1 = .ok (.iconst 0, 1) := by decide +kernel
theorem dX9_upper_2 : decode cX9_upper 2 = .ok (.putfield 95, 3) := by decide +kernel
theorem dX9_upper_5 : decode cX9_upper 5 = .ok (.aload_n 0, 1) := by decide +kernel
theorem dX9_upper_6 : decode cX9_upper 6 = .ok (.getfield 156, 3) := by decide +kernel
theorem dX9_upper_9 : decode cX9_upper 9 = .ok (.lreturn, 1) := by decide +kernel
theorem dX9_lower_0 : decode cX9_lower 0 = .ok (.aload_n 0, 1) := by decide +kernel
theorem dX9_lower_1 : decode cX9_lower 1 = .ok (.iconst 0, 1) := by decide +kernel
theorem dX9_lower_2 : decode cX9_lower 2 = .ok (.putfield 95, 3) := by decide +kernel
theorem dX9_lower_5 : decode cX9_lower 5 = .ok (.aload_n 0, 1) := by decide +kernel
theorem dX9_lower_6 : decode cX9_lower 6 = .ok (.getfield 7, 3) := by decide +kernel
theorem dX9_lower_9 : decode cX9_lower 9 = .ok (.lreturn, 1) := by decide +kernel
theorem dX9_isGreat_0 : decode cX9_isGreat 0 = .ok (.lconst 1, 1) := by decide +kernel
theorem dX9_isGreat_1 : decode cX9_isGreat 1 = .ok (.lstore_n 1, 1) := by decide +kernel
theorem dX9_isGreat_2 : decode cX9_isGreat 2 = .ok (.iconst 0, 1) := by decide +kernel
theorem dX9_isGreat_3 : decode cX9_isGreat 3 = .ok (.istore_n 3, 1) := by decide +kernel
theorem dX9_isGreat_4 : decode cX9_isGreat 4 = .ok (.iload_n 3, 1) := by decide +kernel
theorem dX9_isGreat_5 : decode cX9_isGreat 5 = .ok (.aload_n 0, 1) := by decide +kernel
theorem dX9_isGreat_6 : decode cX9_isGreat 6 = .ok (.getfield 119, 3) := by decide +kernel
theorem dX9_isGreat_9 : decode cX9_isGreat 9 = .ok (.if_icmp .ge 28, 3) := by decide +kernel
theorem dX9_isGreat_12 : decode cX9_isGreat 12 = .ok (.lload_n 1, 1) := by decide +kernel
theorem dX9_isGreat_13 : decode cX9_isGreat 13 = .ok (.aload_n 0, 1) := by decide +kernel
theorem dX9_isGreat_14 : decode cX9_isGreat 14 = .ok (.iload_n 3, 1) := by decide +kernel
theorem dX9_isGreat_15 : decode cX9_isGreat 15 = .ok (.invokevirtual 145, 3) := by decide +kernel
theorem dX9_isGreat_18 : decode cX9_isGreat 18 = .ok (.i2l, 1) := by decide +kernel
theorem dX9_isGreat_19 : decode cX9_isGreat 19 = .ok (.lmul, 1) := by decide +kernel
theorem dX9_isGreat_20 : decode cX9_isGreat 20 = .ok (.lstore_n 1, 1) := by decide +kernel
theorem dX9_isGreat_21 : decode cX9_isGreat 21 = .ok (.lload_n 1, 1) := by decide +kernel
theorem dX9_isGreat_22 : decode cX9_isGreat 22 = .ok (.ldc2_w 159, 3) := by decide +kernel
theorem dX9_isGreat_25 : decode cX9_isGreat 25 = .ok (.lcmp, 1) := by decide +kernel
theorem dX9_isGreat_26 : decode cX9_isGreat 26 = .ok (.ifCond .le 5, 3) := by decide +kernel
theorem dX9_isGreat_29 : decode cX9_isGreat 29 = .ok (.iconst 1, 1) := by decide +kernel
theorem dX9_isGreat_30 : decode cX9_isGreat 30 = .ok (.ireturn, 1) := by decide +kernel
theorem dX9_isGreat_31 : decode cX9_isGreat 31 = .ok (.iinc 3 1, 3) := by decide +kernel
theorem dX9_isGreat_34 : decode cX9_isGreat 34 = .ok (.goto (-30), 3) := by decide +kernel
theorem dX9_isGreat_37 : decode cX9_isGreat 37 = .ok (.iconst 0, 1) := by decide +kernel
theorem dX9_isGreat_38 : decode cX9_isGreat 38 = .ok (.istore_n 3, 1) := by decide +kernel
theorem dX9_isGreat_39 : decode cX9_isGreat 39 = .ok (.iload_n 3, 1) := by decide +kernel
theorem dX9_isGreat_40 : decode cX9_isGreat 40 = .ok (.aload_n 0, 1) := by decide +kernel
theorem dX9_isGreat_41 : decode cX9_isGreat 41 = .ok (.getfield 148, 3) := by decide +kernel
theorem dX9_isGreat_44 : decode cX9_isGreat 44 = .ok (.if_icmp .ge 29, 3) := by decide +kernel
theorem dX9_isGreat_47 : decode cX9_isGreat 47 = .ok (.lload_n 1, 1) := by decide +kernel
theorem dX9_isGreat_48 : decode cX9_isGreat 48 = .ok (.aload_n 0, 1) := by decide +kernel
theorem dX9_isGreat_49 : decode cX9_isGreat 49 = .ok (.getfield 55, 3) := by decide +kernel
theorem dX9_isGreat_52 : decode cX9_isGreat 52 = .ok (.iload_n 3, 1) := by decide +kernel
theorem dX9_isGreat_53 : decode cX9_isGreat 53 = .ok (.iaload, 1) := by decide +kernel
theorem dX9_isGreat_54 : decode cX9_isGreat 54 = .ok (.i2l, 1) := by decide +kernel
theorem dX9_isGreat_55 : decode cX9_isGreat 55 = .ok (.lmul, 1) := by decide +kernel
theorem dX9_isGreat_56 : decode cX9_isGreat 56 = .ok (.lstore_n 1, 1) := by decide +kernel
theorem dX9_isGreat_57 : decode cX9_isGreat 57 = .ok (.lload_n 1, 1) := by decide +kernel
theorem dX9_isGreat_58 : decode cX9_isGreat 58 = .ok (.ldc2_w 159, 3) := by decide +kernel
theorem dX9_isGreat_61 : decode cX9_isGreat 61 = .ok (.lcmp, 1) := by decide +kernel
theorem dX9_isGreat_62 : decode cX9_isGreat 62 = .ok (.ifCond .le 5, 3) := by decide +kernel
theorem dX9_isGreat_65 : decode cX9_isGreat 65 = .ok (.iconst 1, 1) := by decide +kernel
theorem dX9_isGreat_66 : decode cX9_isGreat 66 = .ok (.ireturn, 1) := by decide +kernel
theorem dX9_isGreat_67 : decode cX9_isGreat 67 = .ok (.iinc 3 1, 3) := by decide +kernel
theorem dX9_isGreat_70 : decode cX9_isGreat 70 = .ok (.goto (-31), 3) := by decide +kernel
theorem dX9_isGreat_73 : decode cX9_isGreat 73 = .ok (.iconst 0, 1) := by decide +kernel
theorem dX9_isGreat_74 : decode cX9_isGreat 74 = .ok (.ireturn, 1) := by decide +kernel
theorem dX9_ways_0 : decode cX9_ways 0 = .ok (.aload_n 0, 1) := by decide +kernel
theorem dX9_ways_1 : decode cX9_ways 1 = .ok (.iconst 0, 1) := by decide +kernel
theorem dX9_ways_2 : decode cX9_ways 2 = .ok (.putfield 95, 3) := by decide +kernel
theorem dX9_ways_5 : decode cX9_ways 5 = .ok (.aload_n 0, 1) := by decide +kernel
theorem dX9_ways_6 : decode cX9_ways 6 = .ok (.iconst 0, 1) := by decide +kernel
theorem dX9_ways_7 : decode cX9_ways 7 = .ok (.putfield 98, 3) := by decide +kernel
theorem dX9_ways_10 : decode cX9_ways 10 = .ok (.aload_n 0, 1) := by decide +kernel
theorem dX9_ways_11 : decode cX9_ways 11 = .ok (.invokevirtual 161, 3) := by decide +kernel
theorem dX9_ways_14 : decode cX9_ways 14 = .ok (.ifCond .eq 10, 3) := by decide +kernel
theorem dX9_ways_17 : decode cX9_ways 17 = .ok (.aload_n 0, 1) := by decide +kernel
theorem dX9_ways_18 : decode cX9_ways 18 = .ok (.bipush 9, 2) := by decide +kernel
theorem dX9_ways_20 : decode cX9_ways 20 = .ok (.invokevirtual 122, 3) := by decide +kernel
theorem dX9_ways_23 : decode cX9_ways 23 = .ok (.ireturn, 1) := by decide +kernel
theorem dX9_ways_24 : decode cX9_ways 24 = .ok (.iconst 1, 1) := by decide +kernel
