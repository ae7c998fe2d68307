theorem d_M_init_0 : decode prog_4_method_1_code 0 = .ok (.aload_n 0, 1) := by decide +kernel
theorem d_M_init_1 : decode prog_4_method_1_code 1 = .ok (.invokespecial 1, 3) := by decide +kernel
theorem d_M_init_4 : decode prog_4_method_1_code 4 = .ok (.aload_n 0, 1) := by decide +kernel
theorem d_M_init_5 : decode prog_4_method_1_code 5 = .ok (.bipush 18, 2) := by decide +kernel
theorem d_M_init_7 : decode prog_4_method_1_code 7 = .ok (.newarray .int, 2) := by decide +kernel
theorem d_M_init_9 : decode prog_4_method_1_code 9 = .ok (.putfield 7, 3) := by decide +kernel
theorem d_M_init_12 : decode prog_4_method_1_code 12 = .ok (.aload_n 0, 1) := by decide +kernel
theorem d_M_init_13 : decode prog_4_method_1_code 13 = .ok (.bipush 24, 2) := by decide +kernel
theorem d_M_init_15 : decode prog_4_method_1_code 15 = .ok (.newarray .long, 2) := by decide +kernel
theorem d_M_init_17 : decode prog_4_method_1_code 17 = .ok (.putfield 13, 3) := by decide +kernel
theorem d_M_init_20 : decode prog_4_method_1_code 20 = .ok (.aload_n 0, 1) := by decide +kernel
theorem d_M_init_21 : decode prog_4_method_1_code 21 = .ok (.bipush 24, 2) := by decide +kernel
theorem d_M_init_23 : decode prog_4_method_1_code 23 = .ok (.newarray .long, 2) := by decide +kernel
theorem d_M_init_25 : decode prog_4_method_1_code 25 = .ok (.putfield 17, 3) := by decide +kernel
theorem d_M_init_28 : decode prog_4_method_1_code 28 = .ok (.aload_n 0, 1) := by decide +kernel
theorem d_M_init_29 : decode prog_4_method_1_code 29 = .ok (.bipush 6, 2) := by decide +kernel
theorem d_M_init_31 : decode prog_4_method_1_code 31 = .ok (.newarray .long, 2) := by decide +kernel
theorem d_M_init_33 : decode prog_4_method_1_code 33 = .ok (.putfield 20, 3) := by decide +kernel
theorem d_M_init_36 : decode prog_4_method_1_code 36 = .ok (.aload_n 0, 1) := by decide +kernel
theorem d_M_init_37 : decode prog_4_method_1_code 37 = .ok (.bipush 6, 2) := by decide +kernel
theorem d_M_init_39 : decode prog_4_method_1_code 39 = .ok (.newarray .long, 2) := by decide +kernel
theorem d_M_init_41 : decode prog_4_method_1_code 41 = .ok (.putfield 23, 3) := by decide +kernel
theorem d_M_init_44 : decode prog_4_method_1_code 44 = .ok (.return_, 1) := by decide +kernel
theorem d_M_thrown_0 : decode prog_4_method_2_code 0 = .ok (.aload_n 0, 1) := by decide +kernel
theorem d_M_thrown_1 : decode prog_4_method_2_code 1 = .ok (.getfield 26, 3) := by decide +kernel
theorem d_M_thrown_4 : decode prog_4_method_2_code 4 = .ok (.ireturn, 1) := by decide +kernel
theorem d_M_in_0 : decode prog_4_method_4_code 0 = .ok (.lload_n 0, 1) := by decide +kernel
theorem d_M_in_1 : decode prog_4_method_4_code 1 = .ok (.lload_n 2, 1) := by decide +kernel
theorem d_M_in_2 : decode prog_4_method_4_code 2 = .ok (.lcmp, 1) := by decide +kernel
theorem d_M_in_3 : decode prog_4_method_4_code 3 = .ok (.ifCond .lt 14, 3) := by decide +kernel
theorem d_M_in_6 : decode prog_4_method_4_code 6 = .ok (.lload_n 0, 1) := by decide +kernel
theorem d_M_in_7 : decode prog_4_method_4_code 7 = .ok (.lload 4, 2) := by decide +kernel
theorem d_M_in_9 : decode prog_4_method_4_code 9 = .ok (.lcmp, 1) := by decide +kernel
theorem d_M_in_10 : decode prog_4_method_4_code 10 = .ok (.ifCond .gt 7, 3) := by decide +kernel
theorem d_M_in_13 : decode prog_4_method_4_code 13 = .ok (.iconst 1, 1) := by decide +kernel
theorem d_M_in_14 : decode prog_4_method_4_code 14 = .ok (.goto 4, 3) := by decide +kernel
theorem d_M_in_17 : decode prog_4_method_4_code 17 = .ok (.iconst 0, 1) := by decide +kernel
theorem d_M_in_18 : decode prog_4_method_4_code 18 = .ok (.ireturn, 1) := by decide +kernel
theorem d_M_lowest_0 : decode prog_4_method_5_code 0 = .ok (.lload_n 1, 1) := by decide +kernel
theorem d_M_lowest_1 : decode prog_4_method_5_code 1 = .ok (.lconst 0, 1) := by decide +kernel
theorem d_M_lowest_2 : decode prog_4_method_5_code 2 = .ok (.lcmp, 1) := by decide +kernel
theorem d_M_lowest_3 : decode prog_4_method_5_code 3 = .ok (.ifCond .ge 8, 3) := by decide +kernel
theorem d_M_lowest_6 : decode prog_4_method_5_code 6 = .ok (.lload_n 1, 1) := by decide +kernel
theorem d_M_lowest_7 : decode prog_4_method_5_code 7 = .ok (.lneg, 1) := by decide +kernel
theorem d_M_lowest_8 : decode prog_4_method_5_code 8 = .ok (.goto 4, 3) := by decide +kernel
theorem d_M_lowest_11 : decode prog_4_method_5_code 11 = .ok (.lload_n 1, 1) := by decide +kernel
theorem d_M_lowest_12 : decode prog_4_method_5_code 12 = .ok (.lstore 5, 2) := by decide +kernel
theorem d_M_lowest_14 : decode prog_4_method_5_code 14 = .ok (.lload_n 3, 1) := by decide +kernel
theorem d_M_lowest_15 : decode prog_4_method_5_code 15 = .ok (.lconst 0, 1) := by decide +kernel
theorem d_M_lowest_16 : decode prog_4_method_5_code 16 = .ok (.lcmp, 1) := by decide +kernel
theorem d_M_lowest_17 : decode prog_4_method_5_code 17 = .ok (.ifCond .ge 8, 3) := by decide +kernel
theorem d_M_lowest_20 : decode prog_4_method_5_code 20 = .ok (.lload_n 3, 1) := by decide +kernel
theorem d_M_lowest_21 : decode prog_4_method_5_code 21 = .ok (.lneg, 1) := by decide +kernel
theorem d_M_lowest_22 : decode prog_4_method_5_code 22 = .ok (.goto 4, 3) := by decide +kernel
theorem d_M_lowest_25 : decode prog_4_method_5_code 25 = .ok (.lload_n 3, 1) := by decide +kernel
theorem d_M_lowest_26 : decode prog_4_method_5_code 26 = .ok (.lstore 7, 2) := by decide +kernel
theorem d_M_lowest_28 : decode prog_4_method_5_code 28 = .ok (.lload 7, 2) := by decide +kernel
theorem d_M_lowest_30 : decode prog_4_method_5_code 30 = .ok (.lconst 0, 1) := by decide +kernel
theorem d_M_lowest_31 : decode prog_4_method_5_code 31 = .ok (.lcmp, 1) := by decide +kernel
theorem d_M_lowest_32 : decode prog_4_method_5_code 32 = .ok (.ifCond .eq 21, 3) := by decide +kernel
theorem d_M_lowest_35 : decode prog_4_method_5_code 35 = .ok (.lload 5, 2) := by decide +kernel
theorem d_M_lowest_37 : decode prog_4_method_5_code 37 = .ok (.lload 7, 2) := by decide +kernel
theorem d_M_lowest_39 : decode prog_4_method_5_code 39 = .ok (.lrem, 1) := by decide +kernel
theorem d_M_lowest_40 : decode prog_4_method_5_code 40 = .ok (.lstore 9, 2) := by decide +kernel
theorem d_M_lowest_42 : decode prog_4_method_5_code 42 = .ok (.lload 7, 2) := by decide +kernel
theorem d_M_lowest_44 : decode prog_4_method_5_code 44 = .ok (.lstore 5, 2) := by decide +kernel
theorem d_M_lowest_46 : decode prog_4_method_5_code 46 = .ok (.lload 9, 2) := by decide +kernel
theorem d_M_lowest_48 : decode prog_4_method_5_code 48 = .ok (.lstore 7, 2) := by decide +kernel
theorem d_M_lowest_50 : decode prog_4_method_5_code 50 = .ok (.goto (-22), 3) := by decide +kernel
theorem d_M_lowest_53 : decode prog_4_method_5_code 53 = .ok (.aload_n 0, 1) := by decide +kernel
theorem d_M_lowest_54 : decode prog_4_method_5_code 54 = .ok (.lload_n 3, 1) := by decide +kernel
theorem d_M_lowest_55 : decode prog_4_method_5_code 55 = .ok (.lconst 0, 1) := by decide +kernel
theorem d_M_lowest_56 : decode prog_4_method_5_code 56 = .ok (.lcmp, 1) := by decide +kernel
theorem d_M_lowest_57 : decode prog_4_method_5_code 57 = .ok (.ifCond .ge 11, 3) := by decide +kernel
theorem d_M_lowest_60 : decode prog_4_method_5_code 60 = .ok (.lload_n 1, 1) := by decide +kernel
theorem d_M_lowest_61 : decode prog_4_method_5_code 61 = .ok (.lload 5, 2) := by decide +kernel
theorem d_M_lowest_63 : decode prog_4_method_5_code 63 = .ok (.ldiv, 1) := by decide +kernel
theorem d_M_lowest_64 : decode prog_4_method_5_code 64 = .ok (.lneg, 1) := by decide +kernel
theorem d_M_lowest_65 : decode prog_4_method_5_code 65 = .ok (.goto 7, 3) := by decide +kernel
theorem d_M_lowest_68 : decode prog_4_method_5_code 68 = .ok (.lload_n 1, 1) := by decide +kernel
theorem d_M_lowest_69 : decode prog_4_method_5_code 69 = .ok (.lload 5, 2) := by decide +kernel
theorem d_M_lowest_71 : decode prog_4_method_5_code 71 = .ok (.ldiv, 1) := by decide +kernel
theorem d_M_lowest_72 : decode prog_4_method_5_code 72 = .ok (.putfield 30, 3) := by decide +kernel
theorem d_M_lowest_75 : decode prog_4_method_5_code 75 = .ok (.aload_n 0, 1) := by decide +kernel
theorem d_M_lowest_76 : decode prog_4_method_5_code 76 = .ok (.lload_n 3, 1) := by decide +kernel
theorem d_M_lowest_77 : decode prog_4_method_5_code 77 = .ok (.lconst 0, 1) := by decide +kernel
theorem d_M_lowest_78 : decode prog_4_method_5_code 78 = .ok (.lcmp, 1) := by decide +kernel
theorem d_M_lowest_79 : decode prog_4_method_5_code 79 = .ok (.ifCond .ge 11, 3) := by decide +kernel
theorem d_M_lowest_82 : decode prog_4_method_5_code 82 = .ok (.lload_n 3, 1) := by decide +kernel
theorem d_M_lowest_83 : decode prog_4_method_5_code 83 = .ok (.lload 5, 2) := by decide +kernel
theorem d_M_lowest_85 : decode prog_4_method_5_code 85 = .ok (.ldiv, 1) := by decide +kernel
theorem d_M_lowest_86 : decode prog_4_method_5_code 86 = .ok (.lneg, 1) := by decide +kernel
theorem d_M_lowest_87 : decode prog_4_method_5_code 87 = .ok (.goto 7, 3) := by decide +kernel
theorem d_M_lowest_90 : decode prog_4_method_5_code 90 = .ok (.lload_n 3, 1) := by decide +kernel
theorem d_M_lowest_91 : decode prog_4_method_5_code 91 = .ok (.lload 5, 2) := by decide +kernel
theorem d_M_lowest_93 : decode prog_4_method_5_code 93 = .ok (.ldiv, 1) := by decide +kernel
theorem d_M_lowest_94 : decode prog_4_method_5_code 94 = .ok (.putfield 34, 3) := by decide +kernel
theorem d_M_lowest_97 : decode prog_4_method_5_code 97 = .ok (.return_, 1) := by decide +kernel
theorem d_M_line_0 : decode prog_4_method_6_code 0 = .ok (.iload_n 1, 1) := by decide +kernel
theorem d_M_line_1 : decode prog_4_method_6_code 1 = .ok (.i2l, 1) := by decide +kernel
theorem d_M_line_2 : decode prog_4_method_6_code 2 = .ok (.ldc2_w 37, 3) := by decide +kernel
theorem d_M_line_5 : decode prog_4_method_6_code 5 = .ok (.ldc2_w 39, 3) := by decide +kernel
theorem d_M_line_8 : decode prog_4_method_6_code 8 = .ok (.invokestatic 41, 3) := by decide +kernel
theorem d_M_line_11 : decode prog_4_method_6_code 11 = .ok (.ifCond .eq 43, 3) := by decide +kernel
theorem d_M_line_14 : decode prog_4_method_6_code 14 = .ok (.iload_n 2, 1) := by decide +kernel
theorem d_M_line_15 : decode prog_4_method_6_code 15 = .ok (.i2l, 1) := by decide +kernel
theorem d_M_line_16 : decode prog_4_method_6_code 16 = .ok (.ldc2_w 37, 3) := by decide +kernel
theorem d_M_line_19 : decode prog_4_method_6_code 19 = .ok (.ldc2_w 39, 3) := by decide +kernel
theorem d_M_line_22 : decode prog_4_method_6_code 22 = .ok (.invokestatic 41, 3) := by decide +kernel
theorem d_M_line_25 : decode prog_4_method_6_code 25 = .ok (.ifCond .eq 29, 3) := by decide +kernel
theorem d_M_line_28 : decode prog_4_method_6_code 28 = .ok (.iload_n 3, 1) := by decide +kernel
theorem d_M_line_29 : decode prog_4_method_6_code 29 = .ok (.i2l, 1) := by decide +kernel
theorem d_M_line_30 : decode prog_4_method_6_code 30 = .ok (.ldc2_w 37, 3) := by decide +kernel
theorem d_M_line_33 : decode prog_4_method_6_code 33 = .ok (.ldc2_w 39, 3) := by decide +kernel
theorem d_M_line_36 : decode prog_4_method_6_code 36 = .ok (.invokestatic 41, 3) := by decide +kernel
theorem d_M_line_39 : decode prog_4_method_6_code 39 = .ok (.ifCond .eq 15, 3) := by decide +kernel
theorem d_M_line_42 : decode prog_4_method_6_code 42 = .ok (.iload_n 1, 1) := by decide +kernel
theorem d_M_line_43 : decode prog_4_method_6_code 43 = .ok (.ifCond .ne 7, 3) := by decide +kernel
theorem d_M_line_46 : decode prog_4_method_6_code 46 = .ok (.iload_n 2, 1) := by decide +kernel
theorem d_M_line_47 : decode prog_4_method_6_code 47 = .ok (.ifCond .eq 7, 3) := by decide +kernel
theorem d_M_line_50 : decode prog_4_method_6_code 50 = .ok (.iconst 1, 1) := by decide +kernel
theorem d_M_line_51 : decode prog_4_method_6_code 51 = .ok (.goto 4, 3) := by decide +kernel
theorem d_M_line_54 : decode prog_4_method_6_code 54 = .ok (.iconst 0, 1) := by decide +kernel
theorem d_M_line_55 : decode prog_4_method_6_code 55 = .ok (.istore 4, 2) := by decide +kernel
theorem d_M_line_57 : decode prog_4_method_6_code 57 = .ok (.aload_n 0, 1) := by decide +kernel
theorem d_M_line_58 : decode prog_4_method_6_code 58 = .ok (.iload 4, 2) := by decide +kernel
theorem d_M_line_60 : decode prog_4_method_6_code 60 = .ok (.ifCond .ne 7, 3) := by decide +kernel
theorem d_M_line_63 : decode prog_4_method_6_code 63 = .ok (.iconst 1, 1) := by decide +kernel
theorem d_M_line_64 : decode prog_4_method_6_code 64 = .ok (.goto 17, 3) := by decide +kernel
theorem d_M_line_67 : decode prog_4_method_6_code 67 = .ok (.aload_n 0, 1) := by decide +kernel
theorem d_M_line_68 : decode prog_4_method_6_code 68 = .ok (.getfield 45, 3) := by decide +kernel
theorem d_M_line_71 : decode prog_4_method_6_code 71 = .ok (.bipush 6, 2) := by decide +kernel
theorem d_M_line_73 : decode prog_4_method_6_code 73 = .ok (.if_icmp .ne 7, 3) := by decide +kernel
theorem d_M_line_76 : decode prog_4_method_6_code 76 = .ok (.iconst 2, 1) := by decide +kernel
theorem d_M_line_77 : decode prog_4_method_6_code 77 = .ok (.goto 4, 3) := by decide +kernel
theorem d_M_line_80 : decode prog_4_method_6_code 80 = .ok (.iconst 0, 1) := by decide +kernel
theorem d_M_line_81 : decode prog_4_method_6_code 81 = .ok (.putfield 26, 3) := by decide +kernel
theorem d_M_line_84 : decode prog_4_method_6_code 84 = .ok (.aload_n 0, 1) := by decide +kernel
theorem d_M_line_85 : decode prog_4_method_6_code 85 = .ok (.getfield 26, 3) := by decide +kernel
theorem d_M_line_88 : decode prog_4_method_6_code 88 = .ok (.ifCond .le 5, 3) := by decide +kernel
theorem d_M_line_91 : decode prog_4_method_6_code 91 = .ok (.iconst 0, 1) := by decide +kernel
theorem d_M_line_92 : decode prog_4_method_6_code 92 = .ok (.ireturn, 1) := by decide +kernel
theorem d_M_line_93 : decode prog_4_method_6_code 93 = .ok (.aload_n 0, 1) := by decide +kernel
theorem d_M_line_94 : decode prog_4_method_6_code 94 = .ok (.getfield 7, 3) := by decide +kernel
theorem d_M_line_97 : decode prog_4_method_6_code 97 = .ok (.iconst 3, 1) := by decide +kernel
theorem d_M_line_98 : decode prog_4_method_6_code 98 = .ok (.aload_n 0, 1) := by decide +kernel
theorem d_M_line_99 : decode prog_4_method_6_code 99 = .ok (.getfield 45, 3) := by decide +kernel
theorem d_M_line_102 : decode prog_4_method_6_code 102 = .ok (.imul, 1) := by decide +kernel
theorem d_M_line_103 : decode prog_4_method_6_code 103 = .ok (.iload_n 1, 1) := by decide +kernel
theorem d_M_line_104 : decode prog_4_method_6_code 104 = .ok (.iastore, 1) := by decide +kernel
theorem d_M_line_105 : decode prog_4_method_6_code 105 = .ok (.aload_n 0, 1) := by decide +kernel
theorem d_M_line_106 : decode prog_4_method_6_code 106 = .ok (.getfield 7, 3) := by decide +kernel
theorem d_M_line_109 : decode prog_4_method_6_code 109 = .ok (.iconst 3, 1) := by decide +kernel
theorem d_M_line_110 : decode prog_4_method_6_code 110 = .ok (.aload_n 0, 1) := by decide +kernel
theorem d_M_line_111 : decode prog_4_method_6_code 111 = .ok (.getfield 45, 3) := by decide +kernel
theorem d_M_line_114 : decode prog_4_method_6_code 114 = .ok (.imul, 1) := by decide +kernel
theorem d_M_line_115 : decode prog_4_method_6_code 115 = .ok (.iconst 1, 1) := by decide +kernel
theorem d_M_line_116 : decode prog_4_method_6_code 116 = .ok (.iadd, 1) := by decide +kernel
theorem d_M_line_117 : decode prog_4_method_6_code 117 = .ok (.iload_n 2, 1) := by decide +kernel
theorem d_M_line_118 : decode prog_4_method_6_code 118 = .ok (.iastore, 1) := by decide +kernel
theorem d_M_line_119 : decode prog_4_method_6_code 119 = .ok (.aload_n 0, 1) := by decide +kernel
theorem d_M_line_120 : decode prog_4_method_6_code 120 = .ok (.getfield 7, 3) := by decide +kernel
theorem d_M_line_123 : decode prog_4_method_6_code 123 = .ok (.iconst 3, 1) := by decide +kernel
theorem d_M_line_124 : decode prog_4_method_6_code 124 = .ok (.aload_n 0, 1) := by decide +kernel
theorem d_M_line_125 : decode prog_4_method_6_code 125 = .ok (.getfield 45, 3) := by decide +kernel
theorem d_M_line_128 : decode prog_4_method_6_code 128 = .ok (.imul, 1) := by decide +kernel
theorem d_M_line_129 : decode prog_4_method_6_code 129 = .ok (.iconst 2, 1) := by decide +kernel
theorem d_M_line_130 : decode prog_4_method_6_code 130 = .ok (.iadd, 1) := by decide +kernel
theorem d_M_line_131 : decode prog_4_method_6_code 131 = .ok (.iload_n 3, 1) := by decide +kernel
theorem d_M_line_132 : decode prog_4_method_6_code 132 = .ok (.iastore, 1) := by decide +kernel
theorem d_M_line_133 : decode prog_4_method_6_code 133 = .ok (.aload_n 0, 1) := by decide +kernel
theorem d_M_line_134 : decode prog_4_method_6_code 134 = .ok (.dup, 1) := by decide +kernel
theorem d_M_line_135 : decode prog_4_method_6_code 135 = .ok (.getfield 45, 3) := by decide +kernel
theorem d_M_line_138 : decode prog_4_method_6_code 138 = .ok (.iconst 1, 1) := by decide +kernel
theorem d_M_line_139 : decode prog_4_method_6_code 139 = .ok (.iadd, 1) := by decide +kernel
theorem d_M_line_140 : decode prog_4_method_6_code 140 = .ok (.putfield 45, 3) := by decide +kernel
theorem d_M_line_143 : decode prog_4_method_6_code 143 = .ok (.aload_n 0, 1) := by decide +kernel
theorem d_M_line_144 : decode prog_4_method_6_code 144 = .ok (.invokevirtual 48, 3) := by decide +kernel
theorem d_M_line_147 : decode prog_4_method_6_code 147 = .ok (.aload_n 0, 1) := by decide +kernel
theorem d_M_line_148 : decode prog_4_method_6_code 148 = .ok (.getfield 45, 3) := by decide +kernel
theorem d_M_line_151 : decode prog_4_method_6_code 151 = .ok (.iconst 1, 1) := by decide +kernel
theorem d_M_line_152 : decode prog_4_method_6_code 152 = .ok (.isub, 1) := by decide +kernel
theorem d_M_line_153 : decode prog_4_method_6_code 153 = .ok (.ireturn, 1) := by decide +kernel
theorem d_M_drop_0 : decode prog_4_method_7_code 0 = .ok (.aload_n 0, 1) := by decide +kernel
theorem d_M_drop_1 : decode prog_4_method_7_code 1 = .ok (.iload_n 1, 1) := by decide +kernel
theorem d_M_drop_2 : decode prog_4_method_7_code 2 = .ok (.i2l, 1) := by decide +kernel
theorem d_M_drop_3 : decode prog_4_method_7_code 3 = .ok (.lconst 0, 1) := by decide +kernel
theorem d_M_drop_4 : decode prog_4_method_7_code 4 = .ok (.aload_n 0, 1) := by decide +kernel
theorem d_M_drop_5 : decode prog_4_method_7_code 5 = .ok (.getfield 45, 3) := by decide +kernel
theorem d_M_drop_8 : decode prog_4_method_7_code 8 = .ok (.iconst 1, 1) := by decide +kernel
theorem d_M_drop_9 : decode prog_4_method_7_code 9 = .ok (.isub, 1) := by decide +kernel
theorem d_M_drop_10 : decode prog_4_method_7_code 10 = .ok (.i2l, 1) := by decide +kernel
theorem d_M_drop_11 : decode prog_4_method_7_code 11 = .ok (.invokestatic 41, 3) := by decide +kernel
theorem d_M_drop_14 : decode prog_4_method_7_code 14 = .ok (.ifCond .eq 7, 3) := by decide +kernel
theorem d_M_drop_17 : decode prog_4_method_7_code 17 = .ok (.iconst 0, 1) := by decide +kernel
theorem d_M_drop_18 : decode prog_4_method_7_code 18 = .ok (.goto 4, 3) := by decide +kernel
theorem d_M_drop_21 : decode prog_4_method_7_code 21 = .ok (.iconst 1, 1) := by decide +kernel
theorem d_M_drop_22 : decode prog_4_method_7_code 22 = .ok (.putfield 26, 3) := by decide +kernel
theorem d_M_drop_25 : decode prog_4_method_7_code 25 = .ok (.aload_n 0, 1) := by decide +kernel
theorem d_M_drop_26 : decode prog_4_method_7_code 26 = .ok (.getfield 26, 3) := by decide +kernel
theorem d_M_drop_29 : decode prog_4_method_7_code 29 = .ok (.ifCond .le 4, 3) := by decide +kernel
theorem d_M_drop_32 : decode prog_4_method_7_code 32 = .ok (.return_, 1) := by decide +kernel
theorem d_M_drop_33 : decode prog_4_method_7_code 33 = .ok (.aload_n 0, 1) := by decide +kernel
theorem d_M_drop_34 : decode prog_4_method_7_code 34 = .ok (.dup, 1) := by decide +kernel
theorem d_M_drop_35 : decode prog_4_method_7_code 35 = .ok (.getfield 45, 3) := by decide +kernel
theorem d_M_drop_38 : decode prog_4_method_7_code 38 = .ok (.iconst 1, 1) := by decide +kernel
theorem d_M_drop_39 : decode prog_4_method_7_code 39 = .ok (.isub, 1) := by decide +kernel
theorem d_M_drop_40 : decode prog_4_method_7_code 40 = .ok (.putfield 45, 3) := by decide +kernel
theorem d_M_drop_43 : decode prog_4_method_7_code 43 = .ok (.iconst 3, 1) := by decide +kernel
theorem d_M_drop_44 : decode prog_4_method_7_code 44 = .ok (.iload_n 1, 1) := by decide +kernel
theorem d_M_drop_45 : decode prog_4_method_7_code 45 = .ok (.imul, 1) := by decide +kernel
theorem d_M_drop_46 : decode prog_4_method_7_code 46 = .ok (.istore_n 2, 1) := by decide +kernel
theorem d_M_drop_47 : decode prog_4_method_7_code 47 = .ok (.iload_n 2, 1) := by decide +kernel
theorem d_M_drop_48 : decode prog_4_method_7_code 48 = .ok (.iconst 3, 1) := by decide +kernel
theorem d_M_drop_49 : decode prog_4_method_7_code 49 = .ok (.aload_n 0, 1) := by decide +kernel
theorem d_M_drop_50 : decode prog_4_method_7_code 50 = .ok (.getfield 45, 3) := by decide +kernel
theorem d_M_drop_53 : decode prog_4_method_7_code 53 = .ok (.imul, 1) := by decide +kernel
theorem d_M_drop_54 : decode prog_4_method_7_code 54 = .ok (.if_icmp .ge 23, 3) := by decide +kernel
theorem d_M_drop_57 : decode prog_4_method_7_code 57 = .ok (.aload_n 0, 1) := by decide +kernel
theorem d_M_drop_58 : decode prog_4_method_7_code 58 = .ok (.getfield 7, 3) := by decide +kernel
theorem d_M_drop_61 : decode prog_4_method_7_code 61 = .ok (.iload_n 2, 1) := by decide +kernel
theorem d_M_drop_62 : decode prog_4_method_7_code 62 = .ok (.aload_n 0, 1) := by decide +kernel
theorem d_M_drop_63 : decode prog_4_method_7_code 63 = .ok (.getfield 7, 3) := by decide +kernel
theorem d_M_drop_66 : decode prog_4_method_7_code 66 = .ok (.iload_n 2, 1) := by decide +kernel
theorem d_M_drop_67 : decode prog_4_method_7_code 67 = .ok (.iconst 3, 1) := by decide +kernel
theorem d_M_drop_68 : decode prog_4_method_7_code 68 = .ok (.iadd, 1) := by decide +kernel
theorem d_M_drop_69 : decode prog_4_method_7_code 69 = .ok (.iaload, 1) := by decide +kernel
theorem d_M_drop_70 : decode prog_4_method_7_code 70 = .ok (.iastore, 1) := by decide +kernel
theorem d_M_drop_71 : decode prog_4_method_7_code 71 = .ok (.iinc 2 1, 3) := by decide +kernel
theorem d_M_drop_74 : decode prog_4_method_7_code 74 = .ok (.goto (-27), 3) := by decide +kernel
theorem d_M_drop_77 : decode prog_4_method_7_code 77 = .ok (.aload_n 0, 1) := by decide +kernel
theorem d_M_drop_78 : decode prog_4_method_7_code 78 = .ok (.invokevirtual 48, 3) := by decide +kernel
theorem d_M_drop_81 : decode prog_4_method_7_code 81 = .ok (.return_, 1) := by decide +kernel
theorem d_M_lines_0 : decode prog_4_method_8_code 0 = .ok (.aload_n 0, 1) := by decide +kernel
theorem d_M_lines_1 : decode prog_4_method_8_code 1 = .ok (.iconst 0, 1) := by decide +kernel
theorem d_M_lines_2 : decode prog_4_method_8_code 2 = .ok (.putfield 26, 3) := by decide +kernel
theorem d_M_lines_5 : decode prog_4_method_8_code 5 = .ok (.aload_n 0, 1) := by decide +kernel
theorem d_M_lines_6 : decode prog_4_method_8_code 6 = .ok (.getfield 45, 3) := by decide +kernel
theorem d_M_lines_9 : decode prog_4_method_8_code 9 = .ok (.ireturn, 1) := by decide +kernel
theorem d_M_look_0 : decode prog_4_method_9_code 0 = .ok (.aload_n 0, 1) := by decide +kernel
theorem d_M_look_1 : decode prog_4_method_9_code 1 = .ok (.iconst 0, 1) := by decide +kernel
theorem d_M_look_2 : decode prog_4_method_9_code 2 = .ok (.putfield 51, 3) := by decide +kernel
theorem d_M_look_5 : decode prog_4_method_9_code 5 = .ok (.iconst 0, 1) := by decide +kernel
theorem d_M_look_6 : decode prog_4_method_9_code 6 = .ok (.istore_n 1, 1) := by decide +kernel
theorem d_M_look_7 : decode prog_4_method_9_code 7 = .ok (.iload_n 1, 1) := by decide +kernel
theorem d_M_look_8 : decode prog_4_method_9_code 8 = .ok (.aload_n 0, 1) := by decide +kernel
theorem d_M_look_9 : decode prog_4_method_9_code 9 = .ok (.getfield 45, 3) := by decide +kernel
theorem d_M_look_12 : decode prog_4_method_9_code 12 = .ok (.if_icmp .ge 168, 3) := by decide +kernel
theorem d_M_look_15 : decode prog_4_method_9_code 15 = .ok (.aload_n 0, 1) := by decide +kernel
theorem d_M_look_16 : decode prog_4_method_9_code 16 = .ok (.getfield 7, 3) := by decide +kernel
theorem d_M_look_19 : decode prog_4_method_9_code 19 = .ok (.iconst 3, 1) := by decide +kernel
theorem d_M_look_20 : decode prog_4_method_9_code 20 = .ok (.iload_n 1, 1) := by decide +kernel
theorem d_M_look_21 : decode prog_4_method_9_code 21 = .ok (.imul, 1) := by decide +kernel
theorem d_M_look_22 : decode prog_4_method_9_code 22 = .ok (.iconst 1, 1) := by decide +kernel
theorem d_M_look_23 : decode prog_4_method_9_code 23 = .ok (.iadd, 1) := by decide +kernel
theorem d_M_look_24 : decode prog_4_method_9_code 24 = .ok (.iaload, 1) := by decide +kernel
theorem d_M_look_25 : decode prog_4_method_9_code 25 = .ok (.ifCond .ne 32, 3) := by decide +kernel
theorem d_M_look_28 : decode prog_4_method_9_code 28 = .ok (.aload_n 0, 1) := by decide +kernel
theorem d_M_look_29 : decode prog_4_method_9_code 29 = .ok (.aload_n 0, 1) := by decide +kernel
theorem d_M_look_30 : decode prog_4_method_9_code 30 = .ok (.getfield 7, 3) := by decide +kernel
theorem d_M_look_33 : decode prog_4_method_9_code 33 = .ok (.iconst 3, 1) := by decide +kernel
theorem d_M_look_34 : decode prog_4_method_9_code 34 = .ok (.iload_n 1, 1) := by decide +kernel
theorem d_M_look_35 : decode prog_4_method_9_code 35 = .ok (.imul, 1) := by decide +kernel
theorem d_M_look_36 : decode prog_4_method_9_code 36 = .ok (.iconst 2, 1) := by decide +kernel
theorem d_M_look_37 : decode prog_4_method_9_code 37 = .ok (.iadd, 1) := by decide +kernel
theorem d_M_look_38 : decode prog_4_method_9_code 38 = .ok (.iaload, 1) := by decide +kernel
theorem d_M_look_39 : decode prog_4_method_9_code 39 = .ok (.ineg, 1) := by decide +kernel
theorem d_M_look_40 : decode prog_4_method_9_code 40 = .ok (.i2l, 1) := by decide +kernel
theorem d_M_look_41 : decode prog_4_method_9_code 41 = .ok (.aload_n 0, 1) := by decide +kernel
theorem d_M_look_42 : decode prog_4_method_9_code 42 = .ok (.getfield 7, 3) := by decide +kernel
theorem d_M_look_45 : decode prog_4_method_9_code 45 = .ok (.iconst 3, 1) := by decide +kernel
theorem d_M_look_46 : decode prog_4_method_9_code 46 = .ok (.iload_n 1, 1) := by decide +kernel
theorem d_M_look_47 : decode prog_4_method_9_code 47 = .ok (.imul, 1) := by decide +kernel
theorem d_M_look_48 : decode prog_4_method_9_code 48 = .ok (.iaload, 1) := by decide +kernel
theorem d_M_look_49 : decode prog_4_method_9_code 49 = .ok (.i2l, 1) := by decide +kernel
theorem d_M_look_50 : decode prog_4_method_9_code 50 = .ok (.invokevirtual 54, 3) := by decide +kernel
theorem d_M_look_53 : decode prog_4_method_9_code 53 = .ok (.aload_n 0, 1) := by decide +kernel
theorem d_M_look_54 : decode prog_4_method_9_code 54 = .ok (.invokevirtual 58, 3) := by decide +kernel
theorem d_M_look_57 : decode prog_4_method_9_code 57 = .ok (.iconst 0, 1) := by decide +kernel
theorem d_M_look_58 : decode prog_4_method_9_code 58 = .ok (.istore_n 2, 1) := by decide +kernel
theorem d_M_look_59 : decode prog_4_method_9_code 59 = .ok (.iload_n 2, 1) := by decide +kernel
theorem d_M_look_60 : decode prog_4_method_9_code 60 = .ok (.iload_n 1, 1) := by decide +kernel
theorem d_M_look_61 : decode prog_4_method_9_code 61 = .ok (.if_icmp .ge 113, 3) := by decide +kernel
theorem d_M_look_64 : decode prog_4_method_9_code 64 = .ok (.aload_n 0, 1) := by decide +kernel
theorem d_M_look_65 : decode prog_4_method_9_code 65 = .ok (.getfield 7, 3) := by decide +kernel
theorem d_M_look_68 : decode prog_4_method_9_code 68 = .ok (.iconst 3, 1) := by decide +kernel
theorem d_M_look_69 : decode prog_4_method_9_code 69 = .ok (.iload_n 1, 1) := by decide +kernel
theorem d_M_look_70 : decode prog_4_method_9_code 70 = .ok (.imul, 1) := by decide +kernel
theorem d_M_look_71 : decode prog_4_method_9_code 71 = .ok (.iaload, 1) := by decide +kernel
theorem d_M_look_72 : decode prog_4_method_9_code 72 = .ok (.aload_n 0, 1) := by decide +kernel
theorem d_M_look_73 : decode prog_4_method_9_code 73 = .ok (.getfield 7, 3) := by decide +kernel
theorem d_M_look_76 : decode prog_4_method_9_code 76 = .ok (.iconst 3, 1) := by decide +kernel
theorem d_M_look_77 : decode prog_4_method_9_code 77 = .ok (.iload_n 2, 1) := by decide +kernel
theorem d_M_look_78 : decode prog_4_method_9_code 78 = .ok (.imul, 1) := by decide +kernel
theorem d_M_look_79 : decode prog_4_method_9_code 79 = .ok (.iconst 1, 1) := by decide +kernel
theorem d_M_look_80 : decode prog_4_method_9_code 80 = .ok (.iadd, 1) := by decide +kernel
theorem d_M_look_81 : decode prog_4_method_9_code 81 = .ok (.iaload, 1) := by decide +kernel
theorem d_M_look_82 : decode prog_4_method_9_code 82 = .ok (.imul, 1) := by decide +kernel
theorem d_M_look_83 : decode prog_4_method_9_code 83 = .ok (.aload_n 0, 1) := by decide +kernel
theorem d_M_look_84 : decode prog_4_method_9_code 84 = .ok (.getfield 7, 3) := by decide +kernel
theorem d_M_look_87 : decode prog_4_method_9_code 87 = .ok (.iconst 3, 1) := by decide +kernel
theorem d_M_look_88 : decode prog_4_method_9_code 88 = .ok (.iload_n 2, 1) := by decide +kernel
theorem d_M_look_89 : decode prog_4_method_9_code 89 = .ok (.imul, 1) := by decide +kernel
theorem d_M_look_90 : decode prog_4_method_9_code 90 = .ok (.iaload, 1) := by decide +kernel
theorem d_M_look_91 : decode prog_4_method_9_code 91 = .ok (.aload_n 0, 1) := by decide +kernel
theorem d_M_look_92 : decode prog_4_method_9_code 92 = .ok (.getfield 7, 3) := by decide +kernel
theorem d_M_look_95 : decode prog_4_method_9_code 95 = .ok (.iconst 3, 1) := by decide +kernel
theorem d_M_look_96 : decode prog_4_method_9_code 96 = .ok (.iload_n 1, 1) := by decide +kernel
theorem d_M_look_97 : decode prog_4_method_9_code 97 = .ok (.imul, 1) := by decide +kernel
theorem d_M_look_98 : decode prog_4_method_9_code 98 = .ok (.iconst 1, 1) := by decide +kernel
theorem d_M_look_99 : decode prog_4_method_9_code 99 = .ok (.iadd, 1) := by decide +kernel
theorem d_M_look_100 : decode prog_4_method_9_code 100 = .ok (.iaload, 1) := by decide +kernel
theorem d_M_look_101 : decode prog_4_method_9_code 101 = .ok (.imul, 1) := by decide +kernel
theorem d_M_look_102 : decode prog_4_method_9_code 102 = .ok (.isub, 1) := by decide +kernel
theorem d_M_look_103 : decode prog_4_method_9_code 103 = .ok (.istore_n 3, 1) := by decide +kernel
theorem d_M_look_104 : decode prog_4_method_9_code 104 = .ok (.iload_n 3, 1) := by decide +kernel
theorem d_M_look_105 : decode prog_4_method_9_code 105 = .ok (.ifCond .ne 6, 3) := by decide +kernel
theorem d_M_look_108 : decode prog_4_method_9_code 108 = .ok (.goto 60, 3) := by decide +kernel
theorem d_M_look_111 : decode prog_4_method_9_code 111 = .ok (.aload_n 0, 1) := by decide +kernel
theorem d_M_look_112 : decode prog_4_method_9_code 112 = .ok (.aload_n 0, 1) := by decide +kernel
theorem d_M_look_113 : decode prog_4_method_9_code 113 = .ok (.getfield 7, 3) := by decide +kernel
theorem d_M_look_116 : decode prog_4_method_9_code 116 = .ok (.iconst 3, 1) := by decide +kernel
theorem d_M_look_117 : decode prog_4_method_9_code 117 = .ok (.iload_n 1, 1) := by decide +kernel
theorem d_M_look_118 : decode prog_4_method_9_code 118 = .ok (.imul, 1) := by decide +kernel
theorem d_M_look_119 : decode prog_4_method_9_code 119 = .ok (.iconst 1, 1) := by decide +kernel
theorem d_M_look_120 : decode prog_4_method_9_code 120 = .ok (.iadd, 1) := by decide +kernel
theorem d_M_look_121 : decode prog_4_method_9_code 121 = .ok (.iaload, 1) := by decide +kernel
theorem d_M_look_122 : decode prog_4_method_9_code 122 = .ok (.i2l, 1) := by decide +kernel
theorem d_M_look_123 : decode prog_4_method_9_code 123 = .ok (.aload_n 0, 1) := by decide +kernel
theorem d_M_look_124 : decode prog_4_method_9_code 124 = .ok (.getfield 7, 3) := by decide +kernel
theorem d_M_look_127 : decode prog_4_method_9_code 127 = .ok (.iconst 3, 1) := by decide +kernel
theorem d_M_look_128 : decode prog_4_method_9_code 128 = .ok (.iload_n 2, 1) := by decide +kernel
theorem d_M_look_129 : decode prog_4_method_9_code 129 = .ok (.imul, 1) := by decide +kernel
theorem d_M_look_130 : decode prog_4_method_9_code 130 = .ok (.iconst 2, 1) := by decide +kernel
theorem d_M_look_131 : decode prog_4_method_9_code 131 = .ok (.iadd, 1) := by decide +kernel
theorem d_M_look_132 : decode prog_4_method_9_code 132 = .ok (.iaload, 1) := by decide +kernel
theorem d_M_look_133 : decode prog_4_method_9_code 133 = .ok (.i2l, 1) := by decide +kernel
theorem d_M_look_134 : decode prog_4_method_9_code 134 = .ok (.lmul, 1) := by decide +kernel
theorem d_M_look_135 : decode prog_4_method_9_code 135 = .ok (.aload_n 0, 1) := by decide +kernel
theorem d_M_look_136 : decode prog_4_method_9_code 136 = .ok (.getfield 7, 3) := by decide +kernel
theorem d_M_look_139 : decode prog_4_method_9_code 139 = .ok (.iconst 3, 1) := by decide +kernel
theorem d_M_look_140 : decode prog_4_method_9_code 140 = .ok (.iload_n 2, 1) := by decide +kernel
theorem d_M_look_141 : decode prog_4_method_9_code 141 = .ok (.imul, 1) := by decide +kernel
theorem d_M_look_142 : decode prog_4_method_9_code 142 = .ok (.iconst 1, 1) := by decide +kernel
theorem d_M_look_143 : decode prog_4_method_9_code 143 = .ok (.iadd, 1) := by decide +kernel
theorem d_M_look_144 : decode prog_4_method_9_code 144 = .ok (.iaload, 1) := by decide +kernel
theorem d_M_look_145 : decode prog_4_method_9_code 145 = .ok (.i2l, 1) := by decide +kernel
theorem d_M_look_146 : decode prog_4_method_9_code 146 = .ok (.aload_n 0, 1) := by decide +kernel
theorem d_M_look_147 : decode prog_4_method_9_code 147 = .ok (.getfield 7, 3) := by decide +kernel
theorem d_M_look_150 : decode prog_4_method_9_code 150 = .ok (.iconst 3, 1) := by decide +kernel
theorem d_M_look_151 : decode prog_4_method_9_code 151 = .ok (.iload_n 1, 1) := by decide +kernel
theorem d_M_look_152 : decode prog_4_method_9_code 152 = .ok (.imul, 1) := by decide +kernel
theorem d_M_look_153 : decode prog_4_method_9_code 153 = .ok (.iconst 2, 1) := by decide +kernel
theorem d_M_look_154 : decode prog_4_method_9_code 154 = .ok (.iadd, 1) := by decide +kernel
theorem d_M_look_155 : decode prog_4_method_9_code 155 = .ok (.iaload, 1) := by decide +kernel
theorem d_M_look_156 : decode prog_4_method_9_code 156 = .ok (.i2l, 1) := by decide +kernel
theorem d_M_look_157 : decode prog_4_method_9_code 157 = .ok (.lmul, 1) := by decide +kernel
theorem d_M_look_158 : decode prog_4_method_9_code 158 = .ok (.lsub, 1) := by decide +kernel
theorem d_M_look_159 : decode prog_4_method_9_code 159 = .ok (.iload_n 3, 1) := by decide +kernel
theorem d_M_look_160 : decode prog_4_method_9_code 160 = .ok (.i2l, 1) := by decide +kernel
theorem d_M_look_161 : decode prog_4_method_9_code 161 = .ok (.invokevirtual 54, 3) := by decide +kernel
theorem d_M_look_164 : decode prog_4_method_9_code 164 = .ok (.aload_n 0, 1) := by decide +kernel
theorem d_M_look_165 : decode prog_4_method_9_code 165 = .ok (.invokevirtual 58, 3) := by decide +kernel
theorem d_M_look_168 : decode prog_4_method_9_code 168 = .ok (.iinc 2 1, 3) := by decide +kernel
theorem d_M_look_171 : decode prog_4_method_9_code 171 = .ok (.goto (-112), 3) := by decide +kernel
theorem d_M_look_174 : decode prog_4_method_9_code 174 = .ok (.iinc 1 1, 3) := by decide +kernel
theorem d_M_look_177 : decode prog_4_method_9_code 177 = .ok (.goto (-170), 3) := by decide +kernel
theorem d_M_look_180 : decode prog_4_method_9_code 180 = .ok (.return_, 1) := by decide +kernel
theorem d_M_keepCut_0 : decode prog_4_method_10_code 0 = .ok (.iconst 0, 1) := by decide +kernel
theorem d_M_keepCut_1 : decode prog_4_method_10_code 1 = .ok (.istore_n 1, 1) := by decide +kernel
theorem d_M_keepCut_2 : decode prog_4_method_10_code 2 = .ok (.iload_n 1, 1) := by decide +kernel
theorem d_M_keepCut_3 : decode prog_4_method_10_code 3 = .ok (.aload_n 0, 1) := by decide +kernel
theorem d_M_keepCut_4 : decode prog_4_method_10_code 4 = .ok (.getfield 51, 3) := by decide +kernel
theorem d_M_keepCut_7 : decode prog_4_method_10_code 7 = .ok (.if_icmp .ge 35, 3) := by decide +kernel
theorem d_M_keepCut_10 : decode prog_4_method_10_code 10 = .ok (.aload_n 0, 1) := by decide +kernel
theorem d_M_keepCut_11 : decode prog_4_method_10_code 11 = .ok (.getfield 13, 3) := by decide +kernel
theorem d_M_keepCut_14 : decode prog_4_method_10_code 14 = .ok (.iload_n 1, 1) := by decide +kernel
theorem d_M_keepCut_15 : decode prog_4_method_10_code 15 = .ok (.laload, 1) := by decide +kernel
theorem d_M_keepCut_16 : decode prog_4_method_10_code 16 = .ok (.aload_n 0, 1) := by decide +kernel
theorem d_M_keepCut_17 : decode prog_4_method_10_code 17 = .ok (.getfield 34, 3) := by decide +kernel
theorem d_M_keepCut_20 : decode prog_4_method_10_code 20 = .ok (.lmul, 1) := by decide +kernel
theorem d_M_keepCut_21 : decode prog_4_method_10_code 21 = .ok (.aload_n 0, 1) := by decide +kernel
theorem d_M_keepCut_22 : decode prog_4_method_10_code 22 = .ok (.getfield 30, 3) := by decide +kernel
theorem d_M_keepCut_25 : decode prog_4_method_10_code 25 = .ok (.aload_n 0, 1) := by decide +kernel
theorem d_M_keepCut_26 : decode prog_4_method_10_code 26 = .ok (.getfield 17, 3) := by decide +kernel
theorem d_M_keepCut_29 : decode prog_4_method_10_code 29 = .ok (.iload_n 1, 1) := by decide +kernel
theorem d_M_keepCut_30 : decode prog_4_method_10_code 30 = .ok (.laload, 1) := by decide +kernel
theorem d_M_keepCut_31 : decode prog_4_method_10_code 31 = .ok (.lmul, 1) := by decide +kernel
theorem d_M_keepCut_32 : decode prog_4_method_10_code 32 = .ok (.lcmp, 1) := by decide +kernel
theorem d_M_keepCut_33 : decode prog_4_method_10_code 33 = .ok (.ifCond .ge 9, 3) := by decide +kernel
theorem d_M_keepCut_36 : decode prog_4_method_10_code 36 = .ok (.iinc 1 1, 3) := by decide +kernel
theorem d_M_keepCut_39 : decode prog_4_method_10_code 39 = .ok (.goto (-37), 3) := by decide +kernel
theorem d_M_keepCut_42 : decode prog_4_method_10_code 42 = .ok (.iload_n 1, 1) := by decide +kernel
theorem d_M_keepCut_43 : decode prog_4_method_10_code 43 = .ok (.aload_n 0, 1) := by decide +kernel
theorem d_M_keepCut_44 : decode prog_4_method_10_code 44 = .ok (.getfield 51, 3) := by decide +kernel
theorem d_M_keepCut_47 : decode prog_4_method_10_code 47 = .ok (.if_icmp .ge 32, 3) := by decide +kernel
theorem d_M_keepCut_50 : decode prog_4_method_10_code 50 = .ok (.aload_n 0, 1) := by decide +kernel
theorem d_M_keepCut_51 : decode prog_4_method_10_code 51 = .ok (.getfield 13, 3) := by decide +kernel
theorem d_M_keepCut_54 : decode prog_4_method_10_code 54 = .ok (.iload_n 1, 1) := by decide +kernel
theorem d_M_keepCut_55 : decode prog_4_method_10_code 55 = .ok (.laload, 1) := by decide +kernel
theorem d_M_keepCut_56 : decode prog_4_method_10_code 56 = .ok (.aload_n 0, 1) := by decide +kernel
theorem d_M_keepCut_57 : decode prog_4_method_10_code 57 = .ok (.getfield 30, 3) := by decide +kernel
theorem d_M_keepCut_60 : decode prog_4_method_10_code 60 = .ok (.lcmp, 1) := by decide +kernel
theorem d_M_keepCut_61 : decode prog_4_method_10_code 61 = .ok (.ifCond .ne 18, 3) := by decide +kernel
theorem d_M_keepCut_64 : decode prog_4_method_10_code 64 = .ok (.aload_n 0, 1) := by decide +kernel
theorem d_M_keepCut_65 : decode prog_4_method_10_code 65 = .ok (.getfield 17, 3) := by decide +kernel
theorem d_M_keepCut_68 : decode prog_4_method_10_code 68 = .ok (.iload_n 1, 1) := by decide +kernel
theorem d_M_keepCut_69 : decode prog_4_method_10_code 69 = .ok (.laload, 1) := by decide +kernel
theorem d_M_keepCut_70 : decode prog_4_method_10_code 70 = .ok (.aload_n 0, 1) := by decide +kernel
theorem d_M_keepCut_71 : decode prog_4_method_10_code 71 = .ok (.getfield 34, 3) := by decide +kernel
theorem d_M_keepCut_74 : decode prog_4_method_10_code 74 = .ok (.lcmp, 1) := by decide +kernel
theorem d_M_keepCut_75 : decode prog_4_method_10_code 75 = .ok (.ifCond .ne 4, 3) := by decide +kernel
theorem d_M_keepCut_78 : decode prog_4_method_10_code 78 = .ok (.return_, 1) := by decide +kernel
theorem d_M_keepCut_79 : decode prog_4_method_10_code 79 = .ok (.aload_n 0, 1) := by decide +kernel
theorem d_M_keepCut_80 : decode prog_4_method_10_code 80 = .ok (.getfield 51, 3) := by decide +kernel
theorem d_M_keepCut_83 : decode prog_4_method_10_code 83 = .ok (.istore_n 2, 1) := by decide +kernel
theorem d_M_keepCut_84 : decode prog_4_method_10_code 84 = .ok (.iload_n 2, 1) := by decide +kernel
theorem d_M_keepCut_85 : decode prog_4_method_10_code 85 = .ok (.iload_n 1, 1) := by decide +kernel
theorem d_M_keepCut_86 : decode prog_4_method_10_code 86 = .ok (.if_icmp .le 37, 3) := by decide +kernel
theorem d_M_keepCut_89 : decode prog_4_method_10_code 89 = .ok (.aload_n 0, 1) := by decide +kernel
theorem d_M_keepCut_90 : decode prog_4_method_10_code 90 = .ok (.getfield 13, 3) := by decide +kernel
theorem d_M_keepCut_93 : decode prog_4_method_10_code 93 = .ok (.iload_n 2, 1) := by decide +kernel
theorem d_M_keepCut_94 : decode prog_4_method_10_code 94 = .ok (.aload_n 0, 1) := by decide +kernel
theorem d_M_keepCut_95 : decode prog_4_method_10_code 95 = .ok (.getfield 13, 3) := by decide +kernel
theorem d_M_keepCut_98 : decode prog_4_method_10_code 98 = .ok (.iload_n 2, 1) := by decide +kernel
theorem d_M_keepCut_99 : decode prog_4_method_10_code 99 = .ok (.iconst 1, 1) := by decide +kernel
theorem d_M_keepCut_100 : decode prog_4_method_10_code 100 = .ok (.isub, 1) := by decide +kernel
theorem d_M_keepCut_101 : decode prog_4_method_10_code 101 = .ok (.laload, 1) := by decide +kernel
theorem d_M_keepCut_102 : decode prog_4_method_10_code 102 = .ok (.lastore, 1) := by decide +kernel
theorem d_M_keepCut_103 : decode prog_4_method_10_code 103 = .ok (.aload_n 0, 1) := by decide +kernel
theorem d_M_keepCut_104 : decode prog_4_method_10_code 104 = .ok (.getfield 17, 3) := by decide +kernel
theorem d_M_keepCut_107 : decode prog_4_method_10_code 107 = .ok (.iload_n 2, 1) := by decide +kernel
theorem d_M_keepCut_108 : decode prog_4_method_10_code 108 = .ok (.aload_n 0, 1) := by decide +kernel
theorem d_M_keepCut_109 : decode prog_4_method_10_code 109 = .ok (.getfield 17, 3) := by decide +kernel
theorem d_M_keepCut_112 : decode prog_4_method_10_code 112 = .ok (.iload_n 2, 1) := by decide +kernel
theorem d_M_keepCut_113 : decode prog_4_method_10_code 113 = .ok (.iconst 1, 1) := by decide +kernel
theorem d_M_keepCut_114 : decode prog_4_method_10_code 114 = .ok (.isub, 1) := by decide +kernel
theorem d_M_keepCut_115 : decode prog_4_method_10_code 115 = .ok (.laload, 1) := by decide +kernel
theorem d_M_keepCut_116 : decode prog_4_method_10_code 116 = .ok (.lastore, 1) := by decide +kernel
theorem d_M_keepCut_117 : decode prog_4_method_10_code 117 = .ok (.iinc 2 (-1), 3) := by decide +kernel
theorem d_M_keepCut_120 : decode prog_4_method_10_code 120 = .ok (.goto (-36), 3) := by decide +kernel
theorem d_M_keepCut_123 : decode prog_4_method_10_code 123 = .ok (.aload_n 0, 1) := by decide +kernel
theorem d_M_keepCut_124 : decode prog_4_method_10_code 124 = .ok (.getfield 13, 3) := by decide +kernel
theorem d_M_keepCut_127 : decode prog_4_method_10_code 127 = .ok (.iload_n 1, 1) := by decide +kernel
theorem d_M_keepCut_128 : decode prog_4_method_10_code 128 = .ok (.aload_n 0, 1) := by decide +kernel
theorem d_M_keepCut_129 : decode prog_4_method_10_code 129 = .ok (.getfield 30, 3) := by decide +kernel
theorem d_M_keepCut_132 : decode prog_4_method_10_code 132 = .ok (.lastore, 1) := by decide +kernel
theorem d_M_keepCut_133 : decode prog_4_method_10_code 133 = .ok (.aload_n 0, 1) := by decide +kernel
theorem d_M_keepCut_134 : decode prog_4_method_10_code 134 = .ok (.getfield 17, 3) := by decide +kernel
theorem d_M_keepCut_137 : decode prog_4_method_10_code 137 = .ok (.iload_n 1, 1) := by decide +kernel
theorem d_M_keepCut_138 : decode prog_4_method_10_code 138 = .ok (.aload_n 0, 1) := by decide +kernel
theorem d_M_keepCut_139 : decode prog_4_method_10_code 139 = .ok (.getfield 34, 3) := by decide +kernel
theorem d_M_keepCut_142 : decode prog_4_method_10_code 142 = .ok (.lastore, 1) := by decide +kernel
theorem d_M_keepCut_143 : decode prog_4_method_10_code 143 = .ok (.aload_n 0, 1) := by decide +kernel
theorem d_M_keepCut_144 : decode prog_4_method_10_code 144 = .ok (.dup, 1) := by decide +kernel
theorem d_M_keepCut_145 : decode prog_4_method_10_code 145 = .ok (.getfield 51, 3) := by decide +kernel
theorem d_M_keepCut_148 : decode prog_4_method_10_code 148 = .ok (.iconst 1, 1) := by decide +kernel
theorem d_M_keepCut_149 : decode prog_4_method_10_code 149 = .ok (.iadd, 1) := by decide +kernel
theorem d_M_keepCut_150 : decode prog_4_method_10_code 150 = .ok (.putfield 51, 3) := by decide +kernel
theorem d_M_keepCut_153 : decode prog_4_method_10_code 153 = .ok (.return_, 1) := by decide +kernel
theorem d_M_cuts_0 : decode prog_4_method_11_code 0 = .ok (.aload_n 0, 1) := by decide +kernel
theorem d_M_cuts_1 : decode prog_4_method_11_code 1 = .ok (.iconst 0, 1) := by decide +kernel
theorem d_M_cuts_2 : decode prog_4_method_11_code 2 = .ok (.putfield 26, 3) := by decide +kernel
theorem d_M_cuts_5 : decode prog_4_method_11_code 5 = .ok (.aload_n 0, 1) := by decide +kernel
theorem d_M_cuts_6 : decode prog_4_method_11_code 6 = .ok (.getfield 51, 3) := by decide +kernel
theorem d_M_cuts_9 : decode prog_4_method_11_code 9 = .ok (.ireturn, 1) := by decide +kernel
theorem d_M_told_0 : decode prog_4_method_12_code 0 = .ok (.iload_n 1, 1) := by decide +kernel
theorem d_M_told_1 : decode prog_4_method_12_code 1 = .ok (.ifCond .ne 10, 3) := by decide +kernel
theorem d_M_told_4 : decode prog_4_method_12_code 4 = .ok (.aload_n 0, 1) := by decide +kernel
theorem d_M_told_5 : decode prog_4_method_12_code 5 = .ok (.getfield 30, 3) := by decide +kernel
theorem d_M_told_8 : decode prog_4_method_12_code 8 = .ok (.goto 7, 3) := by decide +kernel
theorem d_M_told_11 : decode prog_4_method_12_code 11 = .ok (.aload_n 0, 1) := by decide +kernel
theorem d_M_told_12 : decode prog_4_method_12_code 12 = .ok (.getfield 34, 3) := by decide +kernel
theorem d_M_told_15 : decode prog_4_method_12_code 15 = .ok (.lreturn, 1) := by decide +kernel
theorem d_M_cut_0 : decode prog_4_method_13_code 0 = .ok (.aload_n 0, 1) := by decide +kernel
theorem d_M_cut_1 : decode prog_4_method_13_code 1 = .ok (.iload_n 1, 1) := by decide +kernel
theorem d_M_cut_2 : decode prog_4_method_13_code 2 = .ok (.i2l, 1) := by decide +kernel
theorem d_M_cut_3 : decode prog_4_method_13_code 3 = .ok (.lconst 0, 1) := by decide +kernel
theorem d_M_cut_4 : decode prog_4_method_13_code 4 = .ok (.aload_n 0, 1) := by decide +kernel
theorem d_M_cut_5 : decode prog_4_method_13_code 5 = .ok (.getfield 51, 3) := by decide +kernel
theorem d_M_cut_8 : decode prog_4_method_13_code 8 = .ok (.iconst 1, 1) := by decide +kernel
theorem d_M_cut_9 : decode prog_4_method_13_code 9 = .ok (.isub, 1) := by decide +kernel
theorem d_M_cut_10 : decode prog_4_method_13_code 10 = .ok (.i2l, 1) := by decide +kernel
theorem d_M_cut_11 : decode prog_4_method_13_code 11 = .ok (.invokestatic 41, 3) := by decide +kernel
theorem d_M_cut_14 : decode prog_4_method_13_code 14 = .ok (.ifCond .ne 7, 3) := by decide +kernel
theorem d_M_cut_17 : decode prog_4_method_13_code 17 = .ok (.iconst 1, 1) := by decide +kernel
theorem d_M_cut_18 : decode prog_4_method_13_code 18 = .ok (.goto 18, 3) := by decide +kernel
theorem d_M_cut_21 : decode prog_4_method_13_code 21 = .ok (.iload_n 2, 1) := by decide +kernel
theorem d_M_cut_22 : decode prog_4_method_13_code 22 = .ok (.i2l, 1) := by decide +kernel
theorem d_M_cut_23 : decode prog_4_method_13_code 23 = .ok (.lconst 0, 1) := by decide +kernel
theorem d_M_cut_24 : decode prog_4_method_13_code 24 = .ok (.lconst 1, 1) := by decide +kernel
theorem d_M_cut_25 : decode prog_4_method_13_code 25 = .ok (.invokestatic 41, 3) := by decide +kernel
theorem d_M_cut_28 : decode prog_4_method_13_code 28 = .ok (.ifCond .eq 7, 3) := by decide +kernel
theorem d_M_cut_31 : decode prog_4_method_13_code 31 = .ok (.iconst 0, 1) := by decide +kernel
theorem d_M_cut_32 : decode prog_4_method_13_code 32 = .ok (.goto 4, 3) := by decide +kernel
theorem d_M_cut_35 : decode prog_4_method_13_code 35 = .ok (.iconst 2, 1) := by decide +kernel
theorem d_M_cut_36 : decode prog_4_method_13_code 36 = .ok (.putfield 26, 3) := by decide +kernel
theorem d_M_cut_39 : decode prog_4_method_13_code 39 = .ok (.aload_n 0, 1) := by decide +kernel
theorem d_M_cut_40 : decode prog_4_method_13_code 40 = .ok (.getfield 26, 3) := by decide +kernel
theorem d_M_cut_43 : decode prog_4_method_13_code 43 = .ok (.ifCond .le 5, 3) := by decide +kernel
theorem d_M_cut_46 : decode prog_4_method_13_code 46 = .ok (.lconst 0, 1) := by decide +kernel
theorem d_M_cut_47 : decode prog_4_method_13_code 47 = .ok (.lreturn, 1) := by decide +kernel
theorem d_M_cut_48 : decode prog_4_method_13_code 48 = .ok (.iload_n 2, 1) := by decide +kernel
theorem d_M_cut_49 : decode prog_4_method_13_code 49 = .ok (.ifCond .ne 12, 3) := by decide +kernel
theorem d_M_cut_52 : decode prog_4_method_13_code 52 = .ok (.aload_n 0, 1) := by decide +kernel
theorem d_M_cut_53 : decode prog_4_method_13_code 53 = .ok (.getfield 13, 3) := by decide +kernel
theorem d_M_cut_56 : decode prog_4_method_13_code 56 = .ok (.iload_n 1, 1) := by decide +kernel
theorem d_M_cut_57 : decode prog_4_method_13_code 57 = .ok (.laload, 1) := by decide +kernel
theorem d_M_cut_58 : decode prog_4_method_13_code 58 = .ok (.goto 9, 3) := by decide +kernel
theorem d_M_cut_61 : decode prog_4_method_13_code 61 = .ok (.aload_n 0, 1) := by decide +kernel
theorem d_M_cut_62 : decode prog_4_method_13_code 62 = .ok (.getfield 17, 3) := by decide +kernel
theorem d_M_cut_65 : decode prog_4_method_13_code 65 = .ok (.iload_n 1, 1) := by decide +kernel
theorem d_M_cut_66 : decode prog_4_method_13_code 66 = .ok (.laload, 1) := by decide +kernel
theorem d_M_cut_67 : decode prog_4_method_13_code 67 = .ok (.lreturn, 1) := by decide +kernel
theorem d_M_sampleX_0 : decode prog_4_method_14_code 0 = .ok (.iload_n 1, 1) := by decide +kernel
theorem d_M_sampleX_1 : decode prog_4_method_14_code 1 = .ok (.iconst 2, 1) := by decide +kernel
theorem d_M_sampleX_2 : decode prog_4_method_14_code 2 = .ok (.idiv, 1) := by decide +kernel
theorem d_M_sampleX_3 : decode prog_4_method_14_code 3 = .ok (.istore_n 2, 1) := by decide +kernel
theorem d_M_sampleX_4 : decode prog_4_method_14_code 4 = .ok (.aload_n 0, 1) := by decide +kernel
theorem d_M_sampleX_5 : decode prog_4_method_14_code 5 = .ok (.getfield 51, 3) := by decide +kernel
theorem d_M_sampleX_8 : decode prog_4_method_14_code 8 = .ok (.ifCond .ne 12, 3) := by decide +kernel
theorem d_M_sampleX_11 : decode prog_4_method_14_code 11 = .ok (.aload_n 0, 1) := by decide +kernel
theorem d_M_sampleX_12 : decode prog_4_method_14_code 12 = .ok (.lconst 0, 1) := by decide +kernel
theorem d_M_sampleX_13 : decode prog_4_method_14_code 13 = .ok (.lconst 1, 1) := by decide +kernel
theorem d_M_sampleX_14 : decode prog_4_method_14_code 14 = .ok (.invokevirtual 54, 3) := by decide +kernel
theorem d_M_sampleX_17 : decode prog_4_method_14_code 17 = .ok (.goto 153, 3) := by decide +kernel
theorem d_M_sampleX_20 : decode prog_4_method_14_code 20 = .ok (.iload_n 1, 1) := by decide +kernel
theorem d_M_sampleX_21 : decode prog_4_method_14_code 21 = .ok (.iconst 2, 1) := by decide +kernel
theorem d_M_sampleX_22 : decode prog_4_method_14_code 22 = .ok (.irem, 1) := by decide +kernel
theorem d_M_sampleX_23 : decode prog_4_method_14_code 23 = .ok (.iconst 1, 1) := by decide +kernel
theorem d_M_sampleX_24 : decode prog_4_method_14_code 24 = .ok (.if_icmp .ne 22, 3) := by decide +kernel
theorem d_M_sampleX_27 : decode prog_4_method_14_code 27 = .ok (.aload_n 0, 1) := by decide +kernel
theorem d_M_sampleX_28 : decode prog_4_method_14_code 28 = .ok (.aload_n 0, 1) := by decide +kernel
theorem d_M_sampleX_29 : decode prog_4_method_14_code 29 = .ok (.getfield 13, 3) := by decide +kernel
theorem d_M_sampleX_32 : decode prog_4_method_14_code 32 = .ok (.iload_n 2, 1) := by decide +kernel
theorem d_M_sampleX_33 : decode prog_4_method_14_code 33 = .ok (.laload, 1) := by decide +kernel
theorem d_M_sampleX_34 : decode prog_4_method_14_code 34 = .ok (.aload_n 0, 1) := by decide +kernel
theorem d_M_sampleX_35 : decode prog_4_method_14_code 35 = .ok (.getfield 17, 3) := by decide +kernel
theorem d_M_sampleX_38 : decode prog_4_method_14_code 38 = .ok (.iload_n 2, 1) := by decide +kernel
theorem d_M_sampleX_39 : decode prog_4_method_14_code 39 = .ok (.laload, 1) := by decide +kernel
theorem d_M_sampleX_40 : decode prog_4_method_14_code 40 = .ok (.invokevirtual 54, 3) := by decide +kernel
theorem d_M_sampleX_43 : decode prog_4_method_14_code 43 = .ok (.goto 127, 3) := by decide +kernel
theorem d_M_sampleX_46 : decode prog_4_method_14_code 46 = .ok (.iload_n 1, 1) := by decide +kernel
theorem d_M_sampleX_47 : decode prog_4_method_14_code 47 = .ok (.ifCond .ne 29, 3) := by decide +kernel
theorem d_M_sampleX_50 : decode prog_4_method_14_code 50 = .ok (.aload_n 0, 1) := by decide +kernel
theorem d_M_sampleX_51 : decode prog_4_method_14_code 51 = .ok (.aload_n 0, 1) := by decide +kernel
theorem d_M_sampleX_52 : decode prog_4_method_14_code 52 = .ok (.getfield 13, 3) := by decide +kernel
theorem d_M_sampleX_55 : decode prog_4_method_14_code 55 = .ok (.iconst 0, 1) := by decide +kernel
theorem d_M_sampleX_56 : decode prog_4_method_14_code 56 = .ok (.laload, 1) := by decide +kernel
theorem d_M_sampleX_57 : decode prog_4_method_14_code 57 = .ok (.aload_n 0, 1) := by decide +kernel
theorem d_M_sampleX_58 : decode prog_4_method_14_code 58 = .ok (.getfield 17, 3) := by decide +kernel
theorem d_M_sampleX_61 : decode prog_4_method_14_code 61 = .ok (.iconst 0, 1) := by decide +kernel
theorem d_M_sampleX_62 : decode prog_4_method_14_code 62 = .ok (.laload, 1) := by decide +kernel
theorem d_M_sampleX_63 : decode prog_4_method_14_code 63 = .ok (.lsub, 1) := by decide +kernel
theorem d_M_sampleX_64 : decode prog_4_method_14_code 64 = .ok (.aload_n 0, 1) := by decide +kernel
theorem d_M_sampleX_65 : decode prog_4_method_14_code 65 = .ok (.getfield 17, 3) := by decide +kernel
theorem d_M_sampleX_68 : decode prog_4_method_14_code 68 = .ok (.iconst 0, 1) := by decide +kernel
theorem d_M_sampleX_69 : decode prog_4_method_14_code 69 = .ok (.laload, 1) := by decide +kernel
theorem d_M_sampleX_70 : decode prog_4_method_14_code 70 = .ok (.invokevirtual 54, 3) := by decide +kernel
theorem d_M_sampleX_73 : decode prog_4_method_14_code 73 = .ok (.goto 97, 3) := by decide +kernel
theorem d_M_sampleX_76 : decode prog_4_method_14_code 76 = .ok (.iload_n 2, 1) := by decide +kernel
theorem d_M_sampleX_77 : decode prog_4_method_14_code 77 = .ok (.aload_n 0, 1) := by decide +kernel
theorem d_M_sampleX_78 : decode prog_4_method_14_code 78 = .ok (.getfield 51, 3) := by decide +kernel
theorem d_M_sampleX_81 : decode prog_4_method_14_code 81 = .ok (.if_icmp .ne 35, 3) := by decide +kernel
theorem d_M_sampleX_84 : decode prog_4_method_14_code 84 = .ok (.aload_n 0, 1) := by decide +kernel
theorem d_M_sampleX_85 : decode prog_4_method_14_code 85 = .ok (.aload_n 0, 1) := by decide +kernel
theorem d_M_sampleX_86 : decode prog_4_method_14_code 86 = .ok (.getfield 13, 3) := by decide +kernel
theorem d_M_sampleX_89 : decode prog_4_method_14_code 89 = .ok (.iload_n 2, 1) := by decide +kernel
theorem d_M_sampleX_90 : decode prog_4_method_14_code 90 = .ok (.iconst 1, 1) := by decide +kernel
theorem d_M_sampleX_91 : decode prog_4_method_14_code 91 = .ok (.isub, 1) := by decide +kernel
theorem d_M_sampleX_92 : decode prog_4_method_14_code 92 = .ok (.laload, 1) := by decide +kernel
theorem d_M_sampleX_93 : decode prog_4_method_14_code 93 = .ok (.aload_n 0, 1) := by decide +kernel
theorem d_M_sampleX_94 : decode prog_4_method_14_code 94 = .ok (.getfield 17, 3) := by decide +kernel
theorem d_M_sampleX_97 : decode prog_4_method_14_code 97 = .ok (.iload_n 2, 1) := by decide +kernel
theorem d_M_sampleX_98 : decode prog_4_method_14_code 98 = .ok (.iconst 1, 1) := by decide +kernel
theorem d_M_sampleX_99 : decode prog_4_method_14_code 99 = .ok (.isub, 1) := by decide +kernel
theorem d_M_sampleX_100 : decode prog_4_method_14_code 100 = .ok (.laload, 1) := by decide +kernel
theorem d_M_sampleX_101 : decode prog_4_method_14_code 101 = .ok (.ladd, 1) := by decide +kernel
theorem d_M_sampleX_102 : decode prog_4_method_14_code 102 = .ok (.aload_n 0, 1) := by decide +kernel
theorem d_M_sampleX_103 : decode prog_4_method_14_code 103 = .ok (.getfield 17, 3) := by decide +kernel
theorem d_M_sampleX_106 : decode prog_4_method_14_code 106 = .ok (.iload_n 2, 1) := by decide +kernel
theorem d_M_sampleX_107 : decode prog_4_method_14_code 107 = .ok (.iconst 1, 1) := by decide +kernel
theorem d_M_sampleX_108 : decode prog_4_method_14_code 108 = .ok (.isub, 1) := by decide +kernel
theorem d_M_sampleX_109 : decode prog_4_method_14_code 109 = .ok (.laload, 1) := by decide +kernel
theorem d_M_sampleX_110 : decode prog_4_method_14_code 110 = .ok (.invokevirtual 54, 3) := by decide +kernel
theorem d_M_sampleX_113 : decode prog_4_method_14_code 113 = .ok (.goto 57, 3) := by decide +kernel
theorem d_M_sampleX_116 : decode prog_4_method_14_code 116 = .ok (.aload_n 0, 1) := by decide +kernel
theorem d_M_sampleX_117 : decode prog_4_method_14_code 117 = .ok (.aload_n 0, 1) := by decide +kernel
theorem d_M_sampleX_118 : decode prog_4_method_14_code 118 = .ok (.getfield 13, 3) := by decide +kernel
theorem d_M_sampleX_121 : decode prog_4_method_14_code 121 = .ok (.iload_n 2, 1) := by decide +kernel
theorem d_M_sampleX_122 : decode prog_4_method_14_code 122 = .ok (.iconst 1, 1) := by decide +kernel
theorem d_M_sampleX_123 : decode prog_4_method_14_code 123 = .ok (.isub, 1) := by decide +kernel
theorem d_M_sampleX_124 : decode prog_4_method_14_code 124 = .ok (.laload, 1) := by decide +kernel
theorem d_M_sampleX_125 : decode prog_4_method_14_code 125 = .ok (.aload_n 0, 1) := by decide +kernel
theorem d_M_sampleX_126 : decode prog_4_method_14_code 126 = .ok (.getfield 17, 3) := by decide +kernel
theorem d_M_sampleX_129 : decode prog_4_method_14_code 129 = .ok (.iload_n 2, 1) := by decide +kernel
theorem d_M_sampleX_130 : decode prog_4_method_14_code 130 = .ok (.laload, 1) := by decide +kernel
theorem d_M_sampleX_131 : decode prog_4_method_14_code 131 = .ok (.lmul, 1) := by decide +kernel
theorem d_M_sampleX_132 : decode prog_4_method_14_code 132 = .ok (.aload_n 0, 1) := by decide +kernel
theorem d_M_sampleX_133 : decode prog_4_method_14_code 133 = .ok (.getfield 13, 3) := by decide +kernel
theorem d_M_sampleX_136 : decode prog_4_method_14_code 136 = .ok (.iload_n 2, 1) := by decide +kernel
theorem d_M_sampleX_137 : decode prog_4_method_14_code 137 = .ok (.laload, 1) := by decide +kernel
theorem d_M_sampleX_138 : decode prog_4_method_14_code 138 = .ok (.aload_n 0, 1) := by decide +kernel
theorem d_M_sampleX_139 : decode prog_4_method_14_code 139 = .ok (.getfield 17, 3) := by decide +kernel
theorem d_M_sampleX_142 : decode prog_4_method_14_code 142 = .ok (.iload_n 2, 1) := by decide +kernel
theorem d_M_sampleX_143 : decode prog_4_method_14_code 143 = .ok (.iconst 1, 1) := by decide +kernel
theorem d_M_sampleX_144 : decode prog_4_method_14_code 144 = .ok (.isub, 1) := by decide +kernel
theorem d_M_sampleX_145 : decode prog_4_method_14_code 145 = .ok (.laload, 1) := by decide +kernel
theorem d_M_sampleX_146 : decode prog_4_method_14_code 146 = .ok (.lmul, 1) := by decide +kernel
theorem d_M_sampleX_147 : decode prog_4_method_14_code 147 = .ok (.ladd, 1) := by decide +kernel
theorem d_M_sampleX_148 : decode prog_4_method_14_code 148 = .ok (.ldc2_w 61, 3) := by decide +kernel
theorem d_M_sampleX_151 : decode prog_4_method_14_code 151 = .ok (.aload_n 0, 1) := by decide +kernel
theorem d_M_sampleX_152 : decode prog_4_method_14_code 152 = .ok (.getfield 17, 3) := by decide +kernel
theorem d_M_sampleX_155 : decode prog_4_method_14_code 155 = .ok (.iload_n 2, 1) := by decide +kernel
theorem d_M_sampleX_156 : decode prog_4_method_14_code 156 = .ok (.iconst 1, 1) := by decide +kernel
theorem d_M_sampleX_157 : decode prog_4_method_14_code 157 = .ok (.isub, 1) := by decide +kernel
theorem d_M_sampleX_158 : decode prog_4_method_14_code 158 = .ok (.laload, 1) := by decide +kernel
theorem d_M_sampleX_159 : decode prog_4_method_14_code 159 = .ok (.lmul, 1) := by decide +kernel
theorem d_M_sampleX_160 : decode prog_4_method_14_code 160 = .ok (.aload_n 0, 1) := by decide +kernel
theorem d_M_sampleX_161 : decode prog_4_method_14_code 161 = .ok (.getfield 17, 3) := by decide +kernel
theorem d_M_sampleX_164 : decode prog_4_method_14_code 164 = .ok (.iload_n 2, 1) := by decide +kernel
theorem d_M_sampleX_165 : decode prog_4_method_14_code 165 = .ok (.laload, 1) := by decide +kernel
theorem d_M_sampleX_166 : decode prog_4_method_14_code 166 = .ok (.lmul, 1) := by decide +kernel
theorem d_M_sampleX_167 : decode prog_4_method_14_code 167 = .ok (.invokevirtual 54, 3) := by decide +kernel
theorem d_M_sampleX_170 : decode prog_4_method_14_code 170 = .ok (.aload_n 0, 1) := by decide +kernel
theorem d_M_sampleX_171 : decode prog_4_method_14_code 171 = .ok (.aload_n 0, 1) := by decide +kernel
theorem d_M_sampleX_172 : decode prog_4_method_14_code 172 = .ok (.getfield 30, 3) := by decide +kernel
theorem d_M_sampleX_175 : decode prog_4_method_14_code 175 = .ok (.putfield 63, 3) := by decide +kernel
theorem d_M_sampleX_178 : decode prog_4_method_14_code 178 = .ok (.aload_n 0, 1) := by decide +kernel
theorem d_M_sampleX_179 : decode prog_4_method_14_code 179 = .ok (.aload_n 0, 1) := by decide +kernel
theorem d_M_sampleX_180 : decode prog_4_method_14_code 180 = .ok (.getfield 34, 3) := by decide +kernel
theorem d_M_sampleX_183 : decode prog_4_method_14_code 183 = .ok (.putfield 66, 3) := by decide +kernel
theorem d_M_sampleX_186 : decode prog_4_method_14_code 186 = .ok (.return_, 1) := by decide +kernel
theorem d_M_lineAt_0 : decode prog_4_method_15_code 0 = .ok (.aload_n 0, 1) := by decide +kernel
theorem d_M_lineAt_1 : decode prog_4_method_15_code 1 = .ok (.aload_n 0, 1) := by decide +kernel
theorem d_M_lineAt_2 : decode prog_4_method_15_code 2 = .ok (.getfield 7, 3) := by decide +kernel
theorem d_M_lineAt_5 : decode prog_4_method_15_code 5 = .ok (.iconst 3, 1) := by decide +kernel
theorem d_M_lineAt_6 : decode prog_4_method_15_code 6 = .ok (.iload_n 1, 1) := by decide +kernel
theorem d_M_lineAt_7 : decode prog_4_method_15_code 7 = .ok (.imul, 1) := by decide +kernel
theorem d_M_lineAt_8 : decode prog_4_method_15_code 8 = .ok (.iaload, 1) := by decide +kernel
theorem d_M_lineAt_9 : decode prog_4_method_15_code 9 = .ok (.i2l, 1) := by decide +kernel
theorem d_M_lineAt_10 : decode prog_4_method_15_code 10 = .ok (.aload_n 0, 1) := by decide +kernel
theorem d_M_lineAt_11 : decode prog_4_method_15_code 11 = .ok (.getfield 63, 3) := by decide +kernel
theorem d_M_lineAt_14 : decode prog_4_method_15_code 14 = .ok (.lmul, 1) := by decide +kernel
theorem d_M_lineAt_15 : decode prog_4_method_15_code 15 = .ok (.aload_n 0, 1) := by decide +kernel
theorem d_M_lineAt_16 : decode prog_4_method_15_code 16 = .ok (.getfield 7, 3) := by decide +kernel
theorem d_M_lineAt_19 : decode prog_4_method_15_code 19 = .ok (.iconst 3, 1) := by decide +kernel
theorem d_M_lineAt_20 : decode prog_4_method_15_code 20 = .ok (.iload_n 1, 1) := by decide +kernel
theorem d_M_lineAt_21 : decode prog_4_method_15_code 21 = .ok (.imul, 1) := by decide +kernel
theorem d_M_lineAt_22 : decode prog_4_method_15_code 22 = .ok (.iconst 2, 1) := by decide +kernel
theorem d_M_lineAt_23 : decode prog_4_method_15_code 23 = .ok (.iadd, 1) := by decide +kernel
theorem d_M_lineAt_24 : decode prog_4_method_15_code 24 = .ok (.iaload, 1) := by decide +kernel
theorem d_M_lineAt_25 : decode prog_4_method_15_code 25 = .ok (.i2l, 1) := by decide +kernel
theorem d_M_lineAt_26 : decode prog_4_method_15_code 26 = .ok (.aload_n 0, 1) := by decide +kernel
theorem d_M_lineAt_27 : decode prog_4_method_15_code 27 = .ok (.getfield 66, 3) := by decide +kernel
theorem d_M_lineAt_30 : decode prog_4_method_15_code 30 = .ok (.lmul, 1) := by decide +kernel
theorem d_M_lineAt_31 : decode prog_4_method_15_code 31 = .ok (.ladd, 1) := by decide +kernel
theorem d_M_lineAt_32 : decode prog_4_method_15_code 32 = .ok (.lneg, 1) := by decide +kernel
theorem d_M_lineAt_33 : decode prog_4_method_15_code 33 = .ok (.aload_n 0, 1) := by decide +kernel
theorem d_M_lineAt_34 : decode prog_4_method_15_code 34 = .ok (.getfield 7, 3) := by decide +kernel
theorem d_M_lineAt_37 : decode prog_4_method_15_code 37 = .ok (.iconst 3, 1) := by decide +kernel
theorem d_M_lineAt_38 : decode prog_4_method_15_code 38 = .ok (.iload_n 1, 1) := by decide +kernel
theorem d_M_lineAt_39 : decode prog_4_method_15_code 39 = .ok (.imul, 1) := by decide +kernel
theorem d_M_lineAt_40 : decode prog_4_method_15_code 40 = .ok (.iconst 1, 1) := by decide +kernel
theorem d_M_lineAt_41 : decode prog_4_method_15_code 41 = .ok (.iadd, 1) := by decide +kernel
theorem d_M_lineAt_42 : decode prog_4_method_15_code 42 = .ok (.iaload, 1) := by decide +kernel
theorem d_M_lineAt_43 : decode prog_4_method_15_code 43 = .ok (.i2l, 1) := by decide +kernel
theorem d_M_lineAt_44 : decode prog_4_method_15_code 44 = .ok (.aload_n 0, 1) := by decide +kernel
theorem d_M_lineAt_45 : decode prog_4_method_15_code 45 = .ok (.getfield 66, 3) := by decide +kernel
theorem d_M_lineAt_48 : decode prog_4_method_15_code 48 = .ok (.lmul, 1) := by decide +kernel
theorem d_M_lineAt_49 : decode prog_4_method_15_code 49 = .ok (.invokevirtual 54, 3) := by decide +kernel
theorem d_M_lineAt_52 : decode prog_4_method_15_code 52 = .ok (.return_, 1) := by decide +kernel
theorem d_M_findCurves_0 : decode prog_4_method_16_code 0 = .ok (.aload_n 0, 1) := by decide +kernel
theorem d_M_findCurves_1 : decode prog_4_method_16_code 1 = .ok (.iconst 0, 1) := by decide +kernel
theorem d_M_findCurves_2 : decode prog_4_method_16_code 2 = .ok (.putfield 69, 3) := by decide +kernel
theorem d_M_findCurves_5 : decode prog_4_method_16_code 5 = .ok (.iconst 0, 1) := by decide +kernel
theorem d_M_findCurves_6 : decode prog_4_method_16_code 6 = .ok (.istore_n 1, 1) := by decide +kernel
theorem d_M_findCurves_7 : decode prog_4_method_16_code 7 = .ok (.iload_n 1, 1) := by decide +kernel
theorem d_M_findCurves_8 : decode prog_4_method_16_code 8 = .ok (.aload_n 0, 1) := by decide +kernel
theorem d_M_findCurves_9 : decode prog_4_method_16_code 9 = .ok (.getfield 45, 3) := by decide +kernel
theorem d_M_findCurves_12 : decode prog_4_method_16_code 12 = .ok (.if_icmp .ge 148, 3) := by decide +kernel
theorem d_M_findCurves_15 : decode prog_4_method_16_code 15 = .ok (.aload_n 0, 1) := by decide +kernel
theorem d_M_findCurves_16 : decode prog_4_method_16_code 16 = .ok (.getfield 7, 3) := by decide +kernel
theorem d_M_findCurves_19 : decode prog_4_method_16_code 19 = .ok (.iconst 3, 1) := by decide +kernel
theorem d_M_findCurves_20 : decode prog_4_method_16_code 20 = .ok (.iload_n 1, 1) := by decide +kernel
theorem d_M_findCurves_21 : decode prog_4_method_16_code 21 = .ok (.imul, 1) := by decide +kernel
theorem d_M_findCurves_22 : decode prog_4_method_16_code 22 = .ok (.iconst 1, 1) := by decide +kernel
theorem d_M_findCurves_23 : decode prog_4_method_16_code 23 = .ok (.iadd, 1) := by decide +kernel
theorem d_M_findCurves_24 : decode prog_4_method_16_code 24 = .ok (.iaload, 1) := by decide +kernel
theorem d_M_findCurves_25 : decode prog_4_method_16_code 25 = .ok (.ifCond .ne 6, 3) := by decide +kernel
theorem d_M_findCurves_28 : decode prog_4_method_16_code 28 = .ok (.goto 126, 3) := by decide +kernel
theorem d_M_findCurves_31 : decode prog_4_method_16_code 31 = .ok (.aload_n 0, 1) := by decide +kernel
theorem d_M_findCurves_32 : decode prog_4_method_16_code 32 = .ok (.iload_n 1, 1) := by decide +kernel
theorem d_M_findCurves_33 : decode prog_4_method_16_code 33 = .ok (.invokevirtual 72, 3) := by decide +kernel
theorem d_M_findCurves_36 : decode prog_4_method_16_code 36 = .ok (.aload_n 0, 1) := by decide +kernel
theorem d_M_findCurves_37 : decode prog_4_method_16_code 37 = .ok (.invokevirtual 76, 3) := by decide +kernel
theorem d_M_findCurves_40 : decode prog_4_method_16_code 40 = .ok (.istore_n 2, 1) := by decide +kernel
theorem d_M_findCurves_41 : decode prog_4_method_16_code 41 = .ok (.iload_n 2, 1) := by decide +kernel
theorem d_M_findCurves_42 : decode prog_4_method_16_code 42 = .ok (.aload_n 0, 1) := by decide +kernel
theorem d_M_findCurves_43 : decode prog_4_method_16_code 43 = .ok (.getfield 69, 3) := by decide +kernel
theorem d_M_findCurves_46 : decode prog_4_method_16_code 46 = .ok (.if_icmp .ge 34, 3) := by decide +kernel
theorem d_M_findCurves_49 : decode prog_4_method_16_code 49 = .ok (.aload_n 0, 1) := by decide +kernel
theorem d_M_findCurves_50 : decode prog_4_method_16_code 50 = .ok (.getfield 20, 3) := by decide +kernel
theorem d_M_findCurves_53 : decode prog_4_method_16_code 53 = .ok (.iload_n 2, 1) := by decide +kernel
theorem d_M_findCurves_54 : decode prog_4_method_16_code 54 = .ok (.laload, 1) := by decide +kernel
theorem d_M_findCurves_55 : decode prog_4_method_16_code 55 = .ok (.aload_n 0, 1) := by decide +kernel
theorem d_M_findCurves_56 : decode prog_4_method_16_code 56 = .ok (.getfield 30, 3) := by decide +kernel
theorem d_M_findCurves_59 : decode prog_4_method_16_code 59 = .ok (.lcmp, 1) := by decide +kernel
theorem d_M_findCurves_60 : decode prog_4_method_16_code 60 = .ok (.ifCond .ne 20, 3) := by decide +kernel
theorem d_M_findCurves_63 : decode prog_4_method_16_code 63 = .ok (.aload_n 0, 1) := by decide +kernel
theorem d_M_findCurves_64 : decode prog_4_method_16_code 64 = .ok (.getfield 23, 3) := by decide +kernel
theorem d_M_findCurves_67 : decode prog_4_method_16_code 67 = .ok (.iload_n 2, 1) := by decide +kernel
theorem d_M_findCurves_68 : decode prog_4_method_16_code 68 = .ok (.laload, 1) := by decide +kernel
theorem d_M_findCurves_69 : decode prog_4_method_16_code 69 = .ok (.aload_n 0, 1) := by decide +kernel
theorem d_M_findCurves_70 : decode prog_4_method_16_code 70 = .ok (.getfield 34, 3) := by decide +kernel
theorem d_M_findCurves_73 : decode prog_4_method_16_code 73 = .ok (.lcmp, 1) := by decide +kernel
theorem d_M_findCurves_74 : decode prog_4_method_16_code 74 = .ok (.ifCond .ne 6, 3) := by decide +kernel
theorem d_M_findCurves_77 : decode prog_4_method_16_code 77 = .ok (.goto 77, 3) := by decide +kernel
theorem d_M_findCurves_80 : decode prog_4_method_16_code 80 = .ok (.aload_n 0, 1) := by decide +kernel
theorem d_M_findCurves_81 : decode prog_4_method_16_code 81 = .ok (.getfield 69, 3) := by decide +kernel
theorem d_M_findCurves_84 : decode prog_4_method_16_code 84 = .ok (.istore_n 3, 1) := by decide +kernel
theorem d_M_findCurves_85 : decode prog_4_method_16_code 85 = .ok (.iload_n 3, 1) := by decide +kernel
theorem d_M_findCurves_86 : decode prog_4_method_16_code 86 = .ok (.iload_n 2, 1) := by decide +kernel
theorem d_M_findCurves_87 : decode prog_4_method_16_code 87 = .ok (.if_icmp .le 37, 3) := by decide +kernel
theorem d_M_findCurves_90 : decode prog_4_method_16_code 90 = .ok (.aload_n 0, 1) := by decide +kernel
theorem d_M_findCurves_91 : decode prog_4_method_16_code 91 = .ok (.getfield 20, 3) := by decide +kernel
theorem d_M_findCurves_94 : decode prog_4_method_16_code 94 = .ok (.iload_n 3, 1) := by decide +kernel
theorem d_M_findCurves_95 : decode prog_4_method_16_code 95 = .ok (.aload_n 0, 1) := by decide +kernel
theorem d_M_findCurves_96 : decode prog_4_method_16_code 96 = .ok (.getfield 20, 3) := by decide +kernel
theorem d_M_findCurves_99 : decode prog_4_method_16_code 99 = .ok (.iload_n 3, 1) := by decide +kernel
theorem d_M_findCurves_100 : decode prog_4_method_16_code 100 = .ok (.iconst 1, 1) := by decide +kernel
theorem d_M_findCurves_101 : decode prog_4_method_16_code 101 = .ok (.isub, 1) := by decide +kernel
theorem d_M_findCurves_102 : decode prog_4_method_16_code 102 = .ok (.laload, 1) := by decide +kernel
theorem d_M_findCurves_103 : decode prog_4_method_16_code 103 = .ok (.lastore, 1) := by decide +kernel
theorem d_M_findCurves_104 : decode prog_4_method_16_code 104 = .ok (.aload_n 0, 1) := by decide +kernel
theorem d_M_findCurves_105 : decode prog_4_method_16_code 105 = .ok (.getfield 23, 3) := by decide +kernel
theorem d_M_findCurves_108 : decode prog_4_method_16_code 108 = .ok (.iload_n 3, 1) := by decide +kernel
theorem d_M_findCurves_109 : decode prog_4_method_16_code 109 = .ok (.aload_n 0, 1) := by decide +kernel
theorem d_M_findCurves_110 : decode prog_4_method_16_code 110 = .ok (.getfield 23, 3) := by decide +kernel
theorem d_M_findCurves_113 : decode prog_4_method_16_code 113 = .ok (.iload_n 3, 1) := by decide +kernel
theorem d_M_findCurves_114 : decode prog_4_method_16_code 114 = .ok (.iconst 1, 1) := by decide +kernel
theorem d_M_findCurves_115 : decode prog_4_method_16_code 115 = .ok (.isub, 1) := by decide +kernel
theorem d_M_findCurves_116 : decode prog_4_method_16_code 116 = .ok (.laload, 1) := by decide +kernel
theorem d_M_findCurves_117 : decode prog_4_method_16_code 117 = .ok (.lastore, 1) := by decide +kernel
theorem d_M_findCurves_118 : decode prog_4_method_16_code 118 = .ok (.iinc 3 (-1), 3) := by decide +kernel
theorem d_M_findCurves_121 : decode prog_4_method_16_code 121 = .ok (.goto (-36), 3) := by decide +kernel
theorem d_M_findCurves_124 : decode prog_4_method_16_code 124 = .ok (.aload_n 0, 1) := by decide +kernel
theorem d_M_findCurves_125 : decode prog_4_method_16_code 125 = .ok (.getfield 20, 3) := by decide +kernel
theorem d_M_findCurves_128 : decode prog_4_method_16_code 128 = .ok (.iload_n 2, 1) := by decide +kernel
theorem d_M_findCurves_129 : decode prog_4_method_16_code 129 = .ok (.aload_n 0, 1) := by decide +kernel
theorem d_M_findCurves_130 : decode prog_4_method_16_code 130 = .ok (.getfield 30, 3) := by decide +kernel
theorem d_M_findCurves_133 : decode prog_4_method_16_code 133 = .ok (.lastore, 1) := by decide +kernel
theorem d_M_findCurves_134 : decode prog_4_method_16_code 134 = .ok (.aload_n 0, 1) := by decide +kernel
theorem d_M_findCurves_135 : decode prog_4_method_16_code 135 = .ok (.getfield 23, 3) := by decide +kernel
theorem d_M_findCurves_138 : decode prog_4_method_16_code 138 = .ok (.iload_n 2, 1) := by decide +kernel
theorem d_M_findCurves_139 : decode prog_4_method_16_code 139 = .ok (.aload_n 0, 1) := by decide +kernel
theorem d_M_findCurves_140 : decode prog_4_method_16_code 140 = .ok (.getfield 34, 3) := by decide +kernel
theorem d_M_findCurves_143 : decode prog_4_method_16_code 143 = .ok (.lastore, 1) := by decide +kernel
theorem d_M_findCurves_144 : decode prog_4_method_16_code 144 = .ok (.aload_n 0, 1) := by decide +kernel
theorem d_M_findCurves_145 : decode prog_4_method_16_code 145 = .ok (.dup, 1) := by decide +kernel
theorem d_M_findCurves_146 : decode prog_4_method_16_code 146 = .ok (.getfield 69, 3) := by decide +kernel
theorem d_M_findCurves_149 : decode prog_4_method_16_code 149 = .ok (.iconst 1, 1) := by decide +kernel
theorem d_M_findCurves_150 : decode prog_4_method_16_code 150 = .ok (.iadd, 1) := by decide +kernel
theorem d_M_findCurves_151 : decode prog_4_method_16_code 151 = .ok (.putfield 69, 3) := by decide +kernel
theorem d_M_findCurves_154 : decode prog_4_method_16_code 154 = .ok (.iinc 1 1, 3) := by decide +kernel
theorem d_M_findCurves_157 : decode prog_4_method_16_code 157 = .ok (.goto (-150), 3) := by decide +kernel
theorem d_M_findCurves_160 : decode prog_4_method_16_code 160 = .ok (.return_, 1) := by decide +kernel
theorem d_M_below_0 : decode prog_4_method_17_code 0 = .ok (.iconst 0, 1) := by decide +kernel
theorem d_M_below_1 : decode prog_4_method_17_code 1 = .ok (.istore_n 1, 1) := by decide +kernel
theorem d_M_below_2 : decode prog_4_method_17_code 2 = .ok (.iload_n 1, 1) := by decide +kernel
theorem d_M_below_3 : decode prog_4_method_17_code 3 = .ok (.aload_n 0, 1) := by decide +kernel
theorem d_M_below_4 : decode prog_4_method_17_code 4 = .ok (.getfield 69, 3) := by decide +kernel
theorem d_M_below_7 : decode prog_4_method_17_code 7 = .ok (.if_icmp .ge 35, 3) := by decide +kernel
theorem d_M_below_10 : decode prog_4_method_17_code 10 = .ok (.aload_n 0, 1) := by decide +kernel
theorem d_M_below_11 : decode prog_4_method_17_code 11 = .ok (.getfield 20, 3) := by decide +kernel
theorem d_M_below_14 : decode prog_4_method_17_code 14 = .ok (.iload_n 1, 1) := by decide +kernel
theorem d_M_below_15 : decode prog_4_method_17_code 15 = .ok (.laload, 1) := by decide +kernel
theorem d_M_below_16 : decode prog_4_method_17_code 16 = .ok (.aload_n 0, 1) := by decide +kernel
theorem d_M_below_17 : decode prog_4_method_17_code 17 = .ok (.getfield 34, 3) := by decide +kernel
theorem d_M_below_20 : decode prog_4_method_17_code 20 = .ok (.lmul, 1) := by decide +kernel
theorem d_M_below_21 : decode prog_4_method_17_code 21 = .ok (.aload_n 0, 1) := by decide +kernel
theorem d_M_below_22 : decode prog_4_method_17_code 22 = .ok (.getfield 30, 3) := by decide +kernel
theorem d_M_below_25 : decode prog_4_method_17_code 25 = .ok (.aload_n 0, 1) := by decide +kernel
theorem d_M_below_26 : decode prog_4_method_17_code 26 = .ok (.getfield 23, 3) := by decide +kernel
theorem d_M_below_29 : decode prog_4_method_17_code 29 = .ok (.iload_n 1, 1) := by decide +kernel
theorem d_M_below_30 : decode prog_4_method_17_code 30 = .ok (.laload, 1) := by decide +kernel
theorem d_M_below_31 : decode prog_4_method_17_code 31 = .ok (.lmul, 1) := by decide +kernel
theorem d_M_below_32 : decode prog_4_method_17_code 32 = .ok (.lcmp, 1) := by decide +kernel
theorem d_M_below_33 : decode prog_4_method_17_code 33 = .ok (.ifCond .ge 9, 3) := by decide +kernel
theorem d_M_below_36 : decode prog_4_method_17_code 36 = .ok (.iinc 1 1, 3) := by decide +kernel
theorem d_M_below_39 : decode prog_4_method_17_code 39 = .ok (.goto (-37), 3) := by decide +kernel
theorem d_M_below_42 : decode prog_4_method_17_code 42 = .ok (.iload_n 1, 1) := by decide +kernel
theorem d_M_below_43 : decode prog_4_method_17_code 43 = .ok (.ireturn, 1) := by decide +kernel
theorem d_M_curvesOf_0 : decode prog_4_method_18_code 0 = .ok (.aload_n 0, 1) := by decide +kernel
theorem d_M_curvesOf_1 : decode prog_4_method_18_code 1 = .ok (.iload_n 1, 1) := by decide +kernel
theorem d_M_curvesOf_2 : decode prog_4_method_18_code 2 = .ok (.invokevirtual 80, 3) := by decide +kernel
theorem d_M_curvesOf_5 : decode prog_4_method_18_code 5 = .ok (.aload_n 0, 1) := by decide +kernel
theorem d_M_curvesOf_6 : decode prog_4_method_18_code 6 = .ok (.invokevirtual 83, 3) := by decide +kernel
theorem d_M_curvesOf_9 : decode prog_4_method_18_code 9 = .ok (.return_, 1) := by decide +kernel
theorem d_M_curves_0 : decode prog_4_method_19_code 0 = .ok (.aload_n 0, 1) := by decide +kernel
theorem d_M_curves_1 : decode prog_4_method_19_code 1 = .ok (.iload_n 1, 1) := by decide +kernel
theorem d_M_curves_2 : decode prog_4_method_19_code 2 = .ok (.i2l, 1) := by decide +kernel
theorem d_M_curves_3 : decode prog_4_method_19_code 3 = .ok (.lconst 0, 1) := by decide +kernel
theorem d_M_curves_4 : decode prog_4_method_19_code 4 = .ok (.iconst 2, 1) := by decide +kernel
theorem d_M_curves_5 : decode prog_4_method_19_code 5 = .ok (.aload_n 0, 1) := by decide +kernel
theorem d_M_curves_6 : decode prog_4_method_19_code 6 = .ok (.getfield 51, 3) := by decide +kernel
theorem d_M_curves_9 : decode prog_4_method_19_code 9 = .ok (.imul, 1) := by decide +kernel
theorem d_M_curves_10 : decode prog_4_method_19_code 10 = .ok (.i2l, 1) := by decide +kernel
theorem d_M_curves_11 : decode prog_4_method_19_code 11 = .ok (.invokestatic 41, 3) := by decide +kernel
theorem d_M_curves_14 : decode prog_4_method_19_code 14 = .ok (.ifCond .eq 7, 3) := by decide +kernel
theorem d_M_curves_17 : decode prog_4_method_19_code 17 = .ok (.iconst 0, 1) := by decide +kernel
theorem d_M_curves_18 : decode prog_4_method_19_code 18 = .ok (.goto 4, 3) := by decide +kernel
theorem d_M_curves_21 : decode prog_4_method_19_code 21 = .ok (.iconst 1, 1) := by decide +kernel
theorem d_M_curves_22 : decode prog_4_method_19_code 22 = .ok (.putfield 26, 3) := by decide +kernel
theorem d_M_curves_25 : decode prog_4_method_19_code 25 = .ok (.aload_n 0, 1) := by decide +kernel
theorem d_M_curves_26 : decode prog_4_method_19_code 26 = .ok (.getfield 26, 3) := by decide +kernel
theorem d_M_curves_29 : decode prog_4_method_19_code 29 = .ok (.ifCond .le 5, 3) := by decide +kernel
theorem d_M_curves_32 : decode prog_4_method_19_code 32 = .ok (.iconst 0, 1) := by decide +kernel
theorem d_M_curves_33 : decode prog_4_method_19_code 33 = .ok (.ireturn, 1) := by decide +kernel
theorem d_M_curves_34 : decode prog_4_method_19_code 34 = .ok (.aload_n 0, 1) := by decide +kernel
theorem d_M_curves_35 : decode prog_4_method_19_code 35 = .ok (.iload_n 1, 1) := by decide +kernel
theorem d_M_curves_36 : decode prog_4_method_19_code 36 = .ok (.invokevirtual 86, 3) := by decide +kernel
theorem d_M_curves_39 : decode prog_4_method_19_code 39 = .ok (.aload_n 0, 1) := by decide +kernel
theorem d_M_curves_40 : decode prog_4_method_19_code 40 = .ok (.getfield 69, 3) := by decide +kernel
theorem d_M_curves_43 : decode prog_4_method_19_code 43 = .ok (.ireturn, 1) := by decide +kernel
theorem d_M_total_0 : decode prog_4_method_20_code 0 = .ok (.aload_n 0, 1) := by decide +kernel
theorem d_M_total_1 : decode prog_4_method_20_code 1 = .ok (.iconst 0, 1) := by decide +kernel
theorem d_M_total_2 : decode prog_4_method_20_code 2 = .ok (.putfield 26, 3) := by decide +kernel
theorem d_M_total_5 : decode prog_4_method_20_code 5 = .ok (.iconst 0, 1) := by decide +kernel
theorem d_M_total_6 : decode prog_4_method_20_code 6 = .ok (.istore_n 1, 1) := by decide +kernel
theorem d_M_total_7 : decode prog_4_method_20_code 7 = .ok (.iconst 0, 1) := by decide +kernel
theorem d_M_total_8 : decode prog_4_method_20_code 8 = .ok (.istore_n 2, 1) := by decide +kernel
theorem d_M_total_9 : decode prog_4_method_20_code 9 = .ok (.iload_n 2, 1) := by decide +kernel
theorem d_M_total_10 : decode prog_4_method_20_code 10 = .ok (.iconst 2, 1) := by decide +kernel
theorem d_M_total_11 : decode prog_4_method_20_code 11 = .ok (.aload_n 0, 1) := by decide +kernel
theorem d_M_total_12 : decode prog_4_method_20_code 12 = .ok (.getfield 51, 3) := by decide +kernel
theorem d_M_total_15 : decode prog_4_method_20_code 15 = .ok (.imul, 1) := by decide +kernel
theorem d_M_total_16 : decode prog_4_method_20_code 16 = .ok (.if_icmp .gt 25, 3) := by decide +kernel
theorem d_M_total_19 : decode prog_4_method_20_code 19 = .ok (.aload_n 0, 1) := by decide +kernel
theorem d_M_total_20 : decode prog_4_method_20_code 20 = .ok (.iload_n 2, 1) := by decide +kernel
theorem d_M_total_21 : decode prog_4_method_20_code 21 = .ok (.invokevirtual 86, 3) := by decide +kernel
theorem d_M_total_24 : decode prog_4_method_20_code 24 = .ok (.iload_n 1, 1) := by decide +kernel
theorem d_M_total_25 : decode prog_4_method_20_code 25 = .ok (.iconst 2, 1) := by decide +kernel
theorem d_M_total_26 : decode prog_4_method_20_code 26 = .ok (.aload_n 0, 1) := by decide +kernel
theorem d_M_total_27 : decode prog_4_method_20_code 27 = .ok (.getfield 69, 3) := by decide +kernel
theorem d_M_total_30 : decode prog_4_method_20_code 30 = .ok (.imul, 1) := by decide +kernel
theorem d_M_total_31 : decode prog_4_method_20_code 31 = .ok (.iconst 1, 1) := by decide +kernel
theorem d_M_total_32 : decode prog_4_method_20_code 32 = .ok (.iadd, 1) := by decide +kernel
theorem d_M_total_33 : decode prog_4_method_20_code 33 = .ok (.iadd, 1) := by decide +kernel
theorem d_M_total_34 : decode prog_4_method_20_code 34 = .ok (.istore_n 1, 1) := by decide +kernel
theorem d_M_total_35 : decode prog_4_method_20_code 35 = .ok (.iinc 2 1, 3) := by decide +kernel
theorem d_M_total_38 : decode prog_4_method_20_code 38 = .ok (.goto (-29), 3) := by decide +kernel
theorem d_M_total_41 : decode prog_4_method_20_code 41 = .ok (.iload_n 1, 1) := by decide +kernel
theorem d_M_total_42 : decode prog_4_method_20_code 42 = .ok (.ireturn, 1) := by decide +kernel
theorem d_M_isCell_0 : decode prog_4_method_21_code 0 = .ok (.iload_n 1, 1) := by decide +kernel
theorem d_M_isCell_1 : decode prog_4_method_21_code 1 = .ok (.istore_n 2, 1) := by decide +kernel
theorem d_M_isCell_2 : decode prog_4_method_21_code 2 = .ok (.iconst 0, 1) := by decide +kernel
theorem d_M_isCell_3 : decode prog_4_method_21_code 3 = .ok (.istore_n 3, 1) := by decide +kernel
theorem d_M_isCell_4 : decode prog_4_method_21_code 4 = .ok (.iload_n 3, 1) := by decide +kernel
theorem d_M_isCell_5 : decode prog_4_method_21_code 5 = .ok (.iconst 2, 1) := by decide +kernel
theorem d_M_isCell_6 : decode prog_4_method_21_code 6 = .ok (.aload_n 0, 1) := by decide +kernel
theorem d_M_isCell_7 : decode prog_4_method_21_code 7 = .ok (.getfield 51, 3) := by decide +kernel
theorem d_M_isCell_10 : decode prog_4_method_21_code 10 = .ok (.imul, 1) := by decide +kernel
theorem d_M_isCell_11 : decode prog_4_method_21_code 11 = .ok (.if_icmp .gt 51, 3) := by decide +kernel
theorem d_M_isCell_14 : decode prog_4_method_21_code 14 = .ok (.iload_n 1, 1) := by decide +kernel
theorem d_M_isCell_15 : decode prog_4_method_21_code 15 = .ok (.ifCond .lt 47, 3) := by decide +kernel
theorem d_M_isCell_18 : decode prog_4_method_21_code 18 = .ok (.aload_n 0, 1) := by decide +kernel
theorem d_M_isCell_19 : decode prog_4_method_21_code 19 = .ok (.iload_n 3, 1) := by decide +kernel
theorem d_M_isCell_20 : decode prog_4_method_21_code 20 = .ok (.invokevirtual 86, 3) := by decide +kernel
theorem d_M_isCell_23 : decode prog_4_method_21_code 23 = .ok (.iload_n 2, 1) := by decide +kernel
theorem d_M_isCell_24 : decode prog_4_method_21_code 24 = .ok (.iconst 2, 1) := by decide +kernel
theorem d_M_isCell_25 : decode prog_4_method_21_code 25 = .ok (.aload_n 0, 1) := by decide +kernel
theorem d_M_isCell_26 : decode prog_4_method_21_code 26 = .ok (.getfield 69, 3) := by decide +kernel
theorem d_M_isCell_29 : decode prog_4_method_21_code 29 = .ok (.imul, 1) := by decide +kernel
theorem d_M_isCell_30 : decode prog_4_method_21_code 30 = .ok (.if_icmp .gt 15, 3) := by decide +kernel
theorem d_M_isCell_33 : decode prog_4_method_21_code 33 = .ok (.aload_n 0, 1) := by decide +kernel
theorem d_M_isCell_34 : decode prog_4_method_21_code 34 = .ok (.iload_n 3, 1) := by decide +kernel
theorem d_M_isCell_35 : decode prog_4_method_21_code 35 = .ok (.putfield 89, 3) := by decide +kernel
theorem d_M_isCell_38 : decode prog_4_method_21_code 38 = .ok (.aload_n 0, 1) := by decide +kernel
theorem d_M_isCell_39 : decode prog_4_method_21_code 39 = .ok (.iload_n 2, 1) := by decide +kernel
theorem d_M_isCell_40 : decode prog_4_method_21_code 40 = .ok (.putfield 92, 3) := by decide +kernel
theorem d_M_isCell_43 : decode prog_4_method_21_code 43 = .ok (.iconst 1, 1) := by decide +kernel
theorem d_M_isCell_44 : decode prog_4_method_21_code 44 = .ok (.ireturn, 1) := by decide +kernel
theorem d_M_isCell_45 : decode prog_4_method_21_code 45 = .ok (.iload_n 2, 1) := by decide +kernel
theorem d_M_isCell_46 : decode prog_4_method_21_code 46 = .ok (.iconst 2, 1) := by decide +kernel
theorem d_M_isCell_47 : decode prog_4_method_21_code 47 = .ok (.aload_n 0, 1) := by decide +kernel
theorem d_M_isCell_48 : decode prog_4_method_21_code 48 = .ok (.getfield 69, 3) := by decide +kernel
theorem d_M_isCell_51 : decode prog_4_method_21_code 51 = .ok (.imul, 1) := by decide +kernel
theorem d_M_isCell_52 : decode prog_4_method_21_code 52 = .ok (.iconst 1, 1) := by decide +kernel
theorem d_M_isCell_53 : decode prog_4_method_21_code 53 = .ok (.iadd, 1) := by decide +kernel
theorem d_M_isCell_54 : decode prog_4_method_21_code 54 = .ok (.isub, 1) := by decide +kernel
theorem d_M_isCell_55 : decode prog_4_method_21_code 55 = .ok (.istore_n 2, 1) := by decide +kernel
theorem d_M_isCell_56 : decode prog_4_method_21_code 56 = .ok (.iinc 3 1, 3) := by decide +kernel
theorem d_M_isCell_59 : decode prog_4_method_21_code 59 = .ok (.goto (-55), 3) := by decide +kernel
theorem d_M_isCell_62 : decode prog_4_method_21_code 62 = .ok (.iconst 0, 1) := by decide +kernel
theorem d_M_isCell_63 : decode prog_4_method_21_code 63 = .ok (.ireturn, 1) := by decide +kernel
theorem d_M_cell_0 : decode prog_4_method_22_code 0 = .ok (.aload_n 0, 1) := by decide +kernel
theorem d_M_cell_1 : decode prog_4_method_22_code 1 = .ok (.aload_n 0, 1) := by decide +kernel
theorem d_M_cell_2 : decode prog_4_method_22_code 2 = .ok (.iload_n 1, 1) := by decide +kernel
theorem d_M_cell_3 : decode prog_4_method_22_code 3 = .ok (.invokevirtual 95, 3) := by decide +kernel
theorem d_M_cell_6 : decode prog_4_method_22_code 6 = .ok (.ifCond .ne 7, 3) := by decide +kernel
theorem d_M_cell_9 : decode prog_4_method_22_code 9 = .ok (.iconst 1, 1) := by decide +kernel
theorem d_M_cell_10 : decode prog_4_method_22_code 10 = .ok (.goto 20, 3) := by decide +kernel
theorem d_M_cell_13 : decode prog_4_method_22_code 13 = .ok (.iload_n 2, 1) := by decide +kernel
theorem d_M_cell_14 : decode prog_4_method_22_code 14 = .ok (.i2l, 1) := by decide +kernel
theorem d_M_cell_15 : decode prog_4_method_22_code 15 = .ok (.lconst 0, 1) := by decide +kernel
theorem d_M_cell_16 : decode prog_4_method_22_code 16 = .ok (.ldc2_w 61, 3) := by decide +kernel
theorem d_M_cell_19 : decode prog_4_method_22_code 19 = .ok (.invokestatic 41, 3) := by decide +kernel
theorem d_M_cell_22 : decode prog_4_method_22_code 22 = .ok (.ifCond .eq 7, 3) := by decide +kernel
theorem d_M_cell_25 : decode prog_4_method_22_code 25 = .ok (.iconst 0, 1) := by decide +kernel
theorem d_M_cell_26 : decode prog_4_method_22_code 26 = .ok (.goto 4, 3) := by decide +kernel
theorem d_M_cell_29 : decode prog_4_method_22_code 29 = .ok (.iconst 2, 1) := by decide +kernel
theorem d_M_cell_30 : decode prog_4_method_22_code 30 = .ok (.putfield 26, 3) := by decide +kernel
theorem d_M_cell_33 : decode prog_4_method_22_code 33 = .ok (.aload_n 0, 1) := by decide +kernel
theorem d_M_cell_34 : decode prog_4_method_22_code 34 = .ok (.getfield 26, 3) := by decide +kernel
theorem d_M_cell_37 : decode prog_4_method_22_code 37 = .ok (.ifCond .le 5, 3) := by decide +kernel
theorem d_M_cell_40 : decode prog_4_method_22_code 40 = .ok (.iconst 0, 1) := by decide +kernel
theorem d_M_cell_41 : decode prog_4_method_22_code 41 = .ok (.ireturn, 1) := by decide +kernel
theorem d_M_cell_42 : decode prog_4_method_22_code 42 = .ok (.iload_n 2, 1) := by decide +kernel
theorem d_M_cell_43 : decode prog_4_method_22_code 43 = .ok (.ifCond .ne 10, 3) := by decide +kernel
theorem d_M_cell_46 : decode prog_4_method_22_code 46 = .ok (.aload_n 0, 1) := by decide +kernel
theorem d_M_cell_47 : decode prog_4_method_22_code 47 = .ok (.getfield 89, 3) := by decide +kernel
theorem d_M_cell_50 : decode prog_4_method_22_code 50 = .ok (.goto 30, 3) := by decide +kernel
theorem d_M_cell_53 : decode prog_4_method_22_code 53 = .ok (.iload_n 2, 1) := by decide +kernel
theorem d_M_cell_54 : decode prog_4_method_22_code 54 = .ok (.iconst 1, 1) := by decide +kernel
theorem d_M_cell_55 : decode prog_4_method_22_code 55 = .ok (.if_icmp .ne 10, 3) := by decide +kernel
theorem d_M_cell_58 : decode prog_4_method_22_code 58 = .ok (.aload_n 0, 1) := by decide +kernel
theorem d_M_cell_59 : decode prog_4_method_22_code 59 = .ok (.getfield 92, 3) := by decide +kernel
theorem d_M_cell_62 : decode prog_4_method_22_code 62 = .ok (.goto 18, 3) := by decide +kernel
theorem d_M_cell_65 : decode prog_4_method_22_code 65 = .ok (.iconst 2, 1) := by decide +kernel
theorem d_M_cell_66 : decode prog_4_method_22_code 66 = .ok (.aload_n 0, 1) := by decide +kernel
theorem d_M_cell_67 : decode prog_4_method_22_code 67 = .ok (.getfield 89, 3) := by decide +kernel
theorem d_M_cell_70 : decode prog_4_method_22_code 70 = .ok (.iconst 2, 1) := by decide +kernel
theorem d_M_cell_71 : decode prog_4_method_22_code 71 = .ok (.irem, 1) := by decide +kernel
theorem d_M_cell_72 : decode prog_4_method_22_code 72 = .ok (.isub, 1) := by decide +kernel
theorem d_M_cell_73 : decode prog_4_method_22_code 73 = .ok (.aload_n 0, 1) := by decide +kernel
theorem d_M_cell_74 : decode prog_4_method_22_code 74 = .ok (.getfield 92, 3) := by decide +kernel
theorem d_M_cell_77 : decode prog_4_method_22_code 77 = .ok (.iconst 2, 1) := by decide +kernel
theorem d_M_cell_78 : decode prog_4_method_22_code 78 = .ok (.irem, 1) := by decide +kernel
theorem d_M_cell_79 : decode prog_4_method_22_code 79 = .ok (.isub, 1) := by decide +kernel
theorem d_M_cell_80 : decode prog_4_method_22_code 80 = .ok (.ireturn, 1) := by decide +kernel
theorem d_M_sampleY_0 : decode prog_4_method_23_code 0 = .ok (.aload_n 0, 1) := by decide +kernel
theorem d_M_sampleY_1 : decode prog_4_method_23_code 1 = .ok (.getfield 92, 3) := by decide +kernel
theorem d_M_sampleY_4 : decode prog_4_method_23_code 4 = .ok (.iconst 2, 1) := by decide +kernel
theorem d_M_sampleY_5 : decode prog_4_method_23_code 5 = .ok (.idiv, 1) := by decide +kernel
theorem d_M_sampleY_6 : decode prog_4_method_23_code 6 = .ok (.istore_n 1, 1) := by decide +kernel
theorem d_M_sampleY_7 : decode prog_4_method_23_code 7 = .ok (.aload_n 0, 1) := by decide +kernel
theorem d_M_sampleY_8 : decode prog_4_method_23_code 8 = .ok (.getfield 69, 3) := by decide +kernel
theorem d_M_sampleY_11 : decode prog_4_method_23_code 11 = .ok (.ifCond .ne 12, 3) := by decide +kernel
theorem d_M_sampleY_14 : decode prog_4_method_23_code 14 = .ok (.aload_n 0, 1) := by decide +kernel
theorem d_M_sampleY_15 : decode prog_4_method_23_code 15 = .ok (.lconst 0, 1) := by decide +kernel
theorem d_M_sampleY_16 : decode prog_4_method_23_code 16 = .ok (.lconst 1, 1) := by decide +kernel
theorem d_M_sampleY_17 : decode prog_4_method_23_code 17 = .ok (.invokevirtual 54, 3) := by decide +kernel
theorem d_M_sampleY_20 : decode prog_4_method_23_code 20 = .ok (.goto 159, 3) := by decide +kernel
theorem d_M_sampleY_23 : decode prog_4_method_23_code 23 = .ok (.aload_n 0, 1) := by decide +kernel
theorem d_M_sampleY_24 : decode prog_4_method_23_code 24 = .ok (.getfield 92, 3) := by decide +kernel
theorem d_M_sampleY_27 : decode prog_4_method_23_code 27 = .ok (.iconst 2, 1) := by decide +kernel
theorem d_M_sampleY_28 : decode prog_4_method_23_code 28 = .ok (.irem, 1) := by decide +kernel
theorem d_M_sampleY_29 : decode prog_4_method_23_code 29 = .ok (.iconst 1, 1) := by decide +kernel
theorem d_M_sampleY_30 : decode prog_4_method_23_code 30 = .ok (.if_icmp .ne 22, 3) := by decide +kernel
theorem d_M_sampleY_33 : decode prog_4_method_23_code 33 = .ok (.aload_n 0, 1) := by decide +kernel
theorem d_M_sampleY_34 : decode prog_4_method_23_code 34 = .ok (.aload_n 0, 1) := by decide +kernel
theorem d_M_sampleY_35 : decode prog_4_method_23_code 35 = .ok (.getfield 20, 3) := by decide +kernel
theorem d_M_sampleY_38 : decode prog_4_method_23_code 38 = .ok (.iload_n 1, 1) := by decide +kernel
theorem d_M_sampleY_39 : decode prog_4_method_23_code 39 = .ok (.laload, 1) := by decide +kernel
theorem d_M_sampleY_40 : decode prog_4_method_23_code 40 = .ok (.aload_n 0, 1) := by decide +kernel
theorem d_M_sampleY_41 : decode prog_4_method_23_code 41 = .ok (.getfield 23, 3) := by decide +kernel
theorem d_M_sampleY_44 : decode prog_4_method_23_code 44 = .ok (.iload_n 1, 1) := by decide +kernel
theorem d_M_sampleY_45 : decode prog_4_method_23_code 45 = .ok (.laload, 1) := by decide +kernel
theorem d_M_sampleY_46 : decode prog_4_method_23_code 46 = .ok (.invokevirtual 54, 3) := by decide +kernel
theorem d_M_sampleY_49 : decode prog_4_method_23_code 49 = .ok (.goto 130, 3) := by decide +kernel
theorem d_M_sampleY_52 : decode prog_4_method_23_code 52 = .ok (.aload_n 0, 1) := by decide +kernel
theorem d_M_sampleY_53 : decode prog_4_method_23_code 53 = .ok (.getfield 92, 3) := by decide +kernel
theorem d_M_sampleY_56 : decode prog_4_method_23_code 56 = .ok (.ifCond .ne 29, 3) := by decide +kernel
theorem d_M_sampleY_59 : decode prog_4_method_23_code 59 = .ok (.aload_n 0, 1) := by decide +kernel
theorem d_M_sampleY_60 : decode prog_4_method_23_code 60 = .ok (.aload_n 0, 1) := by decide +kernel
theorem d_M_sampleY_61 : decode prog_4_method_23_code 61 = .ok (.getfield 20, 3) := by decide +kernel
theorem d_M_sampleY_64 : decode prog_4_method_23_code 64 = .ok (.iconst 0, 1) := by decide +kernel
theorem d_M_sampleY_65 : decode prog_4_method_23_code 65 = .ok (.laload, 1) := by decide +kernel
theorem d_M_sampleY_66 : decode prog_4_method_23_code 66 = .ok (.aload_n 0, 1) := by decide +kernel
theorem d_M_sampleY_67 : decode prog_4_method_23_code 67 = .ok (.getfield 23, 3) := by decide +kernel
theorem d_M_sampleY_70 : decode prog_4_method_23_code 70 = .ok (.iconst 0, 1) := by decide +kernel
theorem d_M_sampleY_71 : decode prog_4_method_23_code 71 = .ok (.laload, 1) := by decide +kernel
theorem d_M_sampleY_72 : decode prog_4_method_23_code 72 = .ok (.lsub, 1) := by decide +kernel
theorem d_M_sampleY_73 : decode prog_4_method_23_code 73 = .ok (.aload_n 0, 1) := by decide +kernel
theorem d_M_sampleY_74 : decode prog_4_method_23_code 74 = .ok (.getfield 23, 3) := by decide +kernel
theorem d_M_sampleY_77 : decode prog_4_method_23_code 77 = .ok (.iconst 0, 1) := by decide +kernel
theorem d_M_sampleY_78 : decode prog_4_method_23_code 78 = .ok (.laload, 1) := by decide +kernel
theorem d_M_sampleY_79 : decode prog_4_method_23_code 79 = .ok (.invokevirtual 54, 3) := by decide +kernel
theorem d_M_sampleY_82 : decode prog_4_method_23_code 82 = .ok (.goto 97, 3) := by decide +kernel
theorem d_M_sampleY_85 : decode prog_4_method_23_code 85 = .ok (.iload_n 1, 1) := by decide +kernel
theorem d_M_sampleY_86 : decode prog_4_method_23_code 86 = .ok (.aload_n 0, 1) := by decide +kernel
theorem d_M_sampleY_87 : decode prog_4_method_23_code 87 = .ok (.getfield 69, 3) := by decide +kernel
theorem d_M_sampleY_90 : decode prog_4_method_23_code 90 = .ok (.if_icmp .ne 35, 3) := by decide +kernel
theorem d_M_sampleY_93 : decode prog_4_method_23_code 93 = .ok (.aload_n 0, 1) := by decide +kernel
theorem d_M_sampleY_94 : decode prog_4_method_23_code 94 = .ok (.aload_n 0, 1) := by decide +kernel
theorem d_M_sampleY_95 : decode prog_4_method_23_code 95 = .ok (.getfield 20, 3) := by decide +kernel
theorem d_M_sampleY_98 : decode prog_4_method_23_code 98 = .ok (.iload_n 1, 1) := by decide +kernel
theorem d_M_sampleY_99 : decode prog_4_method_23_code 99 = .ok (.iconst 1, 1) := by decide +kernel
theorem d_M_sampleY_100 : decode prog_4_method_23_code 100 = .ok (.isub, 1) := by decide +kernel
theorem d_M_sampleY_101 : decode prog_4_method_23_code 101 = .ok (.laload, 1) := by decide +kernel
theorem d_M_sampleY_102 : decode prog_4_method_23_code 102 = .ok (.aload_n 0, 1) := by decide +kernel
theorem d_M_sampleY_103 : decode prog_4_method_23_code 103 = .ok (.getfield 23, 3) := by decide +kernel
theorem d_M_sampleY_106 : decode prog_4_method_23_code 106 = .ok (.iload_n 1, 1) := by decide +kernel
theorem d_M_sampleY_107 : decode prog_4_method_23_code 107 = .ok (.iconst 1, 1) := by decide +kernel
theorem d_M_sampleY_108 : decode prog_4_method_23_code 108 = .ok (.isub, 1) := by decide +kernel
theorem d_M_sampleY_109 : decode prog_4_method_23_code 109 = .ok (.laload, 1) := by decide +kernel
theorem d_M_sampleY_110 : decode prog_4_method_23_code 110 = .ok (.ladd, 1) := by decide +kernel
theorem d_M_sampleY_111 : decode prog_4_method_23_code 111 = .ok (.aload_n 0, 1) := by decide +kernel
theorem d_M_sampleY_112 : decode prog_4_method_23_code 112 = .ok (.getfield 23, 3) := by decide +kernel
theorem d_M_sampleY_115 : decode prog_4_method_23_code 115 = .ok (.iload_n 1, 1) := by decide +kernel
theorem d_M_sampleY_116 : decode prog_4_method_23_code 116 = .ok (.iconst 1, 1) := by decide +kernel
theorem d_M_sampleY_117 : decode prog_4_method_23_code 117 = .ok (.isub, 1) := by decide +kernel
theorem d_M_sampleY_118 : decode prog_4_method_23_code 118 = .ok (.laload, 1) := by decide +kernel
theorem d_M_sampleY_119 : decode prog_4_method_23_code 119 = .ok (.invokevirtual 54, 3) := by decide +kernel
theorem d_M_sampleY_122 : decode prog_4_method_23_code 122 = .ok (.goto 57, 3) := by decide +kernel
theorem d_M_sampleY_125 : decode prog_4_method_23_code 125 = .ok (.aload_n 0, 1) := by decide +kernel
theorem d_M_sampleY_126 : decode prog_4_method_23_code 126 = .ok (.aload_n 0, 1) := by decide +kernel
theorem d_M_sampleY_127 : decode prog_4_method_23_code 127 = .ok (.getfield 20, 3) := by decide +kernel
theorem d_M_sampleY_130 : decode prog_4_method_23_code 130 = .ok (.iload_n 1, 1) := by decide +kernel
theorem d_M_sampleY_131 : decode prog_4_method_23_code 131 = .ok (.iconst 1, 1) := by decide +kernel
theorem d_M_sampleY_132 : decode prog_4_method_23_code 132 = .ok (.isub, 1) := by decide +kernel
theorem d_M_sampleY_133 : decode prog_4_method_23_code 133 = .ok (.laload, 1) := by decide +kernel
theorem d_M_sampleY_134 : decode prog_4_method_23_code 134 = .ok (.aload_n 0, 1) := by decide +kernel
theorem d_M_sampleY_135 : decode prog_4_method_23_code 135 = .ok (.getfield 23, 3) := by decide +kernel
theorem d_M_sampleY_138 : decode prog_4_method_23_code 138 = .ok (.iload_n 1, 1) := by decide +kernel
theorem d_M_sampleY_139 : decode prog_4_method_23_code 139 = .ok (.laload, 1) := by decide +kernel
theorem d_M_sampleY_140 : decode prog_4_method_23_code 140 = .ok (.lmul, 1) := by decide +kernel
theorem d_M_sampleY_141 : decode prog_4_method_23_code 141 = .ok (.aload_n 0, 1) := by decide +kernel
theorem d_M_sampleY_142 : decode prog_4_method_23_code 142 = .ok (.getfield 20, 3) := by decide +kernel
theorem d_M_sampleY_145 : decode prog_4_method_23_code 145 = .ok (.iload_n 1, 1) := by decide +kernel
theorem d_M_sampleY_146 : decode prog_4_method_23_code 146 = .ok (.laload, 1) := by decide +kernel
theorem d_M_sampleY_147 : decode prog_4_method_23_code 147 = .ok (.aload_n 0, 1) := by decide +kernel
theorem d_M_sampleY_148 : decode prog_4_method_23_code 148 = .ok (.getfield 23, 3) := by decide +kernel
theorem d_M_sampleY_151 : decode prog_4_method_23_code 151 = .ok (.iload_n 1, 1) := by decide +kernel
theorem d_M_sampleY_152 : decode prog_4_method_23_code 152 = .ok (.iconst 1, 1) := by decide +kernel
theorem d_M_sampleY_153 : decode prog_4_method_23_code 153 = .ok (.isub, 1) := by decide +kernel
theorem d_M_sampleY_154 : decode prog_4_method_23_code 154 = .ok (.laload, 1) := by decide +kernel
theorem d_M_sampleY_155 : decode prog_4_method_23_code 155 = .ok (.lmul, 1) := by decide +kernel
theorem d_M_sampleY_156 : decode prog_4_method_23_code 156 = .ok (.ladd, 1) := by decide +kernel
theorem d_M_sampleY_157 : decode prog_4_method_23_code 157 = .ok (.ldc2_w 61, 3) := by decide +kernel
theorem d_M_sampleY_160 : decode prog_4_method_23_code 160 = .ok (.aload_n 0, 1) := by decide +kernel
theorem d_M_sampleY_161 : decode prog_4_method_23_code 161 = .ok (.getfield 23, 3) := by decide +kernel
theorem d_M_sampleY_164 : decode prog_4_method_23_code 164 = .ok (.iload_n 1, 1) := by decide +kernel
theorem d_M_sampleY_165 : decode prog_4_method_23_code 165 = .ok (.iconst 1, 1) := by decide +kernel
theorem d_M_sampleY_166 : decode prog_4_method_23_code 166 = .ok (.isub, 1) := by decide +kernel
theorem d_M_sampleY_167 : decode prog_4_method_23_code 167 = .ok (.laload, 1) := by decide +kernel
theorem d_M_sampleY_168 : decode prog_4_method_23_code 168 = .ok (.lmul, 1) := by decide +kernel
theorem d_M_sampleY_169 : decode prog_4_method_23_code 169 = .ok (.aload_n 0, 1) := by decide +kernel
theorem d_M_sampleY_170 : decode prog_4_method_23_code 170 = .ok (.getfield 23, 3) := by decide +kernel
theorem d_M_sampleY_173 : decode prog_4_method_23_code 173 = .ok (.iload_n 1, 1) := by decide +kernel
theorem d_M_sampleY_174 : decode prog_4_method_23_code 174 = .ok (.laload, 1) := by decide +kernel
theorem d_M_sampleY_175 : decode prog_4_method_23_code 175 = .ok (.lmul, 1) := by decide +kernel
theorem d_M_sampleY_176 : decode prog_4_method_23_code 176 = .ok (.invokevirtual 54, 3) := by decide +kernel
theorem d_M_sampleY_179 : decode prog_4_method_23_code 179 = .ok (.return_, 1) := by decide +kernel
theorem d_M_sample_0 : decode prog_4_method_24_code 0 = .ok (.aload_n 0, 1) := by decide +kernel
theorem d_M_sample_1 : decode prog_4_method_24_code 1 = .ok (.aload_n 0, 1) := by decide +kernel
theorem d_M_sample_2 : decode prog_4_method_24_code 2 = .ok (.iload_n 1, 1) := by decide +kernel
theorem d_M_sample_3 : decode prog_4_method_24_code 3 = .ok (.invokevirtual 95, 3) := by decide +kernel
theorem d_M_sample_6 : decode prog_4_method_24_code 6 = .ok (.ifCond .ne 7, 3) := by decide +kernel
theorem d_M_sample_9 : decode prog_4_method_24_code 9 = .ok (.iconst 1, 1) := by decide +kernel
theorem d_M_sample_10 : decode prog_4_method_24_code 10 = .ok (.goto 28, 3) := by decide +kernel
theorem d_M_sample_13 : decode prog_4_method_24_code 13 = .ok (.iload_n 2, 1) := by decide +kernel
theorem d_M_sample_14 : decode prog_4_method_24_code 14 = .ok (.i2l, 1) := by decide +kernel
theorem d_M_sample_15 : decode prog_4_method_24_code 15 = .ok (.lconst 0, 1) := by decide +kernel
theorem d_M_sample_16 : decode prog_4_method_24_code 16 = .ok (.lconst 1, 1) := by decide +kernel
theorem d_M_sample_17 : decode prog_4_method_24_code 17 = .ok (.invokestatic 41, 3) := by decide +kernel
theorem d_M_sample_20 : decode prog_4_method_24_code 20 = .ok (.ifCond .eq 17, 3) := by decide +kernel
theorem d_M_sample_23 : decode prog_4_method_24_code 23 = .ok (.iload_n 3, 1) := by decide +kernel
theorem d_M_sample_24 : decode prog_4_method_24_code 24 = .ok (.i2l, 1) := by decide +kernel
theorem d_M_sample_25 : decode prog_4_method_24_code 25 = .ok (.lconst 0, 1) := by decide +kernel
theorem d_M_sample_26 : decode prog_4_method_24_code 26 = .ok (.lconst 1, 1) := by decide +kernel
theorem d_M_sample_27 : decode prog_4_method_24_code 27 = .ok (.invokestatic 41, 3) := by decide +kernel
theorem d_M_sample_30 : decode prog_4_method_24_code 30 = .ok (.ifCond .eq 7, 3) := by decide +kernel
theorem d_M_sample_33 : decode prog_4_method_24_code 33 = .ok (.iconst 0, 1) := by decide +kernel
theorem d_M_sample_34 : decode prog_4_method_24_code 34 = .ok (.goto 4, 3) := by decide +kernel
theorem d_M_sample_37 : decode prog_4_method_24_code 37 = .ok (.iconst 2, 1) := by decide +kernel
theorem d_M_sample_38 : decode prog_4_method_24_code 38 = .ok (.putfield 26, 3) := by decide +kernel
theorem d_M_sample_41 : decode prog_4_method_24_code 41 = .ok (.aload_n 0, 1) := by decide +kernel
theorem d_M_sample_42 : decode prog_4_method_24_code 42 = .ok (.getfield 26, 3) := by decide +kernel
theorem d_M_sample_45 : decode prog_4_method_24_code 45 = .ok (.ifCond .le 5, 3) := by decide +kernel
theorem d_M_sample_48 : decode prog_4_method_24_code 48 = .ok (.lconst 0, 1) := by decide +kernel
theorem d_M_sample_49 : decode prog_4_method_24_code 49 = .ok (.lreturn, 1) := by decide +kernel
theorem d_M_sample_50 : decode prog_4_method_24_code 50 = .ok (.iload_n 2, 1) := by decide +kernel
theorem d_M_sample_51 : decode prog_4_method_24_code 51 = .ok (.ifCond .ne 18, 3) := by decide +kernel
theorem d_M_sample_54 : decode prog_4_method_24_code 54 = .ok (.aload_n 0, 1) := by decide +kernel
theorem d_M_sample_55 : decode prog_4_method_24_code 55 = .ok (.aload_n 0, 1) := by decide +kernel
theorem d_M_sample_56 : decode prog_4_method_24_code 56 = .ok (.getfield 63, 3) := by decide +kernel
theorem d_M_sample_59 : decode prog_4_method_24_code 59 = .ok (.aload_n 0, 1) := by decide +kernel
theorem d_M_sample_60 : decode prog_4_method_24_code 60 = .ok (.getfield 66, 3) := by decide +kernel
theorem d_M_sample_63 : decode prog_4_method_24_code 63 = .ok (.invokevirtual 54, 3) := by decide +kernel
theorem d_M_sample_66 : decode prog_4_method_24_code 66 = .ok (.goto 7, 3) := by decide +kernel
theorem d_M_sample_69 : decode prog_4_method_24_code 69 = .ok (.aload_n 0, 1) := by decide +kernel
theorem d_M_sample_70 : decode prog_4_method_24_code 70 = .ok (.invokevirtual 99, 3) := by decide +kernel
theorem d_M_sample_73 : decode prog_4_method_24_code 73 = .ok (.aload_n 0, 1) := by decide +kernel
theorem d_M_sample_74 : decode prog_4_method_24_code 74 = .ok (.iload_n 3, 1) := by decide +kernel
theorem d_M_sample_75 : decode prog_4_method_24_code 75 = .ok (.invokevirtual 102, 3) := by decide +kernel
theorem d_M_sample_78 : decode prog_4_method_24_code 78 = .ok (.lreturn, 1) := by decide +kernel
theorem d_M_signAt_0 : decode prog_4_method_25_code 0 = .ok (.aload_n 0, 1) := by decide +kernel
theorem d_M_signAt_1 : decode prog_4_method_25_code 1 = .ok (.getfield 7, 3) := by decide +kernel
theorem d_M_signAt_4 : decode prog_4_method_25_code 4 = .ok (.iconst 3, 1) := by decide +kernel
theorem d_M_signAt_5 : decode prog_4_method_25_code 5 = .ok (.iload_n 1, 1) := by decide +kernel
theorem d_M_signAt_6 : decode prog_4_method_25_code 6 = .ok (.imul, 1) := by decide +kernel
theorem d_M_signAt_7 : decode prog_4_method_25_code 7 = .ok (.iaload, 1) := by decide +kernel
theorem d_M_signAt_8 : decode prog_4_method_25_code 8 = .ok (.i2l, 1) := by decide +kernel
theorem d_M_signAt_9 : decode prog_4_method_25_code 9 = .ok (.aload_n 0, 1) := by decide +kernel
theorem d_M_signAt_10 : decode prog_4_method_25_code 10 = .ok (.getfield 63, 3) := by decide +kernel
theorem d_M_signAt_13 : decode prog_4_method_25_code 13 = .ok (.lmul, 1) := by decide +kernel
theorem d_M_signAt_14 : decode prog_4_method_25_code 14 = .ok (.aload_n 0, 1) := by decide +kernel
theorem d_M_signAt_15 : decode prog_4_method_25_code 15 = .ok (.getfield 34, 3) := by decide +kernel
theorem d_M_signAt_18 : decode prog_4_method_25_code 18 = .ok (.lmul, 1) := by decide +kernel
theorem d_M_signAt_19 : decode prog_4_method_25_code 19 = .ok (.aload_n 0, 1) := by decide +kernel
theorem d_M_signAt_20 : decode prog_4_method_25_code 20 = .ok (.getfield 7, 3) := by decide +kernel
theorem d_M_signAt_23 : decode prog_4_method_25_code 23 = .ok (.iconst 3, 1) := by decide +kernel
theorem d_M_signAt_24 : decode prog_4_method_25_code 24 = .ok (.iload_n 1, 1) := by decide +kernel
theorem d_M_signAt_25 : decode prog_4_method_25_code 25 = .ok (.imul, 1) := by decide +kernel
theorem d_M_signAt_26 : decode prog_4_method_25_code 26 = .ok (.iconst 1, 1) := by decide +kernel
theorem d_M_signAt_27 : decode prog_4_method_25_code 27 = .ok (.iadd, 1) := by decide +kernel
theorem d_M_signAt_28 : decode prog_4_method_25_code 28 = .ok (.iaload, 1) := by decide +kernel
theorem d_M_signAt_29 : decode prog_4_method_25_code 29 = .ok (.i2l, 1) := by decide +kernel
theorem d_M_signAt_30 : decode prog_4_method_25_code 30 = .ok (.aload_n 0, 1) := by decide +kernel
theorem d_M_signAt_31 : decode prog_4_method_25_code 31 = .ok (.getfield 30, 3) := by decide +kernel
theorem d_M_signAt_34 : decode prog_4_method_25_code 34 = .ok (.lmul, 1) := by decide +kernel
theorem d_M_signAt_35 : decode prog_4_method_25_code 35 = .ok (.aload_n 0, 1) := by decide +kernel
theorem d_M_signAt_36 : decode prog_4_method_25_code 36 = .ok (.getfield 66, 3) := by decide +kernel
theorem d_M_signAt_39 : decode prog_4_method_25_code 39 = .ok (.lmul, 1) := by decide +kernel
theorem d_M_signAt_40 : decode prog_4_method_25_code 40 = .ok (.ladd, 1) := by decide +kernel
theorem d_M_signAt_41 : decode prog_4_method_25_code 41 = .ok (.aload_n 0, 1) := by decide +kernel
theorem d_M_signAt_42 : decode prog_4_method_25_code 42 = .ok (.getfield 7, 3) := by decide +kernel
theorem d_M_signAt_45 : decode prog_4_method_25_code 45 = .ok (.iconst 3, 1) := by decide +kernel
theorem d_M_signAt_46 : decode prog_4_method_25_code 46 = .ok (.iload_n 1, 1) := by decide +kernel
theorem d_M_signAt_47 : decode prog_4_method_25_code 47 = .ok (.imul, 1) := by decide +kernel
theorem d_M_signAt_48 : decode prog_4_method_25_code 48 = .ok (.iconst 2, 1) := by decide +kernel
theorem d_M_signAt_49 : decode prog_4_method_25_code 49 = .ok (.iadd, 1) := by decide +kernel
theorem d_M_signAt_50 : decode prog_4_method_25_code 50 = .ok (.iaload, 1) := by decide +kernel
theorem d_M_signAt_51 : decode prog_4_method_25_code 51 = .ok (.i2l, 1) := by decide +kernel
theorem d_M_signAt_52 : decode prog_4_method_25_code 52 = .ok (.aload_n 0, 1) := by decide +kernel
theorem d_M_signAt_53 : decode prog_4_method_25_code 53 = .ok (.getfield 66, 3) := by decide +kernel
theorem d_M_signAt_56 : decode prog_4_method_25_code 56 = .ok (.lmul, 1) := by decide +kernel
theorem d_M_signAt_57 : decode prog_4_method_25_code 57 = .ok (.aload_n 0, 1) := by decide +kernel
theorem d_M_signAt_58 : decode prog_4_method_25_code 58 = .ok (.getfield 34, 3) := by decide +kernel
theorem d_M_signAt_61 : decode prog_4_method_25_code 61 = .ok (.lmul, 1) := by decide +kernel
theorem d_M_signAt_62 : decode prog_4_method_25_code 62 = .ok (.ladd, 1) := by decide +kernel
theorem d_M_signAt_63 : decode prog_4_method_25_code 63 = .ok (.lstore_n 2, 1) := by decide +kernel
theorem d_M_signAt_64 : decode prog_4_method_25_code 64 = .ok (.lload_n 2, 1) := by decide +kernel
theorem d_M_signAt_65 : decode prog_4_method_25_code 65 = .ok (.lconst 0, 1) := by decide +kernel
theorem d_M_signAt_66 : decode prog_4_method_25_code 66 = .ok (.lcmp, 1) := by decide +kernel
theorem d_M_signAt_67 : decode prog_4_method_25_code 67 = .ok (.ifCond .le 7, 3) := by decide +kernel
theorem d_M_signAt_70 : decode prog_4_method_25_code 70 = .ok (.iconst 1, 1) := by decide +kernel
theorem d_M_signAt_71 : decode prog_4_method_25_code 71 = .ok (.goto 14, 3) := by decide +kernel
theorem d_M_signAt_74 : decode prog_4_method_25_code 74 = .ok (.lload_n 2, 1) := by decide +kernel
theorem d_M_signAt_75 : decode prog_4_method_25_code 75 = .ok (.lconst 0, 1) := by decide +kernel
theorem d_M_signAt_76 : decode prog_4_method_25_code 76 = .ok (.lcmp, 1) := by decide +kernel
theorem d_M_signAt_77 : decode prog_4_method_25_code 77 = .ok (.ifCond .ge 7, 3) := by decide +kernel
theorem d_M_signAt_80 : decode prog_4_method_25_code 80 = .ok (.iconst (-1), 1) := by decide +kernel
theorem d_M_signAt_81 : decode prog_4_method_25_code 81 = .ok (.goto 4, 3) := by decide +kernel
theorem d_M_signAt_84 : decode prog_4_method_25_code 84 = .ok (.iconst 0, 1) := by decide +kernel
theorem d_M_signAt_85 : decode prog_4_method_25_code 85 = .ok (.ireturn, 1) := by decide +kernel
theorem d_M_sign_0 : decode prog_4_method_26_code 0 = .ok (.aload_n 0, 1) := by decide +kernel
theorem d_M_sign_1 : decode prog_4_method_26_code 1 = .ok (.aload_n 0, 1) := by decide +kernel
theorem d_M_sign_2 : decode prog_4_method_26_code 2 = .ok (.iload_n 1, 1) := by decide +kernel
theorem d_M_sign_3 : decode prog_4_method_26_code 3 = .ok (.invokevirtual 95, 3) := by decide +kernel
theorem d_M_sign_6 : decode prog_4_method_26_code 6 = .ok (.ifCond .eq 23, 3) := by decide +kernel
theorem d_M_sign_9 : decode prog_4_method_26_code 9 = .ok (.iload_n 2, 1) := by decide +kernel
theorem d_M_sign_10 : decode prog_4_method_26_code 10 = .ok (.i2l, 1) := by decide +kernel
theorem d_M_sign_11 : decode prog_4_method_26_code 11 = .ok (.lconst 0, 1) := by decide +kernel
theorem d_M_sign_12 : decode prog_4_method_26_code 12 = .ok (.aload_n 0, 1) := by decide +kernel
theorem d_M_sign_13 : decode prog_4_method_26_code 13 = .ok (.getfield 45, 3) := by decide +kernel
theorem d_M_sign_16 : decode prog_4_method_26_code 16 = .ok (.iconst 1, 1) := by decide +kernel
theorem d_M_sign_17 : decode prog_4_method_26_code 17 = .ok (.isub, 1) := by decide +kernel
theorem d_M_sign_18 : decode prog_4_method_26_code 18 = .ok (.i2l, 1) := by decide +kernel
theorem d_M_sign_19 : decode prog_4_method_26_code 19 = .ok (.invokestatic 41, 3) := by decide +kernel
theorem d_M_sign_22 : decode prog_4_method_26_code 22 = .ok (.ifCond .eq 7, 3) := by decide +kernel
theorem d_M_sign_25 : decode prog_4_method_26_code 25 = .ok (.iconst 0, 1) := by decide +kernel
theorem d_M_sign_26 : decode prog_4_method_26_code 26 = .ok (.goto 4, 3) := by decide +kernel
theorem d_M_sign_29 : decode prog_4_method_26_code 29 = .ok (.iconst 1, 1) := by decide +kernel
theorem d_M_sign_30 : decode prog_4_method_26_code 30 = .ok (.putfield 26, 3) := by decide +kernel
theorem d_M_sign_33 : decode prog_4_method_26_code 33 = .ok (.aload_n 0, 1) := by decide +kernel
theorem d_M_sign_34 : decode prog_4_method_26_code 34 = .ok (.getfield 26, 3) := by decide +kernel
theorem d_M_sign_37 : decode prog_4_method_26_code 37 = .ok (.ifCond .le 5, 3) := by decide +kernel
theorem d_M_sign_40 : decode prog_4_method_26_code 40 = .ok (.iconst 0, 1) := by decide +kernel
theorem d_M_sign_41 : decode prog_4_method_26_code 41 = .ok (.ireturn, 1) := by decide +kernel
theorem d_M_sign_42 : decode prog_4_method_26_code 42 = .ok (.aload_n 0, 1) := by decide +kernel
theorem d_M_sign_43 : decode prog_4_method_26_code 43 = .ok (.invokevirtual 99, 3) := by decide +kernel
theorem d_M_sign_46 : decode prog_4_method_26_code 46 = .ok (.aload_n 0, 1) := by decide +kernel
theorem d_M_sign_47 : decode prog_4_method_26_code 47 = .ok (.iload_n 2, 1) := by decide +kernel
theorem d_M_sign_48 : decode prog_4_method_26_code 48 = .ok (.invokevirtual 106, 3) := by decide +kernel
theorem d_M_sign_51 : decode prog_4_method_26_code 51 = .ok (.ireturn, 1) := by decide +kernel
theorem d_M_at_0 : decode prog_4_method_27_code 0 = .ok (.aload_n 0, 1) := by decide +kernel
theorem d_M_at_1 : decode prog_4_method_27_code 1 = .ok (.iload_n 1, 1) := by decide +kernel
theorem d_M_at_2 : decode prog_4_method_27_code 2 = .ok (.i2l, 1) := by decide +kernel
theorem d_M_at_3 : decode prog_4_method_27_code 3 = .ok (.ldc2_w 110, 3) := by decide +kernel
theorem d_M_at_6 : decode prog_4_method_27_code 6 = .ok (.ldc2_w 112, 3) := by decide +kernel
theorem d_M_at_9 : decode prog_4_method_27_code 9 = .ok (.invokestatic 41, 3) := by decide +kernel
theorem d_M_at_12 : decode prog_4_method_27_code 12 = .ok (.ifCond .eq 46, 3) := by decide +kernel
theorem d_M_at_15 : decode prog_4_method_27_code 15 = .ok (.iload_n 2, 1) := by decide +kernel
theorem d_M_at_16 : decode prog_4_method_27_code 16 = .ok (.i2l, 1) := by decide +kernel
theorem d_M_at_17 : decode prog_4_method_27_code 17 = .ok (.lconst 1, 1) := by decide +kernel
theorem d_M_at_18 : decode prog_4_method_27_code 18 = .ok (.ldc2_w 112, 3) := by decide +kernel
theorem d_M_at_21 : decode prog_4_method_27_code 21 = .ok (.invokestatic 41, 3) := by decide +kernel
theorem d_M_at_24 : decode prog_4_method_27_code 24 = .ok (.ifCond .eq 34, 3) := by decide +kernel
theorem d_M_at_27 : decode prog_4_method_27_code 27 = .ok (.iload_n 3, 1) := by decide +kernel
theorem d_M_at_28 : decode prog_4_method_27_code 28 = .ok (.i2l, 1) := by decide +kernel
theorem d_M_at_29 : decode prog_4_method_27_code 29 = .ok (.ldc2_w 110, 3) := by decide +kernel
theorem d_M_at_32 : decode prog_4_method_27_code 32 = .ok (.ldc2_w 112, 3) := by decide +kernel
theorem d_M_at_35 : decode prog_4_method_27_code 35 = .ok (.invokestatic 41, 3) := by decide +kernel
theorem d_M_at_38 : decode prog_4_method_27_code 38 = .ok (.ifCond .eq 20, 3) := by decide +kernel
theorem d_M_at_41 : decode prog_4_method_27_code 41 = .ok (.iload 4, 2) := by decide +kernel
theorem d_M_at_43 : decode prog_4_method_27_code 43 = .ok (.i2l, 1) := by decide +kernel
theorem d_M_at_44 : decode prog_4_method_27_code 44 = .ok (.lconst 1, 1) := by decide +kernel
theorem d_M_at_45 : decode prog_4_method_27_code 45 = .ok (.ldc2_w 112, 3) := by decide +kernel
theorem d_M_at_48 : decode prog_4_method_27_code 48 = .ok (.invokestatic 41, 3) := by decide +kernel
theorem d_M_at_51 : decode prog_4_method_27_code 51 = .ok (.ifCond .eq 7, 3) := by decide +kernel
theorem d_M_at_54 : decode prog_4_method_27_code 54 = .ok (.iconst 0, 1) := by decide +kernel
theorem d_M_at_55 : decode prog_4_method_27_code 55 = .ok (.goto 4, 3) := by decide +kernel
theorem d_M_at_58 : decode prog_4_method_27_code 58 = .ok (.iconst 1, 1) := by decide +kernel
theorem d_M_at_59 : decode prog_4_method_27_code 59 = .ok (.putfield 26, 3) := by decide +kernel
theorem d_M_at_62 : decode prog_4_method_27_code 62 = .ok (.aload_n 0, 1) := by decide +kernel
theorem d_M_at_63 : decode prog_4_method_27_code 63 = .ok (.getfield 26, 3) := by decide +kernel
theorem d_M_at_66 : decode prog_4_method_27_code 66 = .ok (.ifCond .le 5, 3) := by decide +kernel
theorem d_M_at_69 : decode prog_4_method_27_code 69 = .ok (.iconst 0, 1) := by decide +kernel
theorem d_M_at_70 : decode prog_4_method_27_code 70 = .ok (.ireturn, 1) := by decide +kernel
theorem d_M_at_71 : decode prog_4_method_27_code 71 = .ok (.iconst 0, 1) := by decide +kernel
theorem d_M_at_72 : decode prog_4_method_27_code 72 = .ok (.istore 5, 2) := by decide +kernel
theorem d_M_at_74 : decode prog_4_method_27_code 74 = .ok (.iload 5, 2) := by decide +kernel
theorem d_M_at_76 : decode prog_4_method_27_code 76 = .ok (.iconst 2, 1) := by decide +kernel
theorem d_M_at_77 : decode prog_4_method_27_code 77 = .ok (.aload_n 0, 1) := by decide +kernel
theorem d_M_at_78 : decode prog_4_method_27_code 78 = .ok (.getfield 51, 3) := by decide +kernel
theorem d_M_at_81 : decode prog_4_method_27_code 81 = .ok (.imul, 1) := by decide +kernel
theorem d_M_at_82 : decode prog_4_method_27_code 82 = .ok (.if_icmp .ge 75, 3) := by decide +kernel
theorem d_M_at_85 : decode prog_4_method_27_code 85 = .ok (.iload 5, 2) := by decide +kernel
theorem d_M_at_87 : decode prog_4_method_27_code 87 = .ok (.iconst 2, 1) := by decide +kernel
theorem d_M_at_88 : decode prog_4_method_27_code 88 = .ok (.irem, 1) := by decide +kernel
theorem d_M_at_89 : decode prog_4_method_27_code 89 = .ok (.ifCond .ne 34, 3) := by decide +kernel
theorem d_M_at_92 : decode prog_4_method_27_code 92 = .ok (.aload_n 0, 1) := by decide +kernel
theorem d_M_at_93 : decode prog_4_method_27_code 93 = .ok (.getfield 13, 3) := by decide +kernel
theorem d_M_at_96 : decode prog_4_method_27_code 96 = .ok (.iload 5, 2) := by decide +kernel
theorem d_M_at_98 : decode prog_4_method_27_code 98 = .ok (.iconst 2, 1) := by decide +kernel
theorem d_M_at_99 : decode prog_4_method_27_code 99 = .ok (.idiv, 1) := by decide +kernel
theorem d_M_at_100 : decode prog_4_method_27_code 100 = .ok (.laload, 1) := by decide +kernel
theorem d_M_at_101 : decode prog_4_method_27_code 101 = .ok (.iload_n 2, 1) := by decide +kernel
theorem d_M_at_102 : decode prog_4_method_27_code 102 = .ok (.i2l, 1) := by decide +kernel
theorem d_M_at_103 : decode prog_4_method_27_code 103 = .ok (.lmul, 1) := by decide +kernel
theorem d_M_at_104 : decode prog_4_method_27_code 104 = .ok (.iload_n 1, 1) := by decide +kernel
theorem d_M_at_105 : decode prog_4_method_27_code 105 = .ok (.i2l, 1) := by decide +kernel
theorem d_M_at_106 : decode prog_4_method_27_code 106 = .ok (.aload_n 0, 1) := by decide +kernel
theorem d_M_at_107 : decode prog_4_method_27_code 107 = .ok (.getfield 17, 3) := by decide +kernel
theorem d_M_at_110 : decode prog_4_method_27_code 110 = .ok (.iload 5, 2) := by decide +kernel
theorem d_M_at_112 : decode prog_4_method_27_code 112 = .ok (.iconst 2, 1) := by decide +kernel
theorem d_M_at_113 : decode prog_4_method_27_code 113 = .ok (.idiv, 1) := by decide +kernel
theorem d_M_at_114 : decode prog_4_method_27_code 114 = .ok (.laload, 1) := by decide +kernel
theorem d_M_at_115 : decode prog_4_method_27_code 115 = .ok (.lmul, 1) := by decide +kernel
theorem d_M_at_116 : decode prog_4_method_27_code 116 = .ok (.lcmp, 1) := by decide +kernel
theorem d_M_at_117 : decode prog_4_method_27_code 117 = .ok (.ifCond .gt 40, 3) := by decide +kernel
theorem d_M_at_120 : decode prog_4_method_27_code 120 = .ok (.goto 31, 3) := by decide +kernel
theorem d_M_at_123 : decode prog_4_method_27_code 123 = .ok (.aload_n 0, 1) := by decide +kernel
theorem d_M_at_124 : decode prog_4_method_27_code 124 = .ok (.getfield 13, 3) := by decide +kernel
theorem d_M_at_127 : decode prog_4_method_27_code 127 = .ok (.iload 5, 2) := by decide +kernel
theorem d_M_at_129 : decode prog_4_method_27_code 129 = .ok (.iconst 2, 1) := by decide +kernel
theorem d_M_at_130 : decode prog_4_method_27_code 130 = .ok (.idiv, 1) := by decide +kernel
theorem d_M_at_131 : decode prog_4_method_27_code 131 = .ok (.laload, 1) := by decide +kernel
theorem d_M_at_132 : decode prog_4_method_27_code 132 = .ok (.iload_n 2, 1) := by decide +kernel
theorem d_M_at_133 : decode prog_4_method_27_code 133 = .ok (.i2l, 1) := by decide +kernel
theorem d_M_at_134 : decode prog_4_method_27_code 134 = .ok (.lmul, 1) := by decide +kernel
theorem d_M_at_135 : decode prog_4_method_27_code 135 = .ok (.iload_n 1, 1) := by decide +kernel
theorem d_M_at_136 : decode prog_4_method_27_code 136 = .ok (.i2l, 1) := by decide +kernel
theorem d_M_at_137 : decode prog_4_method_27_code 137 = .ok (.aload_n 0, 1) := by decide +kernel
theorem d_M_at_138 : decode prog_4_method_27_code 138 = .ok (.getfield 17, 3) := by decide +kernel
theorem d_M_at_141 : decode prog_4_method_27_code 141 = .ok (.iload 5, 2) := by decide +kernel
theorem d_M_at_143 : decode prog_4_method_27_code 143 = .ok (.iconst 2, 1) := by decide +kernel
theorem d_M_at_144 : decode prog_4_method_27_code 144 = .ok (.idiv, 1) := by decide +kernel
theorem d_M_at_145 : decode prog_4_method_27_code 145 = .ok (.laload, 1) := by decide +kernel
theorem d_M_at_146 : decode prog_4_method_27_code 146 = .ok (.lmul, 1) := by decide +kernel
theorem d_M_at_147 : decode prog_4_method_27_code 147 = .ok (.lcmp, 1) := by decide +kernel
theorem d_M_at_148 : decode prog_4_method_27_code 148 = .ok (.ifCond .ge 9, 3) := by decide +kernel
theorem d_M_at_151 : decode prog_4_method_27_code 151 = .ok (.iinc 5 1, 3) := by decide +kernel
theorem d_M_at_154 : decode prog_4_method_27_code 154 = .ok (.goto (-80), 3) := by decide +kernel
theorem d_M_at_157 : decode prog_4_method_27_code 157 = .ok (.iconst 0, 1) := by decide +kernel
theorem d_M_at_158 : decode prog_4_method_27_code 158 = .ok (.istore 6, 2) := by decide +kernel
theorem d_M_at_160 : decode prog_4_method_27_code 160 = .ok (.iconst 0, 1) := by decide +kernel
theorem d_M_at_161 : decode prog_4_method_27_code 161 = .ok (.istore 7, 2) := by decide +kernel
theorem d_M_at_163 : decode prog_4_method_27_code 163 = .ok (.iload 7, 2) := by decide +kernel
theorem d_M_at_165 : decode prog_4_method_27_code 165 = .ok (.iload 5, 2) := by decide +kernel
theorem d_M_at_167 : decode prog_4_method_27_code 167 = .ok (.if_icmp .ge 28, 3) := by decide +kernel
theorem d_M_at_170 : decode prog_4_method_27_code 170 = .ok (.aload_n 0, 1) := by decide +kernel
theorem d_M_at_171 : decode prog_4_method_27_code 171 = .ok (.iload 7, 2) := by decide +kernel
theorem d_M_at_173 : decode prog_4_method_27_code 173 = .ok (.invokevirtual 86, 3) := by decide +kernel
theorem d_M_at_176 : decode prog_4_method_27_code 176 = .ok (.iload 6, 2) := by decide +kernel
theorem d_M_at_178 : decode prog_4_method_27_code 178 = .ok (.iconst 2, 1) := by decide +kernel
theorem d_M_at_179 : decode prog_4_method_27_code 179 = .ok (.aload_n 0, 1) := by decide +kernel
theorem d_M_at_180 : decode prog_4_method_27_code 180 = .ok (.getfield 69, 3) := by decide +kernel
theorem d_M_at_183 : decode prog_4_method_27_code 183 = .ok (.imul, 1) := by decide +kernel
theorem d_M_at_184 : decode prog_4_method_27_code 184 = .ok (.iconst 1, 1) := by decide +kernel
theorem d_M_at_185 : decode prog_4_method_27_code 185 = .ok (.iadd, 1) := by decide +kernel
theorem d_M_at_186 : decode prog_4_method_27_code 186 = .ok (.iadd, 1) := by decide +kernel
theorem d_M_at_187 : decode prog_4_method_27_code 187 = .ok (.istore 6, 2) := by decide +kernel
theorem d_M_at_189 : decode prog_4_method_27_code 189 = .ok (.iinc 7 1, 3) := by decide +kernel
theorem d_M_at_192 : decode prog_4_method_27_code 192 = .ok (.goto (-29), 3) := by decide +kernel
theorem d_M_at_195 : decode prog_4_method_27_code 195 = .ok (.aload_n 0, 1) := by decide +kernel
theorem d_M_at_196 : decode prog_4_method_27_code 196 = .ok (.iload_n 1, 1) := by decide +kernel
theorem d_M_at_197 : decode prog_4_method_27_code 197 = .ok (.i2l, 1) := by decide +kernel
theorem d_M_at_198 : decode prog_4_method_27_code 198 = .ok (.putfield 63, 3) := by decide +kernel
theorem d_M_at_201 : decode prog_4_method_27_code 201 = .ok (.aload_n 0, 1) := by decide +kernel
theorem d_M_at_202 : decode prog_4_method_27_code 202 = .ok (.iload_n 2, 1) := by decide +kernel
theorem d_M_at_203 : decode prog_4_method_27_code 203 = .ok (.i2l, 1) := by decide +kernel
theorem d_M_at_204 : decode prog_4_method_27_code 204 = .ok (.putfield 66, 3) := by decide +kernel
theorem d_M_at_207 : decode prog_4_method_27_code 207 = .ok (.aload_n 0, 1) := by decide +kernel
theorem d_M_at_208 : decode prog_4_method_27_code 208 = .ok (.invokevirtual 83, 3) := by decide +kernel
theorem d_M_at_211 : decode prog_4_method_27_code 211 = .ok (.aload_n 0, 1) := by decide +kernel
theorem d_M_at_212 : decode prog_4_method_27_code 212 = .ok (.iload_n 3, 1) := by decide +kernel
theorem d_M_at_213 : decode prog_4_method_27_code 213 = .ok (.i2l, 1) := by decide +kernel
theorem d_M_at_214 : decode prog_4_method_27_code 214 = .ok (.iload 4, 2) := by decide +kernel
theorem d_M_at_216 : decode prog_4_method_27_code 216 = .ok (.i2l, 1) := by decide +kernel
theorem d_M_at_217 : decode prog_4_method_27_code 217 = .ok (.invokevirtual 54, 3) := by decide +kernel
theorem d_M_at_220 : decode prog_4_method_27_code 220 = .ok (.aload_n 0, 1) := by decide +kernel
theorem d_M_at_221 : decode prog_4_method_27_code 221 = .ok (.invokevirtual 76, 3) := by decide +kernel
theorem d_M_at_224 : decode prog_4_method_27_code 224 = .ok (.istore 7, 2) := by decide +kernel
theorem d_M_at_226 : decode prog_4_method_27_code 226 = .ok (.iload 7, 2) := by decide +kernel
theorem d_M_at_228 : decode prog_4_method_27_code 228 = .ok (.aload_n 0, 1) := by decide +kernel
theorem d_M_at_229 : decode prog_4_method_27_code 229 = .ok (.getfield 69, 3) := by decide +kernel
theorem d_M_at_232 : decode prog_4_method_27_code 232 = .ok (.if_icmp .ge 37, 3) := by decide +kernel
theorem d_M_at_235 : decode prog_4_method_27_code 235 = .ok (.aload_n 0, 1) := by decide +kernel
theorem d_M_at_236 : decode prog_4_method_27_code 236 = .ok (.getfield 20, 3) := by decide +kernel
theorem d_M_at_239 : decode prog_4_method_27_code 239 = .ok (.iload 7, 2) := by decide +kernel
theorem d_M_at_241 : decode prog_4_method_27_code 241 = .ok (.laload, 1) := by decide +kernel
theorem d_M_at_242 : decode prog_4_method_27_code 242 = .ok (.aload_n 0, 1) := by decide +kernel
theorem d_M_at_243 : decode prog_4_method_27_code 243 = .ok (.getfield 30, 3) := by decide +kernel
theorem d_M_at_246 : decode prog_4_method_27_code 246 = .ok (.lcmp, 1) := by decide +kernel
theorem d_M_at_247 : decode prog_4_method_27_code 247 = .ok (.ifCond .ne 22, 3) := by decide +kernel
theorem d_M_at_250 : decode prog_4_method_27_code 250 = .ok (.aload_n 0, 1) := by decide +kernel
theorem d_M_at_251 : decode prog_4_method_27_code 251 = .ok (.getfield 23, 3) := by decide +kernel
theorem d_M_at_254 : decode prog_4_method_27_code 254 = .ok (.iload 7, 2) := by decide +kernel
theorem d_M_at_256 : decode prog_4_method_27_code 256 = .ok (.laload, 1) := by decide +kernel
theorem d_M_at_257 : decode prog_4_method_27_code 257 = .ok (.aload_n 0, 1) := by decide +kernel
theorem d_M_at_258 : decode prog_4_method_27_code 258 = .ok (.getfield 34, 3) := by decide +kernel
theorem d_M_at_261 : decode prog_4_method_27_code 261 = .ok (.lcmp, 1) := by decide +kernel
theorem d_M_at_262 : decode prog_4_method_27_code 262 = .ok (.ifCond .ne 7, 3) := by decide +kernel
theorem d_M_at_265 : decode prog_4_method_27_code 265 = .ok (.iconst 1, 1) := by decide +kernel
theorem d_M_at_266 : decode prog_4_method_27_code 266 = .ok (.goto 4, 3) := by decide +kernel
theorem d_M_at_269 : decode prog_4_method_27_code 269 = .ok (.iconst 0, 1) := by decide +kernel
theorem d_M_at_270 : decode prog_4_method_27_code 270 = .ok (.istore 8, 2) := by decide +kernel
theorem d_M_at_272 : decode prog_4_method_27_code 272 = .ok (.iload 6, 2) := by decide +kernel
theorem d_M_at_274 : decode prog_4_method_27_code 274 = .ok (.iconst 2, 1) := by decide +kernel
theorem d_M_at_275 : decode prog_4_method_27_code 275 = .ok (.iload 7, 2) := by decide +kernel
theorem d_M_at_277 : decode prog_4_method_27_code 277 = .ok (.imul, 1) := by decide +kernel
theorem d_M_at_278 : decode prog_4_method_27_code 278 = .ok (.iadd, 1) := by decide +kernel
theorem d_M_at_279 : decode prog_4_method_27_code 279 = .ok (.iload 8, 2) := by decide +kernel
theorem d_M_at_281 : decode prog_4_method_27_code 281 = .ok (.ifCond .eq 7, 3) := by decide +kernel
theorem d_M_at_284 : decode prog_4_method_27_code 284 = .ok (.iconst 1, 1) := by decide +kernel
theorem d_M_at_285 : decode prog_4_method_27_code 285 = .ok (.goto 4, 3) := by decide +kernel
theorem d_M_at_288 : decode prog_4_method_27_code 288 = .ok (.iconst 0, 1) := by decide +kernel
theorem d_M_at_289 : decode prog_4_method_27_code 289 = .ok (.iadd, 1) := by decide +kernel
theorem d_M_at_290 : decode prog_4_method_27_code 290 = .ok (.ireturn, 1) := by decide +kernel
theorem d_M_find_0 : decode prog_4_method_28_code 0 = .ok (.aload_n 0, 1) := by decide +kernel
theorem d_M_find_1 : decode prog_4_method_28_code 1 = .ok (.iconst 0, 1) := by decide +kernel
theorem d_M_find_2 : decode prog_4_method_28_code 2 = .ok (.putfield 26, 3) := by decide +kernel
theorem d_M_find_5 : decode prog_4_method_28_code 5 = .ok (.iconst 0, 1) := by decide +kernel
theorem d_M_find_6 : decode prog_4_method_28_code 6 = .ok (.istore_n 2, 1) := by decide +kernel
theorem d_M_find_7 : decode prog_4_method_28_code 7 = .ok (.iconst 0, 1) := by decide +kernel
theorem d_M_find_8 : decode prog_4_method_28_code 8 = .ok (.istore_n 3, 1) := by decide +kernel
theorem d_M_find_9 : decode prog_4_method_28_code 9 = .ok (.iload_n 3, 1) := by decide +kernel
theorem d_M_find_10 : decode prog_4_method_28_code 10 = .ok (.iconst 2, 1) := by decide +kernel
theorem d_M_find_11 : decode prog_4_method_28_code 11 = .ok (.aload_n 0, 1) := by decide +kernel
theorem d_M_find_12 : decode prog_4_method_28_code 12 = .ok (.getfield 51, 3) := by decide +kernel
theorem d_M_find_15 : decode prog_4_method_28_code 15 = .ok (.imul, 1) := by decide +kernel
theorem d_M_find_16 : decode prog_4_method_28_code 16 = .ok (.if_icmp .gt 75, 3) := by decide +kernel
theorem d_M_find_19 : decode prog_4_method_28_code 19 = .ok (.aload_n 0, 1) := by decide +kernel
theorem d_M_find_20 : decode prog_4_method_28_code 20 = .ok (.iload_n 3, 1) := by decide +kernel
theorem d_M_find_21 : decode prog_4_method_28_code 21 = .ok (.invokevirtual 86, 3) := by decide +kernel
theorem d_M_find_24 : decode prog_4_method_28_code 24 = .ok (.aload_n 0, 1) := by decide +kernel
theorem d_M_find_25 : decode prog_4_method_28_code 25 = .ok (.iconst 0, 1) := by decide +kernel
theorem d_M_find_26 : decode prog_4_method_28_code 26 = .ok (.putfield 92, 3) := by decide +kernel
theorem d_M_find_29 : decode prog_4_method_28_code 29 = .ok (.aload_n 0, 1) := by decide +kernel
theorem d_M_find_30 : decode prog_4_method_28_code 30 = .ok (.getfield 92, 3) := by decide +kernel
theorem d_M_find_33 : decode prog_4_method_28_code 33 = .ok (.iconst 2, 1) := by decide +kernel
theorem d_M_find_34 : decode prog_4_method_28_code 34 = .ok (.aload_n 0, 1) := by decide +kernel
theorem d_M_find_35 : decode prog_4_method_28_code 35 = .ok (.getfield 69, 3) := by decide +kernel
theorem d_M_find_38 : decode prog_4_method_28_code 38 = .ok (.imul, 1) := by decide +kernel
theorem d_M_find_39 : decode prog_4_method_28_code 39 = .ok (.if_icmp .gt 35, 3) := by decide +kernel
theorem d_M_find_42 : decode prog_4_method_28_code 42 = .ok (.aload_n 0, 1) := by decide +kernel
theorem d_M_find_43 : decode prog_4_method_28_code 43 = .ok (.invokevirtual 99, 3) := by decide +kernel
theorem d_M_find_46 : decode prog_4_method_28_code 46 = .ok (.aload_n 0, 1) := by decide +kernel
theorem d_M_find_47 : decode prog_4_method_28_code 47 = .ok (.iload_n 1, 1) := by decide +kernel
theorem d_M_find_48 : decode prog_4_method_28_code 48 = .ok (.invokevirtual 114, 3) := by decide +kernel
theorem d_M_find_51 : decode prog_4_method_28_code 51 = .ok (.ifCond .eq 10, 3) := by decide +kernel
theorem d_M_find_54 : decode prog_4_method_28_code 54 = .ok (.iload_n 2, 1) := by decide +kernel
theorem d_M_find_55 : decode prog_4_method_28_code 55 = .ok (.aload_n 0, 1) := by decide +kernel
theorem d_M_find_56 : decode prog_4_method_28_code 56 = .ok (.getfield 92, 3) := by decide +kernel
theorem d_M_find_59 : decode prog_4_method_28_code 59 = .ok (.iadd, 1) := by decide +kernel
theorem d_M_find_60 : decode prog_4_method_28_code 60 = .ok (.ireturn, 1) := by decide +kernel
theorem d_M_find_61 : decode prog_4_method_28_code 61 = .ok (.aload_n 0, 1) := by decide +kernel
theorem d_M_find_62 : decode prog_4_method_28_code 62 = .ok (.dup, 1) := by decide +kernel
theorem d_M_find_63 : decode prog_4_method_28_code 63 = .ok (.getfield 92, 3) := by decide +kernel
theorem d_M_find_66 : decode prog_4_method_28_code 66 = .ok (.iconst 1, 1) := by decide +kernel
theorem d_M_find_67 : decode prog_4_method_28_code 67 = .ok (.iadd, 1) := by decide +kernel
theorem d_M_find_68 : decode prog_4_method_28_code 68 = .ok (.putfield 92, 3) := by decide +kernel
theorem d_M_find_71 : decode prog_4_method_28_code 71 = .ok (.goto (-42), 3) := by decide +kernel
theorem d_M_find_74 : decode prog_4_method_28_code 74 = .ok (.iload_n 2, 1) := by decide +kernel
theorem d_M_find_75 : decode prog_4_method_28_code 75 = .ok (.iconst 2, 1) := by decide +kernel
theorem d_M_find_76 : decode prog_4_method_28_code 76 = .ok (.aload_n 0, 1) := by decide +kernel
theorem d_M_find_77 : decode prog_4_method_28_code 77 = .ok (.getfield 69, 3) := by decide +kernel
theorem d_M_find_80 : decode prog_4_method_28_code 80 = .ok (.imul, 1) := by decide +kernel
theorem d_M_find_81 : decode prog_4_method_28_code 81 = .ok (.iconst 1, 1) := by decide +kernel
theorem d_M_find_82 : decode prog_4_method_28_code 82 = .ok (.iadd, 1) := by decide +kernel
theorem d_M_find_83 : decode prog_4_method_28_code 83 = .ok (.iadd, 1) := by decide +kernel
theorem d_M_find_84 : decode prog_4_method_28_code 84 = .ok (.istore_n 2, 1) := by decide +kernel
theorem d_M_find_85 : decode prog_4_method_28_code 85 = .ok (.iinc 3 1, 3) := by decide +kernel
theorem d_M_find_88 : decode prog_4_method_28_code 88 = .ok (.goto (-79), 3) := by decide +kernel
theorem d_M_find_91 : decode prog_4_method_28_code 91 = .ok (.iconst (-1), 1) := by decide +kernel
theorem d_M_find_92 : decode prog_4_method_28_code 92 = .ok (.ireturn, 1) := by decide +kernel
theorem d_M_isSo_0 : decode prog_4_method_29_code 0 = .ok (.iconst 0, 1) := by decide +kernel
theorem d_M_isSo_1 : decode prog_4_method_29_code 1 = .ok (.istore_n 2, 1) := by decide +kernel
theorem d_M_isSo_2 : decode prog_4_method_29_code 2 = .ok (.iload_n 2, 1) := by decide +kernel
theorem d_M_isSo_3 : decode prog_4_method_29_code 3 = .ok (.aload_n 0, 1) := by decide +kernel
theorem d_M_isSo_4 : decode prog_4_method_29_code 4 = .ok (.getfield 45, 3) := by decide +kernel
theorem d_M_isSo_7 : decode prog_4_method_29_code 7 = .ok (.if_icmp .ge 53, 3) := by decide +kernel
theorem d_M_isSo_10 : decode prog_4_method_29_code 10 = .ok (.iload_n 1, 1) := by decide +kernel
theorem d_M_isSo_11 : decode prog_4_method_29_code 11 = .ok (.iconst 2, 1) := by decide +kernel
theorem d_M_isSo_12 : decode prog_4_method_29_code 12 = .ok (.iload_n 2, 1) := by decide +kernel
theorem d_M_isSo_13 : decode prog_4_method_29_code 13 = .ok (.imul, 1) := by decide +kernel
theorem d_M_isSo_14 : decode prog_4_method_29_code 14 = .ok (.ishr, 1) := by decide +kernel
theorem d_M_isSo_15 : decode prog_4_method_29_code 15 = .ok (.iconst 3, 1) := by decide +kernel
theorem d_M_isSo_16 : decode prog_4_method_29_code 16 = .ok (.iand, 1) := by decide +kernel
theorem d_M_isSo_17 : decode prog_4_method_29_code 17 = .ok (.istore_n 3, 1) := by decide +kernel
theorem d_M_isSo_18 : decode prog_4_method_29_code 18 = .ok (.iload_n 3, 1) := by decide +kernel
theorem d_M_isSo_19 : decode prog_4_method_29_code 19 = .ok (.ifCond .ne 6, 3) := by decide +kernel
theorem d_M_isSo_22 : decode prog_4_method_29_code 22 = .ok (.goto 32, 3) := by decide +kernel
theorem d_M_isSo_25 : decode prog_4_method_29_code 25 = .ok (.aload_n 0, 1) := by decide +kernel
theorem d_M_isSo_26 : decode prog_4_method_29_code 26 = .ok (.iload_n 2, 1) := by decide +kernel
theorem d_M_isSo_27 : decode prog_4_method_29_code 27 = .ok (.invokevirtual 106, 3) := by decide +kernel
theorem d_M_isSo_30 : decode prog_4_method_29_code 30 = .ok (.iload_n 3, 1) := by decide +kernel
theorem d_M_isSo_31 : decode prog_4_method_29_code 31 = .ok (.iconst 1, 1) := by decide +kernel
theorem d_M_isSo_32 : decode prog_4_method_29_code 32 = .ok (.if_icmp .ne 7, 3) := by decide +kernel
theorem d_M_isSo_35 : decode prog_4_method_29_code 35 = .ok (.iconst 1, 1) := by decide +kernel
theorem d_M_isSo_36 : decode prog_4_method_29_code 36 = .ok (.goto 13, 3) := by decide +kernel
theorem d_M_isSo_39 : decode prog_4_method_29_code 39 = .ok (.iload_n 3, 1) := by decide +kernel
theorem d_M_isSo_40 : decode prog_4_method_29_code 40 = .ok (.iconst 2, 1) := by decide +kernel
theorem d_M_isSo_41 : decode prog_4_method_29_code 41 = .ok (.if_icmp .ne 7, 3) := by decide +kernel
theorem d_M_isSo_44 : decode prog_4_method_29_code 44 = .ok (.iconst (-1), 1) := by decide +kernel
theorem d_M_isSo_45 : decode prog_4_method_29_code 45 = .ok (.goto 4, 3) := by decide +kernel
theorem d_M_isSo_48 : decode prog_4_method_29_code 48 = .ok (.iconst 0, 1) := by decide +kernel
theorem d_M_isSo_49 : decode prog_4_method_29_code 49 = .ok (.if_icmp .eq 5, 3) := by decide +kernel
theorem d_M_isSo_52 : decode prog_4_method_29_code 52 = .ok (.iconst 0, 1) := by decide +kernel
theorem d_M_isSo_53 : decode prog_4_method_29_code 53 = .ok (.ireturn, 1) := by decide +kernel
theorem d_M_isSo_54 : decode prog_4_method_29_code 54 = .ok (.iinc 2 1, 3) := by decide +kernel
theorem d_M_isSo_57 : decode prog_4_method_29_code 57 = .ok (.goto (-55), 3) := by decide +kernel
theorem d_M_isSo_60 : decode prog_4_method_29_code 60 = .ok (.iconst 1, 1) := by decide +kernel
theorem d_M_isSo_61 : decode prog_4_method_29_code 61 = .ok (.ireturn, 1) := by decide +kernel
theorem d_M_lineOf_0 : decode prog_4_method_30_code 0 = .ok (.aload_n 0, 1) := by decide +kernel
theorem d_M_lineOf_1 : decode prog_4_method_30_code 1 = .ok (.iload_n 1, 1) := by decide +kernel
theorem d_M_lineOf_2 : decode prog_4_method_30_code 2 = .ok (.invokevirtual 86, 3) := by decide +kernel
theorem d_M_lineOf_5 : decode prog_4_method_30_code 5 = .ok (.iconst 0, 1) := by decide +kernel
theorem d_M_lineOf_6 : decode prog_4_method_30_code 6 = .ok (.istore_n 3, 1) := by decide +kernel
theorem d_M_lineOf_7 : decode prog_4_method_30_code 7 = .ok (.iload_n 3, 1) := by decide +kernel
theorem d_M_lineOf_8 : decode prog_4_method_30_code 8 = .ok (.aload_n 0, 1) := by decide +kernel
theorem d_M_lineOf_9 : decode prog_4_method_30_code 9 = .ok (.getfield 45, 3) := by decide +kernel
theorem d_M_lineOf_12 : decode prog_4_method_30_code 12 = .ok (.if_icmp .ge 60, 3) := by decide +kernel
theorem d_M_lineOf_15 : decode prog_4_method_30_code 15 = .ok (.aload_n 0, 1) := by decide +kernel
theorem d_M_lineOf_16 : decode prog_4_method_30_code 16 = .ok (.getfield 7, 3) := by decide +kernel
theorem d_M_lineOf_19 : decode prog_4_method_30_code 19 = .ok (.iconst 3, 1) := by decide +kernel
theorem d_M_lineOf_20 : decode prog_4_method_30_code 20 = .ok (.iload_n 3, 1) := by decide +kernel
theorem d_M_lineOf_21 : decode prog_4_method_30_code 21 = .ok (.imul, 1) := by decide +kernel
theorem d_M_lineOf_22 : decode prog_4_method_30_code 22 = .ok (.iconst 1, 1) := by decide +kernel
theorem d_M_lineOf_23 : decode prog_4_method_30_code 23 = .ok (.iadd, 1) := by decide +kernel
theorem d_M_lineOf_24 : decode prog_4_method_30_code 24 = .ok (.iaload, 1) := by decide +kernel
theorem d_M_lineOf_25 : decode prog_4_method_30_code 25 = .ok (.ifCond .ne 6, 3) := by decide +kernel
theorem d_M_lineOf_28 : decode prog_4_method_30_code 28 = .ok (.goto 38, 3) := by decide +kernel
theorem d_M_lineOf_31 : decode prog_4_method_30_code 31 = .ok (.aload_n 0, 1) := by decide +kernel
theorem d_M_lineOf_32 : decode prog_4_method_30_code 32 = .ok (.iload_n 3, 1) := by decide +kernel
theorem d_M_lineOf_33 : decode prog_4_method_30_code 33 = .ok (.invokevirtual 72, 3) := by decide +kernel
theorem d_M_lineOf_36 : decode prog_4_method_30_code 36 = .ok (.aload_n 0, 1) := by decide +kernel
theorem d_M_lineOf_37 : decode prog_4_method_30_code 37 = .ok (.getfield 30, 3) := by decide +kernel
theorem d_M_lineOf_40 : decode prog_4_method_30_code 40 = .ok (.aload_n 0, 1) := by decide +kernel
theorem d_M_lineOf_41 : decode prog_4_method_30_code 41 = .ok (.getfield 20, 3) := by decide +kernel
theorem d_M_lineOf_44 : decode prog_4_method_30_code 44 = .ok (.iload_n 2, 1) := by decide +kernel
theorem d_M_lineOf_45 : decode prog_4_method_30_code 45 = .ok (.laload, 1) := by decide +kernel
theorem d_M_lineOf_46 : decode prog_4_method_30_code 46 = .ok (.lcmp, 1) := by decide +kernel
theorem d_M_lineOf_47 : decode prog_4_method_30_code 47 = .ok (.ifCond .ne 19, 3) := by decide +kernel
theorem d_M_lineOf_50 : decode prog_4_method_30_code 50 = .ok (.aload_n 0, 1) := by decide +kernel
theorem d_M_lineOf_51 : decode prog_4_method_30_code 51 = .ok (.getfield 34, 3) := by decide +kernel
theorem d_M_lineOf_54 : decode prog_4_method_30_code 54 = .ok (.aload_n 0, 1) := by decide +kernel
theorem d_M_lineOf_55 : decode prog_4_method_30_code 55 = .ok (.getfield 23, 3) := by decide +kernel
theorem d_M_lineOf_58 : decode prog_4_method_30_code 58 = .ok (.iload_n 2, 1) := by decide +kernel
theorem d_M_lineOf_59 : decode prog_4_method_30_code 59 = .ok (.laload, 1) := by decide +kernel
theorem d_M_lineOf_60 : decode prog_4_method_30_code 60 = .ok (.lcmp, 1) := by decide +kernel
theorem d_M_lineOf_61 : decode prog_4_method_30_code 61 = .ok (.ifCond .ne 5, 3) := by decide +kernel
theorem d_M_lineOf_64 : decode prog_4_method_30_code 64 = .ok (.iload_n 3, 1) := by decide +kernel
theorem d_M_lineOf_65 : decode prog_4_method_30_code 65 = .ok (.ireturn, 1) := by decide +kernel
theorem d_M_lineOf_66 : decode prog_4_method_30_code 66 = .ok (.iinc 3 1, 3) := by decide +kernel
theorem d_M_lineOf_69 : decode prog_4_method_30_code 69 = .ok (.goto (-62), 3) := by decide +kernel
theorem d_M_lineOf_72 : decode prog_4_method_30_code 72 = .ok (.iconst (-1), 1) := by decide +kernel
theorem d_M_lineOf_73 : decode prog_4_method_30_code 73 = .ok (.ireturn, 1) := by decide +kernel
theorem d_M_ends_0 : decode prog_4_method_31_code 0 = .ok (.aload_n 0, 1) := by decide +kernel
theorem d_M_ends_1 : decode prog_4_method_31_code 1 = .ok (.iload_n 1, 1) := by decide +kernel
theorem d_M_ends_2 : decode prog_4_method_31_code 2 = .ok (.invokevirtual 86, 3) := by decide +kernel
theorem d_M_ends_5 : decode prog_4_method_31_code 5 = .ok (.aload_n 0, 1) := by decide +kernel
theorem d_M_ends_6 : decode prog_4_method_31_code 6 = .ok (.getfield 69, 3) := by decide +kernel
theorem d_M_ends_9 : decode prog_4_method_31_code 9 = .ok (.istore 4, 2) := by decide +kernel
theorem d_M_ends_11 : decode prog_4_method_31_code 11 = .ok (.iload_n 2, 1) := by decide +kernel
theorem d_M_ends_12 : decode prog_4_method_31_code 12 = .ok (.i2l, 1) := by decide +kernel
theorem d_M_ends_13 : decode prog_4_method_31_code 13 = .ok (.lconst 0, 1) := by decide +kernel
theorem d_M_ends_14 : decode prog_4_method_31_code 14 = .ok (.iload 4, 2) := by decide +kernel
theorem d_M_ends_16 : decode prog_4_method_31_code 16 = .ok (.iconst 1, 1) := by decide +kernel
theorem d_M_ends_17 : decode prog_4_method_31_code 17 = .ok (.isub, 1) := by decide +kernel
theorem d_M_ends_18 : decode prog_4_method_31_code 18 = .ok (.i2l, 1) := by decide +kernel
theorem d_M_ends_19 : decode prog_4_method_31_code 19 = .ok (.invokestatic 41, 3) := by decide +kernel
theorem d_M_ends_22 : decode prog_4_method_31_code 22 = .ok (.ifCond .eq 12, 3) := by decide +kernel
theorem d_M_ends_25 : decode prog_4_method_31_code 25 = .ok (.aload_n 0, 1) := by decide +kernel
theorem d_M_ends_26 : decode prog_4_method_31_code 26 = .ok (.iload_n 1, 1) := by decide +kernel
theorem d_M_ends_27 : decode prog_4_method_31_code 27 = .ok (.iload_n 2, 1) := by decide +kernel
theorem d_M_ends_28 : decode prog_4_method_31_code 28 = .ok (.invokevirtual 117, 3) := by decide +kernel
theorem d_M_ends_31 : decode prog_4_method_31_code 31 = .ok (.goto 4, 3) := by decide +kernel
theorem d_M_ends_34 : decode prog_4_method_31_code 34 = .ok (.iconst (-1), 1) := by decide +kernel
theorem d_M_ends_35 : decode prog_4_method_31_code 35 = .ok (.istore 5, 2) := by decide +kernel
theorem d_M_ends_37 : decode prog_4_method_31_code 37 = .ok (.aload_n 0, 1) := by decide +kernel
theorem d_M_ends_38 : decode prog_4_method_31_code 38 = .ok (.iload_n 3, 1) := by decide +kernel
theorem d_M_ends_39 : decode prog_4_method_31_code 39 = .ok (.invokevirtual 86, 3) := by decide +kernel
theorem d_M_ends_42 : decode prog_4_method_31_code 42 = .ok (.iload_n 2, 1) := by decide +kernel
theorem d_M_ends_43 : decode prog_4_method_31_code 43 = .ok (.ifCond .ge 5, 3) := by decide +kernel
theorem d_M_ends_46 : decode prog_4_method_31_code 46 = .ok (.iconst (-1), 1) := by decide +kernel
theorem d_M_ends_47 : decode prog_4_method_31_code 47 = .ok (.ireturn, 1) := by decide +kernel
theorem d_M_ends_48 : decode prog_4_method_31_code 48 = .ok (.iload_n 2, 1) := by decide +kernel
theorem d_M_ends_49 : decode prog_4_method_31_code 49 = .ok (.iload 4, 2) := by decide +kernel
theorem d_M_ends_51 : decode prog_4_method_31_code 51 = .ok (.if_icmp .lt 8, 3) := by decide +kernel
theorem d_M_ends_54 : decode prog_4_method_31_code 54 = .ok (.aload_n 0, 1) := by decide +kernel
theorem d_M_ends_55 : decode prog_4_method_31_code 55 = .ok (.getfield 69, 3) := by decide +kernel
theorem d_M_ends_58 : decode prog_4_method_31_code 58 = .ok (.ireturn, 1) := by decide +kernel
theorem d_M_ends_59 : decode prog_4_method_31_code 59 = .ok (.aload_n 0, 1) := by decide +kernel
theorem d_M_ends_60 : decode prog_4_method_31_code 60 = .ok (.iload 5, 2) := by decide +kernel
theorem d_M_ends_62 : decode prog_4_method_31_code 62 = .ok (.invokevirtual 72, 3) := by decide +kernel
theorem d_M_ends_65 : decode prog_4_method_31_code 65 = .ok (.aload_n 0, 1) := by decide +kernel
theorem d_M_ends_66 : decode prog_4_method_31_code 66 = .ok (.invokevirtual 76, 3) := by decide +kernel
theorem d_M_ends_69 : decode prog_4_method_31_code 69 = .ok (.ireturn, 1) := by decide +kernel
theorem d_M_touch_0 : decode prog_4_method_32_code 0 = .ok (.aload_n 0, 1) := by decide +kernel
theorem d_M_touch_1 : decode prog_4_method_32_code 1 = .ok (.aload_n 0, 1) := by decide +kernel
theorem d_M_touch_2 : decode prog_4_method_32_code 2 = .ok (.iload_n 1, 1) := by decide +kernel
theorem d_M_touch_3 : decode prog_4_method_32_code 3 = .ok (.invokevirtual 95, 3) := by decide +kernel
theorem d_M_touch_6 : decode prog_4_method_32_code 6 = .ok (.ifCond .eq 15, 3) := by decide +kernel
theorem d_M_touch_9 : decode prog_4_method_32_code 9 = .ok (.aload_n 0, 1) := by decide +kernel
theorem d_M_touch_10 : decode prog_4_method_32_code 10 = .ok (.iload_n 2, 1) := by decide +kernel
theorem d_M_touch_11 : decode prog_4_method_32_code 11 = .ok (.invokevirtual 95, 3) := by decide +kernel
theorem d_M_touch_14 : decode prog_4_method_32_code 14 = .ok (.ifCond .eq 7, 3) := by decide +kernel
theorem d_M_touch_17 : decode prog_4_method_32_code 17 = .ok (.iconst 0, 1) := by decide +kernel
theorem d_M_touch_18 : decode prog_4_method_32_code 18 = .ok (.goto 4, 3) := by decide +kernel
theorem d_M_touch_21 : decode prog_4_method_32_code 21 = .ok (.iconst 1, 1) := by decide +kernel
theorem d_M_touch_22 : decode prog_4_method_32_code 22 = .ok (.putfield 26, 3) := by decide +kernel
theorem d_M_touch_25 : decode prog_4_method_32_code 25 = .ok (.aload_n 0, 1) := by decide +kernel
theorem d_M_touch_26 : decode prog_4_method_32_code 26 = .ok (.getfield 26, 3) := by decide +kernel
theorem d_M_touch_29 : decode prog_4_method_32_code 29 = .ok (.ifCond .le 5, 3) := by decide +kernel
theorem d_M_touch_32 : decode prog_4_method_32_code 32 = .ok (.iconst 0, 1) := by decide +kernel
theorem d_M_touch_33 : decode prog_4_method_32_code 33 = .ok (.ireturn, 1) := by decide +kernel
theorem d_M_touch_34 : decode prog_4_method_32_code 34 = .ok (.aload_n 0, 1) := by decide +kernel
theorem d_M_touch_35 : decode prog_4_method_32_code 35 = .ok (.getfield 89, 3) := by decide +kernel
theorem d_M_touch_38 : decode prog_4_method_32_code 38 = .ok (.istore_n 3, 1) := by decide +kernel
theorem d_M_touch_39 : decode prog_4_method_32_code 39 = .ok (.aload_n 0, 1) := by decide +kernel
theorem d_M_touch_40 : decode prog_4_method_32_code 40 = .ok (.getfield 92, 3) := by decide +kernel
theorem d_M_touch_43 : decode prog_4_method_32_code 43 = .ok (.istore 4, 2) := by decide +kernel
theorem d_M_touch_45 : decode prog_4_method_32_code 45 = .ok (.aload_n 0, 1) := by decide +kernel
theorem d_M_touch_46 : decode prog_4_method_32_code 46 = .ok (.iload_n 1, 1) := by decide +kernel
theorem d_M_touch_47 : decode prog_4_method_32_code 47 = .ok (.invokevirtual 95, 3) := by decide +kernel
theorem d_M_touch_50 : decode prog_4_method_32_code 50 = .ok (.pop, 1) := by decide +kernel
theorem d_M_touch_51 : decode prog_4_method_32_code 51 = .ok (.aload_n 0, 1) := by decide +kernel
theorem d_M_touch_52 : decode prog_4_method_32_code 52 = .ok (.getfield 89, 3) := by decide +kernel
theorem d_M_touch_55 : decode prog_4_method_32_code 55 = .ok (.istore 5, 2) := by decide +kernel
theorem d_M_touch_57 : decode prog_4_method_32_code 57 = .ok (.aload_n 0, 1) := by decide +kernel
theorem d_M_touch_58 : decode prog_4_method_32_code 58 = .ok (.getfield 92, 3) := by decide +kernel
theorem d_M_touch_61 : decode prog_4_method_32_code 61 = .ok (.istore 6, 2) := by decide +kernel
theorem d_M_touch_63 : decode prog_4_method_32_code 63 = .ok (.iload 5, 2) := by decide +kernel
theorem d_M_touch_65 : decode prog_4_method_32_code 65 = .ok (.iload_n 3, 1) := by decide +kernel
theorem d_M_touch_66 : decode prog_4_method_32_code 66 = .ok (.if_icmp .ne 17, 3) := by decide +kernel
theorem d_M_touch_69 : decode prog_4_method_32_code 69 = .ok (.iload 6, 2) := by decide +kernel
theorem d_M_touch_71 : decode prog_4_method_32_code 71 = .ok (.iload 4, 2) := by decide +kernel
theorem d_M_touch_73 : decode prog_4_method_32_code 73 = .ok (.isub, 1) := by decide +kernel
theorem d_M_touch_74 : decode prog_4_method_32_code 74 = .ok (.i2l, 1) := by decide +kernel
theorem d_M_touch_75 : decode prog_4_method_32_code 75 = .ok (.ldc2_w 121, 3) := by decide +kernel
theorem d_M_touch_78 : decode prog_4_method_32_code 78 = .ok (.lconst 1, 1) := by decide +kernel
theorem d_M_touch_79 : decode prog_4_method_32_code 79 = .ok (.invokestatic 41, 3) := by decide +kernel
theorem d_M_touch_82 : decode prog_4_method_32_code 82 = .ok (.ireturn, 1) := by decide +kernel
theorem d_M_touch_83 : decode prog_4_method_32_code 83 = .ok (.iload 5, 2) := by decide +kernel
theorem d_M_touch_85 : decode prog_4_method_32_code 85 = .ok (.iload_n 3, 1) := by decide +kernel
theorem d_M_touch_86 : decode prog_4_method_32_code 86 = .ok (.isub, 1) := by decide +kernel
theorem d_M_touch_87 : decode prog_4_method_32_code 87 = .ok (.i2l, 1) := by decide +kernel
theorem d_M_touch_88 : decode prog_4_method_32_code 88 = .ok (.ldc2_w 121, 3) := by decide +kernel
theorem d_M_touch_91 : decode prog_4_method_32_code 91 = .ok (.lconst 1, 1) := by decide +kernel
theorem d_M_touch_92 : decode prog_4_method_32_code 92 = .ok (.invokestatic 41, 3) := by decide +kernel
theorem d_M_touch_95 : decode prog_4_method_32_code 95 = .ok (.ifCond .ne 5, 3) := by decide +kernel
theorem d_M_touch_98 : decode prog_4_method_32_code 98 = .ok (.iconst 0, 1) := by decide +kernel
theorem d_M_touch_99 : decode prog_4_method_32_code 99 = .ok (.ireturn, 1) := by decide +kernel
theorem d_M_touch_100 : decode prog_4_method_32_code 100 = .ok (.iload 5, 2) := by decide +kernel
theorem d_M_touch_102 : decode prog_4_method_32_code 102 = .ok (.iconst 2, 1) := by decide +kernel
theorem d_M_touch_103 : decode prog_4_method_32_code 103 = .ok (.irem, 1) := by decide +kernel
theorem d_M_touch_104 : decode prog_4_method_32_code 104 = .ok (.iconst 1, 1) := by decide +kernel
theorem d_M_touch_105 : decode prog_4_method_32_code 105 = .ok (.if_icmp .ne 8, 3) := by decide +kernel
theorem d_M_touch_108 : decode prog_4_method_32_code 108 = .ok (.iload 5, 2) := by decide +kernel
theorem d_M_touch_110 : decode prog_4_method_32_code 110 = .ok (.goto 4, 3) := by decide +kernel
theorem d_M_touch_113 : decode prog_4_method_32_code 113 = .ok (.iload_n 3, 1) := by decide +kernel
theorem d_M_touch_114 : decode prog_4_method_32_code 114 = .ok (.istore 7, 2) := by decide +kernel
theorem d_M_touch_116 : decode prog_4_method_32_code 116 = .ok (.iload 5, 2) := by decide +kernel
theorem d_M_touch_118 : decode prog_4_method_32_code 118 = .ok (.iconst 2, 1) := by decide +kernel
theorem d_M_touch_119 : decode prog_4_method_32_code 119 = .ok (.irem, 1) := by decide +kernel
theorem d_M_touch_120 : decode prog_4_method_32_code 120 = .ok (.iconst 1, 1) := by decide +kernel
theorem d_M_touch_121 : decode prog_4_method_32_code 121 = .ok (.if_icmp .ne 8, 3) := by decide +kernel
theorem d_M_touch_124 : decode prog_4_method_32_code 124 = .ok (.iload 6, 2) := by decide +kernel
theorem d_M_touch_126 : decode prog_4_method_32_code 126 = .ok (.goto 5, 3) := by decide +kernel
theorem d_M_touch_129 : decode prog_4_method_32_code 129 = .ok (.iload 4, 2) := by decide +kernel
theorem d_M_touch_131 : decode prog_4_method_32_code 131 = .ok (.istore 8, 2) := by decide +kernel
theorem d_M_touch_133 : decode prog_4_method_32_code 133 = .ok (.iload 5, 2) := by decide +kernel
theorem d_M_touch_135 : decode prog_4_method_32_code 135 = .ok (.iconst 2, 1) := by decide +kernel
theorem d_M_touch_136 : decode prog_4_method_32_code 136 = .ok (.irem, 1) := by decide +kernel
theorem d_M_touch_137 : decode prog_4_method_32_code 137 = .ok (.iconst 1, 1) := by decide +kernel
theorem d_M_touch_138 : decode prog_4_method_32_code 138 = .ok (.if_icmp .ne 7, 3) := by decide +kernel
theorem d_M_touch_141 : decode prog_4_method_32_code 141 = .ok (.iload_n 3, 1) := by decide +kernel
theorem d_M_touch_142 : decode prog_4_method_32_code 142 = .ok (.goto 5, 3) := by decide +kernel
theorem d_M_touch_145 : decode prog_4_method_32_code 145 = .ok (.iload 5, 2) := by decide +kernel
theorem d_M_touch_147 : decode prog_4_method_32_code 147 = .ok (.istore 9, 2) := by decide +kernel
theorem d_M_touch_149 : decode prog_4_method_32_code 149 = .ok (.iload 5, 2) := by decide +kernel
theorem d_M_touch_151 : decode prog_4_method_32_code 151 = .ok (.iconst 2, 1) := by decide +kernel
theorem d_M_touch_152 : decode prog_4_method_32_code 152 = .ok (.irem, 1) := by decide +kernel
theorem d_M_touch_153 : decode prog_4_method_32_code 153 = .ok (.iconst 1, 1) := by decide +kernel
theorem d_M_touch_154 : decode prog_4_method_32_code 154 = .ok (.if_icmp .ne 8, 3) := by decide +kernel
theorem d_M_touch_157 : decode prog_4_method_32_code 157 = .ok (.iload 4, 2) := by decide +kernel
theorem d_M_touch_159 : decode prog_4_method_32_code 159 = .ok (.goto 5, 3) := by decide +kernel
theorem d_M_touch_162 : decode prog_4_method_32_code 162 = .ok (.iload 6, 2) := by decide +kernel
theorem d_M_touch_164 : decode prog_4_method_32_code 164 = .ok (.istore 10, 2) := by decide +kernel
theorem d_M_touch_166 : decode prog_4_method_32_code 166 = .ok (.iload 10, 2) := by decide +kernel
theorem d_M_touch_168 : decode prog_4_method_32_code 168 = .ok (.iconst 2, 1) := by decide +kernel
theorem d_M_touch_169 : decode prog_4_method_32_code 169 = .ok (.irem, 1) := by decide +kernel
theorem d_M_touch_170 : decode prog_4_method_32_code 170 = .ok (.iconst 1, 1) := by decide +kernel
theorem d_M_touch_171 : decode prog_4_method_32_code 171 = .ok (.if_icmp .ne 30, 3) := by decide +kernel
theorem d_M_touch_174 : decode prog_4_method_32_code 174 = .ok (.iload 8, 2) := by decide +kernel
theorem d_M_touch_176 : decode prog_4_method_32_code 176 = .ok (.iconst 2, 1) := by decide +kernel
theorem d_M_touch_177 : decode prog_4_method_32_code 177 = .ok (.aload_n 0, 1) := by decide +kernel
theorem d_M_touch_178 : decode prog_4_method_32_code 178 = .ok (.iload 9, 2) := by decide +kernel
theorem d_M_touch_180 : decode prog_4_method_32_code 180 = .ok (.iload 10, 2) := by decide +kernel
theorem d_M_touch_182 : decode prog_4_method_32_code 182 = .ok (.iconst 2, 1) := by decide +kernel
theorem d_M_touch_183 : decode prog_4_method_32_code 183 = .ok (.idiv, 1) := by decide +kernel
theorem d_M_touch_184 : decode prog_4_method_32_code 184 = .ok (.iload 7, 2) := by decide +kernel
theorem d_M_touch_186 : decode prog_4_method_32_code 186 = .ok (.invokevirtual 123, 3) := by decide +kernel
theorem d_M_touch_189 : decode prog_4_method_32_code 189 = .ok (.imul, 1) := by decide +kernel
theorem d_M_touch_190 : decode prog_4_method_32_code 190 = .ok (.iconst 1, 1) := by decide +kernel
theorem d_M_touch_191 : decode prog_4_method_32_code 191 = .ok (.iadd, 1) := by decide +kernel
theorem d_M_touch_192 : decode prog_4_method_32_code 192 = .ok (.if_icmp .ne 7, 3) := by decide +kernel
theorem d_M_touch_195 : decode prog_4_method_32_code 195 = .ok (.iconst 1, 1) := by decide +kernel
theorem d_M_touch_196 : decode prog_4_method_32_code 196 = .ok (.goto 4, 3) := by decide +kernel
theorem d_M_touch_199 : decode prog_4_method_32_code 199 = .ok (.iconst 0, 1) := by decide +kernel
theorem d_M_touch_200 : decode prog_4_method_32_code 200 = .ok (.ireturn, 1) := by decide +kernel
theorem d_M_touch_201 : decode prog_4_method_32_code 201 = .ok (.aload_n 0, 1) := by decide +kernel
theorem d_M_touch_202 : decode prog_4_method_32_code 202 = .ok (.iload 9, 2) := by decide +kernel
theorem d_M_touch_204 : decode prog_4_method_32_code 204 = .ok (.iload 10, 2) := by decide +kernel
theorem d_M_touch_206 : decode prog_4_method_32_code 206 = .ok (.iconst 2, 1) := by decide +kernel
theorem d_M_touch_207 : decode prog_4_method_32_code 207 = .ok (.idiv, 1) := by decide +kernel
theorem d_M_touch_208 : decode prog_4_method_32_code 208 = .ok (.iconst 1, 1) := by decide +kernel
theorem d_M_touch_209 : decode prog_4_method_32_code 209 = .ok (.isub, 1) := by decide +kernel
theorem d_M_touch_210 : decode prog_4_method_32_code 210 = .ok (.iload 7, 2) := by decide +kernel
theorem d_M_touch_212 : decode prog_4_method_32_code 212 = .ok (.invokevirtual 123, 3) := by decide +kernel
theorem d_M_touch_215 : decode prog_4_method_32_code 215 = .ok (.istore 11, 2) := by decide +kernel
theorem d_M_touch_217 : decode prog_4_method_32_code 217 = .ok (.aload_n 0, 1) := by decide +kernel
theorem d_M_touch_218 : decode prog_4_method_32_code 218 = .ok (.iload 9, 2) := by decide +kernel
theorem d_M_touch_220 : decode prog_4_method_32_code 220 = .ok (.iload 10, 2) := by decide +kernel
theorem d_M_touch_222 : decode prog_4_method_32_code 222 = .ok (.iconst 2, 1) := by decide +kernel
theorem d_M_touch_223 : decode prog_4_method_32_code 223 = .ok (.idiv, 1) := by decide +kernel
theorem d_M_touch_224 : decode prog_4_method_32_code 224 = .ok (.iload 7, 2) := by decide +kernel
theorem d_M_touch_226 : decode prog_4_method_32_code 226 = .ok (.invokevirtual 123, 3) := by decide +kernel
theorem d_M_touch_229 : decode prog_4_method_32_code 229 = .ok (.istore 12, 2) := by decide +kernel
theorem d_M_touch_231 : decode prog_4_method_32_code 231 = .ok (.iload 8, 2) := by decide +kernel
theorem d_M_touch_233 : decode prog_4_method_32_code 233 = .ok (.iconst 2, 1) := by decide +kernel
theorem d_M_touch_234 : decode prog_4_method_32_code 234 = .ok (.iload 11, 2) := by decide +kernel
theorem d_M_touch_236 : decode prog_4_method_32_code 236 = .ok (.imul, 1) := by decide +kernel
theorem d_M_touch_237 : decode prog_4_method_32_code 237 = .ok (.iconst 1, 1) := by decide +kernel
theorem d_M_touch_238 : decode prog_4_method_32_code 238 = .ok (.iadd, 1) := by decide +kernel
theorem d_M_touch_239 : decode prog_4_method_32_code 239 = .ok (.if_icmp .lt 18, 3) := by decide +kernel
theorem d_M_touch_242 : decode prog_4_method_32_code 242 = .ok (.iload 8, 2) := by decide +kernel
theorem d_M_touch_244 : decode prog_4_method_32_code 244 = .ok (.iconst 2, 1) := by decide +kernel
theorem d_M_touch_245 : decode prog_4_method_32_code 245 = .ok (.iload 12, 2) := by decide +kernel
theorem d_M_touch_247 : decode prog_4_method_32_code 247 = .ok (.imul, 1) := by decide +kernel
theorem d_M_touch_248 : decode prog_4_method_32_code 248 = .ok (.iconst 1, 1) := by decide +kernel
theorem d_M_touch_249 : decode prog_4_method_32_code 249 = .ok (.iadd, 1) := by decide +kernel
theorem d_M_touch_250 : decode prog_4_method_32_code 250 = .ok (.if_icmp .gt 7, 3) := by decide +kernel
theorem d_M_touch_253 : decode prog_4_method_32_code 253 = .ok (.iconst 1, 1) := by decide +kernel
theorem d_M_touch_254 : decode prog_4_method_32_code 254 = .ok (.goto 4, 3) := by decide +kernel
theorem d_M_touch_257 : decode prog_4_method_32_code 257 = .ok (.iconst 0, 1) := by decide +kernel
theorem d_M_touch_258 : decode prog_4_method_32_code 258 = .ok (.ireturn, 1) := by decide +kernel
