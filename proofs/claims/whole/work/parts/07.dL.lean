theorem d_L_line_0 : decode method_3_code 0 = .ok (.aload 4, 2) := by decide +kernel
theorem d_L_line_2 : decode method_3_code 2 = .ok (.iconst 0, 1) := by decide +kernel
theorem d_L_line_3 : decode method_3_code 3 = .ok (.aload_n 0, 1) := by decide +kernel
theorem d_L_line_4 : decode method_3_code 4 = .ok (.iload_n 1, 1) := by decide +kernel
theorem d_L_line_5 : decode method_3_code 5 = .ok (.iload_n 2, 1) := by decide +kernel
theorem d_L_line_6 : decode method_3_code 6 = .ok (.iload_n 3, 1) := by decide +kernel
theorem d_L_line_7 : decode method_3_code 7 = .ok (.invokevirtual 7, 3) := by decide +kernel
theorem d_L_line_10 : decode method_3_code 10 = .ok (.i2l, 1) := by decide +kernel
theorem d_L_line_11 : decode method_3_code 11 = .ok (.lastore, 1) := by decide +kernel
theorem d_L_line_12 : decode method_3_code 12 = .ok (.goto 11, 3) := by decide +kernel
theorem d_L_line_15 : decode method_3_code 15 = .ok (.astore 5, 2) := by decide +kernel
theorem d_L_line_17 : decode method_3_code 17 = .ok (.iconst 1, 1) := by decide +kernel
theorem d_L_line_18 : decode method_3_code 18 = .ok (.ireturn, 1) := by decide +kernel
theorem d_L_line_19 : decode method_3_code 19 = .ok (.astore 5, 2) := by decide +kernel
theorem d_L_line_21 : decode method_3_code 21 = .ok (.iconst 2, 1) := by decide +kernel
theorem d_L_line_22 : decode method_3_code 22 = .ok (.ireturn, 1) := by decide +kernel
theorem d_L_line_23 : decode method_3_code 23 = .ok (.iconst 0, 1) := by decide +kernel
theorem d_L_line_24 : decode method_3_code 24 = .ok (.ireturn, 1) := by decide +kernel
theorem d_L_drop_0 : decode method_4_code 0 = .ok (.aload_n 0, 1) := by decide +kernel
theorem d_L_drop_1 : decode method_4_code 1 = .ok (.iload_n 1, 1) := by decide +kernel
theorem d_L_drop_2 : decode method_4_code 2 = .ok (.invokevirtual 17, 3) := by decide +kernel
theorem d_L_drop_5 : decode method_4_code 5 = .ok (.goto 6, 3) := by decide +kernel
theorem d_L_drop_8 : decode method_4_code 8 = .ok (.astore_n 2, 1) := by decide +kernel
theorem d_L_drop_9 : decode method_4_code 9 = .ok (.iconst 1, 1) := by decide +kernel
theorem d_L_drop_10 : decode method_4_code 10 = .ok (.ireturn, 1) := by decide +kernel
theorem d_L_drop_11 : decode method_4_code 11 = .ok (.iconst 0, 1) := by decide +kernel
theorem d_L_drop_12 : decode method_4_code 12 = .ok (.ireturn, 1) := by decide +kernel
theorem d_L_cut_0 : decode method_5_code 0 = .ok (.aload_n 3, 1) := by decide +kernel
theorem d_L_cut_1 : decode method_5_code 1 = .ok (.iconst 0, 1) := by decide +kernel
theorem d_L_cut_2 : decode method_5_code 2 = .ok (.aload_n 0, 1) := by decide +kernel
theorem d_L_cut_3 : decode method_5_code 3 = .ok (.iload_n 1, 1) := by decide +kernel
theorem d_L_cut_4 : decode method_5_code 4 = .ok (.iload_n 2, 1) := by decide +kernel
theorem d_L_cut_5 : decode method_5_code 5 = .ok (.invokevirtual 23, 3) := by decide +kernel
theorem d_L_cut_8 : decode method_5_code 8 = .ok (.lastore, 1) := by decide +kernel
theorem d_L_cut_9 : decode method_5_code 9 = .ok (.goto 11, 3) := by decide +kernel
theorem d_L_cut_12 : decode method_5_code 12 = .ok (.astore 4, 2) := by decide +kernel
theorem d_L_cut_14 : decode method_5_code 14 = .ok (.iconst 1, 1) := by decide +kernel
theorem d_L_cut_15 : decode method_5_code 15 = .ok (.ireturn, 1) := by decide +kernel
theorem d_L_cut_16 : decode method_5_code 16 = .ok (.astore 4, 2) := by decide +kernel
theorem d_L_cut_18 : decode method_5_code 18 = .ok (.iconst 2, 1) := by decide +kernel
theorem d_L_cut_19 : decode method_5_code 19 = .ok (.ireturn, 1) := by decide +kernel
theorem d_L_cut_20 : decode method_5_code 20 = .ok (.iconst 0, 1) := by decide +kernel
theorem d_L_cut_21 : decode method_5_code 21 = .ok (.ireturn, 1) := by decide +kernel
theorem d_L_curves_0 : decode method_6_code 0 = .ok (.aload_n 2, 1) := by decide +kernel
theorem d_L_curves_1 : decode method_6_code 1 = .ok (.iconst 0, 1) := by decide +kernel
theorem d_L_curves_2 : decode method_6_code 2 = .ok (.aload_n 0, 1) := by decide +kernel
theorem d_L_curves_3 : decode method_6_code 3 = .ok (.iload_n 1, 1) := by decide +kernel
theorem d_L_curves_4 : decode method_6_code 4 = .ok (.invokevirtual 27, 3) := by decide +kernel
theorem d_L_curves_7 : decode method_6_code 7 = .ok (.i2l, 1) := by decide +kernel
theorem d_L_curves_8 : decode method_6_code 8 = .ok (.lastore, 1) := by decide +kernel
theorem d_L_curves_9 : decode method_6_code 9 = .ok (.goto 6, 3) := by decide +kernel
theorem d_L_curves_12 : decode method_6_code 12 = .ok (.astore_n 3, 1) := by decide +kernel
theorem d_L_curves_13 : decode method_6_code 13 = .ok (.iconst 1, 1) := by decide +kernel
theorem d_L_curves_14 : decode method_6_code 14 = .ok (.ireturn, 1) := by decide +kernel
theorem d_L_curves_15 : decode method_6_code 15 = .ok (.iconst 0, 1) := by decide +kernel
theorem d_L_curves_16 : decode method_6_code 16 = .ok (.ireturn, 1) := by decide +kernel
theorem d_L_cell_0 : decode method_7_code 0 = .ok (.aload_n 3, 1) := by decide +kernel
theorem d_L_cell_1 : decode method_7_code 1 = .ok (.iconst 0, 1) := by decide +kernel
theorem d_L_cell_2 : decode method_7_code 2 = .ok (.aload_n 0, 1) := by decide +kernel
theorem d_L_cell_3 : decode method_7_code 3 = .ok (.iload_n 1, 1) := by decide +kernel
theorem d_L_cell_4 : decode method_7_code 4 = .ok (.iload_n 2, 1) := by decide +kernel
theorem d_L_cell_5 : decode method_7_code 5 = .ok (.invokevirtual 31, 3) := by decide +kernel
theorem d_L_cell_8 : decode method_7_code 8 = .ok (.i2l, 1) := by decide +kernel
theorem d_L_cell_9 : decode method_7_code 9 = .ok (.lastore, 1) := by decide +kernel
theorem d_L_cell_10 : decode method_7_code 10 = .ok (.goto 11, 3) := by decide +kernel
theorem d_L_cell_13 : decode method_7_code 13 = .ok (.astore 4, 2) := by decide +kernel
theorem d_L_cell_15 : decode method_7_code 15 = .ok (.iconst 1, 1) := by decide +kernel
theorem d_L_cell_16 : decode method_7_code 16 = .ok (.ireturn, 1) := by decide +kernel
theorem d_L_cell_17 : decode method_7_code 17 = .ok (.astore 4, 2) := by decide +kernel
theorem d_L_cell_19 : decode method_7_code 19 = .ok (.iconst 2, 1) := by decide +kernel
theorem d_L_cell_20 : decode method_7_code 20 = .ok (.ireturn, 1) := by decide +kernel
theorem d_L_cell_21 : decode method_7_code 21 = .ok (.iconst 0, 1) := by decide +kernel
theorem d_L_cell_22 : decode method_7_code 22 = .ok (.ireturn, 1) := by decide +kernel
theorem d_L_sample_0 : decode method_8_code 0 = .ok (.aload 4, 2) := by decide +kernel
theorem d_L_sample_2 : decode method_8_code 2 = .ok (.iconst 0, 1) := by decide +kernel
theorem d_L_sample_3 : decode method_8_code 3 = .ok (.aload_n 0, 1) := by decide +kernel
theorem d_L_sample_4 : decode method_8_code 4 = .ok (.iload_n 1, 1) := by decide +kernel
theorem d_L_sample_5 : decode method_8_code 5 = .ok (.iload_n 2, 1) := by decide +kernel
theorem d_L_sample_6 : decode method_8_code 6 = .ok (.iload_n 3, 1) := by decide +kernel
theorem d_L_sample_7 : decode method_8_code 7 = .ok (.invokevirtual 35, 3) := by decide +kernel
theorem d_L_sample_10 : decode method_8_code 10 = .ok (.lastore, 1) := by decide +kernel
theorem d_L_sample_11 : decode method_8_code 11 = .ok (.goto 11, 3) := by decide +kernel
theorem d_L_sample_14 : decode method_8_code 14 = .ok (.astore 5, 2) := by decide +kernel
theorem d_L_sample_16 : decode method_8_code 16 = .ok (.iconst 1, 1) := by decide +kernel
theorem d_L_sample_17 : decode method_8_code 17 = .ok (.ireturn, 1) := by decide +kernel
theorem d_L_sample_18 : decode method_8_code 18 = .ok (.astore 5, 2) := by decide +kernel
theorem d_L_sample_20 : decode method_8_code 20 = .ok (.iconst 2, 1) := by decide +kernel
theorem d_L_sample_21 : decode method_8_code 21 = .ok (.ireturn, 1) := by decide +kernel
theorem d_L_sample_22 : decode method_8_code 22 = .ok (.iconst 0, 1) := by decide +kernel
theorem d_L_sample_23 : decode method_8_code 23 = .ok (.ireturn, 1) := by decide +kernel
theorem d_L_sign_0 : decode method_9_code 0 = .ok (.aload_n 3, 1) := by decide +kernel
theorem d_L_sign_1 : decode method_9_code 1 = .ok (.iconst 0, 1) := by decide +kernel
theorem d_L_sign_2 : decode method_9_code 2 = .ok (.aload_n 0, 1) := by decide +kernel
theorem d_L_sign_3 : decode method_9_code 3 = .ok (.iload_n 1, 1) := by decide +kernel
theorem d_L_sign_4 : decode method_9_code 4 = .ok (.iload_n 2, 1) := by decide +kernel
theorem d_L_sign_5 : decode method_9_code 5 = .ok (.invokevirtual 39, 3) := by decide +kernel
theorem d_L_sign_8 : decode method_9_code 8 = .ok (.i2l, 1) := by decide +kernel
theorem d_L_sign_9 : decode method_9_code 9 = .ok (.lastore, 1) := by decide +kernel
theorem d_L_sign_10 : decode method_9_code 10 = .ok (.goto 7, 3) := by decide +kernel
theorem d_L_sign_13 : decode method_9_code 13 = .ok (.astore 4, 2) := by decide +kernel
theorem d_L_sign_15 : decode method_9_code 15 = .ok (.iconst 1, 1) := by decide +kernel
theorem d_L_sign_16 : decode method_9_code 16 = .ok (.ireturn, 1) := by decide +kernel
theorem d_L_sign_17 : decode method_9_code 17 = .ok (.iconst 0, 1) := by decide +kernel
theorem d_L_sign_18 : decode method_9_code 18 = .ok (.ireturn, 1) := by decide +kernel
theorem d_L_at_0 : decode method_10_code 0 = .ok (.aload 5, 2) := by decide +kernel
theorem d_L_at_2 : decode method_10_code 2 = .ok (.iconst 0, 1) := by decide +kernel
theorem d_L_at_3 : decode method_10_code 3 = .ok (.aload_n 0, 1) := by decide +kernel
theorem d_L_at_4 : decode method_10_code 4 = .ok (.iload_n 1, 1) := by decide +kernel
theorem d_L_at_5 : decode method_10_code 5 = .ok (.iload_n 2, 1) := by decide +kernel
theorem d_L_at_6 : decode method_10_code 6 = .ok (.iload_n 3, 1) := by decide +kernel
theorem d_L_at_7 : decode method_10_code 7 = .ok (.iload 4, 2) := by decide +kernel
theorem d_L_at_9 : decode method_10_code 9 = .ok (.invokevirtual 42, 3) := by decide +kernel
theorem d_L_at_12 : decode method_10_code 12 = .ok (.i2l, 1) := by decide +kernel
theorem d_L_at_13 : decode method_10_code 13 = .ok (.lastore, 1) := by decide +kernel
theorem d_L_at_14 : decode method_10_code 14 = .ok (.goto 7, 3) := by decide +kernel
theorem d_L_at_17 : decode method_10_code 17 = .ok (.astore 6, 2) := by decide +kernel
theorem d_L_at_19 : decode method_10_code 19 = .ok (.iconst 1, 1) := by decide +kernel
theorem d_L_at_20 : decode method_10_code 20 = .ok (.ireturn, 1) := by decide +kernel
theorem d_L_at_21 : decode method_10_code 21 = .ok (.iconst 0, 1) := by decide +kernel
theorem d_L_at_22 : decode method_10_code 22 = .ok (.ireturn, 1) := by decide +kernel
theorem d_L_touch_0 : decode method_11_code 0 = .ok (.aload_n 3, 1) := by decide +kernel
theorem d_L_touch_1 : decode method_11_code 1 = .ok (.iconst 0, 1) := by decide +kernel
theorem d_L_touch_2 : decode method_11_code 2 = .ok (.aload_n 0, 1) := by decide +kernel
theorem d_L_touch_3 : decode method_11_code 3 = .ok (.iload_n 1, 1) := by decide +kernel
theorem d_L_touch_4 : decode method_11_code 4 = .ok (.iload_n 2, 1) := by decide +kernel
theorem d_L_touch_5 : decode method_11_code 5 = .ok (.invokevirtual 46, 3) := by decide +kernel
theorem d_L_touch_8 : decode method_11_code 8 = .ok (.ifCond .eq 7, 3) := by decide +kernel
theorem d_L_touch_11 : decode method_11_code 11 = .ok (.lconst 1, 1) := by decide +kernel
theorem d_L_touch_12 : decode method_11_code 12 = .ok (.goto 4, 3) := by decide +kernel
theorem d_L_touch_15 : decode method_11_code 15 = .ok (.lconst 0, 1) := by decide +kernel
theorem d_L_touch_16 : decode method_11_code 16 = .ok (.lastore, 1) := by decide +kernel
theorem d_L_touch_17 : decode method_11_code 17 = .ok (.goto 7, 3) := by decide +kernel
theorem d_L_touch_20 : decode method_11_code 20 = .ok (.astore 4, 2) := by decide +kernel
theorem d_L_touch_22 : decode method_11_code 22 = .ok (.iconst 1, 1) := by decide +kernel
theorem d_L_touch_23 : decode method_11_code 23 = .ok (.ireturn, 1) := by decide +kernel
theorem d_L_touch_24 : decode method_11_code 24 = .ok (.iconst 0, 1) := by decide +kernel
theorem d_L_touch_25 : decode method_11_code 25 = .ok (.ireturn, 1) := by decide +kernel
theorem d_L_law_0 : decode code 0 = .ok (.new 8, 3) := by decide +kernel
theorem d_L_law_3 : decode code 3 = .ok (.dup, 1) := by decide +kernel
theorem d_L_law_4 : decode code 4 = .ok (.invokespecial 50, 3) := by decide +kernel
theorem d_L_law_7 : decode code 7 = .ok (.astore_n 1, 1) := by decide +kernel
theorem d_L_law_8 : decode code 8 = .ok (.new 51, 3) := by decide +kernel
theorem d_L_law_11 : decode code 11 = .ok (.dup, 1) := by decide +kernel
theorem d_L_law_12 : decode code 12 = .ok (.invokespecial 53, 3) := by decide +kernel
theorem d_L_law_15 : decode code 15 = .ok (.astore_n 2, 1) := by decide +kernel
theorem d_L_law_16 : decode code 16 = .ok (.iconst 1, 1) := by decide +kernel
theorem d_L_law_17 : decode code 17 = .ok (.newarray .long, 2) := by decide +kernel
theorem d_L_law_19 : decode code 19 = .ok (.astore_n 3, 1) := by decide +kernel
theorem d_L_law_20 : decode code 20 = .ok (.iconst 0, 1) := by decide +kernel
theorem d_L_law_21 : decode code 21 = .ok (.istore 4, 2) := by decide +kernel
theorem d_L_law_23 : decode code 23 = .ok (.iload 4, 2) := by decide +kernel
theorem d_L_law_25 : decode code 25 = .ok (.aload_n 0, 1) := by decide +kernel
theorem d_L_law_26 : decode code 26 = .ok (.arraylength, 1) := by decide +kernel
theorem d_L_law_27 : decode code 27 = .ok (.iconst 5, 1) := by decide +kernel
theorem d_L_law_28 : decode code 28 = .ok (.isub, 1) := by decide +kernel
theorem d_L_law_29 : decode code 29 = .ok (.if_icmp .gt 766, 3) := by decide +kernel
theorem d_L_law_32 : decode code 32 = .ok (.aload_n 0, 1) := by decide +kernel
theorem d_L_law_33 : decode code 33 = .ok (.iload 4, 2) := by decide +kernel
theorem d_L_law_35 : decode code 35 = .ok (.iaload, 1) := by decide +kernel
theorem d_L_law_36 : decode code 36 = .ok (.bipush 15, 2) := by decide +kernel
theorem d_L_law_38 : decode code 38 = .ok (.iand, 1) := by decide +kernel
theorem d_L_law_39 : decode code 39 = .ok (.tableswitch 750 0 12 #[65, 145, 181, 194, 261, 317, 330, 398, 477, 545, 637, 662, 737], 65) := by decide +kernel
theorem d_L_law_104 : decode code 104 = .ok (.aload_n 1, 1) := by decide +kernel
theorem d_L_law_105 : decode code 105 = .ok (.aload_n 0, 1) := by decide +kernel
theorem d_L_law_106 : decode code 106 = .ok (.iload 4, 2) := by decide +kernel
theorem d_L_law_108 : decode code 108 = .ok (.iconst 1, 1) := by decide +kernel
theorem d_L_law_109 : decode code 109 = .ok (.iadd, 1) := by decide +kernel
theorem d_L_law_110 : decode code 110 = .ok (.iaload, 1) := by decide +kernel
theorem d_L_law_111 : decode code 111 = .ok (.aload_n 0, 1) := by decide +kernel
theorem d_L_law_112 : decode code 112 = .ok (.iload 4, 2) := by decide +kernel
theorem d_L_law_114 : decode code 114 = .ok (.iconst 2, 1) := by decide +kernel
theorem d_L_law_115 : decode code 115 = .ok (.iadd, 1) := by decide +kernel
theorem d_L_law_116 : decode code 116 = .ok (.iaload, 1) := by decide +kernel
theorem d_L_law_117 : decode code 117 = .ok (.aload_n 0, 1) := by decide +kernel
theorem d_L_law_118 : decode code 118 = .ok (.iload 4, 2) := by decide +kernel
theorem d_L_law_120 : decode code 120 = .ok (.iconst 3, 1) := by decide +kernel
theorem d_L_law_121 : decode code 121 = .ok (.iadd, 1) := by decide +kernel
theorem d_L_law_122 : decode code 122 = .ok (.iaload, 1) := by decide +kernel
theorem d_L_law_123 : decode code 123 = .ok (.aload_n 3, 1) := by decide +kernel
theorem d_L_law_124 : decode code 124 = .ok (.invokestatic 54, 3) := by decide +kernel
theorem d_L_law_127 : decode code 127 = .ok (.istore 5, 2) := by decide +kernel
theorem d_L_law_129 : decode code 129 = .ok (.aload_n 2, 1) := by decide +kernel
theorem d_L_law_130 : decode code 130 = .ok (.aload_n 0, 1) := by decide +kernel
theorem d_L_law_131 : decode code 131 = .ok (.iload 4, 2) := by decide +kernel
theorem d_L_law_133 : decode code 133 = .ok (.iconst 1, 1) := by decide +kernel
theorem d_L_law_134 : decode code 134 = .ok (.iadd, 1) := by decide +kernel
theorem d_L_law_135 : decode code 135 = .ok (.iaload, 1) := by decide +kernel
theorem d_L_law_136 : decode code 136 = .ok (.aload_n 0, 1) := by decide +kernel
theorem d_L_law_137 : decode code 137 = .ok (.iload 4, 2) := by decide +kernel
theorem d_L_law_139 : decode code 139 = .ok (.iconst 2, 1) := by decide +kernel
theorem d_L_law_140 : decode code 140 = .ok (.iadd, 1) := by decide +kernel
theorem d_L_law_141 : decode code 141 = .ok (.iaload, 1) := by decide +kernel
theorem d_L_law_142 : decode code 142 = .ok (.aload_n 0, 1) := by decide +kernel
theorem d_L_law_143 : decode code 143 = .ok (.iload 4, 2) := by decide +kernel
theorem d_L_law_145 : decode code 145 = .ok (.iconst 3, 1) := by decide +kernel
theorem d_L_law_146 : decode code 146 = .ok (.iadd, 1) := by decide +kernel
theorem d_L_law_147 : decode code 147 = .ok (.iaload, 1) := by decide +kernel
theorem d_L_law_148 : decode code 148 = .ok (.invokevirtual 59, 3) := by decide +kernel
theorem d_L_law_151 : decode code 151 = .ok (.istore 6, 2) := by decide +kernel
theorem d_L_law_153 : decode code 153 = .ok (.aload_n 2, 1) := by decide +kernel
theorem d_L_law_154 : decode code 154 = .ok (.invokevirtual 60, 3) := by decide +kernel
theorem d_L_law_157 : decode code 157 = .ok (.iload 5, 2) := by decide +kernel
theorem d_L_law_159 : decode code 159 = .ok (.if_icmp .eq 5, 3) := by decide +kernel
theorem d_L_law_162 : decode code 162 = .ok (.iconst 0, 1) := by decide +kernel
theorem d_L_law_163 : decode code 163 = .ok (.ireturn, 1) := by decide +kernel
theorem d_L_law_164 : decode code 164 = .ok (.iload 5, 2) := by decide +kernel
theorem d_L_law_166 : decode code 166 = .ok (.ifCond .ne 15, 3) := by decide +kernel
theorem d_L_law_169 : decode code 169 = .ok (.aload_n 3, 1) := by decide +kernel
theorem d_L_law_170 : decode code 170 = .ok (.iconst 0, 1) := by decide +kernel
theorem d_L_law_171 : decode code 171 = .ok (.laload, 1) := by decide +kernel
theorem d_L_law_172 : decode code 172 = .ok (.iload 6, 2) := by decide +kernel
theorem d_L_law_174 : decode code 174 = .ok (.i2l, 1) := by decide +kernel
theorem d_L_law_175 : decode code 175 = .ok (.lcmp, 1) := by decide +kernel
theorem d_L_law_176 : decode code 176 = .ok (.ifCond .eq 5, 3) := by decide +kernel
theorem d_L_law_179 : decode code 179 = .ok (.iconst 0, 1) := by decide +kernel
theorem d_L_law_180 : decode code 180 = .ok (.ireturn, 1) := by decide +kernel
theorem d_L_law_181 : decode code 181 = .ok (.goto 608, 3) := by decide +kernel
theorem d_L_law_184 : decode code 184 = .ok (.aload_n 1, 1) := by decide +kernel
theorem d_L_law_185 : decode code 185 = .ok (.aload_n 0, 1) := by decide +kernel
theorem d_L_law_186 : decode code 186 = .ok (.iload 4, 2) := by decide +kernel
theorem d_L_law_188 : decode code 188 = .ok (.iconst 1, 1) := by decide +kernel
theorem d_L_law_189 : decode code 189 = .ok (.iadd, 1) := by decide +kernel
theorem d_L_law_190 : decode code 190 = .ok (.iaload, 1) := by decide +kernel
theorem d_L_law_191 : decode code 191 = .ok (.invokestatic 64, 3) := by decide +kernel
theorem d_L_law_194 : decode code 194 = .ok (.istore 5, 2) := by decide +kernel
theorem d_L_law_196 : decode code 196 = .ok (.aload_n 2, 1) := by decide +kernel
theorem d_L_law_197 : decode code 197 = .ok (.aload_n 0, 1) := by decide +kernel
theorem d_L_law_198 : decode code 198 = .ok (.iload 4, 2) := by decide +kernel
theorem d_L_law_200 : decode code 200 = .ok (.iconst 1, 1) := by decide +kernel
theorem d_L_law_201 : decode code 201 = .ok (.iadd, 1) := by decide +kernel
theorem d_L_law_202 : decode code 202 = .ok (.iaload, 1) := by decide +kernel
theorem d_L_law_203 : decode code 203 = .ok (.invokevirtual 67, 3) := by decide +kernel
theorem d_L_law_206 : decode code 206 = .ok (.aload_n 2, 1) := by decide +kernel
theorem d_L_law_207 : decode code 207 = .ok (.invokevirtual 60, 3) := by decide +kernel
theorem d_L_law_210 : decode code 210 = .ok (.iload 5, 2) := by decide +kernel
theorem d_L_law_212 : decode code 212 = .ok (.if_icmp .eq 5, 3) := by decide +kernel
theorem d_L_law_215 : decode code 215 = .ok (.iconst 0, 1) := by decide +kernel
theorem d_L_law_216 : decode code 216 = .ok (.ireturn, 1) := by decide +kernel
theorem d_L_law_217 : decode code 217 = .ok (.goto 572, 3) := by decide +kernel
theorem d_L_law_220 : decode code 220 = .ok (.aload_n 1, 1) := by decide +kernel
theorem d_L_law_221 : decode code 221 = .ok (.invokevirtual 68, 3) := by decide +kernel
theorem d_L_law_224 : decode code 224 = .ok (.aload_n 2, 1) := by decide +kernel
theorem d_L_law_225 : decode code 225 = .ok (.invokevirtual 71, 3) := by decide +kernel
theorem d_L_law_228 : decode code 228 = .ok (.if_icmp .eq 561, 3) := by decide +kernel
theorem d_L_law_231 : decode code 231 = .ok (.iconst 0, 1) := by decide +kernel
theorem d_L_law_232 : decode code 232 = .ok (.ireturn, 1) := by decide +kernel
theorem d_L_law_233 : decode code 233 = .ok (.aload_n 1, 1) := by decide +kernel
theorem d_L_law_234 : decode code 234 = .ok (.aload_n 0, 1) := by decide +kernel
theorem d_L_law_235 : decode code 235 = .ok (.iload 4, 2) := by decide +kernel
theorem d_L_law_237 : decode code 237 = .ok (.iconst 1, 1) := by decide +kernel
theorem d_L_law_238 : decode code 238 = .ok (.iadd, 1) := by decide +kernel
theorem d_L_law_239 : decode code 239 = .ok (.iaload, 1) := by decide +kernel
theorem d_L_law_240 : decode code 240 = .ok (.aload_n 0, 1) := by decide +kernel
theorem d_L_law_241 : decode code 241 = .ok (.iload 4, 2) := by decide +kernel
theorem d_L_law_243 : decode code 243 = .ok (.iconst 2, 1) := by decide +kernel
theorem d_L_law_244 : decode code 244 = .ok (.iadd, 1) := by decide +kernel
theorem d_L_law_245 : decode code 245 = .ok (.iaload, 1) := by decide +kernel
theorem d_L_law_246 : decode code 246 = .ok (.aload_n 3, 1) := by decide +kernel
theorem d_L_law_247 : decode code 247 = .ok (.invokestatic 72, 3) := by decide +kernel
theorem d_L_law_250 : decode code 250 = .ok (.istore 5, 2) := by decide +kernel
theorem d_L_law_252 : decode code 252 = .ok (.aload_n 2, 1) := by decide +kernel
theorem d_L_law_253 : decode code 253 = .ok (.aload_n 0, 1) := by decide +kernel
theorem d_L_law_254 : decode code 254 = .ok (.iload 4, 2) := by decide +kernel
theorem d_L_law_256 : decode code 256 = .ok (.iconst 1, 1) := by decide +kernel
theorem d_L_law_257 : decode code 257 = .ok (.iadd, 1) := by decide +kernel
theorem d_L_law_258 : decode code 258 = .ok (.iaload, 1) := by decide +kernel
theorem d_L_law_259 : decode code 259 = .ok (.aload_n 0, 1) := by decide +kernel
theorem d_L_law_260 : decode code 260 = .ok (.iload 4, 2) := by decide +kernel
theorem d_L_law_262 : decode code 262 = .ok (.iconst 2, 1) := by decide +kernel
theorem d_L_law_263 : decode code 263 = .ok (.iadd, 1) := by decide +kernel
theorem d_L_law_264 : decode code 264 = .ok (.iaload, 1) := by decide +kernel
theorem d_L_law_265 : decode code 265 = .ok (.invokevirtual 75, 3) := by decide +kernel
theorem d_L_law_268 : decode code 268 = .ok (.lstore 6, 2) := by decide +kernel
theorem d_L_law_270 : decode code 270 = .ok (.aload_n 2, 1) := by decide +kernel
theorem d_L_law_271 : decode code 271 = .ok (.invokevirtual 60, 3) := by decide +kernel
theorem d_L_law_274 : decode code 274 = .ok (.iload 5, 2) := by decide +kernel
theorem d_L_law_276 : decode code 276 = .ok (.if_icmp .eq 5, 3) := by decide +kernel
theorem d_L_law_279 : decode code 279 = .ok (.iconst 0, 1) := by decide +kernel
theorem d_L_law_280 : decode code 280 = .ok (.ireturn, 1) := by decide +kernel
theorem d_L_law_281 : decode code 281 = .ok (.iload 5, 2) := by decide +kernel
theorem d_L_law_283 : decode code 283 = .ok (.ifCond .ne 14, 3) := by decide +kernel
theorem d_L_law_286 : decode code 286 = .ok (.aload_n 3, 1) := by decide +kernel
theorem d_L_law_287 : decode code 287 = .ok (.iconst 0, 1) := by decide +kernel
theorem d_L_law_288 : decode code 288 = .ok (.laload, 1) := by decide +kernel
theorem d_L_law_289 : decode code 289 = .ok (.lload 6, 2) := by decide +kernel
theorem d_L_law_291 : decode code 291 = .ok (.lcmp, 1) := by decide +kernel
theorem d_L_law_292 : decode code 292 = .ok (.ifCond .eq 5, 3) := by decide +kernel
theorem d_L_law_295 : decode code 295 = .ok (.iconst 0, 1) := by decide +kernel
theorem d_L_law_296 : decode code 296 = .ok (.ireturn, 1) := by decide +kernel
theorem d_L_law_297 : decode code 297 = .ok (.goto 492, 3) := by decide +kernel
theorem d_L_law_300 : decode code 300 = .ok (.aload_n 1, 1) := by decide +kernel
theorem d_L_law_301 : decode code 301 = .ok (.aload_n 0, 1) := by decide +kernel
theorem d_L_law_302 : decode code 302 = .ok (.iload 4, 2) := by decide +kernel
theorem d_L_law_304 : decode code 304 = .ok (.iconst 1, 1) := by decide +kernel
theorem d_L_law_305 : decode code 305 = .ok (.iadd, 1) := by decide +kernel
theorem d_L_law_306 : decode code 306 = .ok (.iaload, 1) := by decide +kernel
theorem d_L_law_307 : decode code 307 = .ok (.aload_n 3, 1) := by decide +kernel
theorem d_L_law_308 : decode code 308 = .ok (.invokestatic 76, 3) := by decide +kernel
theorem d_L_law_311 : decode code 311 = .ok (.istore 5, 2) := by decide +kernel
theorem d_L_law_313 : decode code 313 = .ok (.aload_n 2, 1) := by decide +kernel
theorem d_L_law_314 : decode code 314 = .ok (.aload_n 0, 1) := by decide +kernel
theorem d_L_law_315 : decode code 315 = .ok (.iload 4, 2) := by decide +kernel
theorem d_L_law_317 : decode code 317 = .ok (.iconst 1, 1) := by decide +kernel
theorem d_L_law_318 : decode code 318 = .ok (.iadd, 1) := by decide +kernel
theorem d_L_law_319 : decode code 319 = .ok (.iaload, 1) := by decide +kernel
theorem d_L_law_320 : decode code 320 = .ok (.invokevirtual 79, 3) := by decide +kernel
theorem d_L_law_323 : decode code 323 = .ok (.istore 6, 2) := by decide +kernel
theorem d_L_law_325 : decode code 325 = .ok (.aload_n 2, 1) := by decide +kernel
theorem d_L_law_326 : decode code 326 = .ok (.invokevirtual 60, 3) := by decide +kernel
theorem d_L_law_329 : decode code 329 = .ok (.iload 5, 2) := by decide +kernel
theorem d_L_law_331 : decode code 331 = .ok (.if_icmp .eq 5, 3) := by decide +kernel
theorem d_L_law_334 : decode code 334 = .ok (.iconst 0, 1) := by decide +kernel
theorem d_L_law_335 : decode code 335 = .ok (.ireturn, 1) := by decide +kernel
theorem d_L_law_336 : decode code 336 = .ok (.iload 5, 2) := by decide +kernel
theorem d_L_law_338 : decode code 338 = .ok (.ifCond .ne 15, 3) := by decide +kernel
theorem d_L_law_341 : decode code 341 = .ok (.aload_n 3, 1) := by decide +kernel
theorem d_L_law_342 : decode code 342 = .ok (.iconst 0, 1) := by decide +kernel
theorem d_L_law_343 : decode code 343 = .ok (.laload, 1) := by decide +kernel
theorem d_L_law_344 : decode code 344 = .ok (.iload 6, 2) := by decide +kernel
theorem d_L_law_346 : decode code 346 = .ok (.i2l, 1) := by decide +kernel
theorem d_L_law_347 : decode code 347 = .ok (.lcmp, 1) := by decide +kernel
theorem d_L_law_348 : decode code 348 = .ok (.ifCond .eq 5, 3) := by decide +kernel
theorem d_L_law_351 : decode code 351 = .ok (.iconst 0, 1) := by decide +kernel
theorem d_L_law_352 : decode code 352 = .ok (.ireturn, 1) := by decide +kernel
theorem d_L_law_353 : decode code 353 = .ok (.goto 436, 3) := by decide +kernel
theorem d_L_law_356 : decode code 356 = .ok (.aload_n 1, 1) := by decide +kernel
theorem d_L_law_357 : decode code 357 = .ok (.invokevirtual 80, 3) := by decide +kernel
theorem d_L_law_360 : decode code 360 = .ok (.aload_n 2, 1) := by decide +kernel
theorem d_L_law_361 : decode code 361 = .ok (.invokevirtual 83, 3) := by decide +kernel
theorem d_L_law_364 : decode code 364 = .ok (.if_icmp .eq 425, 3) := by decide +kernel
theorem d_L_law_367 : decode code 367 = .ok (.iconst 0, 1) := by decide +kernel
theorem d_L_law_368 : decode code 368 = .ok (.ireturn, 1) := by decide +kernel
theorem d_L_law_369 : decode code 369 = .ok (.aload_n 1, 1) := by decide +kernel
theorem d_L_law_370 : decode code 370 = .ok (.aload_n 0, 1) := by decide +kernel
theorem d_L_law_371 : decode code 371 = .ok (.iload 4, 2) := by decide +kernel
theorem d_L_law_373 : decode code 373 = .ok (.iconst 1, 1) := by decide +kernel
theorem d_L_law_374 : decode code 374 = .ok (.iadd, 1) := by decide +kernel
theorem d_L_law_375 : decode code 375 = .ok (.iaload, 1) := by decide +kernel
theorem d_L_law_376 : decode code 376 = .ok (.aload_n 0, 1) := by decide +kernel
theorem d_L_law_377 : decode code 377 = .ok (.iload 4, 2) := by decide +kernel
theorem d_L_law_379 : decode code 379 = .ok (.iconst 2, 1) := by decide +kernel
theorem d_L_law_380 : decode code 380 = .ok (.iadd, 1) := by decide +kernel
theorem d_L_law_381 : decode code 381 = .ok (.iaload, 1) := by decide +kernel
theorem d_L_law_382 : decode code 382 = .ok (.aload_n 3, 1) := by decide +kernel
theorem d_L_law_383 : decode code 383 = .ok (.invokestatic 84, 3) := by decide +kernel
theorem d_L_law_386 : decode code 386 = .ok (.istore 5, 2) := by decide +kernel
theorem d_L_law_388 : decode code 388 = .ok (.aload_n 2, 1) := by decide +kernel
theorem d_L_law_389 : decode code 389 = .ok (.aload_n 0, 1) := by decide +kernel
theorem d_L_law_390 : decode code 390 = .ok (.iload 4, 2) := by decide +kernel
theorem d_L_law_392 : decode code 392 = .ok (.iconst 1, 1) := by decide +kernel
theorem d_L_law_393 : decode code 393 = .ok (.iadd, 1) := by decide +kernel
theorem d_L_law_394 : decode code 394 = .ok (.iaload, 1) := by decide +kernel
theorem d_L_law_395 : decode code 395 = .ok (.aload_n 0, 1) := by decide +kernel
theorem d_L_law_396 : decode code 396 = .ok (.iload 4, 2) := by decide +kernel
theorem d_L_law_398 : decode code 398 = .ok (.iconst 2, 1) := by decide +kernel
theorem d_L_law_399 : decode code 399 = .ok (.iadd, 1) := by decide +kernel
theorem d_L_law_400 : decode code 400 = .ok (.iaload, 1) := by decide +kernel
theorem d_L_law_401 : decode code 401 = .ok (.invokevirtual 86, 3) := by decide +kernel
theorem d_L_law_404 : decode code 404 = .ok (.istore 6, 2) := by decide +kernel
theorem d_L_law_406 : decode code 406 = .ok (.aload_n 2, 1) := by decide +kernel
theorem d_L_law_407 : decode code 407 = .ok (.invokevirtual 60, 3) := by decide +kernel
theorem d_L_law_410 : decode code 410 = .ok (.iload 5, 2) := by decide +kernel
theorem d_L_law_412 : decode code 412 = .ok (.if_icmp .eq 5, 3) := by decide +kernel
theorem d_L_law_415 : decode code 415 = .ok (.iconst 0, 1) := by decide +kernel
theorem d_L_law_416 : decode code 416 = .ok (.ireturn, 1) := by decide +kernel
theorem d_L_law_417 : decode code 417 = .ok (.iload 5, 2) := by decide +kernel
theorem d_L_law_419 : decode code 419 = .ok (.ifCond .ne 15, 3) := by decide +kernel
theorem d_L_law_422 : decode code 422 = .ok (.aload_n 3, 1) := by decide +kernel
theorem d_L_law_423 : decode code 423 = .ok (.iconst 0, 1) := by decide +kernel
theorem d_L_law_424 : decode code 424 = .ok (.laload, 1) := by decide +kernel
theorem d_L_law_425 : decode code 425 = .ok (.iload 6, 2) := by decide +kernel
theorem d_L_law_427 : decode code 427 = .ok (.i2l, 1) := by decide +kernel
theorem d_L_law_428 : decode code 428 = .ok (.lcmp, 1) := by decide +kernel
theorem d_L_law_429 : decode code 429 = .ok (.ifCond .eq 5, 3) := by decide +kernel
theorem d_L_law_432 : decode code 432 = .ok (.iconst 0, 1) := by decide +kernel
theorem d_L_law_433 : decode code 433 = .ok (.ireturn, 1) := by decide +kernel
theorem d_L_law_434 : decode code 434 = .ok (.goto 355, 3) := by decide +kernel
theorem d_L_law_437 : decode code 437 = .ok (.aload_n 1, 1) := by decide +kernel
theorem d_L_law_438 : decode code 438 = .ok (.aload_n 0, 1) := by decide +kernel
theorem d_L_law_439 : decode code 439 = .ok (.iload 4, 2) := by decide +kernel
theorem d_L_law_441 : decode code 441 = .ok (.iconst 1, 1) := by decide +kernel
theorem d_L_law_442 : decode code 442 = .ok (.iadd, 1) := by decide +kernel
theorem d_L_law_443 : decode code 443 = .ok (.iaload, 1) := by decide +kernel
theorem d_L_law_444 : decode code 444 = .ok (.aload_n 0, 1) := by decide +kernel
theorem d_L_law_445 : decode code 445 = .ok (.iload 4, 2) := by decide +kernel
theorem d_L_law_447 : decode code 447 = .ok (.iconst 2, 1) := by decide +kernel
theorem d_L_law_448 : decode code 448 = .ok (.iadd, 1) := by decide +kernel
theorem d_L_law_449 : decode code 449 = .ok (.iaload, 1) := by decide +kernel
theorem d_L_law_450 : decode code 450 = .ok (.aload_n 0, 1) := by decide +kernel
theorem d_L_law_451 : decode code 451 = .ok (.iload 4, 2) := by decide +kernel
theorem d_L_law_453 : decode code 453 = .ok (.iconst 3, 1) := by decide +kernel
theorem d_L_law_454 : decode code 454 = .ok (.iadd, 1) := by decide +kernel
theorem d_L_law_455 : decode code 455 = .ok (.iaload, 1) := by decide +kernel
theorem d_L_law_456 : decode code 456 = .ok (.aload_n 3, 1) := by decide +kernel
theorem d_L_law_457 : decode code 457 = .ok (.invokestatic 87, 3) := by decide +kernel
theorem d_L_law_460 : decode code 460 = .ok (.istore 5, 2) := by decide +kernel
theorem d_L_law_462 : decode code 462 = .ok (.aload_n 2, 1) := by decide +kernel
theorem d_L_law_463 : decode code 463 = .ok (.aload_n 0, 1) := by decide +kernel
theorem d_L_law_464 : decode code 464 = .ok (.iload 4, 2) := by decide +kernel
theorem d_L_law_466 : decode code 466 = .ok (.iconst 1, 1) := by decide +kernel
theorem d_L_law_467 : decode code 467 = .ok (.iadd, 1) := by decide +kernel
theorem d_L_law_468 : decode code 468 = .ok (.iaload, 1) := by decide +kernel
theorem d_L_law_469 : decode code 469 = .ok (.aload_n 0, 1) := by decide +kernel
theorem d_L_law_470 : decode code 470 = .ok (.iload 4, 2) := by decide +kernel
theorem d_L_law_472 : decode code 472 = .ok (.iconst 2, 1) := by decide +kernel
theorem d_L_law_473 : decode code 473 = .ok (.iadd, 1) := by decide +kernel
theorem d_L_law_474 : decode code 474 = .ok (.iaload, 1) := by decide +kernel
theorem d_L_law_475 : decode code 475 = .ok (.aload_n 0, 1) := by decide +kernel
theorem d_L_law_476 : decode code 476 = .ok (.iload 4, 2) := by decide +kernel
theorem d_L_law_478 : decode code 478 = .ok (.iconst 3, 1) := by decide +kernel
theorem d_L_law_479 : decode code 479 = .ok (.iadd, 1) := by decide +kernel
theorem d_L_law_480 : decode code 480 = .ok (.iaload, 1) := by decide +kernel
theorem d_L_law_481 : decode code 481 = .ok (.invokevirtual 89, 3) := by decide +kernel
theorem d_L_law_484 : decode code 484 = .ok (.lstore 6, 2) := by decide +kernel
theorem d_L_law_486 : decode code 486 = .ok (.aload_n 2, 1) := by decide +kernel
theorem d_L_law_487 : decode code 487 = .ok (.invokevirtual 60, 3) := by decide +kernel
theorem d_L_law_490 : decode code 490 = .ok (.iload 5, 2) := by decide +kernel
theorem d_L_law_492 : decode code 492 = .ok (.if_icmp .eq 5, 3) := by decide +kernel
theorem d_L_law_495 : decode code 495 = .ok (.iconst 0, 1) := by decide +kernel
theorem d_L_law_496 : decode code 496 = .ok (.ireturn, 1) := by decide +kernel
theorem d_L_law_497 : decode code 497 = .ok (.iload 5, 2) := by decide +kernel
theorem d_L_law_499 : decode code 499 = .ok (.ifCond .ne 14, 3) := by decide +kernel
theorem d_L_law_502 : decode code 502 = .ok (.aload_n 3, 1) := by decide +kernel
theorem d_L_law_503 : decode code 503 = .ok (.iconst 0, 1) := by decide +kernel
theorem d_L_law_504 : decode code 504 = .ok (.laload, 1) := by decide +kernel
theorem d_L_law_505 : decode code 505 = .ok (.lload 6, 2) := by decide +kernel
theorem d_L_law_507 : decode code 507 = .ok (.lcmp, 1) := by decide +kernel
theorem d_L_law_508 : decode code 508 = .ok (.ifCond .eq 5, 3) := by decide +kernel
theorem d_L_law_511 : decode code 511 = .ok (.iconst 0, 1) := by decide +kernel
theorem d_L_law_512 : decode code 512 = .ok (.ireturn, 1) := by decide +kernel
theorem d_L_law_513 : decode code 513 = .ok (.goto 276, 3) := by decide +kernel
theorem d_L_law_516 : decode code 516 = .ok (.aload_n 1, 1) := by decide +kernel
theorem d_L_law_517 : decode code 517 = .ok (.aload_n 0, 1) := by decide +kernel
theorem d_L_law_518 : decode code 518 = .ok (.iload 4, 2) := by decide +kernel
theorem d_L_law_520 : decode code 520 = .ok (.iconst 1, 1) := by decide +kernel
theorem d_L_law_521 : decode code 521 = .ok (.iadd, 1) := by decide +kernel
theorem d_L_law_522 : decode code 522 = .ok (.iaload, 1) := by decide +kernel
theorem d_L_law_523 : decode code 523 = .ok (.aload_n 0, 1) := by decide +kernel
theorem d_L_law_524 : decode code 524 = .ok (.iload 4, 2) := by decide +kernel
theorem d_L_law_526 : decode code 526 = .ok (.iconst 2, 1) := by decide +kernel
theorem d_L_law_527 : decode code 527 = .ok (.iadd, 1) := by decide +kernel
theorem d_L_law_528 : decode code 528 = .ok (.iaload, 1) := by decide +kernel
theorem d_L_law_529 : decode code 529 = .ok (.aload_n 3, 1) := by decide +kernel
theorem d_L_law_530 : decode code 530 = .ok (.invokestatic 90, 3) := by decide +kernel
theorem d_L_law_533 : decode code 533 = .ok (.istore 5, 2) := by decide +kernel
theorem d_L_law_535 : decode code 535 = .ok (.aload_n 2, 1) := by decide +kernel
theorem d_L_law_536 : decode code 536 = .ok (.aload_n 0, 1) := by decide +kernel
theorem d_L_law_537 : decode code 537 = .ok (.iload 4, 2) := by decide +kernel
theorem d_L_law_539 : decode code 539 = .ok (.iconst 1, 1) := by decide +kernel
theorem d_L_law_540 : decode code 540 = .ok (.iadd, 1) := by decide +kernel
theorem d_L_law_541 : decode code 541 = .ok (.iaload, 1) := by decide +kernel
theorem d_L_law_542 : decode code 542 = .ok (.aload_n 0, 1) := by decide +kernel
theorem d_L_law_543 : decode code 543 = .ok (.iload 4, 2) := by decide +kernel
theorem d_L_law_545 : decode code 545 = .ok (.iconst 2, 1) := by decide +kernel
theorem d_L_law_546 : decode code 546 = .ok (.iadd, 1) := by decide +kernel
theorem d_L_law_547 : decode code 547 = .ok (.iaload, 1) := by decide +kernel
theorem d_L_law_548 : decode code 548 = .ok (.invokevirtual 92, 3) := by decide +kernel
theorem d_L_law_551 : decode code 551 = .ok (.istore 6, 2) := by decide +kernel
theorem d_L_law_553 : decode code 553 = .ok (.aload_n 2, 1) := by decide +kernel
theorem d_L_law_554 : decode code 554 = .ok (.invokevirtual 60, 3) := by decide +kernel
theorem d_L_law_557 : decode code 557 = .ok (.iload 5, 2) := by decide +kernel
theorem d_L_law_559 : decode code 559 = .ok (.if_icmp .eq 5, 3) := by decide +kernel
theorem d_L_law_562 : decode code 562 = .ok (.iconst 0, 1) := by decide +kernel
theorem d_L_law_563 : decode code 563 = .ok (.ireturn, 1) := by decide +kernel
theorem d_L_law_564 : decode code 564 = .ok (.iload 5, 2) := by decide +kernel
theorem d_L_law_566 : decode code 566 = .ok (.ifCond .ne 15, 3) := by decide +kernel
theorem d_L_law_569 : decode code 569 = .ok (.aload_n 3, 1) := by decide +kernel
theorem d_L_law_570 : decode code 570 = .ok (.iconst 0, 1) := by decide +kernel
theorem d_L_law_571 : decode code 571 = .ok (.laload, 1) := by decide +kernel
theorem d_L_law_572 : decode code 572 = .ok (.iload 6, 2) := by decide +kernel
theorem d_L_law_574 : decode code 574 = .ok (.i2l, 1) := by decide +kernel
theorem d_L_law_575 : decode code 575 = .ok (.lcmp, 1) := by decide +kernel
theorem d_L_law_576 : decode code 576 = .ok (.ifCond .eq 5, 3) := by decide +kernel
theorem d_L_law_579 : decode code 579 = .ok (.iconst 0, 1) := by decide +kernel
theorem d_L_law_580 : decode code 580 = .ok (.ireturn, 1) := by decide +kernel
theorem d_L_law_581 : decode code 581 = .ok (.goto 208, 3) := by decide +kernel
theorem d_L_law_584 : decode code 584 = .ok (.aload_n 1, 1) := by decide +kernel
theorem d_L_law_585 : decode code 585 = .ok (.aload_n 0, 1) := by decide +kernel
theorem d_L_law_586 : decode code 586 = .ok (.iload 4, 2) := by decide +kernel
theorem d_L_law_588 : decode code 588 = .ok (.iconst 1, 1) := by decide +kernel
theorem d_L_law_589 : decode code 589 = .ok (.iadd, 1) := by decide +kernel
theorem d_L_law_590 : decode code 590 = .ok (.iaload, 1) := by decide +kernel
theorem d_L_law_591 : decode code 591 = .ok (.aload_n 0, 1) := by decide +kernel
theorem d_L_law_592 : decode code 592 = .ok (.iload 4, 2) := by decide +kernel
theorem d_L_law_594 : decode code 594 = .ok (.iconst 2, 1) := by decide +kernel
theorem d_L_law_595 : decode code 595 = .ok (.iadd, 1) := by decide +kernel
theorem d_L_law_596 : decode code 596 = .ok (.iaload, 1) := by decide +kernel
theorem d_L_law_597 : decode code 597 = .ok (.aload_n 0, 1) := by decide +kernel
theorem d_L_law_598 : decode code 598 = .ok (.iload 4, 2) := by decide +kernel
theorem d_L_law_600 : decode code 600 = .ok (.iconst 3, 1) := by decide +kernel
theorem d_L_law_601 : decode code 601 = .ok (.iadd, 1) := by decide +kernel
theorem d_L_law_602 : decode code 602 = .ok (.iaload, 1) := by decide +kernel
theorem d_L_law_603 : decode code 603 = .ok (.aload_n 0, 1) := by decide +kernel
theorem d_L_law_604 : decode code 604 = .ok (.iload 4, 2) := by decide +kernel
theorem d_L_law_606 : decode code 606 = .ok (.iconst 4, 1) := by decide +kernel
theorem d_L_law_607 : decode code 607 = .ok (.iadd, 1) := by decide +kernel
theorem d_L_law_608 : decode code 608 = .ok (.iaload, 1) := by decide +kernel
theorem d_L_law_609 : decode code 609 = .ok (.aload_n 3, 1) := by decide +kernel
theorem d_L_law_610 : decode code 610 = .ok (.invokestatic 93, 3) := by decide +kernel
theorem d_L_law_613 : decode code 613 = .ok (.istore 5, 2) := by decide +kernel
theorem d_L_law_615 : decode code 615 = .ok (.aload_n 2, 1) := by decide +kernel
theorem d_L_law_616 : decode code 616 = .ok (.aload_n 0, 1) := by decide +kernel
theorem d_L_law_617 : decode code 617 = .ok (.iload 4, 2) := by decide +kernel
theorem d_L_law_619 : decode code 619 = .ok (.iconst 1, 1) := by decide +kernel
theorem d_L_law_620 : decode code 620 = .ok (.iadd, 1) := by decide +kernel
theorem d_L_law_621 : decode code 621 = .ok (.iaload, 1) := by decide +kernel
theorem d_L_law_622 : decode code 622 = .ok (.aload_n 0, 1) := by decide +kernel
theorem d_L_law_623 : decode code 623 = .ok (.iload 4, 2) := by decide +kernel
theorem d_L_law_625 : decode code 625 = .ok (.iconst 2, 1) := by decide +kernel
theorem d_L_law_626 : decode code 626 = .ok (.iadd, 1) := by decide +kernel
theorem d_L_law_627 : decode code 627 = .ok (.iaload, 1) := by decide +kernel
theorem d_L_law_628 : decode code 628 = .ok (.aload_n 0, 1) := by decide +kernel
theorem d_L_law_629 : decode code 629 = .ok (.iload 4, 2) := by decide +kernel
theorem d_L_law_631 : decode code 631 = .ok (.iconst 3, 1) := by decide +kernel
theorem d_L_law_632 : decode code 632 = .ok (.iadd, 1) := by decide +kernel
theorem d_L_law_633 : decode code 633 = .ok (.iaload, 1) := by decide +kernel
theorem d_L_law_634 : decode code 634 = .ok (.aload_n 0, 1) := by decide +kernel
theorem d_L_law_635 : decode code 635 = .ok (.iload 4, 2) := by decide +kernel
theorem d_L_law_637 : decode code 637 = .ok (.iconst 4, 1) := by decide +kernel
theorem d_L_law_638 : decode code 638 = .ok (.iadd, 1) := by decide +kernel
theorem d_L_law_639 : decode code 639 = .ok (.iaload, 1) := by decide +kernel
theorem d_L_law_640 : decode code 640 = .ok (.invokevirtual 96, 3) := by decide +kernel
theorem d_L_law_643 : decode code 643 = .ok (.istore 6, 2) := by decide +kernel
theorem d_L_law_645 : decode code 645 = .ok (.aload_n 2, 1) := by decide +kernel
theorem d_L_law_646 : decode code 646 = .ok (.invokevirtual 60, 3) := by decide +kernel
theorem d_L_law_649 : decode code 649 = .ok (.iload 5, 2) := by decide +kernel
theorem d_L_law_651 : decode code 651 = .ok (.if_icmp .eq 5, 3) := by decide +kernel
theorem d_L_law_654 : decode code 654 = .ok (.iconst 0, 1) := by decide +kernel
theorem d_L_law_655 : decode code 655 = .ok (.ireturn, 1) := by decide +kernel
theorem d_L_law_656 : decode code 656 = .ok (.iload 5, 2) := by decide +kernel
theorem d_L_law_658 : decode code 658 = .ok (.ifCond .ne 15, 3) := by decide +kernel
theorem d_L_law_661 : decode code 661 = .ok (.aload_n 3, 1) := by decide +kernel
theorem d_L_law_662 : decode code 662 = .ok (.iconst 0, 1) := by decide +kernel
theorem d_L_law_663 : decode code 663 = .ok (.laload, 1) := by decide +kernel
theorem d_L_law_664 : decode code 664 = .ok (.iload 6, 2) := by decide +kernel
theorem d_L_law_666 : decode code 666 = .ok (.i2l, 1) := by decide +kernel
theorem d_L_law_667 : decode code 667 = .ok (.lcmp, 1) := by decide +kernel
theorem d_L_law_668 : decode code 668 = .ok (.ifCond .eq 5, 3) := by decide +kernel
theorem d_L_law_671 : decode code 671 = .ok (.iconst 0, 1) := by decide +kernel
theorem d_L_law_672 : decode code 672 = .ok (.ireturn, 1) := by decide +kernel
theorem d_L_law_673 : decode code 673 = .ok (.goto 116, 3) := by decide +kernel
theorem d_L_law_676 : decode code 676 = .ok (.aload_n 1, 1) := by decide +kernel
theorem d_L_law_677 : decode code 677 = .ok (.aload_n 0, 1) := by decide +kernel
theorem d_L_law_678 : decode code 678 = .ok (.iload 4, 2) := by decide +kernel
theorem d_L_law_680 : decode code 680 = .ok (.iconst 1, 1) := by decide +kernel
theorem d_L_law_681 : decode code 681 = .ok (.iadd, 1) := by decide +kernel
theorem d_L_law_682 : decode code 682 = .ok (.iaload, 1) := by decide +kernel
theorem d_L_law_683 : decode code 683 = .ok (.invokevirtual 97, 3) := by decide +kernel
theorem d_L_law_686 : decode code 686 = .ok (.aload_n 2, 1) := by decide +kernel
theorem d_L_law_687 : decode code 687 = .ok (.aload_n 0, 1) := by decide +kernel
theorem d_L_law_688 : decode code 688 = .ok (.iload 4, 2) := by decide +kernel
theorem d_L_law_690 : decode code 690 = .ok (.iconst 1, 1) := by decide +kernel
theorem d_L_law_691 : decode code 691 = .ok (.iadd, 1) := by decide +kernel
theorem d_L_law_692 : decode code 692 = .ok (.iaload, 1) := by decide +kernel
theorem d_L_law_693 : decode code 693 = .ok (.invokevirtual 100, 3) := by decide +kernel
theorem d_L_law_696 : decode code 696 = .ok (.if_icmp .eq 93, 3) := by decide +kernel
theorem d_L_law_699 : decode code 699 = .ok (.iconst 0, 1) := by decide +kernel
theorem d_L_law_700 : decode code 700 = .ok (.ireturn, 1) := by decide +kernel
theorem d_L_law_701 : decode code 701 = .ok (.aload_n 1, 1) := by decide +kernel
theorem d_L_law_702 : decode code 702 = .ok (.aload_n 0, 1) := by decide +kernel
theorem d_L_law_703 : decode code 703 = .ok (.iload 4, 2) := by decide +kernel
theorem d_L_law_705 : decode code 705 = .ok (.iconst 1, 1) := by decide +kernel
theorem d_L_law_706 : decode code 706 = .ok (.iadd, 1) := by decide +kernel
theorem d_L_law_707 : decode code 707 = .ok (.iaload, 1) := by decide +kernel
theorem d_L_law_708 : decode code 708 = .ok (.aload_n 0, 1) := by decide +kernel
theorem d_L_law_709 : decode code 709 = .ok (.iload 4, 2) := by decide +kernel
theorem d_L_law_711 : decode code 711 = .ok (.iconst 2, 1) := by decide +kernel
theorem d_L_law_712 : decode code 712 = .ok (.iadd, 1) := by decide +kernel
theorem d_L_law_713 : decode code 713 = .ok (.iaload, 1) := by decide +kernel
theorem d_L_law_714 : decode code 714 = .ok (.aload_n 3, 1) := by decide +kernel
theorem d_L_law_715 : decode code 715 = .ok (.invokestatic 101, 3) := by decide +kernel
theorem d_L_law_718 : decode code 718 = .ok (.istore 5, 2) := by decide +kernel
theorem d_L_law_720 : decode code 720 = .ok (.aload_n 2, 1) := by decide +kernel
theorem d_L_law_721 : decode code 721 = .ok (.aload_n 0, 1) := by decide +kernel
theorem d_L_law_722 : decode code 722 = .ok (.iload 4, 2) := by decide +kernel
theorem d_L_law_724 : decode code 724 = .ok (.iconst 1, 1) := by decide +kernel
theorem d_L_law_725 : decode code 725 = .ok (.iadd, 1) := by decide +kernel
theorem d_L_law_726 : decode code 726 = .ok (.iaload, 1) := by decide +kernel
theorem d_L_law_727 : decode code 727 = .ok (.aload_n 0, 1) := by decide +kernel
theorem d_L_law_728 : decode code 728 = .ok (.iload 4, 2) := by decide +kernel
theorem d_L_law_730 : decode code 730 = .ok (.iconst 2, 1) := by decide +kernel
theorem d_L_law_731 : decode code 731 = .ok (.iadd, 1) := by decide +kernel
theorem d_L_law_732 : decode code 732 = .ok (.iaload, 1) := by decide +kernel
theorem d_L_law_733 : decode code 733 = .ok (.invokevirtual 103, 3) := by decide +kernel
theorem d_L_law_736 : decode code 736 = .ok (.istore 6, 2) := by decide +kernel
theorem d_L_law_738 : decode code 738 = .ok (.aload_n 2, 1) := by decide +kernel
theorem d_L_law_739 : decode code 739 = .ok (.invokevirtual 60, 3) := by decide +kernel
theorem d_L_law_742 : decode code 742 = .ok (.iload 5, 2) := by decide +kernel
theorem d_L_law_744 : decode code 744 = .ok (.if_icmp .eq 5, 3) := by decide +kernel
theorem d_L_law_747 : decode code 747 = .ok (.iconst 0, 1) := by decide +kernel
theorem d_L_law_748 : decode code 748 = .ok (.ireturn, 1) := by decide +kernel
theorem d_L_law_749 : decode code 749 = .ok (.iload 5, 2) := by decide +kernel
theorem d_L_law_751 : decode code 751 = .ok (.ifCond .ne 22, 3) := by decide +kernel
theorem d_L_law_754 : decode code 754 = .ok (.aload_n 3, 1) := by decide +kernel
theorem d_L_law_755 : decode code 755 = .ok (.iconst 0, 1) := by decide +kernel
theorem d_L_law_756 : decode code 756 = .ok (.laload, 1) := by decide +kernel
theorem d_L_law_757 : decode code 757 = .ok (.iload 6, 2) := by decide +kernel
theorem d_L_law_759 : decode code 759 = .ok (.ifCond .eq 7, 3) := by decide +kernel
theorem d_L_law_762 : decode code 762 = .ok (.lconst 1, 1) := by decide +kernel
theorem d_L_law_763 : decode code 763 = .ok (.goto 4, 3) := by decide +kernel
theorem d_L_law_766 : decode code 766 = .ok (.lconst 0, 1) := by decide +kernel
theorem d_L_law_767 : decode code 767 = .ok (.lcmp, 1) := by decide +kernel
theorem d_L_law_768 : decode code 768 = .ok (.ifCond .eq 5, 3) := by decide +kernel
theorem d_L_law_771 : decode code 771 = .ok (.iconst 0, 1) := by decide +kernel
theorem d_L_law_772 : decode code 772 = .ok (.ireturn, 1) := by decide +kernel
theorem d_L_law_773 : decode code 773 = .ok (.goto 16, 3) := by decide +kernel
theorem d_L_law_776 : decode code 776 = .ok (.aload_n 1, 1) := by decide +kernel
theorem d_L_law_777 : decode code 777 = .ok (.invokevirtual 104, 3) := by decide +kernel
theorem d_L_law_780 : decode code 780 = .ok (.aload_n 2, 1) := by decide +kernel
theorem d_L_law_781 : decode code 781 = .ok (.invokevirtual 107, 3) := by decide +kernel
theorem d_L_law_784 : decode code 784 = .ok (.if_icmp .eq 5, 3) := by decide +kernel
theorem d_L_law_787 : decode code 787 = .ok (.iconst 0, 1) := by decide +kernel
theorem d_L_law_788 : decode code 788 = .ok (.ireturn, 1) := by decide +kernel
theorem d_L_law_789 : decode code 789 = .ok (.iinc 4 5, 3) := by decide +kernel
theorem d_L_law_792 : decode code 792 = .ok (.goto (-769), 3) := by decide +kernel
theorem d_L_law_795 : decode code 795 = .ok (.iconst 1, 1) := by decide +kernel
theorem d_L_law_796 : decode code 796 = .ok (.ireturn, 1) := by decide +kernel
