theorem dX5_sumOf_25 : decode cX5_sumOf 25 = .ok (.iadd, 1) := by decide +kernel
theorem dX5_sumOf_26 : decode cX5_sumOf 26 = .ok (.istore_n 1, 1) := by decide +kernel
theorem dX5_sumOf_27 : decode cX5_sumOf 27 = .ok (.iinc 4 1, 3) := by decide +kernel
theorem dX5_sumOf_30 : decode cX5_sumOf 30 = .ok (.goto (-20), 3) := by decide +kernel
theorem dX5_sumOf_33 : decode cX5_sumOf 33 = .ok (.iload_n 1, 1) := by decide +kernel
theorem dX5_sumOf_34 : decode cX5_sumOf 34 = .ok (.ireturn, 1) := by decide +kernel
theorem dX5_copyRow_0 : decode cX5_copyRow 0 = .ok (.aload_n 0, 1) := by decide +kernel
theorem dX5_copyRow_1 : decode cX5_copyRow 1 = .ok (.iconst 0, 1) := by decide +kernel
theorem dX5_copyRow_2 : decode cX5_copyRow 2 = .ok (.aload_n 1, 1) := by decide +kernel
theorem dX5_copyRow_3 : decode cX5_copyRow 3 = .ok (.iconst 0, 1) := by decide +kernel
theorem dX5_copyRow_4 : decode cX5_copyRow 4 = .ok (.aload_n 0, 1) := by decide +kernel
theorem dX5_copyRow_5 : decode cX5_copyRow 5 = .ok (.arraylength, 1) := by decide +kernel
theorem dX5_copyRow_6 : decode cX5_copyRow 6 = .ok (.aload_n 1, 1) := by decide +kernel
theorem dX5_copyRow_7 : decode cX5_copyRow 7 = .ok (.arraylength, 1) := by decide +kernel
theorem dX5_copyRow_8 : decode cX5_copyRow 8 = .ok (.invokestatic 245, 3) := by decide +kernel
theorem dX5_copyRow_11 : decode cX5_copyRow 11 = .ok (.invokestatic 248, 3) := by decide +kernel
theorem dX5_copyRow_14 : decode cX5_copyRow 14 = .ok (.return_, 1) := by decide +kernel
theorem dX5_copyTable_0 : decode cX5_copyTable 0 = .ok (.iconst 0, 1) := by decide +kernel
theorem dX5_copyTable_1 : decode cX5_copyTable 1 = .ok (.istore_n 2, 1) := by decide +kernel
theorem dX5_copyTable_2 : decode cX5_copyTable 2 = .ok (.iload_n 2, 1) := by decide +kernel
theorem dX5_copyTable_3 : decode cX5_copyTable 3 = .ok (.aload_n 0, 1) := by decide +kernel
theorem dX5_copyTable_4 : decode cX5_copyTable 4 = .ok (.arraylength, 1) := by decide +kernel
theorem dX5_copyTable_5 : decode cX5_copyTable 5 = .ok (.if_icmp .ge 24, 3) := by decide +kernel
theorem dX5_copyTable_8 : decode cX5_copyTable 8 = .ok (.iload_n 2, 1) := by decide +kernel
theorem dX5_copyTable_9 : decode cX5_copyTable 9 = .ok (.aload_n 1, 1) := by decide +kernel
theorem dX5_copyTable_10 : decode cX5_copyTable 10 = .ok (.arraylength, 1) := by decide +kernel
theorem dX5_copyTable_11 : decode cX5_copyTable 11 = .ok (.if_icmp .ge 18, 3) := by decide +kernel
theorem dX5_copyTable_14 : decode cX5_copyTable 14 = .ok (.aload_n 0, 1) := by decide +kernel
theorem dX5_copyTable_15 : decode cX5_copyTable 15 = .ok (.iload_n 2, 1) := by decide +kernel
theorem dX5_copyTable_16 : decode cX5_copyTable 16 = .ok (.aaload, 1) := by decide +kernel
theorem dX5_copyTable_17 : decode cX5_copyTable 17 = .ok (.aload_n 1, 1) := by decide +kernel
theorem dX5_copyTable_18 : decode cX5_copyTable 18 = .ok (.iload_n 2, 1) := by decide +kernel
theorem dX5_copyTable_19 : decode cX5_copyTable 19 = .ok (.aaload, 1) := by decide +kernel
theorem dX5_copyTable_20 : decode cX5_copyTable 20 = .ok (.invokestatic 254, 3) := by decide +kernel
theorem dX5_copyTable_23 : decode cX5_copyTable 23 = .ok (.iinc 2 1, 3) := by decide +kernel
theorem dX5_copyTable_26 : decode cX5_copyTable 26 = .ok (.goto (-24), 3) := by decide +kernel
theorem dX5_copyTable_29 : decode cX5_copyTable 29 = .ok (.return_, 1) := by decide +kernel
theorem dJ6_bitCount_0f7a4_0 : decode cJ6_bitCount_0f7a4 0 = .ok (.iload_n 0, 1) := by decide +kernel
theorem dJ6_bitCount_0f7a4_1 : decode cJ6_bitCount_0f7a4 1 = .ok (.iload_n 0, 1) := by decide +kernel
theorem dJ6_bitCount_0f7a4_2 : decode cJ6_bitCount_0f7a4 2 = .ok (.iconst 1, 1) := by decide +kernel
theorem dJ6_bitCount_0f7a4_3 : decode cJ6_bitCount_0f7a4 3 = .ok (.iushr, 1) := by decide +kernel
theorem dJ6_bitCount_0f7a4_4 : decode cJ6_bitCount_0f7a4 4 = .ok (.ldc_w 265, 3) := by decide +kernel
theorem dJ6_bitCount_0f7a4_7 : decode cJ6_bitCount_0f7a4 7 = .ok (.iand, 1) := by decide +kernel
theorem dJ6_bitCount_0f7a4_8 : decode cJ6_bitCount_0f7a4 8 = .ok (.isub, 1) := by decide +kernel
theorem dJ6_bitCount_0f7a4_9 : decode cJ6_bitCount_0f7a4 9 = .ok (.istore_n 0, 1) := by decide +kernel
theorem dJ6_bitCount_0f7a4_10 : decode cJ6_bitCount_0f7a4 10 = .ok (.iload_n 0, 1) := by decide +kernel
theorem dJ6_bitCount_0f7a4_11 : decode cJ6_bitCount_0f7a4 11 = .ok (.ldc_w 266, 3) := by decide +kernel
theorem dJ6_bitCount_0f7a4_14 : decode cJ6_bitCount_0f7a4 14 = .ok (.iand, 1) := by decide +kernel
theorem dJ6_bitCount_0f7a4_15 : decode cJ6_bitCount_0f7a4 15 = .ok (.iload_n 0, 1) := by decide +kernel
theorem dJ6_bitCount_0f7a4_16 : decode cJ6_bitCount_0f7a4 16 = .ok (.iconst 2, 1) := by decide +kernel
theorem dJ6_bitCount_0f7a4_17 : decode cJ6_bitCount_0f7a4 17 = .ok (.iushr, 1) := by decide +kernel
theorem dJ6_bitCount_0f7a4_18 : decode cJ6_bitCount_0f7a4 18 = .ok (.ldc_w 266, 3) := by decide +kernel
theorem dJ6_bitCount_0f7a4_21 : decode cJ6_bitCount_0f7a4 21 = .ok (.iand, 1) := by decide +kernel
theorem dJ6_bitCount_0f7a4_22 : decode cJ6_bitCount_0f7a4 22 = .ok (.iadd, 1) := by decide +kernel
theorem dJ6_bitCount_0f7a4_23 : decode cJ6_bitCount_0f7a4 23 = .ok (.istore_n 0, 1) := by decide +kernel
theorem dJ6_bitCount_0f7a4_24 : decode cJ6_bitCount_0f7a4 24 = .ok (.iload_n 0, 1) := by decide +kernel
theorem dJ6_bitCount_0f7a4_25 : decode cJ6_bitCount_0f7a4 25 = .ok (.iload_n 0, 1) := by decide +kernel
theorem dJ6_bitCount_0f7a4_26 : decode cJ6_bitCount_0f7a4 26 = .ok (.iconst 4, 1) := by decide +kernel
theorem dJ6_bitCount_0f7a4_27 : decode cJ6_bitCount_0f7a4 27 = .ok (.iushr, 1) := by decide +kernel
theorem dJ6_bitCount_0f7a4_28 : decode cJ6_bitCount_0f7a4 28 = .ok (.iadd, 1) := by decide +kernel
theorem dJ6_bitCount_0f7a4_29 : decode cJ6_bitCount_0f7a4 29 = .ok (.ldc_w 267, 3) := by decide +kernel
theorem dJ6_bitCount_0f7a4_32 : decode cJ6_bitCount_0f7a4 32 = .ok (.iand, 1) := by decide +kernel
theorem dJ6_bitCount_0f7a4_33 : decode cJ6_bitCount_0f7a4 33 = .ok (.istore_n 0, 1) := by decide +kernel
theorem dJ6_bitCount_0f7a4_34 : decode cJ6_bitCount_0f7a4 34 = .ok (.iload_n 0, 1) := by decide +kernel
theorem dJ6_bitCount_0f7a4_35 : decode cJ6_bitCount_0f7a4 35 = .ok (.iload_n 0, 1) := by decide +kernel
theorem dJ6_bitCount_0f7a4_36 : decode cJ6_bitCount_0f7a4 36 = .ok (.bipush 8, 2) := by decide +kernel
theorem dJ6_bitCount_0f7a4_38 : decode cJ6_bitCount_0f7a4 38 = .ok (.iushr, 1) := by decide +kernel
theorem dJ6_bitCount_0f7a4_39 : decode cJ6_bitCount_0f7a4 39 = .ok (.iadd, 1) := by decide +kernel
theorem dJ6_bitCount_0f7a4_40 : decode cJ6_bitCount_0f7a4 40 = .ok (.istore_n 0, 1) := by decide +kernel
theorem dJ6_bitCount_0f7a4_41 : decode cJ6_bitCount_0f7a4 41 = .ok (.iload_n 0, 1) := by decide +kernel
theorem dJ6_bitCount_0f7a4_42 : decode cJ6_bitCount_0f7a4 42 = .ok (.iload_n 0, 1) := by decide +kernel
theorem dJ6_bitCount_0f7a4_43 : decode cJ6_bitCount_0f7a4 43 = .ok (.bipush 16, 2) := by decide +kernel
theorem dJ6_bitCount_0f7a4_45 : decode cJ6_bitCount_0f7a4 45 = .ok (.iushr, 1) := by decide +kernel
theorem dJ6_bitCount_0f7a4_46 : decode cJ6_bitCount_0f7a4 46 = .ok (.iadd, 1) := by decide +kernel
theorem dJ6_bitCount_0f7a4_47 : decode cJ6_bitCount_0f7a4 47 = .ok (.istore_n 0, 1) := by decide +kernel
theorem dJ6_bitCount_0f7a4_48 : decode cJ6_bitCount_0f7a4 48 = .ok (.iload_n 0, 1) := by decide +kernel
theorem dJ6_bitCount_0f7a4_49 : decode cJ6_bitCount_0f7a4 49 = .ok (.bipush 63, 2) := by decide +kernel
theorem dJ6_bitCount_0f7a4_51 : decode cJ6_bitCount_0f7a4 51 = .ok (.iand, 1) := by decide +kernel
theorem dJ6_bitCount_0f7a4_52 : decode cJ6_bitCount_0f7a4 52 = .ok (.ireturn, 1) := by decide +kernel
theorem dJ9_abs_0f7a4_0 : decode cJ9_abs_0f7a4 0 = .ok (.iload_n 0, 1) := by decide +kernel
theorem dJ9_abs_0f7a4_1 : decode cJ9_abs_0f7a4 1 = .ok (.ifCond .ge 8, 3) := by decide +kernel
theorem dJ9_abs_0f7a4_4 : decode cJ9_abs_0f7a4 4 = .ok (.iload_n 0, 1) := by decide +kernel
theorem dJ9_abs_0f7a4_5 : decode cJ9_abs_0f7a4 5 = .ok (.ineg, 1) := by decide +kernel
theorem dJ9_abs_0f7a4_6 : decode cJ9_abs_0f7a4 6 = .ok (.goto 4, 3) := by decide +kernel
theorem dJ9_abs_0f7a4_9 : decode cJ9_abs_0f7a4 9 = .ok (.iload_n 0, 1) := by decide +kernel
theorem dJ9_abs_0f7a4_10 : decode cJ9_abs_0f7a4 10 = .ok (.ireturn, 1) := by decide +kernel
theorem dJ9_max_7cf53_0 : decode cJ9_max_7cf53 0 = .ok (.iload_n 0, 1) := by decide +kernel
theorem dJ9_max_7cf53_1 : decode cJ9_max_7cf53 1 = .ok (.iload_n 1, 1) := by decide +kernel
theorem dJ9_max_7cf53_2 : decode cJ9_max_7cf53 2 = .ok (.if_icmp .lt 7, 3) := by decide +kernel
theorem dJ9_max_7cf53_5 : decode cJ9_max_7cf53 5 = .ok (.iload_n 0, 1) := by decide +kernel
theorem dJ9_max_7cf53_6 : decode cJ9_max_7cf53 6 = .ok (.goto 4, 3) := by decide +kernel
theorem dJ9_max_7cf53_9 : decode cJ9_max_7cf53 9 = .ok (.iload_n 1, 1) := by decide +kernel
theorem dJ9_max_7cf53_10 : decode cJ9_max_7cf53 10 = .ok (.ireturn, 1) := by decide +kernel
theorem dJ9_min_7cf53_0 : decode cJ9_min_7cf53 0 = .ok (.iload_n 0, 1) := by decide +kernel
theorem dJ9_min_7cf53_1 : decode cJ9_min_7cf53 1 = .ok (.iload_n 1, 1) := by decide +kernel
theorem dJ9_min_7cf53_2 : decode cJ9_min_7cf53 2 = .ok (.if_icmp .gt 7, 3) := by decide +kernel
theorem dJ9_min_7cf53_5 : decode cJ9_min_7cf53 5 = .ok (.iload_n 0, 1) := by decide +kernel
theorem dJ9_min_7cf53_6 : decode cJ9_min_7cf53 6 = .ok (.goto 4, 3) := by decide +kernel
theorem dJ9_min_7cf53_9 : decode cJ9_min_7cf53 9 = .ok (.iload_n 1, 1) := by decide +kernel
theorem dJ9_min_7cf53_10 : decode cJ9_min_7cf53 10 = .ok (.ireturn, 1) := by decide +kernel
theorem dJ7_fill_53178_0 : decode cJ7_fill_53178 0 = .ok (.iconst 0, 1) := by decide +kernel
theorem dJ7_fill_53178_1 : decode cJ7_fill_53178 1 = .ok (.istore_n 2, 1) := by decide +kernel
theorem dJ7_fill_53178_2 : decode cJ7_fill_53178 2 = .ok (.aload_n 0, 1) := by decide +kernel
theorem dJ7_fill_53178_3 : decode cJ7_fill_53178 3 = .ok (.arraylength, 1) := by decide +kernel
theorem dJ7_fill_53178_4 : decode cJ7_fill_53178 4 = .ok (.istore_n 3, 1) := by decide +kernel
theorem dJ7_fill_53178_5 : decode cJ7_fill_53178 5 = .ok (.iload_n 2, 1) := by decide +kernel
theorem dJ7_fill_53178_6 : decode cJ7_fill_53178 6 = .ok (.iload_n 3, 1) := by decide +kernel
theorem dJ7_fill_53178_7 : decode cJ7_fill_53178 7 = .ok (.if_icmp .ge 13, 3) := by decide +kernel
theorem dJ7_fill_53178_10 : decode cJ7_fill_53178 10 = .ok (.aload_n 0, 1) := by decide +kernel
theorem dJ7_fill_53178_11 : decode cJ7_fill_53178 11 = .ok (.iload_n 2, 1) := by decide +kernel
theorem dJ7_fill_53178_12 : decode cJ7_fill_53178 12 = .ok (.iload_n 1, 1) := by decide +kernel
theorem dJ7_fill_53178_13 : decode cJ7_fill_53178 13 = .ok (.iastore, 1) := by decide +kernel
theorem dJ7_fill_53178_14 : decode cJ7_fill_53178 14 = .ok (.iinc 2 1, 3) := by decide +kernel
theorem dJ7_fill_53178_17 : decode cJ7_fill_53178 17 = .ok (.goto (-12), 3) := by decide +kernel
theorem dJ7_fill_53178_20 : decode cJ7_fill_53178 20 = .ok (.return_, 1) := by decide +kernel
theorem dL_cell_0 : decode cL_cell 0 = .ok (.iload_n 1, 1) := by decide +kernel
theorem dL_cell_1 : decode cL_cell 1 = .ok (.aload_n 0, 1) := by decide +kernel
theorem dL_cell_2 : decode cL_cell 2 = .ok (.arraylength, 1) := by decide +kernel
theorem dL_cell_3 : decode cL_cell 3 = .ok (.if_icmp .ge 9, 3) := by decide +kernel
theorem dL_cell_6 : decode cL_cell 6 = .ok (.aload_n 0, 1) := by decide +kernel
theorem dL_cell_7 : decode cL_cell 7 = .ok (.iload_n 1, 1) := by decide +kernel
theorem dL_cell_8 : decode cL_cell 8 = .ok (.iaload, 1) := by decide +kernel
theorem dL_cell_9 : decode cL_cell 9 = .ok (.goto 11, 3) := by decide +kernel
theorem dL_cell_12 : decode cL_cell 12 = .ok (.ldc 7, 2) := by decide +kernel
theorem dL_cell_14 : decode cL_cell 14 = .ok (.iload_n 1, 1) := by decide +kernel
theorem dL_cell_15 : decode cL_cell 15 = .ok (.imul, 1) := by decide +kernel
theorem dL_cell_16 : decode cL_cell 16 = .ok (.sipush 977, 3) := by decide +kernel
theorem dL_cell_19 : decode cL_cell 19 = .ok (.iadd, 1) := by decide +kernel
theorem dL_cell_20 : decode cL_cell 20 = .ok (.ireturn, 1) := by decide +kernel
theorem dL_low_0 : decode cL_low 0 = .ok (.iload_n 0, 1) := by decide +kernel
theorem dL_low_1 : decode cL_low 1 = .ok (.ldc 8, 2) := by decide +kernel
theorem dL_low_3 : decode cL_low 3 = .ok (.iand, 1) := by decide +kernel
theorem dL_low_4 : decode cL_low 4 = .ok (.iload_n 1, 1) := by decide +kernel
theorem dL_low_5 : decode cL_low 5 = .ok (.irem, 1) := by decide +kernel
theorem dL_low_6 : decode cL_low 6 = .ok (.ireturn, 1) := by decide +kernel
theorem dL_change_0 : decode cL_change 0 = .ok (.iload_n 3, 1) := by decide +kernel
theorem dL_change_1 : decode cL_change 1 = .ok (.bipush 7, 2) := by decide +kernel
theorem dL_change_3 : decode cL_change 3 = .ok (.invokestatic 9, 3) := by decide +kernel
theorem dL_change_6 : decode cL_change 6 = .ok (.istore 5, 2) := by decide +kernel
theorem dL_change_8 : decode cL_change 8 = .ok (.iload 4, 2) := by decide +kernel
theorem dL_change_10 : decode cL_change 10 = .ok (.bipush 9, 2) := by decide +kernel
theorem dL_change_12 : decode cL_change 12 = .ok (.invokestatic 9, 3) := by decide +kernel
theorem dL_change_15 : decode cL_change 15 = .ok (.istore 6, 2) := by decide +kernel
theorem dL_change_17 : decode cL_change 17 = .ok (.iload_n 2, 1) := by decide +kernel
theorem dL_change_18 : decode cL_change 18 = .ok (.tableswitch 247 0 14 #[74, 74, 74, 74, 97, 137, 137, 148, 148, 148, 161, 170, 203, 229, 229], 74) := by decide +kernel
theorem dL_change_92 : decode cL_change 92 = .ok (.aload_n 0, 1) := by decide +kernel
theorem dL_change_93 : decode cL_change 93 = .ok (.iload 5, 2) := by decide +kernel
theorem dL_change_95 : decode cL_change 95 = .ok (.iload 4, 2) := by decide +kernel
theorem dL_change_97 : decode cL_change 97 = .ok (.bipush 8, 2) := by decide +kernel
theorem dL_change_99 : decode cL_change 99 = .ok (.invokestatic 9, 3) := by decide +kernel
theorem dL_change_102 : decode cL_change 102 = .ok (.iload 4, 2) := by decide +kernel
theorem dL_change_104 : decode cL_change 104 = .ok (.iconst 4, 1) := by decide +kernel
theorem dL_change_105 : decode cL_change 105 = .ok (.ishr, 1) := by decide +kernel
theorem dL_change_106 : decode cL_change 106 = .ok (.bipush 22, 2) := by decide +kernel
theorem dL_change_108 : decode cL_change 108 = .ok (.invokestatic 9, 3) := by decide +kernel
theorem dL_change_111 : decode cL_change 111 = .ok (.invokevirtual 15, 3) := by decide +kernel
theorem dL_change_114 : decode cL_change 114 = .ok (.ireturn, 1) := by decide +kernel
theorem dL_change_115 : decode cL_change 115 = .ok (.iconst 1, 1) := by decide +kernel
theorem dL_change_116 : decode cL_change 116 = .ok (.iload 4, 2) := by decide +kernel
theorem dL_change_118 : decode cL_change 118 = .ok (.sipush 1000, 3) := by decide +kernel
theorem dL_change_121 : decode cL_change 121 = .ok (.invokestatic 9, 3) := by decide +kernel
theorem dL_change_124 : decode cL_change 124 = .ok (.iadd, 1) := by decide +kernel
theorem dL_change_125 : decode cL_change 125 = .ok (.istore 7, 2) := by decide +kernel
theorem dL_change_127 : decode cL_change 127 = .ok (.aload_n 1, 1) := by decide +kernel
theorem dL_change_128 : decode cL_change 128 = .ok (.iconst 0, 1) := by decide +kernel
theorem dL_change_129 : decode cL_change 129 = .ok (.dup2, 1) := by decide +kernel
theorem dL_change_130 : decode cL_change 130 = .ok (.iaload, 1) := by decide +kernel
theorem dL_change_131 : decode cL_change 131 = .ok (.iload 5, 2) := by decide +kernel
theorem dL_change_133 : decode cL_change 133 = .ok (.bipush 6, 2) := by decide +kernel
theorem dL_change_135 : decode cL_change 135 = .ok (.if_icmp .ge 8, 3) := by decide +kernel
theorem dL_change_138 : decode cL_change 138 = .ok (.iload 7, 2) := by decide +kernel
theorem dL_change_140 : decode cL_change 140 = .ok (.goto 4, 3) := by decide +kernel
theorem dL_change_143 : decode cL_change 143 = .ok (.iconst 0, 1) := by decide +kernel
theorem dL_change_144 : decode cL_change 144 = .ok (.iadd, 1) := by decide +kernel
theorem dL_change_145 : decode cL_change 145 = .ok (.iastore, 1) := by decide +kernel
theorem dL_change_146 : decode cL_change 146 = .ok (.aload_n 0, 1) := by decide +kernel
theorem dL_change_147 : decode cL_change 147 = .ok (.iload 5, 2) := by decide +kernel
theorem dL_change_149 : decode cL_change 149 = .ok (.iload 7, 2) := by decide +kernel
theorem dL_change_151 : decode cL_change 151 = .ok (.invokevirtual 21, 3) := by decide +kernel
theorem dL_change_154 : decode cL_change 154 = .ok (.ireturn, 1) := by decide +kernel
theorem dL_change_155 : decode cL_change 155 = .ok (.aload_n 0, 1) := by decide +kernel
theorem dL_change_156 : decode cL_change 156 = .ok (.iload_n 3, 1) := by decide +kernel
theorem dL_change_157 : decode cL_change 157 = .ok (.bipush 65, 2) := by decide +kernel
theorem dL_change_159 : decode cL_change 159 = .ok (.invokestatic 9, 3) := by decide +kernel
theorem dL_change_162 : decode cL_change 162 = .ok (.invokevirtual 24, 3) := by decide +kernel
theorem dL_change_165 : decode cL_change 165 = .ok (.ireturn, 1) := by decide +kernel
theorem dL_change_166 : decode cL_change 166 = .ok (.aload_n 0, 1) := by decide +kernel
theorem dL_change_167 : decode cL_change 167 = .ok (.iconst 1, 1) := by decide +kernel
theorem dL_change_168 : decode cL_change 168 = .ok (.iload_n 3, 1) := by decide +kernel
theorem dL_change_169 : decode cL_change 169 = .ok (.bipush 9, 2) := by decide +kernel
theorem dL_change_171 : decode cL_change 171 = .ok (.invokestatic 9, 3) := by decide +kernel
theorem dL_change_174 : decode cL_change 174 = .ok (.iadd, 1) := by decide +kernel
theorem dL_change_175 : decode cL_change 175 = .ok (.invokevirtual 28, 3) := by decide +kernel
theorem dL_change_178 : decode cL_change 178 = .ok (.ireturn, 1) := by decide +kernel
theorem dL_change_179 : decode cL_change 179 = .ok (.aload_n 0, 1) := by decide +kernel
theorem dL_change_180 : decode cL_change 180 = .ok (.iload 5, 2) := by decide +kernel
theorem dL_change_182 : decode cL_change 182 = .ok (.iload 6, 2) := by decide +kernel
theorem dL_change_184 : decode cL_change 184 = .ok (.invokevirtual 31, 3) := by decide +kernel
theorem dL_change_187 : decode cL_change 187 = .ok (.ireturn, 1) := by decide +kernel
theorem dL_change_188 : decode cL_change 188 = .ok (.aload_n 0, 1) := by decide +kernel
theorem dL_change_189 : decode cL_change 189 = .ok (.iload 5, 2) := by decide +kernel
theorem dL_change_191 : decode cL_change 191 = .ok (.iload 6, 2) := by decide +kernel
theorem dL_change_193 : decode cL_change 193 = .ok (.iload_n 3, 1) := by decide +kernel
theorem dL_change_194 : decode cL_change 194 = .ok (.iconst 4, 1) := by decide +kernel
theorem dL_change_195 : decode cL_change 195 = .ok (.ishr, 1) := by decide +kernel
theorem dL_change_196 : decode cL_change 196 = .ok (.iconst 3, 1) := by decide +kernel
theorem dL_change_197 : decode cL_change 197 = .ok (.invokestatic 9, 3) := by decide +kernel
theorem dL_change_200 : decode cL_change 200 = .ok (.ifCond .ne 8, 3) := by decide +kernel
theorem dL_change_203 : decode cL_change 203 = .ok (.iload 6, 2) := by decide +kernel
theorem dL_change_205 : decode cL_change 205 = .ok (.goto 12, 3) := by decide +kernel
theorem dL_change_208 : decode cL_change 208 = .ok (.iload 4, 2) := by decide +kernel
theorem dL_change_210 : decode cL_change 210 = .ok (.iconst 4, 1) := by decide +kernel
theorem dL_change_211 : decode cL_change 211 = .ok (.ishr, 1) := by decide +kernel
theorem dL_change_212 : decode cL_change 212 = .ok (.bipush 8, 2) := by decide +kernel
theorem dL_change_214 : decode cL_change 214 = .ok (.invokestatic 9, 3) := by decide +kernel
theorem dL_change_217 : decode cL_change 217 = .ok (.invokevirtual 34, 3) := by decide +kernel
theorem dL_change_220 : decode cL_change 220 = .ok (.ireturn, 1) := by decide +kernel
theorem dL_change_221 : decode cL_change 221 = .ok (.aload_n 0, 1) := by decide +kernel
theorem dL_change_222 : decode cL_change 222 = .ok (.iload 5, 2) := by decide +kernel
theorem dL_change_224 : decode cL_change 224 = .ok (.iload_n 3, 1) := by decide +kernel
theorem dL_change_225 : decode cL_change 225 = .ok (.iconst 4, 1) := by decide +kernel
theorem dL_change_226 : decode cL_change 226 = .ok (.ishr, 1) := by decide +kernel
theorem dL_change_227 : decode cL_change 227 = .ok (.bipush 6, 2) := by decide +kernel
theorem dL_change_229 : decode cL_change 229 = .ok (.invokestatic 9, 3) := by decide +kernel
theorem dL_change_232 : decode cL_change 232 = .ok (.iload 6, 2) := by decide +kernel
theorem dL_change_234 : decode cL_change 234 = .ok (.iload 4, 2) := by decide +kernel
theorem dL_change_236 : decode cL_change 236 = .ok (.iconst 4, 1) := by decide +kernel
theorem dL_change_237 : decode cL_change 237 = .ok (.ishr, 1) := by decide +kernel
theorem dL_change_238 : decode cL_change 238 = .ok (.bipush 22, 2) := by decide +kernel
theorem dL_change_240 : decode cL_change 240 = .ok (.invokestatic 9, 3) := by decide +kernel
theorem dL_change_243 : decode cL_change 243 = .ok (.invokevirtual 37, 3) := by decide +kernel
theorem dL_change_246 : decode cL_change 246 = .ok (.ireturn, 1) := by decide +kernel
theorem dL_change_247 : decode cL_change 247 = .ok (.aload_n 0, 1) := by decide +kernel
theorem dL_change_248 : decode cL_change 248 = .ok (.iload_n 3, 1) := by decide +kernel
theorem dL_change_249 : decode cL_change 249 = .ok (.bipush 10, 2) := by decide +kernel
theorem dL_change_251 : decode cL_change 251 = .ok (.invokestatic 9, 3) := by decide +kernel
theorem dL_change_254 : decode cL_change 254 = .ok (.iload 4, 2) := by decide +kernel
theorem dL_change_256 : decode cL_change 256 = .ok (.bipush 60, 2) := by decide +kernel
theorem dL_change_258 : decode cL_change 258 = .ok (.invokestatic 9, 3) := by decide +kernel
theorem dL_change_261 : decode cL_change 261 = .ok (.invokevirtual 41, 3) := by decide +kernel
theorem dL_change_264 : decode cL_change 264 = .ok (.ireturn, 1) := by decide +kernel
theorem dL_change_265 : decode cL_change 265 = .ok (.aload_n 0, 1) := by decide +kernel
theorem dL_change_266 : decode cL_change 266 = .ok (.iload 4, 2) := by decide +kernel
theorem dL_change_268 : decode cL_change 268 = .ok (.invokevirtual 44, 3) := by decide +kernel
theorem dL_change_271 : decode cL_change 271 = .ok (.ireturn, 1) := by decide +kernel
theorem dL_isOrder_0 : decode cL_isOrder 0 = .ok (.aload_n 0, 1) := by decide +kernel
theorem dL_isOrder_1 : decode cL_isOrder 1 = .ok (.iload_n 1, 1) := by decide +kernel
theorem dL_isOrder_2 : decode cL_isOrder 2 = .ok (.iconst 0, 1) := by decide +kernel
theorem dL_isOrder_3 : decode cL_isOrder 3 = .ok (.invokevirtual 47, 3) := by decide +kernel
theorem dL_isOrder_6 : decode cL_isOrder 6 = .ok (.istore_n 2, 1) := by decide +kernel
theorem dL_isOrder_7 : decode cL_isOrder 7 = .ok (.iconst 0, 1) := by decide +kernel
theorem dL_isOrder_8 : decode cL_isOrder 8 = .ok (.istore_n 3, 1) := by decide +kernel
theorem dL_isOrder_9 : decode cL_isOrder 9 = .ok (.iload_n 2, 1) := by decide +kernel
theorem dL_isOrder_10 : decode cL_isOrder 10 = .ok (.aload_n 0, 1) := by decide +kernel
theorem dL_isOrder_11 : decode cL_isOrder 11 = .ok (.iload_n 1, 1) := by decide +kernel
theorem dL_isOrder_12 : decode cL_isOrder 12 = .ok (.iconst 1, 1) := by decide +kernel
theorem dL_isOrder_13 : decode cL_isOrder 13 = .ok (.invokevirtual 47, 3) := by decide +kernel
theorem dL_isOrder_16 : decode cL_isOrder 16 = .ok (.aload_n 0, 1) := by decide +kernel
theorem dL_isOrder_17 : decode cL_isOrder 17 = .ok (.iload_n 1, 1) := by decide +kernel
theorem dL_isOrder_18 : decode cL_isOrder 18 = .ok (.iconst 2, 1) := by decide +kernel
theorem dL_isOrder_19 : decode cL_isOrder 19 = .ok (.invokevirtual 47, 3) := by decide +kernel
theorem dL_isOrder_22 : decode cL_isOrder 22 = .ok (.iadd, 1) := by decide +kernel
theorem dL_isOrder_23 : decode cL_isOrder 23 = .ok (.if_icmp .ne 20, 3) := by decide +kernel
theorem dL_isOrder_26 : decode cL_isOrder 26 = .ok (.aload_n 0, 1) := by decide +kernel
theorem dL_isOrder_27 : decode cL_isOrder 27 = .ok (.iload_n 1, 1) := by decide +kernel
theorem dL_isOrder_28 : decode cL_isOrder 28 = .ok (.iconst 3, 1) := by decide +kernel
theorem dL_isOrder_29 : decode cL_isOrder 29 = .ok (.invokevirtual 47, 3) := by decide +kernel
theorem dL_isOrder_32 : decode cL_isOrder 32 = .ok (.ifCond .gt 7, 3) := by decide +kernel
theorem dL_isOrder_35 : decode cL_isOrder 35 = .ok (.iload_n 2, 1) := by decide +kernel
theorem dL_isOrder_36 : decode cL_isOrder 36 = .ok (.ifCond .ne 7, 3) := by decide +kernel
theorem dL_isOrder_39 : decode cL_isOrder 39 = .ok (.iconst 1, 1) := by decide +kernel
theorem dL_isOrder_40 : decode cL_isOrder 40 = .ok (.goto 4, 3) := by decide +kernel
theorem dL_isOrder_43 : decode cL_isOrder 43 = .ok (.iconst 0, 1) := by decide +kernel
theorem dL_isOrder_44 : decode cL_isOrder 44 = .ok (.istore 4, 2) := by decide +kernel
theorem dL_isOrder_46 : decode cL_isOrder 46 = .ok (.iconst 0, 1) := by decide +kernel
theorem dL_isOrder_47 : decode cL_isOrder 47 = .ok (.istore 5, 2) := by decide +kernel
theorem dL_isOrder_49 : decode cL_isOrder 49 = .ok (.iload 5, 2) := by decide +kernel
theorem dL_isOrder_51 : decode cL_isOrder 51 = .ok (.bipush 6, 2) := by decide +kernel
theorem dL_isOrder_53 : decode cL_isOrder 53 = .ok (.if_icmp .ge 55, 3) := by decide +kernel
theorem dL_isOrder_56 : decode cL_isOrder 56 = .ok (.aload_n 0, 1) := by decide +kernel
theorem dL_isOrder_57 : decode cL_isOrder 57 = .ok (.iload_n 1, 1) := by decide +kernel
theorem dL_isOrder_58 : decode cL_isOrder 58 = .ok (.iload 5, 2) := by decide +kernel
theorem dL_isOrder_60 : decode cL_isOrder 60 = .ok (.invokevirtual 50, 3) := by decide +kernel
theorem dL_isOrder_63 : decode cL_isOrder 63 = .ok (.istore 6, 2) := by decide +kernel
theorem dL_isOrder_65 : decode cL_isOrder 65 = .ok (.iload_n 3, 1) := by decide +kernel
theorem dL_isOrder_66 : decode cL_isOrder 66 = .ok (.iload 6, 2) := by decide +kernel
theorem dL_isOrder_68 : decode cL_isOrder 68 = .ok (.iadd, 1) := by decide +kernel
theorem dL_isOrder_69 : decode cL_isOrder 69 = .ok (.istore_n 3, 1) := by decide +kernel
theorem dL_isOrder_70 : decode cL_isOrder 70 = .ok (.iload 4, 2) := by decide +kernel
theorem dL_isOrder_72 : decode cL_isOrder 72 = .ok (.ifCond .eq 27, 3) := by decide +kernel
theorem dL_isOrder_75 : decode cL_isOrder 75 = .ok (.iload 6, 2) := by decide +kernel
theorem dL_isOrder_77 : decode cL_isOrder 77 = .ok (.ifCond .lt 22, 3) := by decide +kernel
theorem dL_isOrder_80 : decode cL_isOrder 80 = .ok (.iload_n 1, 1) := by decide +kernel
theorem dL_isOrder_81 : decode cL_isOrder 81 = .ok (.iload 5, 2) := by decide +kernel
theorem dL_isOrder_83 : decode cL_isOrder 83 = .ok (.ishr, 1) := by decide +kernel
theorem dL_isOrder_84 : decode cL_isOrder 84 = .ok (.iconst 1, 1) := by decide +kernel
theorem dL_isOrder_85 : decode cL_isOrder 85 = .ok (.iand, 1) := by decide +kernel
theorem dL_isOrder_86 : decode cL_isOrder 86 = .ok (.iconst 1, 1) := by decide +kernel
theorem dL_isOrder_87 : decode cL_isOrder 87 = .ok (.if_icmp .eq 8, 3) := by decide +kernel
theorem dL_isOrder_90 : decode cL_isOrder 90 = .ok (.iload 6, 2) := by decide +kernel
theorem dL_isOrder_92 : decode cL_isOrder 92 = .ok (.ifCond .ne 7, 3) := by decide +kernel
theorem dL_isOrder_95 : decode cL_isOrder 95 = .ok (.iconst 1, 1) := by decide +kernel
theorem dL_isOrder_96 : decode cL_isOrder 96 = .ok (.goto 4, 3) := by decide +kernel
theorem dL_isOrder_99 : decode cL_isOrder 99 = .ok (.iconst 0, 1) := by decide +kernel
theorem dL_isOrder_100 : decode cL_isOrder 100 = .ok (.istore 4, 2) := by decide +kernel
theorem dL_isOrder_102 : decode cL_isOrder 102 = .ok (.iinc 5 1, 3) := by decide +kernel
theorem dL_isOrder_105 : decode cL_isOrder 105 = .ok (.goto (-56), 3) := by decide +kernel
theorem dL_isOrder_108 : decode cL_isOrder 108 = .ok (.aload_n 0, 1) := by decide +kernel
theorem dL_isOrder_109 : decode cL_isOrder 109 = .ok (.iload_n 1, 1) := by decide +kernel
theorem dL_isOrder_110 : decode cL_isOrder 110 = .ok (.iconst 1, 1) := by decide +kernel
theorem dL_isOrder_111 : decode cL_isOrder 111 = .ok (.invokevirtual 47, 3) := by decide +kernel
theorem dL_isOrder_114 : decode cL_isOrder 114 = .ok (.aload_n 0, 1) := by decide +kernel
theorem dL_isOrder_115 : decode cL_isOrder 115 = .ok (.iconst 5, 1) := by decide +kernel
theorem dL_isOrder_116 : decode cL_isOrder 116 = .ok (.invokevirtual 53, 3) := by decide +kernel
theorem dL_isOrder_119 : decode cL_isOrder 119 = .ok (.isub, 1) := by decide +kernel
theorem dL_isOrder_120 : decode cL_isOrder 120 = .ok (.istore 5, 2) := by decide +kernel
theorem dL_isOrder_122 : decode cL_isOrder 122 = .ok (.iload 4, 2) := by decide +kernel
theorem dL_isOrder_124 : decode cL_isOrder 124 = .ok (.ifCond .eq 42, 3) := by decide +kernel
theorem dL_isOrder_127 : decode cL_isOrder 127 = .ok (.iload_n 3, 1) := by decide +kernel
theorem dL_isOrder_128 : decode cL_isOrder 128 = .ok (.iload_n 2, 1) := by decide +kernel
theorem dL_isOrder_129 : decode cL_isOrder 129 = .ok (.if_icmp .ne 37, 3) := by decide +kernel
theorem dL_isOrder_132 : decode cL_isOrder 132 = .ok (.aload_n 0, 1) := by decide +kernel
theorem dL_isOrder_133 : decode cL_isOrder 133 = .ok (.iload_n 1, 1) := by decide +kernel
theorem dL_isOrder_134 : decode cL_isOrder 134 = .ok (.iconst 4, 1) := by decide +kernel
theorem dL_isOrder_135 : decode cL_isOrder 135 = .ok (.invokevirtual 47, 3) := by decide +kernel
theorem dL_isOrder_138 : decode cL_isOrder 138 = .ok (.iload 5, 2) := by decide +kernel
theorem dL_isOrder_140 : decode cL_isOrder 140 = .ok (.ifCond .le 18, 3) := by decide +kernel
theorem dL_isOrder_143 : decode cL_isOrder 143 = .ok (.iload 5, 2) := by decide +kernel
theorem dL_isOrder_145 : decode cL_isOrder 145 = .ok (.aload_n 0, 1) := by decide +kernel
theorem dL_isOrder_146 : decode cL_isOrder 146 = .ok (.bipush 6, 2) := by decide +kernel
theorem dL_isOrder_148 : decode cL_isOrder 148 = .ok (.invokevirtual 53, 3) := by decide +kernel
theorem dL_isOrder_151 : decode cL_isOrder 151 = .ok (.imul, 1) := by decide +kernel
theorem dL_isOrder_152 : decode cL_isOrder 152 = .ok (.bipush 100, 2) := by decide +kernel
theorem dL_isOrder_154 : decode cL_isOrder 154 = .ok (.idiv, 1) := by decide +kernel
theorem dL_isOrder_155 : decode cL_isOrder 155 = .ok (.goto 4, 3) := by decide +kernel
theorem dL_isOrder_158 : decode cL_isOrder 158 = .ok (.iconst 0, 1) := by decide +kernel
theorem dL_isOrder_159 : decode cL_isOrder 159 = .ok (.if_icmp .ne 7, 3) := by decide +kernel
theorem dL_isOrder_162 : decode cL_isOrder 162 = .ok (.iconst 1, 1) := by decide +kernel
theorem dL_isOrder_163 : decode cL_isOrder 163 = .ok (.goto 4, 3) := by decide +kernel
theorem dL_isOrder_166 : decode cL_isOrder 166 = .ok (.iconst 0, 1) := by decide +kernel
theorem dL_isOrder_167 : decode cL_isOrder 167 = .ok (.ireturn, 1) := by decide +kernel
theorem dL_parted_0 : decode cL_parted 0 = .ok (.aload_n 0, 1) := by decide +kernel
theorem dL_parted_1 : decode cL_parted 1 = .ok (.iload_n 1, 1) := by decide +kernel
theorem dL_parted_2 : decode cL_parted 2 = .ok (.iconst 0, 1) := by decide +kernel
theorem dL_parted_3 : decode cL_parted 3 = .ok (.invokevirtual 47, 3) := by decide +kernel
theorem dL_parted_6 : decode cL_parted 6 = .ok (.aload_n 0, 1) := by decide +kernel
theorem dL_parted_7 : decode cL_parted 7 = .ok (.bipush 63, 2) := by decide +kernel
theorem dL_parted_9 : decode cL_parted 9 = .ok (.iload_n 1, 1) := by decide +kernel
theorem dL_parted_10 : decode cL_parted 10 = .ok (.isub, 1) := by decide +kernel
theorem dL_parted_11 : decode cL_parted 11 = .ok (.iconst 0, 1) := by decide +kernel
theorem dL_parted_12 : decode cL_parted 12 = .ok (.invokevirtual 47, 3) := by decide +kernel
theorem dL_parted_15 : decode cL_parted 15 = .ok (.iadd, 1) := by decide +kernel
theorem dL_parted_16 : decode cL_parted 16 = .ok (.aload_n 0, 1) := by decide +kernel
theorem dL_parted_17 : decode cL_parted 17 = .ok (.iload_n 1, 1) := by decide +kernel
theorem dL_parted_18 : decode cL_parted 18 = .ok (.iconst 4, 1) := by decide +kernel
theorem dL_parted_19 : decode cL_parted 19 = .ok (.invokevirtual 47, 3) := by decide +kernel
theorem dL_parted_22 : decode cL_parted 22 = .ok (.iadd, 1) := by decide +kernel
theorem dL_parted_23 : decode cL_parted 23 = .ok (.aload_n 0, 1) := by decide +kernel
theorem dL_parted_24 : decode cL_parted 24 = .ok (.bipush 63, 2) := by decide +kernel
theorem dL_parted_26 : decode cL_parted 26 = .ok (.iload_n 1, 1) := by decide +kernel
theorem dL_parted_27 : decode cL_parted 27 = .ok (.isub, 1) := by decide +kernel
theorem dL_parted_28 : decode cL_parted 28 = .ok (.iconst 4, 1) := by decide +kernel
theorem dL_parted_29 : decode cL_parted 29 = .ok (.invokevirtual 47, 3) := by decide +kernel
theorem dL_parted_32 : decode cL_parted 32 = .ok (.iadd, 1) := by decide +kernel
theorem dL_parted_33 : decode cL_parted 33 = .ok (.ireturn, 1) := by decide +kernel
theorem dL_isHarp_0 : decode cL_isHarp 0 = .ok (.aload_n 0, 1) := by decide +kernel
theorem dL_isHarp_1 : decode cL_isHarp 1 = .ok (.iload_n 1, 1) := by decide +kernel
theorem dL_isHarp_2 : decode cL_isHarp 2 = .ok (.iload_n 2, 1) := by decide +kernel
theorem dL_isHarp_3 : decode cL_isHarp 3 = .ok (.invokevirtual 56, 3) := by decide +kernel
theorem dL_isHarp_6 : decode cL_isHarp 6 = .ok (.istore_n 3, 1) := by decide +kernel
theorem dL_isHarp_7 : decode cL_isHarp 7 = .ok (.aload_n 0, 1) := by decide +kernel
theorem dL_isHarp_8 : decode cL_isHarp 8 = .ok (.iload_n 1, 1) := by decide +kernel
theorem dL_isHarp_9 : decode cL_isHarp 9 = .ok (.iconst 1, 1) := by decide +kernel
theorem dL_isHarp_10 : decode cL_isHarp 10 = .ok (.invokevirtual 59, 3) := by decide +kernel
theorem dL_isHarp_13 : decode cL_isHarp 13 = .ok (.iload_n 2, 1) := by decide +kernel
theorem dL_isHarp_14 : decode cL_isHarp 14 = .ok (.ishr, 1) := by decide +kernel
theorem dL_isHarp_15 : decode cL_isHarp 15 = .ok (.iconst 1, 1) := by decide +kernel
theorem dL_isHarp_16 : decode cL_isHarp 16 = .ok (.iand, 1) := by decide +kernel
theorem dL_isHarp_17 : decode cL_isHarp 17 = .ok (.iconst 1, 1) := by decide +kernel
theorem dL_isHarp_18 : decode cL_isHarp 18 = .ok (.if_icmp .ne 7, 3) := by decide +kernel
theorem dL_isHarp_21 : decode cL_isHarp 21 = .ok (.iconst 1, 1) := by decide +kernel
theorem dL_isHarp_22 : decode cL_isHarp 22 = .ok (.goto 4, 3) := by decide +kernel
theorem dL_isHarp_25 : decode cL_isHarp 25 = .ok (.iconst 0, 1) := by decide +kernel
theorem dL_isHarp_26 : decode cL_isHarp 26 = .ok (.istore 4, 2) := by decide +kernel
theorem dL_isHarp_28 : decode cL_isHarp 28 = .ok (.ldc 62, 2) := by decide +kernel
theorem dL_isHarp_30 : decode cL_isHarp 30 = .ok (.istore 5, 2) := by decide +kernel
theorem dL_isHarp_32 : decode cL_isHarp 32 = .ok (.iload 4, 2) := by decide +kernel
theorem dL_isHarp_34 : decode cL_isHarp 34 = .ok (.ifCond .eq 75, 3) := by decide +kernel
theorem dL_isHarp_37 : decode cL_isHarp 37 = .ok (.iload_n 2, 1) := by decide +kernel
theorem dL_isHarp_38 : decode cL_isHarp 38 = .ok (.bipush 7, 2) := by decide +kernel
theorem dL_isHarp_40 : decode cL_isHarp 40 = .ok (.if_icmp .ge 21, 3) := by decide +kernel
theorem dL_isHarp_43 : decode cL_isHarp 43 = .ok (.aload_n 0, 1) := by decide +kernel
theorem dL_isHarp_44 : decode cL_isHarp 44 = .ok (.iload_n 1, 1) := by decide +kernel
theorem dL_isHarp_45 : decode cL_isHarp 45 = .ok (.iload_n 2, 1) := by decide +kernel
theorem dL_isHarp_46 : decode cL_isHarp 46 = .ok (.iconst 1, 1) := by decide +kernel
theorem dL_isHarp_47 : decode cL_isHarp 47 = .ok (.iadd, 1) := by decide +kernel
theorem dL_isHarp_48 : decode cL_isHarp 48 = .ok (.iconst 0, 1) := by decide +kernel
theorem dL_isHarp_49 : decode cL_isHarp 49 = .ok (.invokevirtual 63, 3) := by decide +kernel
theorem dL_isHarp_52 : decode cL_isHarp 52 = .ok (.ifCond .le 9, 3) := by decide +kernel
theorem dL_isHarp_55 : decode cL_isHarp 55 = .ok (.iload_n 2, 1) := by decide +kernel
theorem dL_isHarp_56 : decode cL_isHarp 56 = .ok (.iconst 1, 1) := by decide +kernel
theorem dL_isHarp_57 : decode cL_isHarp 57 = .ok (.iadd, 1) := by decide +kernel
theorem dL_isHarp_58 : decode cL_isHarp 58 = .ok (.goto 5, 3) := by decide +kernel
theorem dL_isHarp_61 : decode cL_isHarp 61 = .ok (.iload 5, 2) := by decide +kernel
theorem dL_isHarp_63 : decode cL_isHarp 63 = .ok (.istore 5, 2) := by decide +kernel
theorem dL_isHarp_65 : decode cL_isHarp 65 = .ok (.iload_n 2, 1) := by decide +kernel
theorem dL_isHarp_66 : decode cL_isHarp 66 = .ok (.ifCond .le 21, 3) := by decide +kernel
theorem dL_isHarp_69 : decode cL_isHarp 69 = .ok (.aload_n 0, 1) := by decide +kernel
theorem dL_isHarp_70 : decode cL_isHarp 70 = .ok (.iload_n 1, 1) := by decide +kernel
theorem dL_isHarp_71 : decode cL_isHarp 71 = .ok (.iload_n 2, 1) := by decide +kernel
theorem dL_isHarp_72 : decode cL_isHarp 72 = .ok (.iconst 1, 1) := by decide +kernel
theorem dL_isHarp_73 : decode cL_isHarp 73 = .ok (.isub, 1) := by decide +kernel
theorem dL_isHarp_74 : decode cL_isHarp 74 = .ok (.iconst 0, 1) := by decide +kernel
theorem dL_isHarp_75 : decode cL_isHarp 75 = .ok (.invokevirtual 63, 3) := by decide +kernel
theorem dL_isHarp_78 : decode cL_isHarp 78 = .ok (.ifCond .le 9, 3) := by decide +kernel
theorem dL_isHarp_81 : decode cL_isHarp 81 = .ok (.iload_n 2, 1) := by decide +kernel
theorem dL_isHarp_82 : decode cL_isHarp 82 = .ok (.iconst 1, 1) := by decide +kernel
theorem dL_isHarp_83 : decode cL_isHarp 83 = .ok (.isub, 1) := by decide +kernel
theorem dL_isHarp_84 : decode cL_isHarp 84 = .ok (.goto 5, 3) := by decide +kernel
theorem dL_isHarp_87 : decode cL_isHarp 87 = .ok (.iload 5, 2) := by decide +kernel
theorem dL_isHarp_89 : decode cL_isHarp 89 = .ok (.istore 5, 2) := by decide +kernel
theorem dL_isHarp_91 : decode cL_isHarp 91 = .ok (.aload_n 0, 1) := by decide +kernel
theorem dL_isHarp_92 : decode cL_isHarp 92 = .ok (.iload_n 1, 1) := by decide +kernel
theorem dL_isHarp_93 : decode cL_isHarp 93 = .ok (.iload_n 2, 1) := by decide +kernel
theorem dL_isHarp_94 : decode cL_isHarp 94 = .ok (.iconst 0, 1) := by decide +kernel
theorem dL_isHarp_95 : decode cL_isHarp 95 = .ok (.invokevirtual 63, 3) := by decide +kernel
theorem dL_isHarp_98 : decode cL_isHarp 98 = .ok (.ifCond .le 7, 3) := by decide +kernel
theorem dL_isHarp_101 : decode cL_isHarp 101 = .ok (.iload_n 2, 1) := by decide +kernel
theorem dL_isHarp_102 : decode cL_isHarp 102 = .ok (.goto 5, 3) := by decide +kernel
theorem dL_isHarp_105 : decode cL_isHarp 105 = .ok (.iload 5, 2) := by decide +kernel
theorem dL_isHarp_107 : decode cL_isHarp 107 = .ok (.istore 5, 2) := by decide +kernel
theorem dL_isHarp_109 : decode cL_isHarp 109 = .ok (.iload_n 3, 1) := by decide +kernel
theorem dL_isHarp_110 : decode cL_isHarp 110 = .ok (.iload 5, 2) := by decide +kernel
theorem dL_isHarp_112 : decode cL_isHarp 112 = .ok (.if_icmp .ne 7, 3) := by decide +kernel
theorem dL_isHarp_115 : decode cL_isHarp 115 = .ok (.iconst 1, 1) := by decide +kernel
theorem dL_isHarp_116 : decode cL_isHarp 116 = .ok (.goto 4, 3) := by decide +kernel
theorem dL_isHarp_119 : decode cL_isHarp 119 = .ok (.iconst 0, 1) := by decide +kernel
theorem dL_isHarp_120 : decode cL_isHarp 120 = .ok (.ireturn, 1) := by decide +kernel
theorem dL_holds_0 : decode cL_holds 0 = .ok (.iconst 0, 1) := by decide +kernel
theorem dL_holds_1 : decode cL_holds 1 = .ok (.istore_n 3, 1) := by decide +kernel
theorem dL_holds_2 : decode cL_holds 2 = .ok (.iconst 0, 1) := by decide +kernel
theorem dL_holds_3 : decode cL_holds 3 = .ok (.istore 4, 2) := by decide +kernel
theorem dL_holds_5 : decode cL_holds 5 = .ok (.iconst 0, 1) := by decide +kernel
theorem dL_holds_6 : decode cL_holds 6 = .ok (.istore 5, 2) := by decide +kernel
theorem dL_holds_8 : decode cL_holds 8 = .ok (.iconst 0, 1) := by decide +kernel
theorem dL_holds_9 : decode cL_holds 9 = .ok (.istore 6, 2) := by decide +kernel
theorem dL_holds_11 : decode cL_holds 11 = .ok (.iconst 0, 1) := by decide +kernel
theorem dL_holds_12 : decode cL_holds 12 = .ok (.istore 7, 2) := by decide +kernel
theorem dL_holds_14 : decode cL_holds 14 = .ok (.aload_n 0, 1) := by decide +kernel
theorem dL_holds_15 : decode cL_holds 15 = .ok (.iload_n 2, 1) := by decide +kernel
theorem dL_holds_16 : decode cL_holds 16 = .ok (.bipush 64, 2) := by decide +kernel
theorem dL_holds_18 : decode cL_holds 18 = .ok (.invokestatic 9, 3) := by decide +kernel
theorem dL_holds_21 : decode cL_holds 21 = .ok (.invokestatic 67, 3) := by decide +kernel
theorem dL_holds_24 : decode cL_holds 24 = .ok (.ifCond .eq 16, 3) := by decide +kernel
theorem dL_holds_27 : decode cL_holds 27 = .ok (.aload_n 0, 1) := by decide +kernel
theorem dL_holds_28 : decode cL_holds 28 = .ok (.bipush 63, 2) := by decide +kernel
theorem dL_holds_30 : decode cL_holds 30 = .ok (.invokestatic 67, 3) := by decide +kernel
theorem dL_holds_33 : decode cL_holds 33 = .ok (.ifCond .eq 7, 3) := by decide +kernel
theorem dL_holds_36 : decode cL_holds 36 = .ok (.iconst 1, 1) := by decide +kernel
theorem dL_holds_37 : decode cL_holds 37 = .ok (.goto 4, 3) := by decide +kernel
theorem dL_holds_40 : decode cL_holds 40 = .ok (.iconst 0, 1) := by decide +kernel
theorem dL_holds_41 : decode cL_holds 41 = .ok (.istore 8, 2) := by decide +kernel
theorem dL_holds_43 : decode cL_holds 43 = .ok (.iconst 0, 1) := by decide +kernel
theorem dL_holds_44 : decode cL_holds 44 = .ok (.istore 9, 2) := by decide +kernel
theorem dL_holds_46 : decode cL_holds 46 = .ok (.iload 9, 2) := by decide +kernel
theorem dL_holds_48 : decode cL_holds 48 = .ok (.bipush 6, 2) := by decide +kernel
theorem dL_holds_50 : decode cL_holds 50 = .ok (.if_icmp .ge 224, 3) := by decide +kernel
theorem dL_holds_53 : decode cL_holds 53 = .ok (.iconst 0, 1) := by decide +kernel
theorem dL_holds_54 : decode cL_holds 54 = .ok (.istore 10, 2) := by decide +kernel
theorem dL_holds_56 : decode cL_holds 56 = .ok (.iconst 0, 1) := by decide +kernel
theorem dL_holds_57 : decode cL_holds 57 = .ok (.istore 11, 2) := by decide +kernel
theorem dL_holds_59 : decode cL_holds 59 = .ok (.iload_n 3, 1) := by decide +kernel
theorem dL_holds_60 : decode cL_holds 60 = .ok (.aload_n 0, 1) := by decide +kernel
theorem dL_holds_61 : decode cL_holds 61 = .ok (.iload 9, 2) := by decide +kernel
theorem dL_holds_63 : decode cL_holds 63 = .ok (.iconst 0, 1) := by decide +kernel
theorem dL_holds_64 : decode cL_holds 64 = .ok (.invokevirtual 59, 3) := by decide +kernel
theorem dL_holds_67 : decode cL_holds 67 = .ok (.iadd, 1) := by decide +kernel
theorem dL_holds_68 : decode cL_holds 68 = .ok (.istore_n 3, 1) := by decide +kernel
theorem dL_holds_69 : decode cL_holds 69 = .ok (.iload 4, 2) := by decide +kernel
theorem dL_holds_71 : decode cL_holds 71 = .ok (.aload_n 0, 1) := by decide +kernel
theorem dL_holds_72 : decode cL_holds 72 = .ok (.iload 9, 2) := by decide +kernel
theorem dL_holds_74 : decode cL_holds 74 = .ok (.iconst 5, 1) := by decide +kernel
theorem dL_holds_75 : decode cL_holds 75 = .ok (.invokevirtual 59, 3) := by decide +kernel
theorem dL_holds_78 : decode cL_holds 78 = .ok (.aload_n 0, 1) := by decide +kernel
theorem dL_holds_79 : decode cL_holds 79 = .ok (.iload 9, 2) := by decide +kernel
theorem dL_holds_81 : decode cL_holds 81 = .ok (.bipush 6, 2) := by decide +kernel
theorem dL_holds_83 : decode cL_holds 83 = .ok (.invokevirtual 59, 3) := by decide +kernel
theorem dL_holds_86 : decode cL_holds 86 = .ok (.iadd, 1) := by decide +kernel
theorem dL_holds_87 : decode cL_holds 87 = .ok (.aload_n 0, 1) := by decide +kernel
theorem dL_holds_88 : decode cL_holds 88 = .ok (.iload 9, 2) := by decide +kernel
theorem dL_holds_90 : decode cL_holds 90 = .ok (.bipush 7, 2) := by decide +kernel
theorem dL_holds_92 : decode cL_holds 92 = .ok (.invokevirtual 59, 3) := by decide +kernel
theorem dL_holds_95 : decode cL_holds 95 = .ok (.iadd, 1) := by decide +kernel
theorem dL_holds_96 : decode cL_holds 96 = .ok (.iadd, 1) := by decide +kernel
theorem dL_holds_97 : decode cL_holds 97 = .ok (.istore 4, 2) := by decide +kernel
theorem dL_holds_99 : decode cL_holds 99 = .ok (.iload 5, 2) := by decide +kernel
theorem dL_holds_101 : decode cL_holds 101 = .ok (.aload_n 0, 1) := by decide +kernel
theorem dL_holds_102 : decode cL_holds 102 = .ok (.iload 9, 2) := by decide +kernel
theorem dL_holds_104 : decode cL_holds 104 = .ok (.bipush 7, 2) := by decide +kernel
theorem dL_holds_106 : decode cL_holds 106 = .ok (.invokevirtual 59, 3) := by decide +kernel
theorem dL_holds_109 : decode cL_holds 109 = .ok (.iadd, 1) := by decide +kernel
theorem dL_holds_110 : decode cL_holds 110 = .ok (.istore 5, 2) := by decide +kernel
theorem dL_holds_112 : decode cL_holds 112 = .ok (.iload 6, 2) := by decide +kernel
theorem dL_holds_114 : decode cL_holds 114 = .ok (.aload_n 0, 1) := by decide +kernel
theorem dL_holds_115 : decode cL_holds 115 = .ok (.iload 9, 2) := by decide +kernel
theorem dL_holds_117 : decode cL_holds 117 = .ok (.bipush 8, 2) := by decide +kernel
theorem dL_holds_119 : decode cL_holds 119 = .ok (.invokevirtual 59, 3) := by decide +kernel
theorem dL_holds_122 : decode cL_holds 122 = .ok (.iadd, 1) := by decide +kernel
theorem dL_holds_123 : decode cL_holds 123 = .ok (.istore 6, 2) := by decide +kernel
theorem dL_holds_125 : decode cL_holds 125 = .ok (.iload 7, 2) := by decide +kernel
theorem dL_holds_127 : decode cL_holds 127 = .ok (.aload_n 0, 1) := by decide +kernel
theorem dL_holds_128 : decode cL_holds 128 = .ok (.iload 9, 2) := by decide +kernel
theorem dL_holds_130 : decode cL_holds 130 = .ok (.iconst 4, 1) := by decide +kernel
theorem dL_holds_131 : decode cL_holds 131 = .ok (.invokevirtual 59, 3) := by decide +kernel
theorem dL_holds_134 : decode cL_holds 134 = .ok (.iadd, 1) := by decide +kernel
theorem dL_holds_135 : decode cL_holds 135 = .ok (.istore 7, 2) := by decide +kernel
theorem dL_holds_137 : decode cL_holds 137 = .ok (.iconst 0, 1) := by decide +kernel
theorem dL_holds_138 : decode cL_holds 138 = .ok (.istore 12, 2) := by decide +kernel
theorem dL_holds_140 : decode cL_holds 140 = .ok (.iload 12, 2) := by decide +kernel
theorem dL_holds_142 : decode cL_holds 142 = .ok (.bipush 8, 2) := by decide +kernel
theorem dL_holds_144 : decode cL_holds 144 = .ok (.if_icmp .ge 88, 3) := by decide +kernel
theorem dL_holds_147 : decode cL_holds 147 = .ok (.iload 8, 2) := by decide +kernel
theorem dL_holds_149 : decode cL_holds 149 = .ok (.ifCond .eq 83, 3) := by decide +kernel
theorem dL_holds_152 : decode cL_holds 152 = .ok (.iload 10, 2) := by decide +kernel
theorem dL_holds_154 : decode cL_holds 154 = .ok (.aload_n 0, 1) := by decide +kernel
theorem dL_holds_155 : decode cL_holds 155 = .ok (.iload 9, 2) := by decide +kernel
theorem dL_holds_157 : decode cL_holds 157 = .ok (.iload 12, 2) := by decide +kernel
theorem dL_holds_159 : decode cL_holds 159 = .ok (.iconst 0, 1) := by decide +kernel
theorem dL_holds_160 : decode cL_holds 160 = .ok (.invokevirtual 63, 3) := by decide +kernel
theorem dL_holds_163 : decode cL_holds 163 = .ok (.iadd, 1) := by decide +kernel
theorem dL_holds_164 : decode cL_holds 164 = .ok (.istore 10, 2) := by decide +kernel
theorem dL_holds_166 : decode cL_holds 166 = .ok (.iload 11, 2) := by decide +kernel
theorem dL_holds_168 : decode cL_holds 168 = .ok (.aload_n 0, 1) := by decide +kernel
theorem dL_holds_169 : decode cL_holds 169 = .ok (.iload 9, 2) := by decide +kernel
theorem dL_holds_171 : decode cL_holds 171 = .ok (.iload 12, 2) := by decide +kernel
theorem dL_holds_173 : decode cL_holds 173 = .ok (.iconst 1, 1) := by decide +kernel
theorem dL_holds_174 : decode cL_holds 174 = .ok (.invokevirtual 63, 3) := by decide +kernel
theorem dL_holds_177 : decode cL_holds 177 = .ok (.iadd, 1) := by decide +kernel
theorem dL_holds_178 : decode cL_holds 178 = .ok (.istore 11, 2) := by decide +kernel
theorem dL_holds_180 : decode cL_holds 180 = .ok (.aload_n 0, 1) := by decide +kernel
theorem dL_holds_181 : decode cL_holds 181 = .ok (.iload 9, 2) := by decide +kernel
theorem dL_holds_183 : decode cL_holds 183 = .ok (.iload 12, 2) := by decide +kernel
theorem dL_holds_185 : decode cL_holds 185 = .ok (.iconst 0, 1) := by decide +kernel
theorem dL_holds_186 : decode cL_holds 186 = .ok (.invokevirtual 63, 3) := by decide +kernel
theorem dL_holds_189 : decode cL_holds 189 = .ok (.bipush 99, 2) := by decide +kernel
theorem dL_holds_191 : decode cL_holds 191 = .ok (.if_icmp .gt 32, 3) := by decide +kernel
theorem dL_holds_194 : decode cL_holds 194 = .ok (.aload_n 0, 1) := by decide +kernel
theorem dL_holds_195 : decode cL_holds 195 = .ok (.iload 9, 2) := by decide +kernel
theorem dL_holds_197 : decode cL_holds 197 = .ok (.iload 12, 2) := by decide +kernel
theorem dL_holds_199 : decode cL_holds 199 = .ok (.iconst 1, 1) := by decide +kernel
theorem dL_holds_200 : decode cL_holds 200 = .ok (.invokevirtual 63, 3) := by decide +kernel
theorem dL_holds_203 : decode cL_holds 203 = .ok (.bipush 20, 2) := by decide +kernel
theorem dL_holds_205 : decode cL_holds 205 = .ok (.if_icmp .gt 18, 3) := by decide +kernel
theorem dL_holds_208 : decode cL_holds 208 = .ok (.aload_n 0, 1) := by decide +kernel
theorem dL_holds_209 : decode cL_holds 209 = .ok (.iload 9, 2) := by decide +kernel
theorem dL_holds_211 : decode cL_holds 211 = .ok (.iload 12, 2) := by decide +kernel
theorem dL_holds_213 : decode cL_holds 213 = .ok (.invokestatic 71, 3) := by decide +kernel
theorem dL_holds_216 : decode cL_holds 216 = .ok (.ifCond .eq 7, 3) := by decide +kernel
theorem dL_holds_219 : decode cL_holds 219 = .ok (.iconst 1, 1) := by decide +kernel
theorem dL_holds_220 : decode cL_holds 220 = .ok (.goto 4, 3) := by decide +kernel
theorem dL_holds_223 : decode cL_holds 223 = .ok (.iconst 0, 1) := by decide +kernel
theorem dL_holds_224 : decode cL_holds 224 = .ok (.istore 8, 2) := by decide +kernel
theorem dL_holds_226 : decode cL_holds 226 = .ok (.iinc 12 1, 3) := by decide +kernel
theorem dL_holds_229 : decode cL_holds 229 = .ok (.goto (-89), 3) := by decide +kernel
theorem dL_holds_232 : decode cL_holds 232 = .ok (.iload 8, 2) := by decide +kernel
theorem dL_holds_234 : decode cL_holds 234 = .ok (.ifCond .eq 31, 3) := by decide +kernel
theorem dL_holds_237 : decode cL_holds 237 = .ok (.iload 10, 2) := by decide +kernel
theorem dL_holds_239 : decode cL_holds 239 = .ok (.aload_n 0, 1) := by decide +kernel
theorem dL_holds_240 : decode cL_holds 240 = .ok (.iload 9, 2) := by decide +kernel
theorem dL_holds_242 : decode cL_holds 242 = .ok (.iconst 2, 1) := by decide +kernel
theorem dL_holds_243 : decode cL_holds 243 = .ok (.invokevirtual 59, 3) := by decide +kernel
theorem dL_holds_246 : decode cL_holds 246 = .ok (.if_icmp .ne 19, 3) := by decide +kernel
theorem dL_holds_249 : decode cL_holds 249 = .ok (.iload 11, 2) := by decide +kernel
theorem dL_holds_251 : decode cL_holds 251 = .ok (.aload_n 0, 1) := by decide +kernel
theorem dL_holds_252 : decode cL_holds 252 = .ok (.iload 9, 2) := by decide +kernel
theorem dL_holds_254 : decode cL_holds 254 = .ok (.iconst 3, 1) := by decide +kernel
theorem dL_holds_255 : decode cL_holds 255 = .ok (.invokevirtual 59, 3) := by decide +kernel
theorem dL_holds_258 : decode cL_holds 258 = .ok (.if_icmp .ne 7, 3) := by decide +kernel
theorem dL_holds_261 : decode cL_holds 261 = .ok (.iconst 1, 1) := by decide +kernel
theorem dL_holds_262 : decode cL_holds 262 = .ok (.goto 4, 3) := by decide +kernel
theorem dL_holds_265 : decode cL_holds 265 = .ok (.iconst 0, 1) := by decide +kernel
theorem dL_holds_266 : decode cL_holds 266 = .ok (.istore 8, 2) := by decide +kernel
theorem dL_holds_268 : decode cL_holds 268 = .ok (.iinc 9 1, 3) := by decide +kernel
theorem dL_holds_271 : decode cL_holds 271 = .ok (.goto (-225), 3) := by decide +kernel
theorem dL_holds_274 : decode cL_holds 274 = .ok (.iconst 0, 1) := by decide +kernel
theorem dL_holds_275 : decode cL_holds 275 = .ok (.istore 9, 2) := by decide +kernel
theorem dL_holds_277 : decode cL_holds 277 = .ok (.iconst 0, 1) := by decide +kernel
theorem dL_holds_278 : decode cL_holds 278 = .ok (.istore 10, 2) := by decide +kernel
theorem dL_holds_280 : decode cL_holds 280 = .ok (.iload 10, 2) := by decide +kernel
theorem dL_holds_282 : decode cL_holds 282 = .ok (.aload_n 0, 1) := by decide +kernel
theorem dL_holds_283 : decode cL_holds 283 = .ok (.bipush 11, 2) := by decide +kernel
theorem dL_holds_285 : decode cL_holds 285 = .ok (.invokevirtual 53, 3) := by decide +kernel
theorem dL_holds_288 : decode cL_holds 288 = .ok (.if_icmp .ge 53, 3) := by decide +kernel
theorem dL_holds_291 : decode cL_holds 291 = .ok (.iload 9, 2) := by decide +kernel
theorem dL_holds_293 : decode cL_holds 293 = .ok (.aload_n 0, 1) := by decide +kernel
theorem dL_holds_294 : decode cL_holds 294 = .ok (.iload 10, 2) := by decide +kernel
theorem dL_holds_296 : decode cL_holds 296 = .ok (.iconst 0, 1) := by decide +kernel
theorem dL_holds_297 : decode cL_holds 297 = .ok (.invokevirtual 75, 3) := by decide +kernel
theorem dL_holds_300 : decode cL_holds 300 = .ok (.iadd, 1) := by decide +kernel
theorem dL_holds_301 : decode cL_holds 301 = .ok (.istore 9, 2) := by decide +kernel
theorem dL_holds_303 : decode cL_holds 303 = .ok (.iload 8, 2) := by decide +kernel
theorem dL_holds_305 : decode cL_holds 305 = .ok (.ifCond .eq 27, 3) := by decide +kernel
theorem dL_holds_308 : decode cL_holds 308 = .ok (.aload_n 0, 1) := by decide +kernel
theorem dL_holds_309 : decode cL_holds 309 = .ok (.iload 10, 2) := by decide +kernel
theorem dL_holds_311 : decode cL_holds 311 = .ok (.iconst 3, 1) := by decide +kernel
theorem dL_holds_312 : decode cL_holds 312 = .ok (.invokevirtual 75, 3) := by decide +kernel
theorem dL_holds_315 : decode cL_holds 315 = .ok (.ifCond .le 17, 3) := by decide +kernel
theorem dL_holds_318 : decode cL_holds 318 = .ok (.aload_n 0, 1) := by decide +kernel
theorem dL_holds_319 : decode cL_holds 319 = .ok (.iload 10, 2) := by decide +kernel
theorem dL_holds_321 : decode cL_holds 321 = .ok (.iconst 0, 1) := by decide +kernel
theorem dL_holds_322 : decode cL_holds 322 = .ok (.invokevirtual 75, 3) := by decide +kernel
theorem dL_holds_325 : decode cL_holds 325 = .ok (.ifCond .lt 7, 3) := by decide +kernel
theorem dL_holds_328 : decode cL_holds 328 = .ok (.iconst 1, 1) := by decide +kernel
theorem dL_holds_329 : decode cL_holds 329 = .ok (.goto 4, 3) := by decide +kernel
theorem dL_holds_332 : decode cL_holds 332 = .ok (.iconst 0, 1) := by decide +kernel
theorem dL_holds_333 : decode cL_holds 333 = .ok (.istore 8, 2) := by decide +kernel
theorem dL_holds_335 : decode cL_holds 335 = .ok (.iinc 10 1, 3) := by decide +kernel
theorem dL_holds_338 : decode cL_holds 338 = .ok (.goto (-58), 3) := by decide +kernel
theorem dL_holds_341 : decode cL_holds 341 = .ok (.aload_n 0, 1) := by decide +kernel
theorem dL_holds_342 : decode cL_holds 342 = .ok (.iconst 0, 1) := by decide +kernel
theorem dL_holds_343 : decode cL_holds 343 = .ok (.invokevirtual 78, 3) := by decide +kernel
theorem dL_holds_346 : decode cL_holds 346 = .ok (.istore 10, 2) := by decide +kernel
theorem dL_holds_348 : decode cL_holds 348 = .ok (.iload 8, 2) := by decide +kernel
theorem dL_holds_350 : decode cL_holds 350 = .ok (.ifCond .eq 42, 3) := by decide +kernel
theorem dL_holds_353 : decode cL_holds 353 = .ok (.aload_n 0, 1) := by decide +kernel
theorem dL_holds_354 : decode cL_holds 354 = .ok (.iconst 1, 1) := by decide +kernel
theorem dL_holds_355 : decode cL_holds 355 = .ok (.invokevirtual 78, 3) := by decide +kernel
theorem dL_holds_358 : decode cL_holds 358 = .ok (.aload_n 0, 1) := by decide +kernel
theorem dL_holds_359 : decode cL_holds 359 = .ok (.iload 10, 2) := by decide +kernel
theorem dL_holds_361 : decode cL_holds 361 = .ok (.invokestatic 81, 3) := by decide +kernel
theorem dL_holds_364 : decode cL_holds 364 = .ok (.if_icmp .ne 28, 3) := by decide +kernel
theorem dL_holds_367 : decode cL_holds 367 = .ok (.aload_n 0, 1) := by decide +kernel
theorem dL_holds_368 : decode cL_holds 368 = .ok (.iload_n 2, 1) := by decide +kernel
theorem dL_holds_369 : decode cL_holds 369 = .ok (.bipush 6, 2) := by decide +kernel
theorem dL_holds_371 : decode cL_holds 371 = .ok (.ishr, 1) := by decide +kernel
theorem dL_holds_372 : decode cL_holds 372 = .ok (.bipush 64, 2) := by decide +kernel
theorem dL_holds_374 : decode cL_holds 374 = .ok (.invokestatic 9, 3) := by decide +kernel
theorem dL_holds_377 : decode cL_holds 377 = .ok (.invokestatic 81, 3) := by decide +kernel
theorem dL_holds_380 : decode cL_holds 380 = .ok (.aload_n 0, 1) := by decide +kernel
theorem dL_holds_381 : decode cL_holds 381 = .ok (.iconst 1, 1) := by decide +kernel
theorem dL_holds_382 : decode cL_holds 382 = .ok (.invokevirtual 78, 3) := by decide +kernel
theorem dL_holds_385 : decode cL_holds 385 = .ok (.if_icmp .lt 7, 3) := by decide +kernel
theorem dL_holds_388 : decode cL_holds 388 = .ok (.iconst 1, 1) := by decide +kernel
theorem dL_holds_389 : decode cL_holds 389 = .ok (.goto 4, 3) := by decide +kernel
theorem dL_holds_392 : decode cL_holds 392 = .ok (.iconst 0, 1) := by decide +kernel
theorem dL_holds_393 : decode cL_holds 393 = .ok (.istore 8, 2) := by decide +kernel
theorem dL_holds_395 : decode cL_holds 395 = .ok (.iload 8, 2) := by decide +kernel
theorem dL_holds_397 : decode cL_holds 397 = .ok (.ifCond .eq 72, 3) := by decide +kernel
theorem dL_holds_400 : decode cL_holds 400 = .ok (.iload_n 3, 1) := by decide +kernel
theorem dL_holds_401 : decode cL_holds 401 = .ok (.aload_n 0, 1) := by decide +kernel
theorem dL_holds_402 : decode cL_holds 402 = .ok (.bipush 10, 2) := by decide +kernel
theorem dL_holds_404 : decode cL_holds 404 = .ok (.invokevirtual 53, 3) := by decide +kernel
theorem dL_holds_407 : decode cL_holds 407 = .ok (.if_icmp .ne 62, 3) := by decide +kernel
theorem dL_holds_410 : decode cL_holds 410 = .ok (.iload_n 3, 1) := by decide +kernel
theorem dL_holds_411 : decode cL_holds 411 = .ok (.aload_n 1, 1) := by decide +kernel
theorem dL_holds_412 : decode cL_holds 412 = .ok (.iconst 0, 1) := by decide +kernel
theorem dL_holds_413 : decode cL_holds 413 = .ok (.iaload, 1) := by decide +kernel
theorem dL_holds_414 : decode cL_holds 414 = .ok (.iload 4, 2) := by decide +kernel
theorem dL_holds_416 : decode cL_holds 416 = .ok (.isub, 1) := by decide +kernel
theorem dL_holds_417 : decode cL_holds 417 = .ok (.if_icmp .ne 52, 3) := by decide +kernel
theorem dL_holds_420 : decode cL_holds 420 = .ok (.iload 5, 2) := by decide +kernel
theorem dL_holds_422 : decode cL_holds 422 = .ok (.aload_n 0, 1) := by decide +kernel
theorem dL_holds_423 : decode cL_holds 423 = .ok (.bipush 13, 2) := by decide +kernel
theorem dL_holds_425 : decode cL_holds 425 = .ok (.invokevirtual 53, 3) := by decide +kernel
theorem dL_holds_428 : decode cL_holds 428 = .ok (.if_icmp .ne 41, 3) := by decide +kernel
theorem dL_holds_431 : decode cL_holds 431 = .ok (.iload 6, 2) := by decide +kernel
theorem dL_holds_433 : decode cL_holds 433 = .ok (.aload_n 0, 1) := by decide +kernel
theorem dL_holds_434 : decode cL_holds 434 = .ok (.bipush 14, 2) := by decide +kernel
theorem dL_holds_436 : decode cL_holds 436 = .ok (.invokevirtual 53, 3) := by decide +kernel
theorem dL_holds_439 : decode cL_holds 439 = .ok (.if_icmp .ne 30, 3) := by decide +kernel
theorem dL_holds_442 : decode cL_holds 442 = .ok (.iload 7, 2) := by decide +kernel
theorem dL_holds_444 : decode cL_holds 444 = .ok (.iload 9, 2) := by decide +kernel
theorem dL_holds_446 : decode cL_holds 446 = .ok (.if_icmp .ne 23, 3) := by decide +kernel
theorem dL_holds_449 : decode cL_holds 449 = .ok (.aload_n 0, 1) := by decide +kernel
theorem dL_holds_450 : decode cL_holds 450 = .ok (.aload_n 0, 1) := by decide +kernel
theorem dL_holds_451 : decode cL_holds 451 = .ok (.bipush 11, 2) := by decide +kernel
theorem dL_holds_453 : decode cL_holds 453 = .ok (.invokevirtual 53, 3) := by decide +kernel
theorem dL_holds_456 : decode cL_holds 456 = .ok (.iconst 0, 1) := by decide +kernel
theorem dL_holds_457 : decode cL_holds 457 = .ok (.invokevirtual 75, 3) := by decide +kernel
theorem dL_holds_460 : decode cL_holds 460 = .ok (.ldc 85, 2) := by decide +kernel
theorem dL_holds_462 : decode cL_holds 462 = .ok (.if_icmp .ne 7, 3) := by decide +kernel
theorem dL_holds_465 : decode cL_holds 465 = .ok (.iconst 1, 1) := by decide +kernel
theorem dL_holds_466 : decode cL_holds 466 = .ok (.goto 4, 3) := by decide +kernel
theorem dL_holds_469 : decode cL_holds 469 = .ok (.iconst 0, 1) := by decide +kernel
theorem dL_holds_470 : decode cL_holds 470 = .ok (.ireturn, 1) := by decide +kernel
theorem dL_tries_0 : decode cL_tries 0 = .ok (.iload_n 1, 1) := by decide +kernel
theorem dL_tries_1 : decode cL_tries 1 = .ok (.bipush 6, 2) := by decide +kernel
theorem dL_tries_3 : decode cL_tries 3 = .ok (.invokestatic 9, 3) := by decide +kernel
theorem dL_tries_6 : decode cL_tries 6 = .ok (.istore_n 2, 1) := by decide +kernel
theorem dL_tries_7 : decode cL_tries 7 = .ok (.iload_n 1, 1) := by decide +kernel
theorem dL_tries_8 : decode cL_tries 8 = .ok (.iconst 3, 1) := by decide +kernel
theorem dL_tries_9 : decode cL_tries 9 = .ok (.ishr, 1) := by decide +kernel
theorem dL_tries_10 : decode cL_tries 10 = .ok (.bipush 8, 2) := by decide +kernel
theorem dL_tries_12 : decode cL_tries 12 = .ok (.invokestatic 9, 3) := by decide +kernel
theorem dL_tries_15 : decode cL_tries 15 = .ok (.istore_n 3, 1) := by decide +kernel
theorem dL_tries_16 : decode cL_tries 16 = .ok (.aload_n 0, 1) := by decide +kernel
theorem dL_tries_17 : decode cL_tries 17 = .ok (.iload_n 2, 1) := by decide +kernel
theorem dL_tries_18 : decode cL_tries 18 = .ok (.iload_n 3, 1) := by decide +kernel
theorem dL_tries_19 : decode cL_tries 19 = .ok (.iconst 1, 1) := by decide +kernel
theorem dL_tries_20 : decode cL_tries 20 = .ok (.invokevirtual 63, 3) := by decide +kernel
theorem dL_tries_23 : decode cL_tries 23 = .ok (.istore 4, 2) := by decide +kernel
theorem dL_tries_25 : decode cL_tries 25 = .ok (.aload_n 0, 1) := by decide +kernel
theorem dL_tries_26 : decode cL_tries 26 = .ok (.bipush 63, 2) := by decide +kernel
theorem dL_tries_28 : decode cL_tries 28 = .ok (.iconst 0, 1) := by decide +kernel
theorem dL_tries_29 : decode cL_tries 29 = .ok (.invokevirtual 47, 3) := by decide +kernel
theorem dL_tries_32 : decode cL_tries 32 = .ok (.istore 5, 2) := by decide +kernel
theorem dL_tries_34 : decode cL_tries 34 = .ok (.iload 4, 2) := by decide +kernel
theorem dL_tries_36 : decode cL_tries 36 = .ok (.bipush 20, 2) := by decide +kernel
theorem dL_tries_38 : decode cL_tries 38 = .ok (.if_icmp .eq 28, 3) := by decide +kernel
theorem dL_tries_41 : decode cL_tries 41 = .ok (.aload_n 0, 1) := by decide +kernel
theorem dL_tries_42 : decode cL_tries 42 = .ok (.iload_n 2, 1) := by decide +kernel
theorem dL_tries_43 : decode cL_tries 43 = .ok (.iload_n 3, 1) := by decide +kernel
theorem dL_tries_44 : decode cL_tries 44 = .ok (.bipush 20, 2) := by decide +kernel
theorem dL_tries_46 : decode cL_tries 46 = .ok (.invokevirtual 15, 3) := by decide +kernel
theorem dL_tries_49 : decode cL_tries 49 = .ok (.aload_n 0, 1) := by decide +kernel
theorem dL_tries_50 : decode cL_tries 50 = .ok (.bipush 63, 2) := by decide +kernel
theorem dL_tries_52 : decode cL_tries 52 = .ok (.iconst 0, 1) := by decide +kernel
theorem dL_tries_53 : decode cL_tries 53 = .ok (.invokevirtual 47, 3) := by decide +kernel
theorem dL_tries_56 : decode cL_tries 56 = .ok (.if_icmp .ne 14, 3) := by decide +kernel
theorem dL_tries_59 : decode cL_tries 59 = .ok (.aload_n 0, 1) := by decide +kernel
theorem dL_tries_60 : decode cL_tries 60 = .ok (.invokevirtual 86, 3) := by decide +kernel
theorem dL_tries_63 : decode cL_tries 63 = .ok (.ifCond .lt 7, 3) := by decide +kernel
theorem dL_tries_66 : decode cL_tries 66 = .ok (.iconst 1, 1) := by decide +kernel
theorem dL_tries_67 : decode cL_tries 67 = .ok (.goto 4, 3) := by decide +kernel
theorem dL_tries_70 : decode cL_tries 70 = .ok (.iconst 0, 1) := by decide +kernel
theorem dL_tries_71 : decode cL_tries 71 = .ok (.istore 6, 2) := by decide +kernel
theorem dL_tries_73 : decode cL_tries 73 = .ok (.iload 4, 2) := by decide +kernel
theorem dL_tries_75 : decode cL_tries 75 = .ok (.bipush 20, 2) := by decide +kernel
theorem dL_tries_77 : decode cL_tries 77 = .ok (.if_icmp .ne 7, 3) := by decide +kernel
theorem dL_tries_80 : decode cL_tries 80 = .ok (.iconst 0, 1) := by decide +kernel
theorem dL_tries_81 : decode cL_tries 81 = .ok (.goto 14, 3) := by decide +kernel
theorem dL_tries_84 : decode cL_tries 84 = .ok (.aload_n 0, 1) := by decide +kernel
theorem dL_tries_85 : decode cL_tries 85 = .ok (.iload_n 2, 1) := by decide +kernel
theorem dL_tries_86 : decode cL_tries 86 = .ok (.iload_n 3, 1) := by decide +kernel
theorem dL_tries_87 : decode cL_tries 87 = .ok (.bipush 20, 2) := by decide +kernel
theorem dL_tries_89 : decode cL_tries 89 = .ok (.iload 4, 2) := by decide +kernel
theorem dL_tries_91 : decode cL_tries 91 = .ok (.isub, 1) := by decide +kernel
theorem dL_tries_92 : decode cL_tries 92 = .ok (.invokevirtual 90, 3) := by decide +kernel
theorem dL_tries_95 : decode cL_tries 95 = .ok (.istore 7, 2) := by decide +kernel
theorem dL_tries_97 : decode cL_tries 97 = .ok (.iload 6, 2) := by decide +kernel
theorem dL_tries_99 : decode cL_tries 99 = .ok (.ifCond .eq 49, 3) := by decide +kernel
theorem dL_tries_102 : decode cL_tries 102 = .ok (.iload 4, 2) := by decide +kernel
theorem dL_tries_104 : decode cL_tries 104 = .ok (.bipush 20, 2) := by decide +kernel
theorem dL_tries_106 : decode cL_tries 106 = .ok (.if_icmp .eq 26, 3) := by decide +kernel
theorem dL_tries_109 : decode cL_tries 109 = .ok (.aload_n 0, 1) := by decide +kernel
theorem dL_tries_110 : decode cL_tries 110 = .ok (.iload_n 2, 1) := by decide +kernel
theorem dL_tries_111 : decode cL_tries 111 = .ok (.iload_n 3, 1) := by decide +kernel
theorem dL_tries_112 : decode cL_tries 112 = .ok (.bipush 20, 2) := by decide +kernel
theorem dL_tries_114 : decode cL_tries 114 = .ok (.invokevirtual 15, 3) := by decide +kernel
theorem dL_tries_117 : decode cL_tries 117 = .ok (.iload 5, 2) := by decide +kernel
theorem dL_tries_119 : decode cL_tries 119 = .ok (.iload 7, 2) := by decide +kernel
theorem dL_tries_121 : decode cL_tries 121 = .ok (.iadd, 1) := by decide +kernel
theorem dL_tries_122 : decode cL_tries 122 = .ok (.if_icmp .ne 26, 3) := by decide +kernel
theorem dL_tries_125 : decode cL_tries 125 = .ok (.aload_n 0, 1) := by decide +kernel
theorem dL_tries_126 : decode cL_tries 126 = .ok (.invokevirtual 86, 3) := by decide +kernel
theorem dL_tries_129 : decode cL_tries 129 = .ok (.ifCond .lt 19, 3) := by decide +kernel
theorem dL_tries_132 : decode cL_tries 132 = .ok (.aload_n 0, 1) := by decide +kernel
theorem dL_tries_133 : decode cL_tries 133 = .ok (.bipush 63, 2) := by decide +kernel
theorem dL_tries_135 : decode cL_tries 135 = .ok (.iconst 0, 1) := by decide +kernel
theorem dL_tries_136 : decode cL_tries 136 = .ok (.invokevirtual 47, 3) := by decide +kernel
theorem dL_tries_139 : decode cL_tries 139 = .ok (.iload 5, 2) := by decide +kernel
theorem dL_tries_141 : decode cL_tries 141 = .ok (.if_icmp .ne 7, 3) := by decide +kernel
theorem dL_tries_144 : decode cL_tries 144 = .ok (.iconst 1, 1) := by decide +kernel
theorem dL_tries_145 : decode cL_tries 145 = .ok (.goto 4, 3) := by decide +kernel
theorem dL_tries_148 : decode cL_tries 148 = .ok (.iconst 0, 1) := by decide +kernel
theorem dL_tries_149 : decode cL_tries 149 = .ok (.istore 6, 2) := by decide +kernel
theorem dL_tries_151 : decode cL_tries 151 = .ok (.aload_n 0, 1) := by decide +kernel
theorem dL_tries_152 : decode cL_tries 152 = .ok (.invokevirtual 93, 3) := by decide +kernel
theorem dL_tries_155 : decode cL_tries 155 = .ok (.istore 8, 2) := by decide +kernel
theorem dL_tries_157 : decode cL_tries 157 = .ok (.aload_n 0, 1) := by decide +kernel
theorem dL_tries_158 : decode cL_tries 158 = .ok (.bipush 11, 2) := by decide +kernel
theorem dL_tries_160 : decode cL_tries 160 = .ok (.invokevirtual 53, 3) := by decide +kernel
theorem dL_tries_163 : decode cL_tries 163 = .ok (.istore 9, 2) := by decide +kernel
theorem dL_tries_165 : decode cL_tries 165 = .ok (.iload 6, 2) := by decide +kernel
theorem dL_tries_167 : decode cL_tries 167 = .ok (.ifCond .eq 56, 3) := by decide +kernel
theorem dL_tries_170 : decode cL_tries 170 = .ok (.iload 8, 2) := by decide +kernel
theorem dL_tries_172 : decode cL_tries 172 = .ok (.ifCond .le 51, 3) := by decide +kernel
theorem dL_tries_175 : decode cL_tries 175 = .ok (.aload_n 0, 1) := by decide +kernel
theorem dL_tries_176 : decode cL_tries 176 = .ok (.bipush 9, 2) := by decide +kernel
theorem dL_tries_178 : decode cL_tries 178 = .ok (.invokevirtual 53, 3) := by decide +kernel
theorem dL_tries_181 : decode cL_tries 181 = .ok (.iload 8, 2) := by decide +kernel
theorem dL_tries_183 : decode cL_tries 183 = .ok (.iadd, 1) := by decide +kernel
theorem dL_tries_184 : decode cL_tries 184 = .ok (.sipush 9999, 3) := by decide +kernel
theorem dL_tries_187 : decode cL_tries 187 = .ok (.if_icmp .gt 36, 3) := by decide +kernel
theorem dL_tries_190 : decode cL_tries 190 = .ok (.aload_n 0, 1) := by decide +kernel
theorem dL_tries_191 : decode cL_tries 191 = .ok (.iload 8, 2) := by decide +kernel
theorem dL_tries_193 : decode cL_tries 193 = .ok (.iconst 1, 1) := by decide +kernel
theorem dL_tries_194 : decode cL_tries 194 = .ok (.isub, 1) := by decide +kernel
theorem dL_tries_195 : decode cL_tries 195 = .ok (.iload 9, 2) := by decide +kernel
theorem dL_tries_197 : decode cL_tries 197 = .ok (.iconst 1, 1) := by decide +kernel
theorem dL_tries_198 : decode cL_tries 198 = .ok (.invokestatic 96, 3) := by decide +kernel
theorem dL_tries_201 : decode cL_tries 201 = .ok (.ifCond .eq 19, 3) := by decide +kernel
theorem dL_tries_204 : decode cL_tries 204 = .ok (.aload_n 0, 1) := by decide +kernel
theorem dL_tries_205 : decode cL_tries 205 = .ok (.iload 8, 2) := by decide +kernel
theorem dL_tries_207 : decode cL_tries 207 = .ok (.iload 9, 2) := by decide +kernel
theorem dL_tries_209 : decode cL_tries 209 = .ok (.iconst 0, 1) := by decide +kernel
theorem dL_tries_210 : decode cL_tries 210 = .ok (.invokestatic 96, 3) := by decide +kernel
theorem dL_tries_213 : decode cL_tries 213 = .ok (.ifCond .eq 7, 3) := by decide +kernel
theorem dL_tries_216 : decode cL_tries 216 = .ok (.iconst 1, 1) := by decide +kernel
theorem dL_tries_217 : decode cL_tries 217 = .ok (.goto 4, 3) := by decide +kernel
theorem dL_tries_220 : decode cL_tries 220 = .ok (.iconst 0, 1) := by decide +kernel
theorem dL_tries_221 : decode cL_tries 221 = .ok (.istore 6, 2) := by decide +kernel
theorem dL_tries_223 : decode cL_tries 223 = .ok (.iload 6, 2) := by decide +kernel
theorem dL_tries_225 : decode cL_tries 225 = .ok (.ifCond .eq 41, 3) := by decide +kernel
theorem dL_tries_228 : decode cL_tries 228 = .ok (.iload 8, 2) := by decide +kernel
theorem dL_tries_230 : decode cL_tries 230 = .ok (.ifCond .ne 7, 3) := by decide +kernel
theorem dL_tries_233 : decode cL_tries 233 = .ok (.iconst 1, 1) := by decide +kernel
theorem dL_tries_234 : decode cL_tries 234 = .ok (.goto 4, 3) := by decide +kernel
theorem dL_tries_237 : decode cL_tries 237 = .ok (.iconst 0, 1) := by decide +kernel
theorem dL_tries_238 : decode cL_tries 238 = .ok (.iload 9, 2) := by decide +kernel
theorem dL_tries_240 : decode cL_tries 240 = .ok (.ifCond .ne 7, 3) := by decide +kernel
theorem dL_tries_243 : decode cL_tries 243 = .ok (.iconst 1, 1) := by decide +kernel
theorem dL_tries_244 : decode cL_tries 244 = .ok (.goto 4, 3) := by decide +kernel
theorem dL_tries_247 : decode cL_tries 247 = .ok (.iconst 0, 1) := by decide +kernel
theorem dL_tries_248 : decode cL_tries 248 = .ok (.if_icmp .ne 18, 3) := by decide +kernel
theorem dL_tries_251 : decode cL_tries 251 = .ok (.aload_n 0, 1) := by decide +kernel
theorem dL_tries_252 : decode cL_tries 252 = .ok (.bipush 11, 2) := by decide +kernel
theorem dL_tries_254 : decode cL_tries 254 = .ok (.invokevirtual 53, 3) := by decide +kernel
theorem dL_tries_257 : decode cL_tries 257 = .ok (.iload 9, 2) := by decide +kernel
theorem dL_tries_259 : decode cL_tries 259 = .ok (.if_icmp .ne 7, 3) := by decide +kernel
theorem dL_tries_262 : decode cL_tries 262 = .ok (.iconst 1, 1) := by decide +kernel
theorem dL_tries_263 : decode cL_tries 263 = .ok (.goto 4, 3) := by decide +kernel
theorem dL_tries_266 : decode cL_tries 266 = .ok (.iconst 0, 1) := by decide +kernel
theorem dL_tries_267 : decode cL_tries 267 = .ok (.ireturn, 1) := by decide +kernel
theorem dL_passes_0 : decode cL_passes 0 = .ok (.iconst 0, 1) := by decide +kernel
theorem dL_passes_1 : decode cL_passes 1 = .ok (.istore 4, 2) := by decide +kernel
theorem dL_passes_3 : decode cL_passes 3 = .ok (.iconst 0, 1) := by decide +kernel
theorem dL_passes_4 : decode cL_passes 4 = .ok (.istore 5, 2) := by decide +kernel
theorem dL_passes_6 : decode cL_passes 6 = .ok (.iload_n 1, 1) := by decide +kernel
theorem dL_passes_7 : decode cL_passes 7 = .ok (.istore 6, 2) := by decide +kernel
theorem dL_passes_9 : decode cL_passes 9 = .ok (.iload 6, 2) := by decide +kernel
theorem dL_passes_11 : decode cL_passes 11 = .ok (.ifCond .le 35, 3) := by decide +kernel
theorem dL_passes_14 : decode cL_passes 14 = .ok (.iload 4, 2) := by decide +kernel
theorem dL_passes_16 : decode cL_passes 16 = .ok (.aload_n 0, 1) := by decide +kernel
theorem dL_passes_17 : decode cL_passes 17 = .ok (.iload 6, 2) := by decide +kernel
theorem dL_passes_19 : decode cL_passes 19 = .ok (.bipush 60, 2) := by decide +kernel
theorem dL_passes_21 : decode cL_passes 21 = .ok (.if_icmp .le 8, 3) := by decide +kernel
theorem dL_passes_24 : decode cL_passes 24 = .ok (.bipush 60, 2) := by decide +kernel
theorem dL_passes_26 : decode cL_passes 26 = .ok (.goto 5, 3) := by decide +kernel
theorem dL_passes_29 : decode cL_passes 29 = .ok (.iload 6, 2) := by decide +kernel
theorem dL_passes_31 : decode cL_passes 31 = .ok (.invokevirtual 28, 3) := by decide +kernel
theorem dL_passes_34 : decode cL_passes 34 = .ok (.iadd, 1) := by decide +kernel
theorem dL_passes_35 : decode cL_passes 35 = .ok (.istore 4, 2) := by decide +kernel
theorem dL_passes_37 : decode cL_passes 37 = .ok (.iinc 5 1, 3) := by decide +kernel
theorem dL_passes_40 : decode cL_passes 40 = .ok (.iinc 6 (-60), 3) := by decide +kernel
theorem dL_passes_43 : decode cL_passes 43 = .ok (.goto (-34), 3) := by decide +kernel
theorem dL_passes_46 : decode cL_passes 46 = .ok (.aload_n 0, 1) := by decide +kernel
theorem dL_passes_47 : decode cL_passes 47 = .ok (.bipush 11, 2) := by decide +kernel
theorem dL_passes_49 : decode cL_passes 49 = .ok (.invokevirtual 53, 3) := by decide +kernel
theorem dL_passes_52 : decode cL_passes 52 = .ok (.iload_n 2, 1) := by decide +kernel
theorem dL_passes_53 : decode cL_passes 53 = .ok (.iload 4, 2) := by decide +kernel
theorem dL_passes_55 : decode cL_passes 55 = .ok (.isub, 1) := by decide +kernel
theorem dL_passes_56 : decode cL_passes 56 = .ok (.if_icmp .ne 25, 3) := by decide +kernel
theorem dL_passes_59 : decode cL_passes 59 = .ok (.aload_n 0, 1) := by decide +kernel
theorem dL_passes_60 : decode cL_passes 60 = .ok (.bipush 11, 2) := by decide +kernel
theorem dL_passes_62 : decode cL_passes 62 = .ok (.invokevirtual 53, 3) := by decide +kernel
theorem dL_passes_65 : decode cL_passes 65 = .ok (.ifCond .le 7, 3) := by decide +kernel
theorem dL_passes_68 : decode cL_passes 68 = .ok (.iconst 1, 1) := by decide +kernel
theorem dL_passes_69 : decode cL_passes 69 = .ok (.goto 4, 3) := by decide +kernel
theorem dL_passes_72 : decode cL_passes 72 = .ok (.iconst 0, 1) := by decide +kernel
theorem dL_passes_73 : decode cL_passes 73 = .ok (.iload_n 3, 1) := by decide +kernel
theorem dL_passes_74 : decode cL_passes 74 = .ok (.if_icmp .ne 7, 3) := by decide +kernel
theorem dL_passes_77 : decode cL_passes 77 = .ok (.iconst 1, 1) := by decide +kernel
theorem dL_passes_78 : decode cL_passes 78 = .ok (.goto 4, 3) := by decide +kernel
theorem dL_passes_81 : decode cL_passes 81 = .ok (.iconst 0, 1) := by decide +kernel
theorem dL_passes_82 : decode cL_passes 82 = .ok (.istore 6, 2) := by decide +kernel
theorem dL_passes_84 : decode cL_passes 84 = .ok (.iconst 0, 1) := by decide +kernel
theorem dL_passes_85 : decode cL_passes 85 = .ok (.istore 7, 2) := by decide +kernel
theorem dL_passes_87 : decode cL_passes 87 = .ok (.iload 7, 2) := by decide +kernel
theorem dL_passes_89 : decode cL_passes 89 = .ok (.iload 5, 2) := by decide +kernel
theorem dL_passes_91 : decode cL_passes 91 = .ok (.if_icmp .ge 28, 3) := by decide +kernel
theorem dL_passes_94 : decode cL_passes 94 = .ok (.aload_n 0, 1) := by decide +kernel
theorem dL_passes_95 : decode cL_passes 95 = .ok (.invokevirtual 86, 3) := by decide +kernel
theorem dL_passes_98 : decode cL_passes 98 = .ok (.ifCond .lt 12, 3) := by decide +kernel
theorem dL_passes_101 : decode cL_passes 101 = .ok (.iload 6, 2) := by decide +kernel
theorem dL_passes_103 : decode cL_passes 103 = .ok (.ifCond .eq 7, 3) := by decide +kernel
theorem dL_passes_106 : decode cL_passes 106 = .ok (.iconst 1, 1) := by decide +kernel
theorem dL_passes_107 : decode cL_passes 107 = .ok (.goto 4, 3) := by decide +kernel
theorem dL_passes_110 : decode cL_passes 110 = .ok (.iconst 0, 1) := by decide +kernel
theorem dL_passes_111 : decode cL_passes 111 = .ok (.istore 6, 2) := by decide +kernel
theorem dL_passes_113 : decode cL_passes 113 = .ok (.iinc 7 1, 3) := by decide +kernel
theorem dL_passes_116 : decode cL_passes 116 = .ok (.goto (-29), 3) := by decide +kernel
theorem dL_passes_119 : decode cL_passes 119 = .ok (.iload 6, 2) := by decide +kernel
theorem dL_passes_121 : decode cL_passes 121 = .ok (.ireturn, 1) := by decide +kernel
theorem dL_law_0 : decode cL_law 0 = .ok (.new 16, 3) := by decide +kernel
theorem dL_law_3 : decode cL_law 3 = .ok (.dup, 1) := by decide +kernel
theorem dL_law_4 : decode cL_law 4 = .ok (.invokespecial 100, 3) := by decide +kernel
theorem dL_law_7 : decode cL_law 7 = .ok (.astore_n 1, 1) := by decide +kernel
theorem dL_law_8 : decode cL_law 8 = .ok (.iconst 1, 1) := by decide +kernel
theorem dL_law_9 : decode cL_law 9 = .ok (.newarray .int, 2) := by decide +kernel
theorem dL_law_11 : decode cL_law 11 = .ok (.astore_n 2, 1) := by decide +kernel
theorem dL_law_12 : decode cL_law 12 = .ok (.aload_n 1, 1) := by decide +kernel
theorem dL_law_13 : decode cL_law 13 = .ok (.invokevirtual 86, 3) := by decide +kernel
theorem dL_law_16 : decode cL_law 16 = .ok (.ldc 101, 2) := by decide +kernel
theorem dL_law_18 : decode cL_law 18 = .ok (.if_icmp .ne 24, 3) := by decide +kernel
theorem dL_law_21 : decode cL_law 21 = .ok (.aload_n 1, 1) := by decide +kernel
theorem dL_law_22 : decode cL_law 22 = .ok (.aload_n 2, 1) := by decide +kernel
theorem dL_law_23 : decode cL_law 23 = .ok (.bipush 7, 2) := by decide +kernel
theorem dL_law_25 : decode cL_law 25 = .ok (.invokestatic 102, 3) := by decide +kernel
theorem dL_law_28 : decode cL_law 28 = .ok (.ifCond .eq 14, 3) := by decide +kernel
theorem dL_law_31 : decode cL_law 31 = .ok (.aload_n 1, 1) := by decide +kernel
theorem dL_law_32 : decode cL_law 32 = .ok (.invokevirtual 93, 3) := by decide +kernel
theorem dL_law_35 : decode cL_law 35 = .ok (.ifCond .ne 7, 3) := by decide +kernel
theorem dL_law_38 : decode cL_law 38 = .ok (.iconst 1, 1) := by decide +kernel
theorem dL_law_39 : decode cL_law 39 = .ok (.goto 4, 3) := by decide +kernel
theorem dL_law_42 : decode cL_law 42 = .ok (.iconst 0, 1) := by decide +kernel
theorem dL_law_43 : decode cL_law 43 = .ok (.istore_n 3, 1) := by decide +kernel
theorem dL_law_44 : decode cL_law 44 = .ok (.iconst 0, 1) := by decide +kernel
theorem dL_law_45 : decode cL_law 45 = .ok (.istore 4, 2) := by decide +kernel
theorem dL_law_47 : decode cL_law 47 = .ok (.iload 4, 2) := by decide +kernel
theorem dL_law_49 : decode cL_law 49 = .ok (.bipush 6, 2) := by decide +kernel
theorem dL_law_51 : decode cL_law 51 = .ok (.if_icmp .ge 43, 3) := by decide +kernel
theorem dL_law_54 : decode cL_law 54 = .ok (.aload_n 2, 1) := by decide +kernel
theorem dL_law_55 : decode cL_law 55 = .ok (.iconst 0, 1) := by decide +kernel
theorem dL_law_56 : decode cL_law 56 = .ok (.dup2, 1) := by decide +kernel
theorem dL_law_57 : decode cL_law 57 = .ok (.iaload, 1) := by decide +kernel
theorem dL_law_58 : decode cL_law 58 = .ok (.sipush 900, 3) := by decide +kernel
theorem dL_law_61 : decode cL_law 61 = .ok (.iadd, 1) := by decide +kernel
theorem dL_law_62 : decode cL_law 62 = .ok (.iastore, 1) := by decide +kernel
theorem dL_law_63 : decode cL_law 63 = .ok (.aload_n 1, 1) := by decide +kernel
theorem dL_law_64 : decode cL_law 64 = .ok (.iload 4, 2) := by decide +kernel
theorem dL_law_66 : decode cL_law 66 = .ok (.sipush 900, 3) := by decide +kernel
theorem dL_law_69 : decode cL_law 69 = .ok (.invokevirtual 21, 3) := by decide +kernel
theorem dL_law_72 : decode cL_law 72 = .ok (.sipush 900, 3) := by decide +kernel
theorem dL_law_75 : decode cL_law 75 = .ok (.if_icmp .ne 11, 3) := by decide +kernel
theorem dL_law_78 : decode cL_law 78 = .ok (.iload_n 3, 1) := by decide +kernel
theorem dL_law_79 : decode cL_law 79 = .ok (.ifCond .eq 7, 3) := by decide +kernel
theorem dL_law_82 : decode cL_law 82 = .ok (.iconst 1, 1) := by decide +kernel
theorem dL_law_83 : decode cL_law 83 = .ok (.goto 4, 3) := by decide +kernel
theorem dL_law_86 : decode cL_law 86 = .ok (.iconst 0, 1) := by decide +kernel
theorem dL_law_87 : decode cL_law 87 = .ok (.istore_n 3, 1) := by decide +kernel
theorem dL_law_88 : decode cL_law 88 = .ok (.iinc 4 1, 3) := by decide +kernel
theorem dL_law_91 : decode cL_law 91 = .ok (.goto (-44), 3) := by decide +kernel
theorem dL_law_94 : decode cL_law 94 = .ok (.aload_n 0, 1) := by decide +kernel
theorem dL_law_95 : decode cL_law 95 = .ok (.arraylength, 1) := by decide +kernel
theorem dL_law_96 : decode cL_law 96 = .ok (.iconst 3, 1) := by decide +kernel
theorem dL_law_97 : decode cL_law 97 = .ok (.idiv, 1) := by decide +kernel
theorem dL_law_98 : decode cL_law 98 = .ok (.bipush 30, 2) := by decide +kernel
theorem dL_law_100 : decode cL_law 100 = .ok (.if_icmp .le 8, 3) := by decide +kernel
theorem dL_law_103 : decode cL_law 103 = .ok (.bipush 30, 2) := by decide +kernel
theorem dL_law_105 : decode cL_law 105 = .ok (.goto 7, 3) := by decide +kernel
theorem dL_law_108 : decode cL_law 108 = .ok (.aload_n 0, 1) := by decide +kernel
theorem dL_law_109 : decode cL_law 109 = .ok (.arraylength, 1) := by decide +kernel
theorem dL_law_110 : decode cL_law 110 = .ok (.iconst 3, 1) := by decide +kernel
theorem dL_law_111 : decode cL_law 111 = .ok (.idiv, 1) := by decide +kernel
theorem dL_law_112 : decode cL_law 112 = .ok (.istore 4, 2) := by decide +kernel
theorem dL_law_114 : decode cL_law 114 = .ok (.iconst 0, 1) := by decide +kernel
theorem dL_law_115 : decode cL_law 115 = .ok (.istore 5, 2) := by decide +kernel
theorem dL_law_117 : decode cL_law 117 = .ok (.iload 5, 2) := by decide +kernel
theorem dL_law_119 : decode cL_law 119 = .ok (.iload 4, 2) := by decide +kernel
theorem dL_law_121 : decode cL_law 121 = .ok (.if_icmp .ge 195, 3) := by decide +kernel
theorem dL_law_124 : decode cL_law 124 = .ok (.iload_n 3, 1) := by decide +kernel
theorem dL_law_125 : decode cL_law 125 = .ok (.ifCond .eq 191, 3) := by decide +kernel
theorem dL_law_128 : decode cL_law 128 = .ok (.aload_n 0, 1) := by decide +kernel
theorem dL_law_129 : decode cL_law 129 = .ok (.iconst 3, 1) := by decide +kernel
theorem dL_law_130 : decode cL_law 130 = .ok (.iload 5, 2) := by decide +kernel
theorem dL_law_132 : decode cL_law 132 = .ok (.imul, 1) := by decide +kernel
theorem dL_law_133 : decode cL_law 133 = .ok (.invokestatic 106, 3) := by decide +kernel
theorem dL_law_136 : decode cL_law 136 = .ok (.bipush 16, 2) := by decide +kernel
theorem dL_law_138 : decode cL_law 138 = .ok (.invokestatic 9, 3) := by decide +kernel
theorem dL_law_141 : decode cL_law 141 = .ok (.istore 6, 2) := by decide +kernel
theorem dL_law_143 : decode cL_law 143 = .ok (.aload_n 1, 1) := by decide +kernel
theorem dL_law_144 : decode cL_law 144 = .ok (.bipush 18, 2) := by decide +kernel
theorem dL_law_146 : decode cL_law 146 = .ok (.invokevirtual 53, 3) := by decide +kernel
theorem dL_law_149 : decode cL_law 149 = .ok (.istore 7, 2) := by decide +kernel
theorem dL_law_151 : decode cL_law 151 = .ok (.aload_n 1, 1) := by decide +kernel
theorem dL_law_152 : decode cL_law 152 = .ok (.bipush 10, 2) := by decide +kernel
theorem dL_law_154 : decode cL_law 154 = .ok (.invokevirtual 53, 3) := by decide +kernel
theorem dL_law_157 : decode cL_law 157 = .ok (.istore 8, 2) := by decide +kernel
theorem dL_law_159 : decode cL_law 159 = .ok (.aload_n 1, 1) := by decide +kernel
theorem dL_law_160 : decode cL_law 160 = .ok (.aload_n 2, 1) := by decide +kernel
theorem dL_law_161 : decode cL_law 161 = .ok (.iload 6, 2) := by decide +kernel
theorem dL_law_163 : decode cL_law 163 = .ok (.aload_n 0, 1) := by decide +kernel
theorem dL_law_164 : decode cL_law 164 = .ok (.iconst 3, 1) := by decide +kernel
theorem dL_law_165 : decode cL_law 165 = .ok (.iload 5, 2) := by decide +kernel
theorem dL_law_167 : decode cL_law 167 = .ok (.imul, 1) := by decide +kernel
theorem dL_law_168 : decode cL_law 168 = .ok (.iconst 1, 1) := by decide +kernel
theorem dL_law_169 : decode cL_law 169 = .ok (.iadd, 1) := by decide +kernel
theorem dL_law_170 : decode cL_law 170 = .ok (.invokestatic 106, 3) := by decide +kernel
theorem dL_law_173 : decode cL_law 173 = .ok (.aload_n 0, 1) := by decide +kernel
theorem dL_law_174 : decode cL_law 174 = .ok (.iconst 3, 1) := by decide +kernel
theorem dL_law_175 : decode cL_law 175 = .ok (.iload 5, 2) := by decide +kernel
theorem dL_law_177 : decode cL_law 177 = .ok (.imul, 1) := by decide +kernel
theorem dL_law_178 : decode cL_law 178 = .ok (.iconst 2, 1) := by decide +kernel
theorem dL_law_179 : decode cL_law 179 = .ok (.iadd, 1) := by decide +kernel
theorem dL_law_180 : decode cL_law 180 = .ok (.invokestatic 106, 3) := by decide +kernel
theorem dL_law_183 : decode cL_law 183 = .ok (.invokestatic 110, 3) := by decide +kernel
theorem dL_law_186 : decode cL_law 186 = .ok (.istore 9, 2) := by decide +kernel
theorem dL_law_188 : decode cL_law 188 = .ok (.iload 9, 2) := by decide +kernel
theorem dL_law_190 : decode cL_law 190 = .ok (.ldc 114, 2) := by decide +kernel
theorem dL_law_192 : decode cL_law 192 = .ok (.if_icmp .ge 7, 3) := by decide +kernel
theorem dL_law_195 : decode cL_law 195 = .ok (.iconst 1, 1) := by decide +kernel
theorem dL_law_196 : decode cL_law 196 = .ok (.goto 4, 3) := by decide +kernel
theorem dL_law_199 : decode cL_law 199 = .ok (.iconst 0, 1) := by decide +kernel
theorem dL_law_200 : decode cL_law 200 = .ok (.istore 10, 2) := by decide +kernel
theorem dL_law_202 : decode cL_law 202 = .ok (.aload_n 1, 1) := by decide +kernel
theorem dL_law_203 : decode cL_law 203 = .ok (.bipush 18, 2) := by decide +kernel
theorem dL_law_205 : decode cL_law 205 = .ok (.invokevirtual 53, 3) := by decide +kernel
theorem dL_law_208 : decode cL_law 208 = .ok (.iload 10, 2) := by decide +kernel
theorem dL_law_210 : decode cL_law 210 = .ok (.ifCond .eq 8, 3) := by decide +kernel
theorem dL_law_213 : decode cL_law 213 = .ok (.iload 7, 2) := by decide +kernel
theorem dL_law_215 : decode cL_law 215 = .ok (.goto 19, 3) := by decide +kernel
theorem dL_law_218 : decode cL_law 218 = .ok (.iload 7, 2) := by decide +kernel
theorem dL_law_220 : decode cL_law 220 = .ok (.bipush 6, 2) := by decide +kernel
theorem dL_law_222 : decode cL_law 222 = .ok (.if_icmp .ne 8, 3) := by decide +kernel
theorem dL_law_225 : decode cL_law 225 = .ok (.bipush 6, 2) := by decide +kernel
theorem dL_law_227 : decode cL_law 227 = .ok (.goto 7, 3) := by decide +kernel
theorem dL_law_230 : decode cL_law 230 = .ok (.iload 7, 2) := by decide +kernel
theorem dL_law_232 : decode cL_law 232 = .ok (.iconst 1, 1) := by decide +kernel
theorem dL_law_233 : decode cL_law 233 = .ok (.iadd, 1) := by decide +kernel
theorem dL_law_234 : decode cL_law 234 = .ok (.if_icmp .ne 23, 3) := by decide +kernel
theorem dL_law_237 : decode cL_law 237 = .ok (.iload 10, 2) := by decide +kernel
theorem dL_law_239 : decode cL_law 239 = .ok (.ifCond .eq 14, 3) := by decide +kernel
theorem dL_law_242 : decode cL_law 242 = .ok (.aload_n 1, 1) := by decide +kernel
theorem dL_law_243 : decode cL_law 243 = .ok (.bipush 10, 2) := by decide +kernel
theorem dL_law_245 : decode cL_law 245 = .ok (.invokevirtual 53, 3) := by decide +kernel
theorem dL_law_248 : decode cL_law 248 = .ok (.iload 8, 2) := by decide +kernel
theorem dL_law_250 : decode cL_law 250 = .ok (.if_icmp .ne 7, 3) := by decide +kernel
theorem dL_law_253 : decode cL_law 253 = .ok (.iconst 1, 1) := by decide +kernel
theorem dL_law_254 : decode cL_law 254 = .ok (.goto 4, 3) := by decide +kernel
theorem dL_law_257 : decode cL_law 257 = .ok (.iconst 0, 1) := by decide +kernel
theorem dL_law_258 : decode cL_law 258 = .ok (.istore_n 3, 1) := by decide +kernel
theorem dL_law_259 : decode cL_law 259 = .ok (.iload_n 3, 1) := by decide +kernel
theorem dL_law_260 : decode cL_law 260 = .ok (.ifCond .eq 48, 3) := by decide +kernel
theorem dL_law_263 : decode cL_law 263 = .ok (.aload_n 1, 1) := by decide +kernel
theorem dL_law_264 : decode cL_law 264 = .ok (.aload_n 2, 1) := by decide +kernel
theorem dL_law_265 : decode cL_law 265 = .ok (.aload_n 0, 1) := by decide +kernel
theorem dL_law_266 : decode cL_law 266 = .ok (.iconst 3, 1) := by decide +kernel
theorem dL_law_267 : decode cL_law 267 = .ok (.iload 5, 2) := by decide +kernel
theorem dL_law_269 : decode cL_law 269 = .ok (.imul, 1) := by decide +kernel
theorem dL_law_270 : decode cL_law 270 = .ok (.invokestatic 106, 3) := by decide +kernel
theorem dL_law_273 : decode cL_law 273 = .ok (.invokestatic 102, 3) := by decide +kernel
theorem dL_law_276 : decode cL_law 276 = .ok (.ifCond .eq 32, 3) := by decide +kernel
theorem dL_law_279 : decode cL_law 279 = .ok (.iload 5, 2) := by decide +kernel
theorem dL_law_281 : decode cL_law 281 = .ok (.iconst 4, 1) := by decide +kernel
theorem dL_law_282 : decode cL_law 282 = .ok (.irem, 1) := by decide +kernel
theorem dL_law_283 : decode cL_law 283 = .ok (.iconst 3, 1) := by decide +kernel
theorem dL_law_284 : decode cL_law 284 = .ok (.if_icmp .ne 20, 3) := by decide +kernel
theorem dL_law_287 : decode cL_law 287 = .ok (.aload_n 1, 1) := by decide +kernel
theorem dL_law_288 : decode cL_law 288 = .ok (.aload_n 0, 1) := by decide +kernel
theorem dL_law_289 : decode cL_law 289 = .ok (.iconst 3, 1) := by decide +kernel
theorem dL_law_290 : decode cL_law 290 = .ok (.iload 5, 2) := by decide +kernel
theorem dL_law_292 : decode cL_law 292 = .ok (.imul, 1) := by decide +kernel
theorem dL_law_293 : decode cL_law 293 = .ok (.iconst 2, 1) := by decide +kernel
theorem dL_law_294 : decode cL_law 294 = .ok (.iadd, 1) := by decide +kernel
theorem dL_law_295 : decode cL_law 295 = .ok (.invokestatic 106, 3) := by decide +kernel
theorem dL_law_298 : decode cL_law 298 = .ok (.invokestatic 115, 3) := by decide +kernel
theorem dL_law_301 : decode cL_law 301 = .ok (.ifCond .eq 7, 3) := by decide +kernel
theorem dL_law_304 : decode cL_law 304 = .ok (.iconst 1, 1) := by decide +kernel
theorem dL_law_305 : decode cL_law 305 = .ok (.goto 4, 3) := by decide +kernel
theorem dL_law_308 : decode cL_law 308 = .ok (.iconst 0, 1) := by decide +kernel
theorem dL_law_309 : decode cL_law 309 = .ok (.istore_n 3, 1) := by decide +kernel
theorem dL_law_310 : decode cL_law 310 = .ok (.iinc 5 1, 3) := by decide +kernel
theorem dL_law_313 : decode cL_law 313 = .ok (.goto (-196), 3) := by decide +kernel
theorem dL_law_316 : decode cL_law 316 = .ok (.iload_n 3, 1) := by decide +kernel
theorem dL_law_317 : decode cL_law 317 = .ok (.ireturn, 1) := by decide +kernel
