theorem dX8_init_0 : decode cX8_init 0 = .ok (.aload_n 0, 1) := by decide +kernel
theorem dX8_init_1 : decode cX8_init 1 = .ok (.invokespecial 1, 3) := by decide +kernel
theorem dX8_init_4 : decode cX8_init 4 = .ok (.aload_n 0, 1) := by decide +kernel
theorem dX8_init_5 : decode cX8_init 5 = .ok (.bipush 8, 2) := by decide +kernel
theorem dX8_init_7 : decode cX8_init 7 = .ok (.newarray .int, 2) := by decide +kernel
theorem dX8_init_9 : decode cX8_init 9 = .ok (.putfield 7, 3) := by decide +kernel
theorem dX8_init_12 : decode cX8_init 12 = .ok (.aload_n 0, 1) := by decide +kernel
theorem dX8_init_13 : decode cX8_init 13 = .ok (.bipush 8, 2) := by decide +kernel
theorem dX8_init_15 : decode cX8_init 15 = .ok (.newarray .int, 2) := by decide +kernel
theorem dX8_init_17 : decode cX8_init 17 = .ok (.putfield 13, 3) := by decide +kernel
theorem dX8_init_20 : decode cX8_init 20 = .ok (.aload_n 0, 1) := by decide +kernel
theorem dX8_init_21 : decode cX8_init 21 = .ok (.bipush 8, 2) := by decide +kernel
theorem dX8_init_23 : decode cX8_init 23 = .ok (.newarray .int, 2) := by decide +kernel
theorem dX8_init_25 : decode cX8_init 25 = .ok (.putfield 16, 3) := by decide +kernel
theorem dX8_init_28 : decode cX8_init 28 = .ok (.aload_n 0, 1) := by decide +kernel
theorem dX8_init_29 : decode cX8_init 29 = .ok (.bipush 8, 2) := by decide +kernel
theorem dX8_init_31 : decode cX8_init 31 = .ok (.newarray .int, 2) := by decide +kernel
theorem dX8_init_33 : decode cX8_init 33 = .ok (.putfield 19, 3) := by decide +kernel
theorem dX8_init_36 : decode cX8_init 36 = .ok (.aload_n 0, 1) := by decide +kernel
theorem dX8_init_37 : decode cX8_init 37 = .ok (.bipush 8, 2) := by decide +kernel
theorem dX8_init_39 : decode cX8_init 39 = .ok (.newarray .int, 2) := by decide +kernel
theorem dX8_init_41 : decode cX8_init 41 = .ok (.putfield 22, 3) := by decide +kernel
theorem dX8_init_44 : decode cX8_init 44 = .ok (.aload_n 0, 1) := by decide +kernel
theorem dX8_init_45 : decode cX8_init 45 = .ok (.bipush 8, 2) := by decide +kernel
theorem dX8_init_47 : decode cX8_init 47 = .ok (.newarray .int, 2) := by decide +kernel
theorem dX8_init_49 : decode cX8_init 49 = .ok (.putfield 25, 3) := by decide +kernel
theorem dX8_init_52 : decode cX8_init 52 = .ok (.aload_n 0, 1) := by decide +kernel
theorem dX8_init_53 : decode cX8_init 53 = .ok (.bipush 8, 2) := by decide +kernel
theorem dX8_init_55 : decode cX8_init 55 = .ok (.newarray .int, 2) := by decide +kernel
theorem dX8_init_57 : decode cX8_init 57 = .ok (.putfield 28, 3) := by decide +kernel
theorem dX8_init_60 : decode cX8_init 60 = .ok (.aload_n 0, 1) := by decide +kernel
theorem dX8_init_61 : decode cX8_init 61 = .ok (.bipush 8, 2) := by decide +kernel
theorem dX8_init_63 : decode cX8_init 63 = .ok (.newarray .int, 2) := by decide +kernel
theorem dX8_init_65 : decode cX8_init 65 = .ok (.putfield 31, 3) := by decide +kernel
theorem dX8_init_68 : decode cX8_init 68 = .ok (.aload_n 0, 1) := by decide +kernel
theorem dX8_init_69 : decode cX8_init 69 = .ok (.bipush 40, 2) := by decide +kernel
theorem dX8_init_71 : decode cX8_init 71 = .ok (.newarray .int, 2) := by decide +kernel
theorem dX8_init_73 : decode cX8_init 73 = .ok (.putfield 34, 3) := by decide +kernel
theorem dX8_init_76 : decode cX8_init 76 = .ok (.aload_n 0, 1) := by decide +kernel
theorem dX8_init_77 : decode cX8_init 77 = .ok (.bipush 40, 2) := by decide +kernel
theorem dX8_init_79 : decode cX8_init 79 = .ok (.newarray .int, 2) := by decide +kernel
theorem dX8_init_81 : decode cX8_init 81 = .ok (.putfield 37, 3) := by decide +kernel
theorem dX8_init_84 : decode cX8_init 84 = .ok (.aload_n 0, 1) := by decide +kernel
theorem dX8_init_85 : decode cX8_init 85 = .ok (.bipush 40, 2) := by decide +kernel
theorem dX8_init_87 : decode cX8_init 87 = .ok (.newarray .int, 2) := by decide +kernel
theorem dX8_init_89 : decode cX8_init 89 = .ok (.putfield 40, 3) := by decide +kernel
theorem dX8_init_92 : decode cX8_init 92 = .ok (.aload_n 0, 1) := by decide +kernel
theorem dX8_init_93 : decode cX8_init 93 = .ok (.bipush 40, 2) := by decide +kernel
theorem dX8_init_95 : decode cX8_init 95 = .ok (.newarray .boolean, 2) := by decide +kernel
theorem dX8_init_97 : decode cX8_init 97 = .ok (.putfield 43, 3) := by decide +kernel
theorem dX8_init_100 : decode cX8_init 100 = .ok (.aload_n 0, 1) := by decide +kernel
theorem dX8_init_101 : decode cX8_init 101 = .ok (.bipush 8, 2) := by decide +kernel
theorem dX8_init_103 : decode cX8_init 103 = .ok (.newarray .int, 2) := by decide +kernel
theorem dX8_init_105 : decode cX8_init 105 = .ok (.putfield 47, 3) := by decide +kernel
theorem dX8_init_108 : decode cX8_init 108 = .ok (.aload_n 0, 1) := by decide +kernel
theorem dX8_init_109 : decode cX8_init 109 = .ok (.bipush 8, 2) := by decide +kernel
theorem dX8_init_111 : decode cX8_init 111 = .ok (.newarray .int, 2) := by decide +kernel
theorem dX8_init_113 : decode cX8_init 113 = .ok (.putfield 50, 3) := by decide +kernel
theorem dX8_init_116 : decode cX8_init 116 = .ok (.aload_n 0, 1) := by decide +kernel
theorem dX8_init_117 : decode cX8_init 117 = .ok (.bipush 8, 2) := by decide +kernel
theorem dX8_init_119 : decode cX8_init 119 = .ok (.newarray .int, 2) := by decide +kernel
theorem dX8_init_121 : decode cX8_init 121 = .ok (.putfield 53, 3) := by decide +kernel
theorem dX8_init_124 : decode cX8_init 124 = .ok (.aload_n 0, 1) := by decide +kernel
theorem dX8_init_125 : decode cX8_init 125 = .ok (.bipush 8, 2) := by decide +kernel
theorem dX8_init_127 : decode cX8_init 127 = .ok (.newarray .int, 2) := by decide +kernel
theorem dX8_init_129 : decode cX8_init 129 = .ok (.putfield 56, 3) := by decide +kernel
theorem dX8_init_132 : decode cX8_init 132 = .ok (.aload_n 0, 1) := by decide +kernel
theorem dX8_init_133 : decode cX8_init 133 = .ok (.sipush 6591, 3) := by decide +kernel
theorem dX8_init_136 : decode cX8_init 136 = .ok (.newarray .int, 2) := by decide +kernel
theorem dX8_init_138 : decode cX8_init 138 = .ok (.putfield 59, 3) := by decide +kernel
theorem dX8_init_141 : decode cX8_init 141 = .ok (.aload_n 0, 1) := by decide +kernel
theorem dX8_init_142 : decode cX8_init 142 = .ok (.sipush 2197, 3) := by decide +kernel
theorem dX8_init_145 : decode cX8_init 145 = .ok (.newarray .int, 2) := by decide +kernel
theorem dX8_init_147 : decode cX8_init 147 = .ok (.putfield 62, 3) := by decide +kernel
theorem dX8_init_150 : decode cX8_init 150 = .ok (.aload_n 0, 1) := by decide +kernel
theorem dX8_init_151 : decode cX8_init 151 = .ok (.iconst 3, 1) := by decide +kernel
theorem dX8_init_152 : decode cX8_init 152 = .ok (.newarray .int, 2) := by decide +kernel
theorem dX8_init_154 : decode cX8_init 154 = .ok (.putfield 65, 3) := by decide +kernel
theorem dX8_init_157 : decode cX8_init 157 = .ok (.aload_n 0, 1) := by decide +kernel
theorem dX8_init_158 : decode cX8_init 158 = .ok (.sipush 488, 3) := by decide +kernel
theorem dX8_init_161 : decode cX8_init 161 = .ok (.newarray .int, 2) := by decide +kernel
theorem dX8_init_163 : decode cX8_init 163 = .ok (.putfield 68, 3) := by decide +kernel
theorem dX8_init_166 : decode cX8_init 166 = .ok (.aload_n 0, 1) := by decide +kernel
theorem dX8_init_167 : decode cX8_init 167 = .ok (.bipush 61, 2) := by decide +kernel
theorem dX8_init_169 : decode cX8_init 169 = .ok (.newarray .int, 2) := by decide +kernel
theorem dX8_init_171 : decode cX8_init 171 = .ok (.putfield 71, 3) := by decide +kernel
theorem dX8_init_174 : decode cX8_init 174 = .ok (.aload_n 0, 1) := by decide +kernel
theorem dX8_init_175 : decode cX8_init 175 = .ok (.bipush 8, 2) := by decide +kernel
theorem dX8_init_177 : decode cX8_init 177 = .ok (.newarray .int, 2) := by decide +kernel
theorem dX8_init_179 : decode cX8_init 179 = .ok (.putfield 74, 3) := by decide +kernel
theorem dX8_init_182 : decode cX8_init 182 = .ok (.aload_n 0, 1) := by decide +kernel
theorem dX8_init_183 : decode cX8_init 183 = .ok (.bipush 8, 2) := by decide +kernel
theorem dX8_init_185 : decode cX8_init 185 = .ok (.newarray .int, 2) := by decide +kernel
theorem dX8_init_187 : decode cX8_init 187 = .ok (.putfield 77, 3) := by decide +kernel
theorem dX8_init_190 : decode cX8_init 190 = .ok (.aload_n 0, 1) := by decide +kernel
theorem dX8_init_191 : decode cX8_init 191 = .ok (.iconst 4, 1) := by decide +kernel
theorem dX8_init_192 : decode cX8_init 192 = .ok (.newarray .boolean, 2) := by decide +kernel
theorem dX8_init_194 : decode cX8_init 194 = .ok (.putfield 80, 3) := by decide +kernel
theorem dX8_init_197 : decode cX8_init 197 = .ok (.aload_n 0, 1) := by decide +kernel
theorem dX8_init_198 : decode cX8_init 198 = .ok (.iconst 4, 1) := by decide +kernel
theorem dX8_init_199 : decode cX8_init 199 = .ok (.newarray .int, 2) := by decide +kernel
theorem dX8_init_201 : decode cX8_init 201 = .ok (.putfield 83, 3) := by decide +kernel
theorem dX8_init_204 : decode cX8_init 204 = .ok (.aload_n 0, 1) := by decide +kernel
theorem dX8_init_205 : decode cX8_init 205 = .ok (.iconst 4, 1) := by decide +kernel
theorem dX8_init_206 : decode cX8_init 206 = .ok (.newarray .int, 2) := by decide +kernel
theorem dX8_init_208 : decode cX8_init 208 = .ok (.putfield 86, 3) := by decide +kernel
theorem dX8_init_211 : decode cX8_init 211 = .ok (.aload_n 0, 1) := by decide +kernel
theorem dX8_init_212 : decode cX8_init 212 = .ok (.sipush 256, 3) := by decide +kernel
theorem dX8_init_215 : decode cX8_init 215 = .ok (.newarray .int, 2) := by decide +kernel
theorem dX8_init_217 : decode cX8_init 217 = .ok (.putfield 89, 3) := by decide +kernel
theorem dX8_init_220 : decode cX8_init 220 = .ok (.aload_n 0, 1) := by decide +kernel
theorem dX8_init_221 : decode cX8_init 221 = .ok (.bipush 64, 2) := by decide +kernel
theorem dX8_init_223 : decode cX8_init 223 = .ok (.newarray .int, 2) := by decide +kernel
theorem dX8_init_225 : decode cX8_init 225 = .ok (.putfield 92, 3) := by decide +kernel
theorem dX8_init_228 : decode cX8_init 228 = .ok (.return_, 1) := by decide +kernel
theorem dX8_in_0 : decode cX8_in 0 = .ok (.iload_n 0, 1) := by decide +kernel
theorem dX8_in_1 : decode cX8_in 1 = .ok (.iload_n 1, 1) := by decide +kernel
theorem dX8_in_2 : decode cX8_in 2 = .ok (.if_icmp .lt 12, 3) := by decide +kernel
theorem dX8_in_5 : decode cX8_in 5 = .ok (.iload_n 0, 1) := by decide +kernel
theorem dX8_in_6 : decode cX8_in 6 = .ok (.iload_n 2, 1) := by decide +kernel
theorem dX8_in_7 : decode cX8_in 7 = .ok (.if_icmp .gt 7, 3) := by decide +kernel
theorem dX8_in_10 : decode cX8_in 10 = .ok (.iconst 1, 1) := by decide +kernel
theorem dX8_in_11 : decode cX8_in 11 = .ok (.goto 4, 3) := by decide +kernel
theorem dX8_in_14 : decode cX8_in 14 = .ok (.iconst 0, 1) := by decide +kernel
theorem dX8_in_15 : decode cX8_in 15 = .ok (.ireturn, 1) := by decide +kernel
theorem dX8_ones_0 : decode cX8_ones 0 = .ok (.iconst 0, 1) := by decide +kernel
theorem dX8_ones_1 : decode cX8_ones 1 = .ok (.istore_n 1, 1) := by decide +kernel
theorem dX8_ones_2 : decode cX8_ones 2 = .ok (.iconst 0, 1) := by decide +kernel
theorem dX8_ones_3 : decode cX8_ones 3 = .ok (.istore_n 2, 1) := by decide +kernel
theorem dX8_ones_4 : decode cX8_ones 4 = .ok (.iload_n 2, 1) := by decide +kernel
theorem dX8_ones_5 : decode cX8_ones 5 = .ok (.bipush 8, 2) := by decide +kernel
theorem dX8_ones_7 : decode cX8_ones 7 = .ok (.if_icmp .ge 17, 3) := by decide +kernel
theorem dX8_ones_10 : decode cX8_ones 10 = .ok (.iload_n 1, 1) := by decide +kernel
theorem dX8_ones_11 : decode cX8_ones 11 = .ok (.iload_n 0, 1) := by decide +kernel
theorem dX8_ones_12 : decode cX8_ones 12 = .ok (.iload_n 2, 1) := by decide +kernel
theorem dX8_ones_13 : decode cX8_ones 13 = .ok (.ishr, 1) := by decide +kernel
theorem dX8_ones_14 : decode cX8_ones 14 = .ok (.iconst 1, 1) := by decide +kernel
theorem dX8_ones_15 : decode cX8_ones 15 = .ok (.iand, 1) := by decide +kernel
theorem dX8_ones_16 : decode cX8_ones 16 = .ok (.iadd, 1) := by decide +kernel
theorem dX8_ones_17 : decode cX8_ones 17 = .ok (.istore_n 1, 1) := by decide +kernel
theorem dX8_ones_18 : decode cX8_ones 18 = .ok (.iinc 2 1, 3) := by decide +kernel
theorem dX8_ones_21 : decode cX8_ones 21 = .ok (.goto (-17), 3) := by decide +kernel
theorem dX8_ones_24 : decode cX8_ones 24 = .ok (.iload_n 1, 1) := by decide +kernel
theorem dX8_ones_25 : decode cX8_ones 25 = .ok (.ireturn, 1) := by decide +kernel
theorem dX8_amount_0 : decode cX8_amount 0 = .ok (.iload_n 0, 1) := by decide +kernel
theorem dX8_amount_1 : decode cX8_amount 1 = .ok (.ifCond .ge 8, 3) := by decide +kernel
theorem dX8_amount_4 : decode cX8_amount 4 = .ok (.iload_n 0, 1) := by decide +kernel
theorem dX8_amount_5 : decode cX8_amount 5 = .ok (.ineg, 1) := by decide +kernel
theorem dX8_amount_6 : decode cX8_amount 6 = .ok (.goto 4, 3) := by decide +kernel
theorem dX8_amount_9 : decode cX8_amount 9 = .ok (.iload_n 0, 1) := by decide +kernel
theorem dX8_amount_10 : decode cX8_amount 10 = .ok (.ireturn, 1) := by decide +kernel
theorem dX8_lowest_0 : decode cX8_lowest 0 = .ok (.lload_n 0, 1) := by decide +kernel
theorem dX8_lowest_1 : decode cX8_lowest 1 = .ok (.lconst 0, 1) := by decide +kernel
theorem dX8_lowest_2 : decode cX8_lowest 2 = .ok (.lcmp, 1) := by decide +kernel
theorem dX8_lowest_3 : decode cX8_lowest 3 = .ok (.ifCond .ge 8, 3) := by decide +kernel
theorem dX8_lowest_6 : decode cX8_lowest 6 = .ok (.lload_n 0, 1) := by decide +kernel
theorem dX8_lowest_7 : decode cX8_lowest 7 = .ok (.lneg, 1) := by decide +kernel
theorem dX8_lowest_8 : decode cX8_lowest 8 = .ok (.goto 4, 3) := by decide +kernel
theorem dX8_lowest_11 : decode cX8_lowest 11 = .ok (.lload_n 0, 1) := by decide +kernel
theorem dX8_lowest_12 : decode cX8_lowest 12 = .ok (.lstore 5, 2) := by decide +kernel
theorem dX8_lowest_14 : decode cX8_lowest 14 = .ok (.lload_n 2, 1) := by decide +kernel
theorem dX8_lowest_15 : decode cX8_lowest 15 = .ok (.lstore 7, 2) := by decide +kernel
theorem dX8_lowest_17 : decode cX8_lowest 17 = .ok (.lload 7, 2) := by decide +kernel
theorem dX8_lowest_19 : decode cX8_lowest 19 = .ok (.lconst 0, 1) := by decide +kernel
theorem dX8_lowest_20 : decode cX8_lowest 20 = .ok (.lcmp, 1) := by decide +kernel
theorem dX8_lowest_21 : decode cX8_lowest 21 = .ok (.ifCond .eq 21, 3) := by decide +kernel
theorem dX8_lowest_24 : decode cX8_lowest 24 = .ok (.lload 5, 2) := by decide +kernel
theorem dX8_lowest_26 : decode cX8_lowest 26 = .ok (.lload 7, 2) := by decide +kernel
theorem dX8_lowest_28 : decode cX8_lowest 28 = .ok (.lrem, 1) := by decide +kernel
theorem dX8_lowest_29 : decode cX8_lowest 29 = .ok (.lstore 9, 2) := by decide +kernel
theorem dX8_lowest_31 : decode cX8_lowest 31 = .ok (.lload 7, 2) := by decide +kernel
theorem dX8_lowest_33 : decode cX8_lowest 33 = .ok (.lstore 5, 2) := by decide +kernel
theorem dX8_lowest_35 : decode cX8_lowest 35 = .ok (.lload 9, 2) := by decide +kernel
theorem dX8_lowest_37 : decode cX8_lowest 37 = .ok (.lstore 7, 2) := by decide +kernel
theorem dX8_lowest_39 : decode cX8_lowest 39 = .ok (.goto (-22), 3) := by decide +kernel
theorem dX8_lowest_42 : decode cX8_lowest 42 = .ok (.iload 4, 2) := by decide +kernel
theorem dX8_lowest_44 : decode cX8_lowest 44 = .ok (.ifCond .ne 10, 3) := by decide +kernel
theorem dX8_lowest_47 : decode cX8_lowest 47 = .ok (.lload_n 0, 1) := by decide +kernel
theorem dX8_lowest_48 : decode cX8_lowest 48 = .ok (.lload 5, 2) := by decide +kernel
theorem dX8_lowest_50 : decode cX8_lowest 50 = .ok (.ldiv, 1) := by decide +kernel
theorem dX8_lowest_51 : decode cX8_lowest 51 = .ok (.goto 7, 3) := by decide +kernel
theorem dX8_lowest_54 : decode cX8_lowest 54 = .ok (.lload_n 2, 1) := by decide +kernel
theorem dX8_lowest_55 : decode cX8_lowest 55 = .ok (.lload 5, 2) := by decide +kernel
theorem dX8_lowest_57 : decode cX8_lowest 57 = .ok (.ldiv, 1) := by decide +kernel
theorem dX8_lowest_58 : decode cX8_lowest 58 = .ok (.lreturn, 1) := by decide +kernel
theorem dX8_comer_0 : decode cX8_comer 0 = .ok (.iload_n 1, 1) := by decide +kernel
theorem dX8_comer_1 : decode cX8_comer 1 = .ok (.ifCond .ne 25, 3) := by decide +kernel
theorem dX8_comer_4 : decode cX8_comer 4 = .ok (.iload_n 2, 1) := by decide +kernel
theorem dX8_comer_5 : decode cX8_comer 5 = .ok (.iconst 0, 1) := by decide +kernel
theorem dX8_comer_6 : decode cX8_comer 6 = .ok (.bipush 60, 2) := by decide +kernel
theorem dX8_comer_8 : decode cX8_comer 8 = .ok (.invokestatic 95, 3) := by decide +kernel
theorem dX8_comer_11 : decode cX8_comer 11 = .ok (.ifCond .eq 11, 3) := by decide +kernel
theorem dX8_comer_14 : decode cX8_comer 14 = .ok (.iload_n 3, 1) := by decide +kernel
theorem dX8_comer_15 : decode cX8_comer 15 = .ok (.ifCond .ne 7, 3) := by decide +kernel
theorem dX8_comer_18 : decode cX8_comer 18 = .ok (.iconst 1, 1) := by decide +kernel
theorem dX8_comer_19 : decode cX8_comer 19 = .ok (.goto 58, 3) := by decide +kernel
theorem dX8_comer_22 : decode cX8_comer 22 = .ok (.iconst 0, 1) := by decide +kernel
theorem dX8_comer_23 : decode cX8_comer 23 = .ok (.goto 54, 3) := by decide +kernel
theorem dX8_comer_26 : decode cX8_comer 26 = .ok (.iload_n 1, 1) := by decide +kernel
theorem dX8_comer_27 : decode cX8_comer 27 = .ok (.iconst 1, 1) := by decide +kernel
theorem dX8_comer_28 : decode cX8_comer 28 = .ok (.if_icmp .ne 19, 3) := by decide +kernel
theorem dX8_comer_31 : decode cX8_comer 31 = .ok (.iload_n 2, 1) := by decide +kernel
theorem dX8_comer_32 : decode cX8_comer 32 = .ok (.ifCond .ne 11, 3) := by decide +kernel
theorem dX8_comer_35 : decode cX8_comer 35 = .ok (.iload_n 3, 1) := by decide +kernel
theorem dX8_comer_36 : decode cX8_comer 36 = .ok (.ifCond .ne 7, 3) := by decide +kernel
theorem dX8_comer_39 : decode cX8_comer 39 = .ok (.iconst 1, 1) := by decide +kernel
theorem dX8_comer_40 : decode cX8_comer 40 = .ok (.goto 37, 3) := by decide +kernel
theorem dX8_comer_43 : decode cX8_comer 43 = .ok (.iconst 0, 1) := by decide +kernel
theorem dX8_comer_44 : decode cX8_comer 44 = .ok (.goto 33, 3) := by decide +kernel
theorem dX8_comer_47 : decode cX8_comer 47 = .ok (.iload_n 1, 1) := by decide +kernel
theorem dX8_comer_48 : decode cX8_comer 48 = .ok (.iconst 2, 1) := by decide +kernel
theorem dX8_comer_49 : decode cX8_comer 49 = .ok (.if_icmp .ne 27, 3) := by decide +kernel
theorem dX8_comer_52 : decode cX8_comer 52 = .ok (.iload_n 2, 1) := by decide +kernel
theorem dX8_comer_53 : decode cX8_comer 53 = .ok (.iconst 1, 1) := by decide +kernel
theorem dX8_comer_54 : decode cX8_comer 54 = .ok (.bipush 30, 2) := by decide +kernel
theorem dX8_comer_56 : decode cX8_comer 56 = .ok (.invokestatic 95, 3) := by decide +kernel
theorem dX8_comer_59 : decode cX8_comer 59 = .ok (.ifCond .eq 17, 3) := by decide +kernel
theorem dX8_comer_62 : decode cX8_comer 62 = .ok (.iload_n 3, 1) := by decide +kernel
theorem dX8_comer_63 : decode cX8_comer 63 = .ok (.iconst 1, 1) := by decide +kernel
theorem dX8_comer_64 : decode cX8_comer 64 = .ok (.bipush 7, 2) := by decide +kernel
theorem dX8_comer_66 : decode cX8_comer 66 = .ok (.invokestatic 95, 3) := by decide +kernel
theorem dX8_comer_69 : decode cX8_comer 69 = .ok (.ifCond .eq 7, 3) := by decide +kernel
theorem dX8_comer_72 : decode cX8_comer 72 = .ok (.iconst 1, 1) := by decide +kernel
theorem dX8_comer_73 : decode cX8_comer 73 = .ok (.goto 4, 3) := by decide +kernel
theorem dX8_comer_76 : decode cX8_comer 76 = .ok (.iconst 0, 1) := by decide +kernel
theorem dX8_comer_77 : decode cX8_comer 77 = .ok (.istore 4, 2) := by decide +kernel
theorem dX8_comer_79 : decode cX8_comer 79 = .ok (.iload 4, 2) := by decide +kernel
theorem dX8_comer_81 : decode cX8_comer 81 = .ok (.ifCond .ne 6, 3) := by decide +kernel
theorem dX8_comer_84 : decode cX8_comer 84 = .ok (.bipush (-2), 2) := by decide +kernel
theorem dX8_comer_86 : decode cX8_comer 86 = .ok (.ireturn, 1) := by decide +kernel
theorem dX8_comer_87 : decode cX8_comer 87 = .ok (.aload_n 0, 1) := by decide +kernel
theorem dX8_comer_88 : decode cX8_comer 88 = .ok (.getfield 99, 3) := by decide +kernel
theorem dX8_comer_91 : decode cX8_comer 91 = .ok (.bipush 8, 2) := by decide +kernel
theorem dX8_comer_93 : decode cX8_comer 93 = .ok (.if_icmp .ne 6, 3) := by decide +kernel
theorem dX8_comer_96 : decode cX8_comer 96 = .ok (.bipush (-4), 2) := by decide +kernel
theorem dX8_comer_98 : decode cX8_comer 98 = .ok (.ireturn, 1) := by decide +kernel
theorem dX8_comer_99 : decode cX8_comer 99 = .ok (.aload_n 0, 1) := by decide +kernel
theorem dX8_comer_100 : decode cX8_comer 100 = .ok (.getfield 7, 3) := by decide +kernel
theorem dX8_comer_103 : decode cX8_comer 103 = .ok (.aload_n 0, 1) := by decide +kernel
theorem dX8_comer_104 : decode cX8_comer 104 = .ok (.getfield 99, 3) := by decide +kernel
theorem dX8_comer_107 : decode cX8_comer 107 = .ok (.iload_n 1, 1) := by decide +kernel
theorem dX8_comer_108 : decode cX8_comer 108 = .ok (.iastore, 1) := by decide +kernel
theorem dX8_comer_109 : decode cX8_comer 109 = .ok (.aload_n 0, 1) := by decide +kernel
theorem dX8_comer_110 : decode cX8_comer 110 = .ok (.getfield 13, 3) := by decide +kernel
theorem dX8_comer_113 : decode cX8_comer 113 = .ok (.aload_n 0, 1) := by decide +kernel
theorem dX8_comer_114 : decode cX8_comer 114 = .ok (.getfield 99, 3) := by decide +kernel
theorem dX8_comer_117 : decode cX8_comer 117 = .ok (.iload_n 2, 1) := by decide +kernel
theorem dX8_comer_118 : decode cX8_comer 118 = .ok (.iastore, 1) := by decide +kernel
theorem dX8_comer_119 : decode cX8_comer 119 = .ok (.aload_n 0, 1) := by decide +kernel
theorem dX8_comer_120 : decode cX8_comer 120 = .ok (.getfield 16, 3) := by decide +kernel
theorem dX8_comer_123 : decode cX8_comer 123 = .ok (.aload_n 0, 1) := by decide +kernel
theorem dX8_comer_124 : decode cX8_comer 124 = .ok (.getfield 99, 3) := by decide +kernel
theorem dX8_comer_127 : decode cX8_comer 127 = .ok (.iload_n 3, 1) := by decide +kernel
theorem dX8_comer_128 : decode cX8_comer 128 = .ok (.iastore, 1) := by decide +kernel
theorem dX8_comer_129 : decode cX8_comer 129 = .ok (.aload_n 0, 1) := by decide +kernel
theorem dX8_comer_130 : decode cX8_comer 130 = .ok (.getfield 19, 3) := by decide +kernel
theorem dX8_comer_133 : decode cX8_comer 133 = .ok (.aload_n 0, 1) := by decide +kernel
theorem dX8_comer_134 : decode cX8_comer 134 = .ok (.getfield 99, 3) := by decide +kernel
theorem dX8_comer_137 : decode cX8_comer 137 = .ok (.iconst 1, 1) := by decide +kernel
theorem dX8_comer_138 : decode cX8_comer 138 = .ok (.iastore, 1) := by decide +kernel
theorem dX8_comer_139 : decode cX8_comer 139 = .ok (.aload_n 0, 1) := by decide +kernel
theorem dX8_comer_140 : decode cX8_comer 140 = .ok (.getfield 22, 3) := by decide +kernel
theorem dX8_comer_143 : decode cX8_comer 143 = .ok (.aload_n 0, 1) := by decide +kernel
theorem dX8_comer_144 : decode cX8_comer 144 = .ok (.getfield 99, 3) := by decide +kernel
theorem dX8_comer_147 : decode cX8_comer 147 = .ok (.iconst 1, 1) := by decide +kernel
theorem dX8_comer_148 : decode cX8_comer 148 = .ok (.iastore, 1) := by decide +kernel
theorem dX8_comer_149 : decode cX8_comer 149 = .ok (.aload_n 0, 1) := by decide +kernel
theorem dX8_comer_150 : decode cX8_comer 150 = .ok (.getfield 25, 3) := by decide +kernel
theorem dX8_comer_153 : decode cX8_comer 153 = .ok (.aload_n 0, 1) := by decide +kernel
theorem dX8_comer_154 : decode cX8_comer 154 = .ok (.getfield 99, 3) := by decide +kernel
theorem dX8_comer_157 : decode cX8_comer 157 = .ok (.bipush 100, 2) := by decide +kernel
theorem dX8_comer_159 : decode cX8_comer 159 = .ok (.iastore, 1) := by decide +kernel
theorem dX8_comer_160 : decode cX8_comer 160 = .ok (.aload_n 0, 1) := by decide +kernel
theorem dX8_comer_161 : decode cX8_comer 161 = .ok (.getfield 28, 3) := by decide +kernel
theorem dX8_comer_164 : decode cX8_comer 164 = .ok (.aload_n 0, 1) := by decide +kernel
theorem dX8_comer_165 : decode cX8_comer 165 = .ok (.getfield 99, 3) := by decide +kernel
theorem dX8_comer_168 : decode cX8_comer 168 = .ok (.iconst 0, 1) := by decide +kernel
theorem dX8_comer_169 : decode cX8_comer 169 = .ok (.iastore, 1) := by decide +kernel
theorem dX8_comer_170 : decode cX8_comer 170 = .ok (.aload_n 0, 1) := by decide +kernel
theorem dX8_comer_171 : decode cX8_comer 171 = .ok (.getfield 31, 3) := by decide +kernel
theorem dX8_comer_174 : decode cX8_comer 174 = .ok (.aload_n 0, 1) := by decide +kernel
theorem dX8_comer_175 : decode cX8_comer 175 = .ok (.getfield 99, 3) := by decide +kernel
theorem dX8_comer_178 : decode cX8_comer 178 = .ok (.iconst 5, 1) := by decide +kernel
theorem dX8_comer_179 : decode cX8_comer 179 = .ok (.iastore, 1) := by decide +kernel
theorem dX8_comer_180 : decode cX8_comer 180 = .ok (.aload_n 0, 1) := by decide +kernel
theorem dX8_comer_181 : decode cX8_comer 181 = .ok (.dup, 1) := by decide +kernel
theorem dX8_comer_182 : decode cX8_comer 182 = .ok (.getfield 99, 3) := by decide +kernel
theorem dX8_comer_185 : decode cX8_comer 185 = .ok (.iconst 1, 1) := by decide +kernel
theorem dX8_comer_186 : decode cX8_comer 186 = .ok (.iadd, 1) := by decide +kernel
theorem dX8_comer_187 : decode cX8_comer 187 = .ok (.putfield 99, 3) := by decide +kernel
theorem dX8_comer_190 : decode cX8_comer 190 = .ok (.aload_n 0, 1) := by decide +kernel
theorem dX8_comer_191 : decode cX8_comer 191 = .ok (.getfield 99, 3) := by decide +kernel
theorem dX8_comer_194 : decode cX8_comer 194 = .ok (.iconst 1, 1) := by decide +kernel
theorem dX8_comer_195 : decode cX8_comer 195 = .ok (.isub, 1) := by decide +kernel
theorem dX8_comer_196 : decode cX8_comer 196 = .ok (.ireturn, 1) := by decide +kernel
theorem dX8_isComer_0 : decode cX8_isComer 0 = .ok (.iload_n 1, 1) := by decide +kernel
theorem dX8_isComer_1 : decode cX8_isComer 1 = .ok (.iconst 0, 1) := by decide +kernel
theorem dX8_isComer_2 : decode cX8_isComer 2 = .ok (.aload_n 0, 1) := by decide +kernel
theorem dX8_isComer_3 : decode cX8_isComer 3 = .ok (.getfield 99, 3) := by decide +kernel
theorem dX8_isComer_6 : decode cX8_isComer 6 = .ok (.iconst 1, 1) := by decide +kernel
theorem dX8_isComer_7 : decode cX8_isComer 7 = .ok (.isub, 1) := by decide +kernel
theorem dX8_isComer_8 : decode cX8_isComer 8 = .ok (.invokestatic 95, 3) := by decide +kernel
theorem dX8_isComer_11 : decode cX8_isComer 11 = .ok (.ireturn, 1) := by decide +kernel
theorem dX8_isPlain_0 : decode cX8_isPlain 0 = .ok (.aload_n 0, 1) := by decide +kernel
theorem dX8_isPlain_1 : decode cX8_isPlain 1 = .ok (.iload_n 1, 1) := by decide +kernel
theorem dX8_isPlain_2 : decode cX8_isPlain 2 = .ok (.invokevirtual 103, 3) := by decide +kernel
theorem dX8_isPlain_5 : decode cX8_isPlain 5 = .ok (.ifCond .eq 16, 3) := by decide +kernel
theorem dX8_isPlain_8 : decode cX8_isPlain 8 = .ok (.aload_n 0, 1) := by decide +kernel
theorem dX8_isPlain_9 : decode cX8_isPlain 9 = .ok (.getfield 7, 3) := by decide +kernel
theorem dX8_isPlain_12 : decode cX8_isPlain 12 = .ok (.iload_n 1, 1) := by decide +kernel
theorem dX8_isPlain_13 : decode cX8_isPlain 13 = .ok (.iaload, 1) := by decide +kernel
theorem dX8_isPlain_14 : decode cX8_isPlain 14 = .ok (.ifCond .ne 7, 3) := by decide +kernel
theorem dX8_isPlain_17 : decode cX8_isPlain 17 = .ok (.iconst 1, 1) := by decide +kernel
theorem dX8_isPlain_18 : decode cX8_isPlain 18 = .ok (.goto 4, 3) := by decide +kernel
theorem dX8_isPlain_21 : decode cX8_isPlain 21 = .ok (.iconst 0, 1) := by decide +kernel
theorem dX8_isPlain_22 : decode cX8_isPlain 22 = .ok (.ireturn, 1) := by decide +kernel
theorem dX8_aim_0 : decode cX8_aim 0 = .ok (.aload_n 0, 1) := by decide +kernel
theorem dX8_aim_1 : decode cX8_aim 1 = .ok (.iload_n 1, 1) := by decide +kernel
theorem dX8_aim_2 : decode cX8_aim 2 = .ok (.invokevirtual 107, 3) := by decide +kernel
theorem dX8_aim_5 : decode cX8_aim 5 = .ok (.ifCond .eq 13, 3) := by decide +kernel
theorem dX8_aim_8 : decode cX8_aim 8 = .ok (.iload_n 2, 1) := by decide +kernel
theorem dX8_aim_9 : decode cX8_aim 9 = .ok (.iconst 0, 1) := by decide +kernel
theorem dX8_aim_10 : decode cX8_aim 10 = .ok (.bipush 60, 2) := by decide +kernel
theorem dX8_aim_12 : decode cX8_aim 12 = .ok (.invokestatic 95, 3) := by decide +kernel
theorem dX8_aim_15 : decode cX8_aim 15 = .ok (.ifCond .ne 6, 3) := by decide +kernel
theorem dX8_aim_18 : decode cX8_aim 18 = .ok (.bipush (-2), 2) := by decide +kernel
theorem dX8_aim_20 : decode cX8_aim 20 = .ok (.ireturn, 1) := by decide +kernel
theorem dX8_aim_21 : decode cX8_aim 21 = .ok (.aload_n 0, 1) := by decide +kernel
theorem dX8_aim_22 : decode cX8_aim 22 = .ok (.getfield 13, 3) := by decide +kernel
theorem dX8_aim_25 : decode cX8_aim 25 = .ok (.iload_n 1, 1) := by decide +kernel
theorem dX8_aim_26 : decode cX8_aim 26 = .ok (.iaload, 1) := by decide +kernel
theorem dX8_aim_27 : decode cX8_aim 27 = .ok (.istore_n 3, 1) := by decide +kernel
theorem dX8_aim_28 : decode cX8_aim 28 = .ok (.aload_n 0, 1) := by decide +kernel
theorem dX8_aim_29 : decode cX8_aim 29 = .ok (.getfield 13, 3) := by decide +kernel
theorem dX8_aim_32 : decode cX8_aim 32 = .ok (.iload_n 1, 1) := by decide +kernel
theorem dX8_aim_33 : decode cX8_aim 33 = .ok (.iload_n 2, 1) := by decide +kernel
theorem dX8_aim_34 : decode cX8_aim 34 = .ok (.iastore, 1) := by decide +kernel
theorem dX8_aim_35 : decode cX8_aim 35 = .ok (.iload_n 3, 1) := by decide +kernel
theorem dX8_aim_36 : decode cX8_aim 36 = .ok (.ireturn, 1) := by decide +kernel
theorem dX8_read_0 : decode cX8_read 0 = .ok (.iload_n 1, 1) := by decide +kernel
theorem dX8_read_1 : decode cX8_read 1 = .ok (.invokestatic 110, 3) := by decide +kernel
theorem dX8_read_4 : decode cX8_read 4 = .ok (.ifCond .ne 6, 3) := by decide +kernel
theorem dX8_read_7 : decode cX8_read 7 = .ok (.bipush (-2), 2) := by decide +kernel
theorem dX8_read_9 : decode cX8_read 9 = .ok (.ireturn, 1) := by decide +kernel
theorem dX8_read_10 : decode cX8_read 10 = .ok (.aload_n 0, 1) := by decide +kernel
theorem dX8_read_11 : decode cX8_read 11 = .ok (.getfield 80, 3) := by decide +kernel
theorem dX8_read_14 : decode cX8_read 14 = .ok (.iload_n 1, 1) := by decide +kernel
theorem dX8_read_15 : decode cX8_read 15 = .ok (.baload, 1) := by decide +kernel
theorem dX8_read_16 : decode cX8_read 16 = .ok (.ifCond .ne 9, 3) := by decide +kernel
theorem dX8_read_19 : decode cX8_read 19 = .ok (.aload_n 0, 1) := by decide +kernel
theorem dX8_read_20 : decode cX8_read 20 = .ok (.iconst 1, 1) := by decide +kernel
theorem dX8_read_21 : decode cX8_read 21 = .ok (.invokevirtual 113, 3) := by decide +kernel
theorem dX8_read_24 : decode cX8_read 24 = .ok (.ireturn, 1) := by decide +kernel
theorem dX8_read_25 : decode cX8_read 25 = .ok (.iconst 0, 1) := by decide +kernel
theorem dX8_read_26 : decode cX8_read 26 = .ok (.istore_n 2, 1) := by decide +kernel
theorem dX8_read_27 : decode cX8_read 27 = .ok (.iconst 0, 1) := by decide +kernel
theorem dX8_read_28 : decode cX8_read 28 = .ok (.istore_n 3, 1) := by decide +kernel
theorem dX8_read_29 : decode cX8_read 29 = .ok (.iload_n 3, 1) := by decide +kernel
theorem dX8_read_30 : decode cX8_read 30 = .ok (.aload_n 0, 1) := by decide +kernel
theorem dX8_read_31 : decode cX8_read 31 = .ok (.getfield 99, 3) := by decide +kernel
theorem dX8_read_34 : decode cX8_read 34 = .ok (.if_icmp .ge 70, 3) := by decide +kernel
theorem dX8_read_37 : decode cX8_read 37 = .ok (.aload_n 0, 1) := by decide +kernel
theorem dX8_read_38 : decode cX8_read 38 = .ok (.getfield 7, 3) := by decide +kernel
theorem dX8_read_41 : decode cX8_read 41 = .ok (.iload_n 3, 1) := by decide +kernel
theorem dX8_read_42 : decode cX8_read 42 = .ok (.iaload, 1) := by decide +kernel
theorem dX8_read_43 : decode cX8_read 43 = .ok (.ifCond .ne 55, 3) := by decide +kernel
theorem dX8_read_46 : decode cX8_read 46 = .ok (.iload_n 2, 1) := by decide +kernel
theorem dX8_read_47 : decode cX8_read 47 = .ok (.aload_n 0, 1) := by decide +kernel
theorem dX8_read_48 : decode cX8_read 48 = .ok (.getfield 86, 3) := by decide +kernel
theorem dX8_read_51 : decode cX8_read 51 = .ok (.iload_n 1, 1) := by decide +kernel
theorem dX8_read_52 : decode cX8_read 52 = .ok (.iaload, 1) := by decide +kernel
theorem dX8_read_53 : decode cX8_read 53 = .ok (.if_icmp .eq 23, 3) := by decide +kernel
theorem dX8_read_56 : decode cX8_read 56 = .ok (.aload_n 0, 1) := by decide +kernel
theorem dX8_read_57 : decode cX8_read 57 = .ok (.getfield 89, 3) := by decide +kernel
theorem dX8_read_60 : decode cX8_read 60 = .ok (.bipush 64, 2) := by decide +kernel
theorem dX8_read_62 : decode cX8_read 62 = .ok (.iload_n 1, 1) := by decide +kernel
theorem dX8_read_63 : decode cX8_read 63 = .ok (.imul, 1) := by decide +kernel
theorem dX8_read_64 : decode cX8_read 64 = .ok (.iload_n 2, 1) := by decide +kernel
theorem dX8_read_65 : decode cX8_read 65 = .ok (.iadd, 1) := by decide +kernel
theorem dX8_read_66 : decode cX8_read 66 = .ok (.iaload, 1) := by decide +kernel
theorem dX8_read_67 : decode cX8_read 67 = .ok (.iconst 0, 1) := by decide +kernel
theorem dX8_read_68 : decode cX8_read 68 = .ok (.bipush 60, 2) := by decide +kernel
theorem dX8_read_70 : decode cX8_read 70 = .ok (.invokestatic 95, 3) := by decide +kernel
theorem dX8_read_73 : decode cX8_read 73 = .ok (.ifCond .ne 5, 3) := by decide +kernel
theorem dX8_read_76 : decode cX8_read 76 = .ok (.iload_n 2, 1) := by decide +kernel
theorem dX8_read_77 : decode cX8_read 77 = .ok (.ireturn, 1) := by decide +kernel
theorem dX8_read_78 : decode cX8_read 78 = .ok (.aload_n 0, 1) := by decide +kernel
theorem dX8_read_79 : decode cX8_read 79 = .ok (.getfield 13, 3) := by decide +kernel
theorem dX8_read_82 : decode cX8_read 82 = .ok (.iload_n 3, 1) := by decide +kernel
theorem dX8_read_83 : decode cX8_read 83 = .ok (.aload_n 0, 1) := by decide +kernel
theorem dX8_read_84 : decode cX8_read 84 = .ok (.getfield 89, 3) := by decide +kernel
theorem dX8_read_87 : decode cX8_read 87 = .ok (.bipush 64, 2) := by decide +kernel
theorem dX8_read_89 : decode cX8_read 89 = .ok (.iload_n 1, 1) := by decide +kernel
theorem dX8_read_90 : decode cX8_read 90 = .ok (.imul, 1) := by decide +kernel
theorem dX8_read_91 : decode cX8_read 91 = .ok (.iload_n 2, 1) := by decide +kernel
theorem dX8_read_92 : decode cX8_read 92 = .ok (.iadd, 1) := by decide +kernel
theorem dX8_read_93 : decode cX8_read 93 = .ok (.iaload, 1) := by decide +kernel
theorem dX8_read_94 : decode cX8_read 94 = .ok (.iastore, 1) := by decide +kernel
theorem dX8_read_95 : decode cX8_read 95 = .ok (.iinc 2 1, 3) := by decide +kernel
theorem dX8_read_98 : decode cX8_read 98 = .ok (.iinc 3 1, 3) := by decide +kernel
theorem dX8_read_101 : decode cX8_read 101 = .ok (.goto (-72), 3) := by decide +kernel
theorem dX8_read_104 : decode cX8_read 104 = .ok (.iload_n 2, 1) := by decide +kernel
theorem dX8_read_105 : decode cX8_read 105 = .ok (.ireturn, 1) := by decide +kernel
theorem dX8_cost_0 : decode cX8_cost 0 = .ok (.aload_n 0, 1) := by decide +kernel
theorem dX8_cost_1 : decode cX8_cost 1 = .ok (.iload_n 1, 1) := by decide +kernel
theorem dX8_cost_2 : decode cX8_cost 2 = .ok (.invokevirtual 103, 3) := by decide +kernel
theorem dX8_cost_5 : decode cX8_cost 5 = .ok (.ifCond .eq 91, 3) := by decide +kernel
theorem dX8_cost_8 : decode cX8_cost 8 = .ok (.iload_n 2, 1) := by decide +kernel
theorem dX8_cost_9 : decode cX8_cost 9 = .ok (.ifCond .eq 8, 3) := by decide +kernel
theorem dX8_cost_12 : decode cX8_cost 12 = .ok (.iload_n 2, 1) := by decide +kernel
theorem dX8_cost_13 : decode cX8_cost 13 = .ok (.iconst 1, 1) := by decide +kernel
theorem dX8_cost_14 : decode cX8_cost 14 = .ok (.if_icmp .ne 16, 3) := by decide +kernel
theorem dX8_cost_17 : decode cX8_cost 17 = .ok (.iload_n 3, 1) := by decide +kernel
theorem dX8_cost_18 : decode cX8_cost 18 = .ok (.iconst 0, 1) := by decide +kernel
theorem dX8_cost_19 : decode cX8_cost 19 = .ok (.bipush 99, 2) := by decide +kernel
theorem dX8_cost_21 : decode cX8_cost 21 = .ok (.invokestatic 95, 3) := by decide +kernel
theorem dX8_cost_24 : decode cX8_cost 24 = .ok (.ifCond .eq 72, 3) := by decide +kernel
theorem dX8_cost_27 : decode cX8_cost 27 = .ok (.goto 65, 3) := by decide +kernel
theorem dX8_cost_30 : decode cX8_cost 30 = .ok (.iload_n 2, 1) := by decide +kernel
theorem dX8_cost_31 : decode cX8_cost 31 = .ok (.iconst 2, 1) := by decide +kernel
theorem dX8_cost_32 : decode cX8_cost 32 = .ok (.if_icmp .ne 17, 3) := by decide +kernel
theorem dX8_cost_35 : decode cX8_cost 35 = .ok (.iload_n 3, 1) := by decide +kernel
theorem dX8_cost_36 : decode cX8_cost 36 = .ok (.iconst 0, 1) := by decide +kernel
theorem dX8_cost_37 : decode cX8_cost 37 = .ok (.sipush 999, 3) := by decide +kernel
theorem dX8_cost_40 : decode cX8_cost 40 = .ok (.invokestatic 95, 3) := by decide +kernel
theorem dX8_cost_43 : decode cX8_cost 43 = .ok (.ifCond .eq 53, 3) := by decide +kernel
theorem dX8_cost_46 : decode cX8_cost 46 = .ok (.goto 46, 3) := by decide +kernel
theorem dX8_cost_49 : decode cX8_cost 49 = .ok (.aload_n 0, 1) := by decide +kernel
theorem dX8_cost_50 : decode cX8_cost 50 = .ok (.getfield 7, 3) := by decide +kernel
theorem dX8_cost_53 : decode cX8_cost 53 = .ok (.iload_n 1, 1) := by decide +kernel
theorem dX8_cost_54 : decode cX8_cost 54 = .ok (.iaload, 1) := by decide +kernel
theorem dX8_cost_55 : decode cX8_cost 55 = .ok (.iconst 2, 1) := by decide +kernel
theorem dX8_cost_56 : decode cX8_cost 56 = .ok (.if_icmp .eq 40, 3) := by decide +kernel
theorem dX8_cost_59 : decode cX8_cost 59 = .ok (.iload_n 2, 1) := by decide +kernel
theorem dX8_cost_60 : decode cX8_cost 60 = .ok (.iconst 3, 1) := by decide +kernel
theorem dX8_cost_61 : decode cX8_cost 61 = .ok (.if_icmp .ne 16, 3) := by decide +kernel
theorem dX8_cost_64 : decode cX8_cost 64 = .ok (.iload_n 3, 1) := by decide +kernel
theorem dX8_cost_65 : decode cX8_cost 65 = .ok (.iconst 0, 1) := by decide +kernel
theorem dX8_cost_66 : decode cX8_cost 66 = .ok (.bipush 15, 2) := by decide +kernel
theorem dX8_cost_68 : decode cX8_cost 68 = .ok (.invokestatic 95, 3) := by decide +kernel
theorem dX8_cost_71 : decode cX8_cost 71 = .ok (.ifCond .eq 25, 3) := by decide +kernel
theorem dX8_cost_74 : decode cX8_cost 74 = .ok (.goto 18, 3) := by decide +kernel
theorem dX8_cost_77 : decode cX8_cost 77 = .ok (.iload_n 2, 1) := by decide +kernel
theorem dX8_cost_78 : decode cX8_cost 78 = .ok (.iconst 4, 1) := by decide +kernel
theorem dX8_cost_79 : decode cX8_cost 79 = .ok (.if_icmp .ne 17, 3) := by decide +kernel
theorem dX8_cost_82 : decode cX8_cost 82 = .ok (.iload_n 3, 1) := by decide +kernel
theorem dX8_cost_83 : decode cX8_cost 83 = .ok (.iconst 1, 1) := by decide +kernel
theorem dX8_cost_84 : decode cX8_cost 84 = .ok (.bipush 30, 2) := by decide +kernel
theorem dX8_cost_86 : decode cX8_cost 86 = .ok (.invokestatic 95, 3) := by decide +kernel
theorem dX8_cost_89 : decode cX8_cost 89 = .ok (.ifCond .eq 7, 3) := by decide +kernel
theorem dX8_cost_92 : decode cX8_cost 92 = .ok (.iconst 1, 1) := by decide +kernel
theorem dX8_cost_93 : decode cX8_cost 93 = .ok (.goto 4, 3) := by decide +kernel
theorem dX8_cost_96 : decode cX8_cost 96 = .ok (.iconst 0, 1) := by decide +kernel
theorem dX8_cost_97 : decode cX8_cost 97 = .ok (.istore 4, 2) := by decide +kernel
theorem dX8_cost_99 : decode cX8_cost 99 = .ok (.iload 4, 2) := by decide +kernel
theorem dX8_cost_101 : decode cX8_cost 101 = .ok (.ifCond .ne 6, 3) := by decide +kernel
theorem dX8_cost_104 : decode cX8_cost 104 = .ok (.bipush (-2), 2) := by decide +kernel
theorem dX8_cost_106 : decode cX8_cost 106 = .ok (.ireturn, 1) := by decide +kernel
theorem dX8_cost_107 : decode cX8_cost 107 = .ok (.iload_n 2, 1) := by decide +kernel
theorem dX8_cost_108 : decode cX8_cost 108 = .ok (.ifCond .ne 12, 3) := by decide +kernel
theorem dX8_cost_111 : decode cX8_cost 111 = .ok (.aload_n 0, 1) := by decide +kernel
theorem dX8_cost_112 : decode cX8_cost 112 = .ok (.getfield 19, 3) := by decide +kernel
theorem dX8_cost_115 : decode cX8_cost 115 = .ok (.iload_n 1, 1) := by decide +kernel
theorem dX8_cost_116 : decode cX8_cost 116 = .ok (.iaload, 1) := by decide +kernel
theorem dX8_cost_117 : decode cX8_cost 117 = .ok (.goto 51, 3) := by decide +kernel
theorem dX8_cost_120 : decode cX8_cost 120 = .ok (.iload_n 2, 1) := by decide +kernel
theorem dX8_cost_121 : decode cX8_cost 121 = .ok (.iconst 1, 1) := by decide +kernel
theorem dX8_cost_122 : decode cX8_cost 122 = .ok (.if_icmp .ne 12, 3) := by decide +kernel
theorem dX8_cost_125 : decode cX8_cost 125 = .ok (.aload_n 0, 1) := by decide +kernel
theorem dX8_cost_126 : decode cX8_cost 126 = .ok (.getfield 22, 3) := by decide +kernel
theorem dX8_cost_129 : decode cX8_cost 129 = .ok (.iload_n 1, 1) := by decide +kernel
theorem dX8_cost_130 : decode cX8_cost 130 = .ok (.iaload, 1) := by decide +kernel
theorem dX8_cost_131 : decode cX8_cost 131 = .ok (.goto 37, 3) := by decide +kernel
theorem dX8_cost_134 : decode cX8_cost 134 = .ok (.iload_n 2, 1) := by decide +kernel
theorem dX8_cost_135 : decode cX8_cost 135 = .ok (.iconst 2, 1) := by decide +kernel
theorem dX8_cost_136 : decode cX8_cost 136 = .ok (.if_icmp .ne 12, 3) := by decide +kernel
theorem dX8_cost_139 : decode cX8_cost 139 = .ok (.aload_n 0, 1) := by decide +kernel
theorem dX8_cost_140 : decode cX8_cost 140 = .ok (.getfield 25, 3) := by decide +kernel
theorem dX8_cost_143 : decode cX8_cost 143 = .ok (.iload_n 1, 1) := by decide +kernel
theorem dX8_cost_144 : decode cX8_cost 144 = .ok (.iaload, 1) := by decide +kernel
theorem dX8_cost_145 : decode cX8_cost 145 = .ok (.goto 23, 3) := by decide +kernel
theorem dX8_cost_148 : decode cX8_cost 148 = .ok (.iload_n 2, 1) := by decide +kernel
theorem dX8_cost_149 : decode cX8_cost 149 = .ok (.iconst 3, 1) := by decide +kernel
theorem dX8_cost_150 : decode cX8_cost 150 = .ok (.if_icmp .ne 12, 3) := by decide +kernel
theorem dX8_cost_153 : decode cX8_cost 153 = .ok (.aload_n 0, 1) := by decide +kernel
theorem dX8_cost_154 : decode cX8_cost 154 = .ok (.getfield 28, 3) := by decide +kernel
theorem dX8_cost_157 : decode cX8_cost 157 = .ok (.iload_n 1, 1) := by decide +kernel
theorem dX8_cost_158 : decode cX8_cost 158 = .ok (.iaload, 1) := by decide +kernel
theorem dX8_cost_159 : decode cX8_cost 159 = .ok (.goto 9, 3) := by decide +kernel
theorem dX8_cost_162 : decode cX8_cost 162 = .ok (.aload_n 0, 1) := by decide +kernel
theorem dX8_cost_163 : decode cX8_cost 163 = .ok (.getfield 31, 3) := by decide +kernel
theorem dX8_cost_166 : decode cX8_cost 166 = .ok (.iload_n 1, 1) := by decide +kernel
theorem dX8_cost_167 : decode cX8_cost 167 = .ok (.iaload, 1) := by decide +kernel
theorem dX8_cost_168 : decode cX8_cost 168 = .ok (.istore 5, 2) := by decide +kernel
theorem dX8_cost_170 : decode cX8_cost 170 = .ok (.aload_n 0, 1) := by decide +kernel
theorem dX8_cost_171 : decode cX8_cost 171 = .ok (.getfield 19, 3) := by decide +kernel
theorem dX8_cost_174 : decode cX8_cost 174 = .ok (.iload_n 1, 1) := by decide +kernel
theorem dX8_cost_175 : decode cX8_cost 175 = .ok (.iload_n 2, 1) := by decide +kernel
theorem dX8_cost_176 : decode cX8_cost 176 = .ok (.ifCond .ne 7, 3) := by decide +kernel
theorem dX8_cost_179 : decode cX8_cost 179 = .ok (.iload_n 3, 1) := by decide +kernel
theorem dX8_cost_180 : decode cX8_cost 180 = .ok (.goto 9, 3) := by decide +kernel
theorem dX8_cost_183 : decode cX8_cost 183 = .ok (.aload_n 0, 1) := by decide +kernel
theorem dX8_cost_184 : decode cX8_cost 184 = .ok (.getfield 19, 3) := by decide +kernel
theorem dX8_cost_187 : decode cX8_cost 187 = .ok (.iload_n 1, 1) := by decide +kernel
theorem dX8_cost_188 : decode cX8_cost 188 = .ok (.iaload, 1) := by decide +kernel
theorem dX8_cost_189 : decode cX8_cost 189 = .ok (.iastore, 1) := by decide +kernel
theorem dX8_cost_190 : decode cX8_cost 190 = .ok (.aload_n 0, 1) := by decide +kernel
theorem dX8_cost_191 : decode cX8_cost 191 = .ok (.getfield 22, 3) := by decide +kernel
theorem dX8_cost_194 : decode cX8_cost 194 = .ok (.iload_n 1, 1) := by decide +kernel
theorem dX8_cost_195 : decode cX8_cost 195 = .ok (.iload_n 2, 1) := by decide +kernel
theorem dX8_cost_196 : decode cX8_cost 196 = .ok (.iconst 1, 1) := by decide +kernel
theorem dX8_cost_197 : decode cX8_cost 197 = .ok (.if_icmp .ne 7, 3) := by decide +kernel
theorem dX8_cost_200 : decode cX8_cost 200 = .ok (.iload_n 3, 1) := by decide +kernel
theorem dX8_cost_201 : decode cX8_cost 201 = .ok (.goto 9, 3) := by decide +kernel
theorem dX8_cost_204 : decode cX8_cost 204 = .ok (.aload_n 0, 1) := by decide +kernel
theorem dX8_cost_205 : decode cX8_cost 205 = .ok (.getfield 22, 3) := by decide +kernel
theorem dX8_cost_208 : decode cX8_cost 208 = .ok (.iload_n 1, 1) := by decide +kernel
theorem dX8_cost_209 : decode cX8_cost 209 = .ok (.iaload, 1) := by decide +kernel
theorem dX8_cost_210 : decode cX8_cost 210 = .ok (.iastore, 1) := by decide +kernel
theorem dX8_cost_211 : decode cX8_cost 211 = .ok (.aload_n 0, 1) := by decide +kernel
theorem dX8_cost_212 : decode cX8_cost 212 = .ok (.getfield 25, 3) := by decide +kernel
theorem dX8_cost_215 : decode cX8_cost 215 = .ok (.iload_n 1, 1) := by decide +kernel
theorem dX8_cost_216 : decode cX8_cost 216 = .ok (.iload_n 2, 1) := by decide +kernel
theorem dX8_cost_217 : decode cX8_cost 217 = .ok (.iconst 2, 1) := by decide +kernel
theorem dX8_cost_218 : decode cX8_cost 218 = .ok (.if_icmp .ne 7, 3) := by decide +kernel
theorem dX8_cost_221 : decode cX8_cost 221 = .ok (.iload_n 3, 1) := by decide +kernel
theorem dX8_cost_222 : decode cX8_cost 222 = .ok (.goto 9, 3) := by decide +kernel
theorem dX8_cost_225 : decode cX8_cost 225 = .ok (.aload_n 0, 1) := by decide +kernel
theorem dX8_cost_226 : decode cX8_cost 226 = .ok (.getfield 25, 3) := by decide +kernel
theorem dX8_cost_229 : decode cX8_cost 229 = .ok (.iload_n 1, 1) := by decide +kernel
theorem dX8_cost_230 : decode cX8_cost 230 = .ok (.iaload, 1) := by decide +kernel
theorem dX8_cost_231 : decode cX8_cost 231 = .ok (.iastore, 1) := by decide +kernel
theorem dX8_cost_232 : decode cX8_cost 232 = .ok (.aload_n 0, 1) := by decide +kernel
theorem dX8_cost_233 : decode cX8_cost 233 = .ok (.getfield 28, 3) := by decide +kernel
theorem dX8_cost_236 : decode cX8_cost 236 = .ok (.iload_n 1, 1) := by decide +kernel
theorem dX8_cost_237 : decode cX8_cost 237 = .ok (.iload_n 2, 1) := by decide +kernel
theorem dX8_cost_238 : decode cX8_cost 238 = .ok (.iconst 3, 1) := by decide +kernel
theorem dX8_cost_239 : decode cX8_cost 239 = .ok (.if_icmp .ne 7, 3) := by decide +kernel
theorem dX8_cost_242 : decode cX8_cost 242 = .ok (.iload_n 3, 1) := by decide +kernel
theorem dX8_cost_243 : decode cX8_cost 243 = .ok (.goto 9, 3) := by decide +kernel
theorem dX8_cost_246 : decode cX8_cost 246 = .ok (.aload_n 0, 1) := by decide +kernel
theorem dX8_cost_247 : decode cX8_cost 247 = .ok (.getfield 28, 3) := by decide +kernel
theorem dX8_cost_250 : decode cX8_cost 250 = .ok (.iload_n 1, 1) := by decide +kernel
theorem dX8_cost_251 : decode cX8_cost 251 = .ok (.iaload, 1) := by decide +kernel
theorem dX8_cost_252 : decode cX8_cost 252 = .ok (.iastore, 1) := by decide +kernel
theorem dX8_cost_253 : decode cX8_cost 253 = .ok (.aload_n 0, 1) := by decide +kernel
theorem dX8_cost_254 : decode cX8_cost 254 = .ok (.getfield 31, 3) := by decide +kernel
theorem dX8_cost_257 : decode cX8_cost 257 = .ok (.iload_n 1, 1) := by decide +kernel
theorem dX8_cost_258 : decode cX8_cost 258 = .ok (.iload_n 2, 1) := by decide +kernel
theorem dX8_cost_259 : decode cX8_cost 259 = .ok (.iconst 4, 1) := by decide +kernel
theorem dX8_cost_260 : decode cX8_cost 260 = .ok (.if_icmp .ne 7, 3) := by decide +kernel
theorem dX8_cost_263 : decode cX8_cost 263 = .ok (.iload_n 3, 1) := by decide +kernel
theorem dX8_cost_264 : decode cX8_cost 264 = .ok (.goto 9, 3) := by decide +kernel
theorem dX8_cost_267 : decode cX8_cost 267 = .ok (.aload_n 0, 1) := by decide +kernel
theorem dX8_cost_268 : decode cX8_cost 268 = .ok (.getfield 31, 3) := by decide +kernel
theorem dX8_cost_271 : decode cX8_cost 271 = .ok (.iload_n 1, 1) := by decide +kernel
theorem dX8_cost_272 : decode cX8_cost 272 = .ok (.iaload, 1) := by decide +kernel
theorem dX8_cost_273 : decode cX8_cost 273 = .ok (.iastore, 1) := by decide +kernel
theorem dX8_cost_274 : decode cX8_cost 274 = .ok (.iload 5, 2) := by decide +kernel
theorem dX8_cost_276 : decode cX8_cost 276 = .ok (.ireturn, 1) := by decide +kernel
theorem dX8_set_0 : decode cX8_set 0 = .ok (.iload_n 1, 1) := by decide +kernel
theorem dX8_set_1 : decode cX8_set 1 = .ok (.iconst 0, 1) := by decide +kernel
theorem dX8_set_2 : decode cX8_set 2 = .ok (.iconst 2, 1) := by decide +kernel
theorem dX8_set_3 : decode cX8_set 3 = .ok (.invokestatic 95, 3) := by decide +kernel
theorem dX8_set_6 : decode cX8_set 6 = .ok (.ifCond .eq 22, 3) := by decide +kernel
theorem dX8_set_9 : decode cX8_set 9 = .ok (.iload_n 2, 1) := by decide +kernel
theorem dX8_set_10 : decode cX8_set 10 = .ok (.iconst 0, 1) := by decide +kernel
theorem dX8_set_11 : decode cX8_set 11 = .ok (.iload_n 1, 1) := by decide +kernel
theorem dX8_set_12 : decode cX8_set 12 = .ok (.ifCond .ne 8, 3) := by decide +kernel
theorem dX8_set_15 : decode cX8_set 15 = .ok (.bipush 59, 2) := by decide +kernel
theorem dX8_set_17 : decode cX8_set 17 = .ok (.goto 5, 3) := by decide +kernel
theorem dX8_set_20 : decode cX8_set 20 = .ok (.bipush 99, 2) := by decide +kernel
theorem dX8_set_22 : decode cX8_set 22 = .ok (.invokestatic 95, 3) := by decide +kernel
theorem dX8_set_25 : decode cX8_set 25 = .ok (.ifCond .ne 6, 3) := by decide +kernel
theorem dX8_set_28 : decode cX8_set 28 = .ok (.bipush (-2), 2) := by decide +kernel
theorem dX8_set_30 : decode cX8_set 30 = .ok (.ireturn, 1) := by decide +kernel
theorem dX8_set_31 : decode cX8_set 31 = .ok (.iload_n 1, 1) := by decide +kernel
theorem dX8_set_32 : decode cX8_set 32 = .ok (.ifCond .ne 10, 3) := by decide +kernel
theorem dX8_set_35 : decode cX8_set 35 = .ok (.aload_n 0, 1) := by decide +kernel
theorem dX8_set_36 : decode cX8_set 36 = .ok (.getfield 117, 3) := by decide +kernel
theorem dX8_set_39 : decode cX8_set 39 = .ok (.goto 19, 3) := by decide +kernel
theorem dX8_set_42 : decode cX8_set 42 = .ok (.iload_n 1, 1) := by decide +kernel
theorem dX8_set_43 : decode cX8_set 43 = .ok (.iconst 1, 1) := by decide +kernel
theorem dX8_set_44 : decode cX8_set 44 = .ok (.if_icmp .ne 10, 3) := by decide +kernel
theorem dX8_set_47 : decode cX8_set 47 = .ok (.aload_n 0, 1) := by decide +kernel
theorem dX8_set_48 : decode cX8_set 48 = .ok (.getfield 120, 3) := by decide +kernel
theorem dX8_set_51 : decode cX8_set 51 = .ok (.goto 7, 3) := by decide +kernel
theorem dX8_set_54 : decode cX8_set 54 = .ok (.aload_n 0, 1) := by decide +kernel
theorem dX8_set_55 : decode cX8_set 55 = .ok (.getfield 123, 3) := by decide +kernel
theorem dX8_set_58 : decode cX8_set 58 = .ok (.istore_n 3, 1) := by decide +kernel
theorem dX8_set_59 : decode cX8_set 59 = .ok (.aload_n 0, 1) := by decide +kernel
theorem dX8_set_60 : decode cX8_set 60 = .ok (.iload_n 1, 1) := by decide +kernel
theorem dX8_set_61 : decode cX8_set 61 = .ok (.ifCond .ne 7, 3) := by decide +kernel
theorem dX8_set_64 : decode cX8_set 64 = .ok (.iload_n 2, 1) := by decide +kernel
theorem dX8_set_65 : decode cX8_set 65 = .ok (.goto 7, 3) := by decide +kernel
theorem dX8_set_68 : decode cX8_set 68 = .ok (.aload_n 0, 1) := by decide +kernel
theorem dX8_set_69 : decode cX8_set 69 = .ok (.getfield 117, 3) := by decide +kernel
theorem dX8_set_72 : decode cX8_set 72 = .ok (.putfield 117, 3) := by decide +kernel
theorem dX8_set_75 : decode cX8_set 75 = .ok (.aload_n 0, 1) := by decide +kernel
theorem dX8_set_76 : decode cX8_set 76 = .ok (.iload_n 1, 1) := by decide +kernel
theorem dX8_set_77 : decode cX8_set 77 = .ok (.iconst 1, 1) := by decide +kernel
theorem dX8_set_78 : decode cX8_set 78 = .ok (.if_icmp .ne 7, 3) := by decide +kernel
theorem dX8_set_81 : decode cX8_set 81 = .ok (.iload_n 2, 1) := by decide +kernel
theorem dX8_set_82 : decode cX8_set 82 = .ok (.goto 7, 3) := by decide +kernel
theorem dX8_set_85 : decode cX8_set 85 = .ok (.aload_n 0, 1) := by decide +kernel
theorem dX8_set_86 : decode cX8_set 86 = .ok (.getfield 120, 3) := by decide +kernel
theorem dX8_set_89 : decode cX8_set 89 = .ok (.putfield 120, 3) := by decide +kernel
theorem dX8_set_92 : decode cX8_set 92 = .ok (.aload_n 0, 1) := by decide +kernel
theorem dX8_set_93 : decode cX8_set 93 = .ok (.iload_n 1, 1) := by decide +kernel
theorem dX8_set_94 : decode cX8_set 94 = .ok (.iconst 2, 1) := by decide +kernel
theorem dX8_set_95 : decode cX8_set 95 = .ok (.if_icmp .ne 7, 3) := by decide +kernel
theorem dX8_set_98 : decode cX8_set 98 = .ok (.iload_n 2, 1) := by decide +kernel
theorem dX8_set_99 : decode cX8_set 99 = .ok (.goto 7, 3) := by decide +kernel
theorem dX8_set_102 : decode cX8_set 102 = .ok (.aload_n 0, 1) := by decide +kernel
theorem dX8_set_103 : decode cX8_set 103 = .ok (.getfield 123, 3) := by decide +kernel
theorem dX8_set_106 : decode cX8_set 106 = .ok (.putfield 123, 3) := by decide +kernel
theorem dX8_set_109 : decode cX8_set 109 = .ok (.iload_n 3, 1) := by decide +kernel
theorem dX8_set_110 : decode cX8_set 110 = .ok (.ireturn, 1) := by decide +kernel
theorem dX8_type_0 : decode cX8_type 0 = .ok (.iload_n 1, 1) := by decide +kernel
theorem dX8_type_1 : decode cX8_type 1 = .ok (.iconst 0, 1) := by decide +kernel
theorem dX8_type_2 : decode cX8_type 2 = .ok (.sipush 255, 3) := by decide +kernel
theorem dX8_type_5 : decode cX8_type 5 = .ok (.invokestatic 95, 3) := by decide +kernel
theorem dX8_type_8 : decode cX8_type 8 = .ok (.ifCond .ne 6, 3) := by decide +kernel
theorem dX8_type_11 : decode cX8_type 11 = .ok (.bipush (-2), 2) := by decide +kernel
theorem dX8_type_13 : decode cX8_type 13 = .ok (.ireturn, 1) := by decide +kernel
theorem dX8_type_14 : decode cX8_type 14 = .ok (.aload_n 0, 1) := by decide +kernel
theorem dX8_type_15 : decode cX8_type 15 = .ok (.getfield 126, 3) := by decide +kernel
theorem dX8_type_18 : decode cX8_type 18 = .ok (.bipush 40, 2) := by decide +kernel
theorem dX8_type_20 : decode cX8_type 20 = .ok (.if_icmp .ne 6, 3) := by decide +kernel
theorem dX8_type_23 : decode cX8_type 23 = .ok (.bipush (-4), 2) := by decide +kernel
theorem dX8_type_25 : decode cX8_type 25 = .ok (.ireturn, 1) := by decide +kernel
theorem dX8_type_26 : decode cX8_type 26 = .ok (.aload_n 0, 1) := by decide +kernel
theorem dX8_type_27 : decode cX8_type 27 = .ok (.getfield 34, 3) := by decide +kernel
theorem dX8_type_30 : decode cX8_type 30 = .ok (.aload_n 0, 1) := by decide +kernel
theorem dX8_type_31 : decode cX8_type 31 = .ok (.getfield 126, 3) := by decide +kernel
theorem dX8_type_34 : decode cX8_type 34 = .ok (.iload_n 1, 1) := by decide +kernel
theorem dX8_type_35 : decode cX8_type 35 = .ok (.iastore, 1) := by decide +kernel
theorem dX8_type_36 : decode cX8_type 36 = .ok (.aload_n 0, 1) := by decide +kernel
theorem dX8_type_37 : decode cX8_type 37 = .ok (.dup, 1) := by decide +kernel
theorem dX8_type_38 : decode cX8_type 38 = .ok (.getfield 126, 3) := by decide +kernel
theorem dX8_type_41 : decode cX8_type 41 = .ok (.iconst 1, 1) := by decide +kernel
theorem dX8_type_42 : decode cX8_type 42 = .ok (.iadd, 1) := by decide +kernel
theorem dX8_type_43 : decode cX8_type 43 = .ok (.putfield 126, 3) := by decide +kernel
theorem dX8_type_46 : decode cX8_type 46 = .ok (.aload_n 0, 1) := by decide +kernel
theorem dX8_type_47 : decode cX8_type 47 = .ok (.iconst 0, 1) := by decide +kernel
theorem dX8_type_48 : decode cX8_type 48 = .ok (.putfield 129, 3) := by decide +kernel
theorem dX8_type_51 : decode cX8_type 51 = .ok (.aload_n 0, 1) := by decide +kernel
theorem dX8_type_52 : decode cX8_type 52 = .ok (.getfield 126, 3) := by decide +kernel
theorem dX8_type_55 : decode cX8_type 55 = .ok (.ireturn, 1) := by decide +kernel
theorem dX8_wipe_0 : decode cX8_wipe 0 = .ok (.aload_n 0, 1) := by decide +kernel
theorem dX8_wipe_1 : decode cX8_wipe 1 = .ok (.getfield 126, 3) := by decide +kernel
theorem dX8_wipe_4 : decode cX8_wipe 4 = .ok (.istore_n 1, 1) := by decide +kernel
theorem dX8_wipe_5 : decode cX8_wipe 5 = .ok (.aload_n 0, 1) := by decide +kernel
theorem dX8_wipe_6 : decode cX8_wipe 6 = .ok (.iconst 0, 1) := by decide +kernel
theorem dX8_wipe_7 : decode cX8_wipe 7 = .ok (.putfield 126, 3) := by decide +kernel
theorem dX8_wipe_10 : decode cX8_wipe 10 = .ok (.aload_n 0, 1) := by decide +kernel
theorem dX8_wipe_11 : decode cX8_wipe 11 = .ok (.iconst 0, 1) := by decide +kernel
theorem dX8_wipe_12 : decode cX8_wipe 12 = .ok (.putfield 129, 3) := by decide +kernel
theorem dX8_wipe_15 : decode cX8_wipe 15 = .ok (.iload_n 1, 1) := by decide +kernel
theorem dX8_wipe_16 : decode cX8_wipe 16 = .ok (.ireturn, 1) := by decide +kernel
theorem dX8_byteNow_0 : decode cX8_byteNow 0 = .ok (.aload_n 0, 1) := by decide +kernel
theorem dX8_byteNow_1 : decode cX8_byteNow 1 = .ok (.getfield 133, 3) := by decide +kernel
theorem dX8_byteNow_4 : decode cX8_byteNow 4 = .ok (.aload_n 0, 1) := by decide +kernel
theorem dX8_byteNow_5 : decode cX8_byteNow 5 = .ok (.getfield 126, 3) := by decide +kernel
theorem dX8_byteNow_8 : decode cX8_byteNow 8 = .ok (.if_icmp .ge 15, 3) := by decide +kernel
theorem dX8_byteNow_11 : decode cX8_byteNow 11 = .ok (.aload_n 0, 1) := by decide +kernel
theorem dX8_byteNow_12 : decode cX8_byteNow 12 = .ok (.getfield 34, 3) := by decide +kernel
theorem dX8_byteNow_15 : decode cX8_byteNow 15 = .ok (.aload_n 0, 1) := by decide +kernel
theorem dX8_byteNow_16 : decode cX8_byteNow 16 = .ok (.getfield 133, 3) := by decide +kernel
theorem dX8_byteNow_19 : decode cX8_byteNow 19 = .ok (.iaload, 1) := by decide +kernel
theorem dX8_byteNow_20 : decode cX8_byteNow 20 = .ok (.goto 4, 3) := by decide +kernel
theorem dX8_byteNow_23 : decode cX8_byteNow 23 = .ok (.iconst (-1), 1) := by decide +kernel
theorem dX8_byteNow_24 : decode cX8_byteNow 24 = .ok (.ireturn, 1) := by decide +kernel
theorem dX8_number_0 : decode cX8_number 0 = .ok (.aload_n 0, 1) := by decide +kernel
theorem dX8_number_1 : decode cX8_number 1 = .ok (.getfield 133, 3) := by decide +kernel
theorem dX8_number_4 : decode cX8_number 4 = .ok (.istore 4, 2) := by decide +kernel
theorem dX8_number_6 : decode cX8_number 6 = .ok (.iconst 0, 1) := by decide +kernel
theorem dX8_number_7 : decode cX8_number 7 = .ok (.istore 5, 2) := by decide +kernel
theorem dX8_number_9 : decode cX8_number 9 = .ok (.aload_n 0, 1) := by decide +kernel
theorem dX8_number_10 : decode cX8_number 10 = .ok (.getfield 133, 3) := by decide +kernel
theorem dX8_number_13 : decode cX8_number 13 = .ok (.iload 4, 2) := by decide +kernel
theorem dX8_number_15 : decode cX8_number 15 = .ok (.iload_n 1, 1) := by decide +kernel
theorem dX8_number_16 : decode cX8_number 16 = .ok (.iadd, 1) := by decide +kernel
theorem dX8_number_17 : decode cX8_number 17 = .ok (.if_icmp .ge 49, 3) := by decide +kernel
theorem dX8_number_20 : decode cX8_number 20 = .ok (.aload_n 0, 1) := by decide +kernel
theorem dX8_number_21 : decode cX8_number 21 = .ok (.invokevirtual 136, 3) := by decide +kernel
theorem dX8_number_24 : decode cX8_number 24 = .ok (.bipush 48, 2) := by decide +kernel
theorem dX8_number_26 : decode cX8_number 26 = .ok (.if_icmp .lt 40, 3) := by decide +kernel
theorem dX8_number_29 : decode cX8_number 29 = .ok (.aload_n 0, 1) := by decide +kernel
theorem dX8_number_30 : decode cX8_number 30 = .ok (.invokevirtual 136, 3) := by decide +kernel
theorem dX8_number_33 : decode cX8_number 33 = .ok (.bipush 57, 2) := by decide +kernel
theorem dX8_number_35 : decode cX8_number 35 = .ok (.if_icmp .gt 31, 3) := by decide +kernel
theorem dX8_number_38 : decode cX8_number 38 = .ok (.bipush 10, 2) := by decide +kernel
theorem dX8_number_40 : decode cX8_number 40 = .ok (.iload 5, 2) := by decide +kernel
theorem dX8_number_42 : decode cX8_number 42 = .ok (.imul, 1) := by decide +kernel
theorem dX8_number_43 : decode cX8_number 43 = .ok (.aload_n 0, 1) := by decide +kernel
theorem dX8_number_44 : decode cX8_number 44 = .ok (.invokevirtual 136, 3) := by decide +kernel
theorem dX8_number_47 : decode cX8_number 47 = .ok (.iadd, 1) := by decide +kernel
theorem dX8_number_48 : decode cX8_number 48 = .ok (.bipush 48, 2) := by decide +kernel
theorem dX8_number_50 : decode cX8_number 50 = .ok (.isub, 1) := by decide +kernel
theorem dX8_number_51 : decode cX8_number 51 = .ok (.istore 5, 2) := by decide +kernel
theorem dX8_number_53 : decode cX8_number 53 = .ok (.aload_n 0, 1) := by decide +kernel
theorem dX8_number_54 : decode cX8_number 54 = .ok (.dup, 1) := by decide +kernel
theorem dX8_number_55 : decode cX8_number 55 = .ok (.getfield 133, 3) := by decide +kernel
theorem dX8_number_58 : decode cX8_number 58 = .ok (.iconst 1, 1) := by decide +kernel
theorem dX8_number_59 : decode cX8_number 59 = .ok (.iadd, 1) := by decide +kernel
theorem dX8_number_60 : decode cX8_number 60 = .ok (.putfield 133, 3) := by decide +kernel
theorem dX8_number_63 : decode cX8_number 63 = .ok (.goto (-54), 3) := by decide +kernel
theorem dX8_number_66 : decode cX8_number 66 = .ok (.aload_n 0, 1) := by decide +kernel
theorem dX8_number_67 : decode cX8_number 67 = .ok (.getfield 133, 3) := by decide +kernel
theorem dX8_number_70 : decode cX8_number 70 = .ok (.iload 4, 2) := by decide +kernel
theorem dX8_number_72 : decode cX8_number 72 = .ok (.if_icmp .eq 13, 3) := by decide +kernel
theorem dX8_number_75 : decode cX8_number 75 = .ok (.iload 5, 2) := by decide +kernel
theorem dX8_number_77 : decode cX8_number 77 = .ok (.iload_n 2, 1) := by decide +kernel
theorem dX8_number_78 : decode cX8_number 78 = .ok (.iload_n 3, 1) := by decide +kernel
theorem dX8_number_79 : decode cX8_number 79 = .ok (.invokestatic 95, 3) := by decide +kernel
theorem dX8_number_82 : decode cX8_number 82 = .ok (.ifCond .ne 9, 3) := by decide +kernel
theorem dX8_number_85 : decode cX8_number 85 = .ok (.aload_n 0, 1) := by decide +kernel
theorem dX8_number_86 : decode cX8_number 86 = .ok (.iload 4, 2) := by decide +kernel
theorem dX8_number_88 : decode cX8_number 88 = .ok (.putfield 140, 3) := by decide +kernel
theorem dX8_number_91 : decode cX8_number 91 = .ok (.iload 5, 2) := by decide +kernel
theorem dX8_number_93 : decode cX8_number 93 = .ok (.ireturn, 1) := by decide +kernel
theorem dX8_condition_0 : decode cX8_condition 0 = .ok (.aload_n 0, 1) := by decide +kernel
theorem dX8_condition_1 : decode cX8_condition 1 = .ok (.invokevirtual 136, 3) := by decide +kernel
theorem dX8_condition_4 : decode cX8_condition 4 = .ok (.istore_n 2, 1) := by decide +kernel
theorem dX8_condition_5 : decode cX8_condition 5 = .ok (.iload_n 2, 1) := by decide +kernel
theorem dX8_condition_6 : decode cX8_condition 6 = .ok (.bipush 109, 2) := by decide +kernel
theorem dX8_condition_8 : decode cX8_condition 8 = .ok (.if_icmp .eq 30, 3) := by decide +kernel
theorem dX8_condition_11 : decode cX8_condition 11 = .ok (.iload_n 2, 1) := by decide +kernel
theorem dX8_condition_12 : decode cX8_condition 12 = .ok (.bipush 110, 2) := by decide +kernel
theorem dX8_condition_14 : decode cX8_condition 14 = .ok (.if_icmp .eq 24, 3) := by decide +kernel
theorem dX8_condition_17 : decode cX8_condition 17 = .ok (.iload_n 2, 1) := by decide +kernel
theorem dX8_condition_18 : decode cX8_condition 18 = .ok (.bipush 107, 2) := by decide +kernel
theorem dX8_condition_20 : decode cX8_condition 20 = .ok (.if_icmp .eq 18, 3) := by decide +kernel
theorem dX8_condition_23 : decode cX8_condition 23 = .ok (.iload_n 2, 1) := by decide +kernel
theorem dX8_condition_24 : decode cX8_condition 24 = .ok (.bipush 116, 2) := by decide +kernel
theorem dX8_condition_26 : decode cX8_condition 26 = .ok (.if_icmp .eq 12, 3) := by decide +kernel
theorem dX8_condition_29 : decode cX8_condition 29 = .ok (.aload_n 0, 1) := by decide +kernel
theorem dX8_condition_30 : decode cX8_condition 30 = .ok (.aload_n 0, 1) := by decide +kernel
theorem dX8_condition_31 : decode cX8_condition 31 = .ok (.getfield 133, 3) := by decide +kernel
theorem dX8_condition_34 : decode cX8_condition 34 = .ok (.putfield 140, 3) := by decide +kernel
theorem dX8_condition_37 : decode cX8_condition 37 = .ok (.return_, 1) := by decide +kernel
theorem dX8_condition_38 : decode cX8_condition 38 = .ok (.aload_n 0, 1) := by decide +kernel
theorem dX8_condition_39 : decode cX8_condition 39 = .ok (.dup, 1) := by decide +kernel
theorem dX8_condition_40 : decode cX8_condition 40 = .ok (.getfield 133, 3) := by decide +kernel
theorem dX8_condition_43 : decode cX8_condition 43 = .ok (.iconst 1, 1) := by decide +kernel
theorem dX8_condition_44 : decode cX8_condition 44 = .ok (.iadd, 1) := by decide +kernel
theorem dX8_condition_45 : decode cX8_condition 45 = .ok (.putfield 133, 3) := by decide +kernel
theorem dX8_condition_48 : decode cX8_condition 48 = .ok (.aload_n 0, 1) := by decide +kernel
theorem dX8_condition_49 : decode cX8_condition 49 = .ok (.getfield 37, 3) := by decide +kernel
theorem dX8_condition_52 : decode cX8_condition 52 = .ok (.aload_n 0, 1) := by decide +kernel
theorem dX8_condition_53 : decode cX8_condition 53 = .ok (.getfield 143, 3) := by decide +kernel
theorem dX8_condition_56 : decode cX8_condition 56 = .ok (.iload_n 2, 1) := by decide +kernel
theorem dX8_condition_57 : decode cX8_condition 57 = .ok (.iastore, 1) := by decide +kernel
theorem dX8_condition_58 : decode cX8_condition 58 = .ok (.aload_n 0, 1) := by decide +kernel
theorem dX8_condition_59 : decode cX8_condition 59 = .ok (.getfield 40, 3) := by decide +kernel
theorem dX8_condition_62 : decode cX8_condition 62 = .ok (.aload_n 0, 1) := by decide +kernel
theorem dX8_condition_63 : decode cX8_condition 63 = .ok (.getfield 143, 3) := by decide +kernel
theorem dX8_condition_66 : decode cX8_condition 66 = .ok (.iload_n 2, 1) := by decide +kernel
theorem dX8_condition_67 : decode cX8_condition 67 = .ok (.bipush 109, 2) := by decide +kernel
theorem dX8_condition_69 : decode cX8_condition 69 = .ok (.if_icmp .ne 14, 3) := by decide +kernel
theorem dX8_condition_72 : decode cX8_condition 72 = .ok (.aload_n 0, 1) := by decide +kernel
theorem dX8_condition_73 : decode cX8_condition 73 = .ok (.iconst 2, 1) := by decide +kernel
theorem dX8_condition_74 : decode cX8_condition 74 = .ok (.iconst 0, 1) := by decide +kernel
theorem dX8_condition_75 : decode cX8_condition 75 = .ok (.bipush 59, 2) := by decide +kernel
theorem dX8_condition_77 : decode cX8_condition 77 = .ok (.invokevirtual 146, 3) := by decide +kernel
theorem dX8_condition_80 : decode cX8_condition 80 = .ok (.goto 38, 3) := by decide +kernel
theorem dX8_condition_83 : decode cX8_condition 83 = .ok (.iload_n 2, 1) := by decide +kernel
theorem dX8_condition_84 : decode cX8_condition 84 = .ok (.bipush 110, 2) := by decide +kernel
theorem dX8_condition_86 : decode cX8_condition 86 = .ok (.if_icmp .ne 14, 3) := by decide +kernel
theorem dX8_condition_89 : decode cX8_condition 89 = .ok (.aload_n 0, 1) := by decide +kernel
theorem dX8_condition_90 : decode cX8_condition 90 = .ok (.iconst 1, 1) := by decide +kernel
theorem dX8_condition_91 : decode cX8_condition 91 = .ok (.iconst 1, 1) := by decide +kernel
theorem dX8_condition_92 : decode cX8_condition 92 = .ok (.bipush 8, 2) := by decide +kernel
theorem dX8_condition_94 : decode cX8_condition 94 = .ok (.invokevirtual 146, 3) := by decide +kernel
theorem dX8_condition_97 : decode cX8_condition 97 = .ok (.goto 21, 3) := by decide +kernel
theorem dX8_condition_100 : decode cX8_condition 100 = .ok (.iload_n 2, 1) := by decide +kernel
theorem dX8_condition_101 : decode cX8_condition 101 = .ok (.bipush 107, 2) := by decide +kernel
theorem dX8_condition_103 : decode cX8_condition 103 = .ok (.if_icmp .ne 14, 3) := by decide +kernel
theorem dX8_condition_106 : decode cX8_condition 106 = .ok (.aload_n 0, 1) := by decide +kernel
theorem dX8_condition_107 : decode cX8_condition 107 = .ok (.iconst 1, 1) := by decide +kernel
theorem dX8_condition_108 : decode cX8_condition 108 = .ok (.iconst 0, 1) := by decide +kernel
theorem dX8_condition_109 : decode cX8_condition 109 = .ok (.bipush 7, 2) := by decide +kernel
theorem dX8_condition_111 : decode cX8_condition 111 = .ok (.invokevirtual 146, 3) := by decide +kernel
theorem dX8_condition_114 : decode cX8_condition 114 = .ok (.goto 4, 3) := by decide +kernel
theorem dX8_condition_117 : decode cX8_condition 117 = .ok (.iconst 0, 1) := by decide +kernel
theorem dX8_condition_118 : decode cX8_condition 118 = .ok (.iastore, 1) := by decide +kernel
theorem dX8_condition_119 : decode cX8_condition 119 = .ok (.aload_n 0, 1) := by decide +kernel
theorem dX8_condition_120 : decode cX8_condition 120 = .ok (.getfield 43, 3) := by decide +kernel
theorem dX8_condition_123 : decode cX8_condition 123 = .ok (.aload_n 0, 1) := by decide +kernel
theorem dX8_condition_124 : decode cX8_condition 124 = .ok (.getfield 143, 3) := by decide +kernel
theorem dX8_condition_127 : decode cX8_condition 127 = .ok (.iload_n 1, 1) := by decide +kernel
theorem dX8_condition_128 : decode cX8_condition 128 = .ok (.bastore, 1) := by decide +kernel
theorem dX8_condition_129 : decode cX8_condition 129 = .ok (.aload_n 0, 1) := by decide +kernel
theorem dX8_condition_130 : decode cX8_condition 130 = .ok (.dup, 1) := by decide +kernel
theorem dX8_condition_131 : decode cX8_condition 131 = .ok (.getfield 143, 3) := by decide +kernel
theorem dX8_condition_134 : decode cX8_condition 134 = .ok (.iconst 1, 1) := by decide +kernel
theorem dX8_condition_135 : decode cX8_condition 135 = .ok (.iadd, 1) := by decide +kernel
theorem dX8_condition_136 : decode cX8_condition 136 = .ok (.putfield 143, 3) := by decide +kernel
theorem dX8_condition_139 : decode cX8_condition 139 = .ok (.return_, 1) := by decide +kernel
theorem dX8_faultNow_0 : decode cX8_faultNow 0 = .ok (.aload_n 0, 1) := by decide +kernel
theorem dX8_faultNow_1 : decode cX8_faultNow 1 = .ok (.getfield 129, 3) := by decide +kernel
theorem dX8_faultNow_4 : decode cX8_faultNow 4 = .ok (.ifCond .eq 8, 3) := by decide +kernel
theorem dX8_faultNow_7 : decode cX8_faultNow 7 = .ok (.aload_n 0, 1) := by decide +kernel
theorem dX8_faultNow_8 : decode cX8_faultNow 8 = .ok (.getfield 140, 3) := by decide +kernel
theorem dX8_faultNow_11 : decode cX8_faultNow 11 = .ok (.ireturn, 1) := by decide +kernel
theorem dX8_faultNow_12 : decode cX8_faultNow 12 = .ok (.aload_n 0, 1) := by decide +kernel
theorem dX8_faultNow_13 : decode cX8_faultNow 13 = .ok (.iconst 1, 1) := by decide +kernel
theorem dX8_faultNow_14 : decode cX8_faultNow 14 = .ok (.putfield 129, 3) := by decide +kernel
theorem dX8_faultNow_17 : decode cX8_faultNow 17 = .ok (.aload_n 0, 1) := by decide +kernel
theorem dX8_faultNow_18 : decode cX8_faultNow 18 = .ok (.iconst 0, 1) := by decide +kernel
theorem dX8_faultNow_19 : decode cX8_faultNow 19 = .ok (.putfield 133, 3) := by decide +kernel
theorem dX8_faultNow_22 : decode cX8_faultNow 22 = .ok (.aload_n 0, 1) := by decide +kernel
theorem dX8_faultNow_23 : decode cX8_faultNow 23 = .ok (.iconst (-1), 1) := by decide +kernel
theorem dX8_faultNow_24 : decode cX8_faultNow 24 = .ok (.putfield 140, 3) := by decide +kernel
theorem dX8_faultNow_27 : decode cX8_faultNow 27 = .ok (.aload_n 0, 1) := by decide +kernel
theorem dX8_faultNow_28 : decode cX8_faultNow 28 = .ok (.iconst 0, 1) := by decide +kernel
theorem dX8_faultNow_29 : decode cX8_faultNow 29 = .ok (.putfield 143, 3) := by decide +kernel
theorem dX8_faultNow_32 : decode cX8_faultNow 32 = .ok (.aload_n 0, 1) := by decide +kernel
theorem dX8_faultNow_33 : decode cX8_faultNow 33 = .ok (.iconst 1, 1) := by decide +kernel
theorem dX8_faultNow_34 : decode cX8_faultNow 34 = .ok (.invokevirtual 150, 3) := by decide +kernel
theorem dX8_faultNow_37 : decode cX8_faultNow 37 = .ok (.aload_n 0, 1) := by decide +kernel
theorem dX8_faultNow_38 : decode cX8_faultNow 38 = .ok (.getfield 140, 3) := by decide +kernel
theorem dX8_faultNow_41 : decode cX8_faultNow 41 = .ok (.iconst (-1), 1) := by decide +kernel
theorem dX8_faultNow_42 : decode cX8_faultNow 42 = .ok (.if_icmp .ne 70, 3) := by decide +kernel
theorem dX8_faultNow_45 : decode cX8_faultNow 45 = .ok (.aload_n 0, 1) := by decide +kernel
theorem dX8_faultNow_46 : decode cX8_faultNow 46 = .ok (.getfield 133, 3) := by decide +kernel
theorem dX8_faultNow_49 : decode cX8_faultNow 49 = .ok (.aload_n 0, 1) := by decide +kernel
theorem dX8_faultNow_50 : decode cX8_faultNow 50 = .ok (.getfield 126, 3) := by decide +kernel
theorem dX8_faultNow_53 : decode cX8_faultNow 53 = .ok (.if_icmp .ge 59, 3) := by decide +kernel
theorem dX8_faultNow_56 : decode cX8_faultNow 56 = .ok (.aload_n 0, 1) := by decide +kernel
theorem dX8_faultNow_57 : decode cX8_faultNow 57 = .ok (.invokevirtual 136, 3) := by decide +kernel
theorem dX8_faultNow_60 : decode cX8_faultNow 60 = .ok (.istore_n 1, 1) := by decide +kernel
theorem dX8_faultNow_61 : decode cX8_faultNow 61 = .ok (.iload_n 1, 1) := by decide +kernel
theorem dX8_faultNow_62 : decode cX8_faultNow 62 = .ok (.bipush 38, 2) := by decide +kernel
theorem dX8_faultNow_64 : decode cX8_faultNow 64 = .ok (.if_icmp .eq 20, 3) := by decide +kernel
theorem dX8_faultNow_67 : decode cX8_faultNow 67 = .ok (.iload_n 1, 1) := by decide +kernel
theorem dX8_faultNow_68 : decode cX8_faultNow 68 = .ok (.bipush 124, 2) := by decide +kernel
theorem dX8_faultNow_70 : decode cX8_faultNow 70 = .ok (.if_icmp .eq 14, 3) := by decide +kernel
theorem dX8_faultNow_73 : decode cX8_faultNow 73 = .ok (.aload_n 0, 1) := by decide +kernel
theorem dX8_faultNow_74 : decode cX8_faultNow 74 = .ok (.aload_n 0, 1) := by decide +kernel
theorem dX8_faultNow_75 : decode cX8_faultNow 75 = .ok (.getfield 133, 3) := by decide +kernel
theorem dX8_faultNow_78 : decode cX8_faultNow 78 = .ok (.putfield 140, 3) := by decide +kernel
theorem dX8_faultNow_81 : decode cX8_faultNow 81 = .ok (.goto 28, 3) := by decide +kernel
theorem dX8_faultNow_84 : decode cX8_faultNow 84 = .ok (.aload_n 0, 1) := by decide +kernel
theorem dX8_faultNow_85 : decode cX8_faultNow 85 = .ok (.dup, 1) := by decide +kernel
theorem dX8_faultNow_86 : decode cX8_faultNow 86 = .ok (.getfield 133, 3) := by decide +kernel
theorem dX8_faultNow_89 : decode cX8_faultNow 89 = .ok (.iconst 1, 1) := by decide +kernel
theorem dX8_faultNow_90 : decode cX8_faultNow 90 = .ok (.iadd, 1) := by decide +kernel
theorem dX8_faultNow_91 : decode cX8_faultNow 91 = .ok (.putfield 133, 3) := by decide +kernel
theorem dX8_faultNow_94 : decode cX8_faultNow 94 = .ok (.aload_n 0, 1) := by decide +kernel
theorem dX8_faultNow_95 : decode cX8_faultNow 95 = .ok (.iload_n 1, 1) := by decide +kernel
theorem dX8_faultNow_96 : decode cX8_faultNow 96 = .ok (.bipush 124, 2) := by decide +kernel
theorem dX8_faultNow_98 : decode cX8_faultNow 98 = .ok (.if_icmp .ne 7, 3) := by decide +kernel
theorem dX8_faultNow_101 : decode cX8_faultNow 101 = .ok (.iconst 1, 1) := by decide +kernel
theorem dX8_faultNow_102 : decode cX8_faultNow 102 = .ok (.goto 4, 3) := by decide +kernel
theorem dX8_faultNow_105 : decode cX8_faultNow 105 = .ok (.iconst 0, 1) := by decide +kernel
theorem dX8_faultNow_106 : decode cX8_faultNow 106 = .ok (.invokevirtual 150, 3) := by decide +kernel
theorem dX8_faultNow_109 : decode cX8_faultNow 109 = .ok (.goto (-72), 3) := by decide +kernel
theorem dX8_faultNow_112 : decode cX8_faultNow 112 = .ok (.aload_n 0, 1) := by decide +kernel
theorem dX8_faultNow_113 : decode cX8_faultNow 113 = .ok (.getfield 140, 3) := by decide +kernel
theorem dX8_faultNow_116 : decode cX8_faultNow 116 = .ok (.ireturn, 1) := by decide +kernel
theorem dX8_fault_0 : decode cX8_fault 0 = .ok (.aload_n 0, 1) := by decide +kernel
theorem dX8_fault_1 : decode cX8_fault 1 = .ok (.invokevirtual 154, 3) := by decide +kernel
theorem dX8_fault_4 : decode cX8_fault 4 = .ok (.ireturn, 1) := by decide +kernel
theorem dX8_asTold_0 : decode cX8_asTold 0 = .ok (.iconst 0, 1) := by decide +kernel
theorem dX8_asTold_1 : decode cX8_asTold 1 = .ok (.istore_n 1, 1) := by decide +kernel
theorem dX8_asTold_2 : decode cX8_asTold 2 = .ok (.iload_n 1, 1) := by decide +kernel
theorem dX8_asTold_3 : decode cX8_asTold 3 = .ok (.aload_n 0, 1) := by decide +kernel
theorem dX8_asTold_4 : decode cX8_asTold 4 = .ok (.getfield 99, 3) := by decide +kernel
theorem dX8_asTold_7 : decode cX8_asTold 7 = .ok (.if_icmp .ge 21, 3) := by decide +kernel
theorem dX8_asTold_10 : decode cX8_asTold 10 = .ok (.aload_n 0, 1) := by decide +kernel
theorem dX8_asTold_11 : decode cX8_asTold 11 = .ok (.getfield 47, 3) := by decide +kernel
theorem dX8_asTold_14 : decode cX8_asTold 14 = .ok (.iload_n 1, 1) := by decide +kernel
theorem dX8_asTold_15 : decode cX8_asTold 15 = .ok (.aload_n 0, 1) := by decide +kernel
theorem dX8_asTold_16 : decode cX8_asTold 16 = .ok (.getfield 13, 3) := by decide +kernel
theorem dX8_asTold_19 : decode cX8_asTold 19 = .ok (.iload_n 1, 1) := by decide +kernel
theorem dX8_asTold_20 : decode cX8_asTold 20 = .ok (.iaload, 1) := by decide +kernel
theorem dX8_asTold_21 : decode cX8_asTold 21 = .ok (.iastore, 1) := by decide +kernel
theorem dX8_asTold_22 : decode cX8_asTold 22 = .ok (.iinc 1 1, 3) := by decide +kernel
theorem dX8_asTold_25 : decode cX8_asTold 25 = .ok (.goto (-23), 3) := by decide +kernel
theorem dX8_asTold_28 : decode cX8_asTold 28 = .ok (.aload_n 0, 1) := by decide +kernel
theorem dX8_asTold_29 : decode cX8_asTold 29 = .ok (.aload_n 0, 1) := by decide +kernel
theorem dX8_asTold_30 : decode cX8_asTold 30 = .ok (.getfield 117, 3) := by decide +kernel
theorem dX8_asTold_33 : decode cX8_asTold 33 = .ok (.putfield 157, 3) := by decide +kernel
theorem dX8_asTold_36 : decode cX8_asTold 36 = .ok (.aload_n 0, 1) := by decide +kernel
theorem dX8_asTold_37 : decode cX8_asTold 37 = .ok (.aload_n 0, 1) := by decide +kernel
theorem dX8_asTold_38 : decode cX8_asTold 38 = .ok (.getfield 120, 3) := by decide +kernel
theorem dX8_asTold_41 : decode cX8_asTold 41 = .ok (.putfield 160, 3) := by decide +kernel
theorem dX8_asTold_44 : decode cX8_asTold 44 = .ok (.aload_n 0, 1) := by decide +kernel
theorem dX8_asTold_45 : decode cX8_asTold 45 = .ok (.aload_n 0, 1) := by decide +kernel
theorem dX8_asTold_46 : decode cX8_asTold 46 = .ok (.getfield 123, 3) := by decide +kernel
theorem dX8_asTold_49 : decode cX8_asTold 49 = .ok (.putfield 163, 3) := by decide +kernel
theorem dX8_asTold_52 : decode cX8_asTold 52 = .ok (.aload_n 0, 1) := by decide +kernel
theorem dX8_asTold_53 : decode cX8_asTold 53 = .ok (.iconst 0, 1) := by decide +kernel
theorem dX8_asTold_54 : decode cX8_asTold 54 = .ok (.putfield 166, 3) := by decide +kernel
theorem dX8_asTold_57 : decode cX8_asTold 57 = .ok (.aload_n 0, 1) := by decide +kernel
theorem dX8_asTold_58 : decode cX8_asTold 58 = .ok (.iconst 0, 1) := by decide +kernel
theorem dX8_asTold_59 : decode cX8_asTold 59 = .ok (.putfield 169, 3) := by decide +kernel
theorem dX8_asTold_62 : decode cX8_asTold 62 = .ok (.aload_n 0, 1) := by decide +kernel
theorem dX8_asTold_63 : decode cX8_asTold 63 = .ok (.iconst 0, 1) := by decide +kernel
theorem dX8_asTold_64 : decode cX8_asTold 64 = .ok (.putfield 172, 3) := by decide +kernel
theorem dX8_asTold_67 : decode cX8_asTold 67 = .ok (.return_, 1) := by decide +kernel
theorem dX8_looks_0 : decode cX8_looks 0 = .ok (.aload_n 0, 1) := by decide +kernel
theorem dX8_looks_1 : decode cX8_looks 1 = .ok (.getfield 7, 3) := by decide +kernel
theorem dX8_looks_4 : decode cX8_looks 4 = .ok (.iload_n 1, 1) := by decide +kernel
theorem dX8_looks_5 : decode cX8_looks 5 = .ok (.iaload, 1) := by decide +kernel
theorem dX8_looks_6 : decode cX8_looks 6 = .ok (.iconst 2, 1) := by decide +kernel
theorem dX8_looks_7 : decode cX8_looks 7 = .ok (.if_icmp .ne 18, 3) := by decide +kernel
theorem dX8_looks_10 : decode cX8_looks 10 = .ok (.aload_n 0, 1) := by decide +kernel
theorem dX8_looks_11 : decode cX8_looks 11 = .ok (.getfield 169, 3) := by decide +kernel
theorem dX8_looks_14 : decode cX8_looks 14 = .ok (.iload_n 1, 1) := by decide +kernel
theorem dX8_looks_15 : decode cX8_looks 15 = .ok (.ishr, 1) := by decide +kernel
theorem dX8_looks_16 : decode cX8_looks 16 = .ok (.iconst 1, 1) := by decide +kernel
theorem dX8_looks_17 : decode cX8_looks 17 = .ok (.iand, 1) := by decide +kernel
theorem dX8_looks_18 : decode cX8_looks 18 = .ok (.ifCond .ne 7, 3) := by decide +kernel
theorem dX8_looks_21 : decode cX8_looks 21 = .ok (.iconst 1, 1) := by decide +kernel
theorem dX8_looks_22 : decode cX8_looks 22 = .ok (.goto 4, 3) := by decide +kernel
theorem dX8_looks_25 : decode cX8_looks 25 = .ok (.iconst 0, 1) := by decide +kernel
theorem dX8_looks_26 : decode cX8_looks 26 = .ok (.ireturn, 1) := by decide +kernel
theorem dX8_comesAll_0 : decode cX8_comesAll 0 = .ok (.iconst 0, 1) := by decide +kernel
theorem dX8_comesAll_1 : decode cX8_comesAll 1 = .ok (.istore_n 1, 1) := by decide +kernel
theorem dX8_comesAll_2 : decode cX8_comesAll 2 = .ok (.iconst 0, 1) := by decide +kernel
theorem dX8_comesAll_3 : decode cX8_comesAll 3 = .ok (.istore_n 2, 1) := by decide +kernel
theorem dX8_comesAll_4 : decode cX8_comesAll 4 = .ok (.iload_n 2, 1) := by decide +kernel
theorem dX8_comesAll_5 : decode cX8_comesAll 5 = .ok (.aload_n 0, 1) := by decide +kernel
theorem dX8_comesAll_6 : decode cX8_comesAll 6 = .ok (.getfield 99, 3) := by decide +kernel
theorem dX8_comesAll_9 : decode cX8_comesAll 9 = .ok (.if_icmp .ge 155, 3) := by decide +kernel
theorem dX8_comesAll_12 : decode cX8_comesAll 12 = .ok (.aload_n 0, 1) := by decide +kernel
theorem dX8_comesAll_13 : decode cX8_comesAll 13 = .ok (.getfield 7, 3) := by decide +kernel
theorem dX8_comesAll_16 : decode cX8_comesAll 16 = .ok (.iload_n 2, 1) := by decide +kernel
theorem dX8_comesAll_17 : decode cX8_comesAll 17 = .ok (.iaload, 1) := by decide +kernel
theorem dX8_comesAll_18 : decode cX8_comesAll 18 = .ok (.iconst 1, 1) := by decide +kernel
theorem dX8_comesAll_19 : decode cX8_comesAll 19 = .ok (.if_icmp .eq 15, 3) := by decide +kernel
theorem dX8_comesAll_22 : decode cX8_comesAll 22 = .ok (.aload_n 0, 1) := by decide +kernel
theorem dX8_comesAll_23 : decode cX8_comesAll 23 = .ok (.getfield 166, 3) := by decide +kernel
theorem dX8_comesAll_26 : decode cX8_comesAll 26 = .ok (.iload_n 2, 1) := by decide +kernel
theorem dX8_comesAll_27 : decode cX8_comesAll 27 = .ok (.ishr, 1) := by decide +kernel
theorem dX8_comesAll_28 : decode cX8_comesAll 28 = .ok (.iconst 1, 1) := by decide +kernel
theorem dX8_comesAll_29 : decode cX8_comesAll 29 = .ok (.iand, 1) := by decide +kernel
theorem dX8_comesAll_30 : decode cX8_comesAll 30 = .ok (.iconst 1, 1) := by decide +kernel
theorem dX8_comesAll_31 : decode cX8_comesAll 31 = .ok (.if_icmp .ne 7, 3) := by decide +kernel
theorem dX8_comesAll_34 : decode cX8_comesAll 34 = .ok (.iconst 1, 1) := by decide +kernel
theorem dX8_comesAll_35 : decode cX8_comesAll 35 = .ok (.goto 4, 3) := by decide +kernel
theorem dX8_comesAll_38 : decode cX8_comesAll 38 = .ok (.iconst 0, 1) := by decide +kernel
theorem dX8_comesAll_39 : decode cX8_comesAll 39 = .ok (.istore_n 3, 1) := by decide +kernel
theorem dX8_comesAll_40 : decode cX8_comesAll 40 = .ok (.aload_n 0, 1) := by decide +kernel
theorem dX8_comesAll_41 : decode cX8_comesAll 41 = .ok (.getfield 7, 3) := by decide +kernel
theorem dX8_comesAll_44 : decode cX8_comesAll 44 = .ok (.iload_n 2, 1) := by decide +kernel
theorem dX8_comesAll_45 : decode cX8_comesAll 45 = .ok (.iaload, 1) := by decide +kernel
theorem dX8_comesAll_46 : decode cX8_comesAll 46 = .ok (.iconst 2, 1) := by decide +kernel
theorem dX8_comesAll_47 : decode cX8_comesAll 47 = .ok (.if_icmp .eq 15, 3) := by decide +kernel
theorem dX8_comesAll_50 : decode cX8_comesAll 50 = .ok (.aload_n 0, 1) := by decide +kernel
theorem dX8_comesAll_51 : decode cX8_comesAll 51 = .ok (.getfield 169, 3) := by decide +kernel
theorem dX8_comesAll_54 : decode cX8_comesAll 54 = .ok (.iload_n 2, 1) := by decide +kernel
theorem dX8_comesAll_55 : decode cX8_comesAll 55 = .ok (.ishr, 1) := by decide +kernel
theorem dX8_comesAll_56 : decode cX8_comesAll 56 = .ok (.iconst 1, 1) := by decide +kernel
theorem dX8_comesAll_57 : decode cX8_comesAll 57 = .ok (.iand, 1) := by decide +kernel
theorem dX8_comesAll_58 : decode cX8_comesAll 58 = .ok (.iconst 1, 1) := by decide +kernel
theorem dX8_comesAll_59 : decode cX8_comesAll 59 = .ok (.if_icmp .ne 8, 3) := by decide +kernel
theorem dX8_comesAll_62 : decode cX8_comesAll 62 = .ok (.bipush 60, 2) := by decide +kernel
theorem dX8_comesAll_64 : decode cX8_comesAll 64 = .ok (.goto 20, 3) := by decide +kernel
theorem dX8_comesAll_67 : decode cX8_comesAll 67 = .ok (.iload_n 3, 1) := by decide +kernel
theorem dX8_comesAll_68 : decode cX8_comesAll 68 = .ok (.ifCond .eq 10, 3) := by decide +kernel
theorem dX8_comesAll_71 : decode cX8_comesAll 71 = .ok (.aload_n 0, 1) := by decide +kernel
theorem dX8_comesAll_72 : decode cX8_comesAll 72 = .ok (.getfield 157, 3) := by decide +kernel
theorem dX8_comesAll_75 : decode cX8_comesAll 75 = .ok (.goto 9, 3) := by decide +kernel
theorem dX8_comesAll_78 : decode cX8_comesAll 78 = .ok (.aload_n 0, 1) := by decide +kernel
theorem dX8_comesAll_79 : decode cX8_comesAll 79 = .ok (.getfield 47, 3) := by decide +kernel
theorem dX8_comesAll_82 : decode cX8_comesAll 82 = .ok (.iload_n 2, 1) := by decide +kernel
theorem dX8_comesAll_83 : decode cX8_comesAll 83 = .ok (.iaload, 1) := by decide +kernel
theorem dX8_comesAll_84 : decode cX8_comesAll 84 = .ok (.istore 4, 2) := by decide +kernel
theorem dX8_comesAll_86 : decode cX8_comesAll 86 = .ok (.iload 4, 2) := by decide +kernel
theorem dX8_comesAll_88 : decode cX8_comesAll 88 = .ok (.iload 4, 2) := by decide +kernel
theorem dX8_comesAll_90 : decode cX8_comesAll 90 = .ok (.bipush 60, 2) := by decide +kernel
theorem dX8_comesAll_92 : decode cX8_comesAll 92 = .ok (.if_icmp .ge 24, 3) := by decide +kernel
theorem dX8_comesAll_95 : decode cX8_comesAll 95 = .ok (.aload_n 0, 1) := by decide +kernel
theorem dX8_comesAll_96 : decode cX8_comesAll 96 = .ok (.getfield 172, 3) := by decide +kernel
theorem dX8_comesAll_99 : decode cX8_comesAll 99 = .ok (.iload_n 2, 1) := by decide +kernel
theorem dX8_comesAll_100 : decode cX8_comesAll 100 = .ok (.ishr, 1) := by decide +kernel
theorem dX8_comesAll_101 : decode cX8_comesAll 101 = .ok (.iconst 1, 1) := by decide +kernel
theorem dX8_comesAll_102 : decode cX8_comesAll 102 = .ok (.iand, 1) := by decide +kernel
theorem dX8_comesAll_103 : decode cX8_comesAll 103 = .ok (.iconst 1, 1) := by decide +kernel
theorem dX8_comesAll_104 : decode cX8_comesAll 104 = .ok (.if_icmp .ne 12, 3) := by decide +kernel
theorem dX8_comesAll_107 : decode cX8_comesAll 107 = .ok (.aload_n 0, 1) := by decide +kernel
theorem dX8_comesAll_108 : decode cX8_comesAll 108 = .ok (.getfield 31, 3) := by decide +kernel
theorem dX8_comesAll_111 : decode cX8_comesAll 111 = .ok (.iload_n 2, 1) := by decide +kernel
theorem dX8_comesAll_112 : decode cX8_comesAll 112 = .ok (.iaload, 1) := by decide +kernel
theorem dX8_comesAll_113 : decode cX8_comesAll 113 = .ok (.goto 4, 3) := by decide +kernel
theorem dX8_comesAll_116 : decode cX8_comesAll 116 = .ok (.iconst 0, 1) := by decide +kernel
theorem dX8_comesAll_117 : decode cX8_comesAll 117 = .ok (.iadd, 1) := by decide +kernel
theorem dX8_comesAll_118 : decode cX8_comesAll 118 = .ok (.istore 4, 2) := by decide +kernel
theorem dX8_comesAll_120 : decode cX8_comesAll 120 = .ok (.aload_n 0, 1) := by decide +kernel
theorem dX8_comesAll_121 : decode cX8_comesAll 121 = .ok (.getfield 50, 3) := by decide +kernel
theorem dX8_comesAll_124 : decode cX8_comesAll 124 = .ok (.iload_n 2, 1) := by decide +kernel
theorem dX8_comesAll_125 : decode cX8_comesAll 125 = .ok (.iload 4, 2) := by decide +kernel
theorem dX8_comesAll_127 : decode cX8_comesAll 127 = .ok (.bipush 60, 2) := by decide +kernel
theorem dX8_comesAll_129 : decode cX8_comesAll 129 = .ok (.if_icmp .le 8, 3) := by decide +kernel
theorem dX8_comesAll_132 : decode cX8_comesAll 132 = .ok (.bipush 60, 2) := by decide +kernel
theorem dX8_comesAll_134 : decode cX8_comesAll 134 = .ok (.goto 5, 3) := by decide +kernel
theorem dX8_comesAll_137 : decode cX8_comesAll 137 = .ok (.iload 4, 2) := by decide +kernel
theorem dX8_comesAll_139 : decode cX8_comesAll 139 = .ok (.iastore, 1) := by decide +kernel
theorem dX8_comesAll_140 : decode cX8_comesAll 140 = .ok (.iload_n 1, 1) := by decide +kernel
theorem dX8_comesAll_141 : decode cX8_comesAll 141 = .ok (.ifCond .ne 11, 3) := by decide +kernel
theorem dX8_comesAll_144 : decode cX8_comesAll 144 = .ok (.aload_n 0, 1) := by decide +kernel
theorem dX8_comesAll_145 : decode cX8_comesAll 145 = .ok (.iload_n 2, 1) := by decide +kernel
theorem dX8_comesAll_146 : decode cX8_comesAll 146 = .ok (.invokevirtual 175, 3) := by decide +kernel
theorem dX8_comesAll_149 : decode cX8_comesAll 149 = .ok (.ifCond .eq 7, 3) := by decide +kernel
theorem dX8_comesAll_152 : decode cX8_comesAll 152 = .ok (.iconst 1, 1) := by decide +kernel
theorem dX8_comesAll_153 : decode cX8_comesAll 153 = .ok (.goto 4, 3) := by decide +kernel
theorem dX8_comesAll_156 : decode cX8_comesAll 156 = .ok (.iconst 0, 1) := by decide +kernel
theorem dX8_comesAll_157 : decode cX8_comesAll 157 = .ok (.istore_n 1, 1) := by decide +kernel
theorem dX8_comesAll_158 : decode cX8_comesAll 158 = .ok (.iinc 2 1, 3) := by decide +kernel
theorem dX8_comesAll_161 : decode cX8_comesAll 161 = .ok (.goto (-157), 3) := by decide +kernel
theorem dX8_comesAll_164 : decode cX8_comesAll 164 = .ok (.iconst 0, 1) := by decide +kernel
theorem dX8_comesAll_165 : decode cX8_comesAll 165 = .ok (.istore_n 2, 1) := by decide +kernel
theorem dX8_comesAll_166 : decode cX8_comesAll 166 = .ok (.iload_n 2, 1) := by decide +kernel
theorem dX8_comesAll_167 : decode cX8_comesAll 167 = .ok (.bipush 60, 2) := by decide +kernel
theorem dX8_comesAll_169 : decode cX8_comesAll 169 = .ok (.if_icmp .ge 139, 3) := by decide +kernel
theorem dX8_comesAll_172 : decode cX8_comesAll 172 = .ok (.iload_n 1, 1) := by decide +kernel
theorem dX8_comesAll_173 : decode cX8_comesAll 173 = .ok (.ifCond .eq 135, 3) := by decide +kernel
theorem dX8_comesAll_176 : decode cX8_comesAll 176 = .ok (.iconst 0, 1) := by decide +kernel
theorem dX8_comesAll_177 : decode cX8_comesAll 177 = .ok (.istore_n 3, 1) := by decide +kernel
theorem dX8_comesAll_178 : decode cX8_comesAll 178 = .ok (.iload_n 3, 1) := by decide +kernel
theorem dX8_comesAll_179 : decode cX8_comesAll 179 = .ok (.aload_n 0, 1) := by decide +kernel
theorem dX8_comesAll_180 : decode cX8_comesAll 180 = .ok (.getfield 99, 3) := by decide +kernel
theorem dX8_comesAll_183 : decode cX8_comesAll 183 = .ok (.if_icmp .ge 119, 3) := by decide +kernel
theorem dX8_comesAll_186 : decode cX8_comesAll 186 = .ok (.aload_n 0, 1) := by decide +kernel
theorem dX8_comesAll_187 : decode cX8_comesAll 187 = .ok (.iload_n 3, 1) := by decide +kernel
theorem dX8_comesAll_188 : decode cX8_comesAll 188 = .ok (.invokevirtual 175, 3) := by decide +kernel
theorem dX8_comesAll_191 : decode cX8_comesAll 191 = .ok (.ifCond .eq 105, 3) := by decide +kernel
theorem dX8_comesAll_194 : decode cX8_comesAll 194 = .ok (.aload_n 0, 1) := by decide +kernel
theorem dX8_comesAll_195 : decode cX8_comesAll 195 = .ok (.getfield 50, 3) := by decide +kernel
theorem dX8_comesAll_198 : decode cX8_comesAll 198 = .ok (.iload_n 3, 1) := by decide +kernel
theorem dX8_comesAll_199 : decode cX8_comesAll 199 = .ok (.iaload, 1) := by decide +kernel
theorem dX8_comesAll_200 : decode cX8_comesAll 200 = .ok (.bipush 60, 2) := by decide +kernel
theorem dX8_comesAll_202 : decode cX8_comesAll 202 = .ok (.if_icmp .ne 94, 3) := by decide +kernel
theorem dX8_comesAll_205 : decode cX8_comesAll 205 = .ok (.iconst 0, 1) := by decide +kernel
theorem dX8_comesAll_206 : decode cX8_comesAll 206 = .ok (.istore 4, 2) := by decide +kernel
theorem dX8_comesAll_208 : decode cX8_comesAll 208 = .ok (.iconst 0, 1) := by decide +kernel
theorem dX8_comesAll_209 : decode cX8_comesAll 209 = .ok (.istore 5, 2) := by decide +kernel
theorem dX8_comesAll_211 : decode cX8_comesAll 211 = .ok (.iload 5, 2) := by decide +kernel
theorem dX8_comesAll_213 : decode cX8_comesAll 213 = .ok (.aload_n 0, 1) := by decide +kernel
theorem dX8_comesAll_214 : decode cX8_comesAll 214 = .ok (.getfield 99, 3) := by decide +kernel
theorem dX8_comesAll_217 : decode cX8_comesAll 217 = .ok (.if_icmp .ge 36, 3) := by decide +kernel
theorem dX8_comesAll_220 : decode cX8_comesAll 220 = .ok (.iload 4, 2) := by decide +kernel
theorem dX8_comesAll_222 : decode cX8_comesAll 222 = .ok (.iload 5, 2) := by decide +kernel
theorem dX8_comesAll_224 : decode cX8_comesAll 224 = .ok (.iload_n 3, 1) := by decide +kernel
theorem dX8_comesAll_225 : decode cX8_comesAll 225 = .ok (.if_icmp .eq 18, 3) := by decide +kernel
theorem dX8_comesAll_228 : decode cX8_comesAll 228 = .ok (.aload_n 0, 1) := by decide +kernel
theorem dX8_comesAll_229 : decode cX8_comesAll 229 = .ok (.getfield 50, 3) := by decide +kernel
theorem dX8_comesAll_232 : decode cX8_comesAll 232 = .ok (.iload 5, 2) := by decide +kernel
theorem dX8_comesAll_234 : decode cX8_comesAll 234 = .ok (.iaload, 1) := by decide +kernel
theorem dX8_comesAll_235 : decode cX8_comesAll 235 = .ok (.iload_n 2, 1) := by decide +kernel
theorem dX8_comesAll_236 : decode cX8_comesAll 236 = .ok (.if_icmp .gt 7, 3) := by decide +kernel
theorem dX8_comesAll_239 : decode cX8_comesAll 239 = .ok (.iconst 1, 1) := by decide +kernel
theorem dX8_comesAll_240 : decode cX8_comesAll 240 = .ok (.goto 4, 3) := by decide +kernel
theorem dX8_comesAll_243 : decode cX8_comesAll 243 = .ok (.iconst 0, 1) := by decide +kernel
theorem dX8_comesAll_244 : decode cX8_comesAll 244 = .ok (.iadd, 1) := by decide +kernel
theorem dX8_comesAll_245 : decode cX8_comesAll 245 = .ok (.istore 4, 2) := by decide +kernel
theorem dX8_comesAll_247 : decode cX8_comesAll 247 = .ok (.iinc 5 1, 3) := by decide +kernel
theorem dX8_comesAll_250 : decode cX8_comesAll 250 = .ok (.goto (-39), 3) := by decide +kernel
theorem dX8_comesAll_253 : decode cX8_comesAll 253 = .ok (.aload_n 0, 1) := by decide +kernel
theorem dX8_comesAll_254 : decode cX8_comesAll 254 = .ok (.getfield 50, 3) := by decide +kernel
theorem dX8_comesAll_257 : decode cX8_comesAll 257 = .ok (.iload_n 3, 1) := by decide +kernel
theorem dX8_comesAll_258 : decode cX8_comesAll 258 = .ok (.iload 4, 2) := by decide +kernel
theorem dX8_comesAll_260 : decode cX8_comesAll 260 = .ok (.aload_n 0, 1) := by decide +kernel
theorem dX8_comesAll_261 : decode cX8_comesAll 261 = .ok (.getfield 16, 3) := by decide +kernel
theorem dX8_comesAll_264 : decode cX8_comesAll 264 = .ok (.iload_n 3, 1) := by decide +kernel
theorem dX8_comesAll_265 : decode cX8_comesAll 265 = .ok (.iaload, 1) := by decide +kernel
theorem dX8_comesAll_266 : decode cX8_comesAll 266 = .ok (.if_icmp .lt 27, 3) := by decide +kernel
theorem dX8_comesAll_269 : decode cX8_comesAll 269 = .ok (.iload_n 2, 1) := by decide +kernel
theorem dX8_comesAll_270 : decode cX8_comesAll 270 = .ok (.aload_n 0, 1) := by decide +kernel
theorem dX8_comesAll_271 : decode cX8_comesAll 271 = .ok (.getfield 13, 3) := by decide +kernel
theorem dX8_comesAll_274 : decode cX8_comesAll 274 = .ok (.iload_n 3, 1) := by decide +kernel
theorem dX8_comesAll_275 : decode cX8_comesAll 275 = .ok (.iaload, 1) := by decide +kernel
theorem dX8_comesAll_276 : decode cX8_comesAll 276 = .ok (.iadd, 1) := by decide +kernel
theorem dX8_comesAll_277 : decode cX8_comesAll 277 = .ok (.bipush 60, 2) := by decide +kernel
theorem dX8_comesAll_279 : decode cX8_comesAll 279 = .ok (.if_icmp .ge 14, 3) := by decide +kernel
theorem dX8_comesAll_282 : decode cX8_comesAll 282 = .ok (.iload_n 2, 1) := by decide +kernel
theorem dX8_comesAll_283 : decode cX8_comesAll 283 = .ok (.aload_n 0, 1) := by decide +kernel
theorem dX8_comesAll_284 : decode cX8_comesAll 284 = .ok (.getfield 13, 3) := by decide +kernel
theorem dX8_comesAll_287 : decode cX8_comesAll 287 = .ok (.iload_n 3, 1) := by decide +kernel
theorem dX8_comesAll_288 : decode cX8_comesAll 288 = .ok (.iaload, 1) := by decide +kernel
theorem dX8_comesAll_289 : decode cX8_comesAll 289 = .ok (.iadd, 1) := by decide +kernel
theorem dX8_comesAll_290 : decode cX8_comesAll 290 = .ok (.goto 5, 3) := by decide +kernel
theorem dX8_comesAll_293 : decode cX8_comesAll 293 = .ok (.bipush 60, 2) := by decide +kernel
theorem dX8_comesAll_295 : decode cX8_comesAll 295 = .ok (.iastore, 1) := by decide +kernel
theorem dX8_comesAll_296 : decode cX8_comesAll 296 = .ok (.iinc 3 1, 3) := by decide +kernel
theorem dX8_comesAll_299 : decode cX8_comesAll 299 = .ok (.goto (-121), 3) := by decide +kernel
theorem dX8_comesAll_302 : decode cX8_comesAll 302 = .ok (.iinc 2 1, 3) := by decide +kernel
theorem dX8_comesAll_305 : decode cX8_comesAll 305 = .ok (.goto (-139), 3) := by decide +kernel
theorem dX8_comesAll_308 : decode cX8_comesAll 308 = .ok (.return_, 1) := by decide +kernel
theorem dX8_beginsNow_0 : decode cX8_beginsNow 0 = .ok (.iconst 0, 1) := by decide +kernel
theorem dX8_beginsNow_1 : decode cX8_beginsNow 1 = .ok (.istore_n 1, 1) := by decide +kernel
theorem dX8_beginsNow_2 : decode cX8_beginsNow 2 = .ok (.iload_n 1, 1) := by decide +kernel
theorem dX8_beginsNow_3 : decode cX8_beginsNow 3 = .ok (.aload_n 0, 1) := by decide +kernel
theorem dX8_beginsNow_4 : decode cX8_beginsNow 4 = .ok (.getfield 99, 3) := by decide +kernel
theorem dX8_beginsNow_7 : decode cX8_beginsNow 7 = .ok (.if_icmp .ge 64, 3) := by decide +kernel
theorem dX8_beginsNow_10 : decode cX8_beginsNow 10 = .ok (.iload_n 1, 1) := by decide +kernel
theorem dX8_beginsNow_11 : decode cX8_beginsNow 11 = .ok (.istore_n 2, 1) := by decide +kernel
theorem dX8_beginsNow_12 : decode cX8_beginsNow 12 = .ok (.iload_n 2, 1) := by decide +kernel
theorem dX8_beginsNow_13 : decode cX8_beginsNow 13 = .ok (.ifCond .le 40, 3) := by decide +kernel
theorem dX8_beginsNow_16 : decode cX8_beginsNow 16 = .ok (.aload_n 0, 1) := by decide +kernel
theorem dX8_beginsNow_17 : decode cX8_beginsNow 17 = .ok (.getfield 53, 3) := by decide +kernel
theorem dX8_beginsNow_20 : decode cX8_beginsNow 20 = .ok (.iload_n 2, 1) := by decide +kernel
theorem dX8_beginsNow_21 : decode cX8_beginsNow 21 = .ok (.iconst 1, 1) := by decide +kernel
theorem dX8_beginsNow_22 : decode cX8_beginsNow 22 = .ok (.isub, 1) := by decide +kernel
theorem dX8_beginsNow_23 : decode cX8_beginsNow 23 = .ok (.iaload, 1) := by decide +kernel
theorem dX8_beginsNow_24 : decode cX8_beginsNow 24 = .ok (.aload_n 0, 1) := by decide +kernel
theorem dX8_beginsNow_25 : decode cX8_beginsNow 25 = .ok (.getfield 50, 3) := by decide +kernel
theorem dX8_beginsNow_28 : decode cX8_beginsNow 28 = .ok (.iload_n 1, 1) := by decide +kernel
theorem dX8_beginsNow_29 : decode cX8_beginsNow 29 = .ok (.iaload, 1) := by decide +kernel
theorem dX8_beginsNow_30 : decode cX8_beginsNow 30 = .ok (.if_icmp .le 23, 3) := by decide +kernel
theorem dX8_beginsNow_33 : decode cX8_beginsNow 33 = .ok (.aload_n 0, 1) := by decide +kernel
theorem dX8_beginsNow_34 : decode cX8_beginsNow 34 = .ok (.getfield 53, 3) := by decide +kernel
theorem dX8_beginsNow_37 : decode cX8_beginsNow 37 = .ok (.iload_n 2, 1) := by decide +kernel
theorem dX8_beginsNow_38 : decode cX8_beginsNow 38 = .ok (.aload_n 0, 1) := by decide +kernel
theorem dX8_beginsNow_39 : decode cX8_beginsNow 39 = .ok (.getfield 53, 3) := by decide +kernel
theorem dX8_beginsNow_42 : decode cX8_beginsNow 42 = .ok (.iload_n 2, 1) := by decide +kernel
theorem dX8_beginsNow_43 : decode cX8_beginsNow 43 = .ok (.iconst 1, 1) := by decide +kernel
theorem dX8_beginsNow_44 : decode cX8_beginsNow 44 = .ok (.isub, 1) := by decide +kernel
theorem dX8_beginsNow_45 : decode cX8_beginsNow 45 = .ok (.iaload, 1) := by decide +kernel
theorem dX8_beginsNow_46 : decode cX8_beginsNow 46 = .ok (.iastore, 1) := by decide +kernel
theorem dX8_beginsNow_47 : decode cX8_beginsNow 47 = .ok (.iinc 2 (-1), 3) := by decide +kernel
theorem dX8_beginsNow_50 : decode cX8_beginsNow 50 = .ok (.goto (-38), 3) := by decide +kernel
theorem dX8_beginsNow_53 : decode cX8_beginsNow 53 = .ok (.aload_n 0, 1) := by decide +kernel
theorem dX8_beginsNow_54 : decode cX8_beginsNow 54 = .ok (.getfield 53, 3) := by decide +kernel
theorem dX8_beginsNow_57 : decode cX8_beginsNow 57 = .ok (.iload_n 2, 1) := by decide +kernel
theorem dX8_beginsNow_58 : decode cX8_beginsNow 58 = .ok (.aload_n 0, 1) := by decide +kernel
theorem dX8_beginsNow_59 : decode cX8_beginsNow 59 = .ok (.getfield 50, 3) := by decide +kernel
theorem dX8_beginsNow_62 : decode cX8_beginsNow 62 = .ok (.iload_n 1, 1) := by decide +kernel
theorem dX8_beginsNow_63 : decode cX8_beginsNow 63 = .ok (.iaload, 1) := by decide +kernel
theorem dX8_beginsNow_64 : decode cX8_beginsNow 64 = .ok (.iastore, 1) := by decide +kernel
theorem dX8_beginsNow_65 : decode cX8_beginsNow 65 = .ok (.iinc 1 1, 3) := by decide +kernel
theorem dX8_beginsNow_68 : decode cX8_beginsNow 68 = .ok (.goto (-66), 3) := by decide +kernel
theorem dX8_beginsNow_71 : decode cX8_beginsNow 71 = .ok (.aload_n 0, 1) := by decide +kernel
theorem dX8_beginsNow_72 : decode cX8_beginsNow 72 = .ok (.bipush 60, 2) := by decide +kernel
theorem dX8_beginsNow_74 : decode cX8_beginsNow 74 = .ok (.putfield 178, 3) := by decide +kernel
theorem dX8_beginsNow_77 : decode cX8_beginsNow 77 = .ok (.iconst 0, 1) := by decide +kernel
theorem dX8_beginsNow_78 : decode cX8_beginsNow 78 = .ok (.istore_n 1, 1) := by decide +kernel
theorem dX8_beginsNow_79 : decode cX8_beginsNow 79 = .ok (.iconst 0, 1) := by decide +kernel
theorem dX8_beginsNow_80 : decode cX8_beginsNow 80 = .ok (.istore_n 2, 1) := by decide +kernel
theorem dX8_beginsNow_81 : decode cX8_beginsNow 81 = .ok (.iload_n 2, 1) := by decide +kernel
theorem dX8_beginsNow_82 : decode cX8_beginsNow 82 = .ok (.aload_n 0, 1) := by decide +kernel
theorem dX8_beginsNow_83 : decode cX8_beginsNow 83 = .ok (.getfield 143, 3) := by decide +kernel
theorem dX8_beginsNow_86 : decode cX8_beginsNow 86 = .ok (.if_icmp .ge 180, 3) := by decide +kernel
theorem dX8_beginsNow_89 : decode cX8_beginsNow 89 = .ok (.aload_n 0, 1) := by decide +kernel
theorem dX8_beginsNow_90 : decode cX8_beginsNow 90 = .ok (.getfield 40, 3) := by decide +kernel
theorem dX8_beginsNow_93 : decode cX8_beginsNow 93 = .ok (.iload_n 2, 1) := by decide +kernel
theorem dX8_beginsNow_94 : decode cX8_beginsNow 94 = .ok (.iaload, 1) := by decide +kernel
theorem dX8_beginsNow_95 : decode cX8_beginsNow 95 = .ok (.istore_n 3, 1) := by decide +kernel
theorem dX8_beginsNow_96 : decode cX8_beginsNow 96 = .ok (.aload_n 0, 1) := by decide +kernel
theorem dX8_beginsNow_97 : decode cX8_beginsNow 97 = .ok (.getfield 37, 3) := by decide +kernel
theorem dX8_beginsNow_100 : decode cX8_beginsNow 100 = .ok (.iload_n 2, 1) := by decide +kernel
theorem dX8_beginsNow_101 : decode cX8_beginsNow 101 = .ok (.iaload, 1) := by decide +kernel
theorem dX8_beginsNow_102 : decode cX8_beginsNow 102 = .ok (.bipush 109, 2) := by decide +kernel
theorem dX8_beginsNow_104 : decode cX8_beginsNow 104 = .ok (.if_icmp .ne 7, 3) := by decide +kernel
theorem dX8_beginsNow_107 : decode cX8_beginsNow 107 = .ok (.iload_n 3, 1) := by decide +kernel
theorem dX8_beginsNow_108 : decode cX8_beginsNow 108 = .ok (.goto 75, 3) := by decide +kernel
theorem dX8_beginsNow_111 : decode cX8_beginsNow 111 = .ok (.aload_n 0, 1) := by decide +kernel
theorem dX8_beginsNow_112 : decode cX8_beginsNow 112 = .ok (.getfield 37, 3) := by decide +kernel
theorem dX8_beginsNow_115 : decode cX8_beginsNow 115 = .ok (.iload_n 2, 1) := by decide +kernel
theorem dX8_beginsNow_116 : decode cX8_beginsNow 116 = .ok (.iaload, 1) := by decide +kernel
theorem dX8_beginsNow_117 : decode cX8_beginsNow 117 = .ok (.bipush 116, 2) := by decide +kernel
theorem dX8_beginsNow_119 : decode cX8_beginsNow 119 = .ok (.if_icmp .ne 10, 3) := by decide +kernel
theorem dX8_beginsNow_122 : decode cX8_beginsNow 122 = .ok (.aload_n 0, 1) := by decide +kernel
theorem dX8_beginsNow_123 : decode cX8_beginsNow 123 = .ok (.getfield 157, 3) := by decide +kernel
theorem dX8_beginsNow_126 : decode cX8_beginsNow 126 = .ok (.goto 57, 3) := by decide +kernel
theorem dX8_beginsNow_129 : decode cX8_beginsNow 129 = .ok (.aload_n 0, 1) := by decide +kernel
theorem dX8_beginsNow_130 : decode cX8_beginsNow 130 = .ok (.getfield 37, 3) := by decide +kernel
theorem dX8_beginsNow_133 : decode cX8_beginsNow 133 = .ok (.iload_n 2, 1) := by decide +kernel
theorem dX8_beginsNow_134 : decode cX8_beginsNow 134 = .ok (.iaload, 1) := by decide +kernel
theorem dX8_beginsNow_135 : decode cX8_beginsNow 135 = .ok (.bipush 110, 2) := by decide +kernel
theorem dX8_beginsNow_137 : decode cX8_beginsNow 137 = .ok (.if_icmp .ne 27, 3) := by decide +kernel
theorem dX8_beginsNow_140 : decode cX8_beginsNow 140 = .ok (.iload_n 3, 1) := by decide +kernel
theorem dX8_beginsNow_141 : decode cX8_beginsNow 141 = .ok (.aload_n 0, 1) := by decide +kernel
theorem dX8_beginsNow_142 : decode cX8_beginsNow 142 = .ok (.getfield 99, 3) := by decide +kernel
theorem dX8_beginsNow_145 : decode cX8_beginsNow 145 = .ok (.if_icmp .gt 14, 3) := by decide +kernel
theorem dX8_beginsNow_148 : decode cX8_beginsNow 148 = .ok (.aload_n 0, 1) := by decide +kernel
theorem dX8_beginsNow_149 : decode cX8_beginsNow 149 = .ok (.getfield 53, 3) := by decide +kernel
theorem dX8_beginsNow_152 : decode cX8_beginsNow 152 = .ok (.iload_n 3, 1) := by decide +kernel
theorem dX8_beginsNow_153 : decode cX8_beginsNow 153 = .ok (.iconst 1, 1) := by decide +kernel
theorem dX8_beginsNow_154 : decode cX8_beginsNow 154 = .ok (.isub, 1) := by decide +kernel
theorem dX8_beginsNow_155 : decode cX8_beginsNow 155 = .ok (.iaload, 1) := by decide +kernel
theorem dX8_beginsNow_156 : decode cX8_beginsNow 156 = .ok (.goto 27, 3) := by decide +kernel
theorem dX8_beginsNow_159 : decode cX8_beginsNow 159 = .ok (.bipush 60, 2) := by decide +kernel
theorem dX8_beginsNow_161 : decode cX8_beginsNow 161 = .ok (.goto 22, 3) := by decide +kernel
theorem dX8_beginsNow_164 : decode cX8_beginsNow 164 = .ok (.iload_n 3, 1) := by decide +kernel
theorem dX8_beginsNow_165 : decode cX8_beginsNow 165 = .ok (.aload_n 0, 1) := by decide +kernel
theorem dX8_beginsNow_166 : decode cX8_beginsNow 166 = .ok (.getfield 99, 3) := by decide +kernel
theorem dX8_beginsNow_169 : decode cX8_beginsNow 169 = .ok (.if_icmp .ge 12, 3) := by decide +kernel
theorem dX8_beginsNow_172 : decode cX8_beginsNow 172 = .ok (.aload_n 0, 1) := by decide +kernel
theorem dX8_beginsNow_173 : decode cX8_beginsNow 173 = .ok (.getfield 50, 3) := by decide +kernel
theorem dX8_beginsNow_176 : decode cX8_beginsNow 176 = .ok (.iload_n 3, 1) := by decide +kernel
theorem dX8_beginsNow_177 : decode cX8_beginsNow 177 = .ok (.iaload, 1) := by decide +kernel
theorem dX8_beginsNow_178 : decode cX8_beginsNow 178 = .ok (.goto 5, 3) := by decide +kernel
theorem dX8_beginsNow_181 : decode cX8_beginsNow 181 = .ok (.bipush 60, 2) := by decide +kernel
theorem dX8_beginsNow_183 : decode cX8_beginsNow 183 = .ok (.istore 4, 2) := by decide +kernel
theorem dX8_beginsNow_185 : decode cX8_beginsNow 185 = .ok (.aload_n 0, 1) := by decide +kernel
theorem dX8_beginsNow_186 : decode cX8_beginsNow 186 = .ok (.getfield 43, 3) := by decide +kernel
theorem dX8_beginsNow_189 : decode cX8_beginsNow 189 = .ok (.iload_n 2, 1) := by decide +kernel
theorem dX8_beginsNow_190 : decode cX8_beginsNow 190 = .ok (.baload, 1) := by decide +kernel
theorem dX8_beginsNow_191 : decode cX8_beginsNow 191 = .ok (.ifCond .ne 9, 3) := by decide +kernel
theorem dX8_beginsNow_194 : decode cX8_beginsNow 194 = .ok (.iload 4, 2) := by decide +kernel
theorem dX8_beginsNow_196 : decode cX8_beginsNow 196 = .ok (.iload_n 1, 1) := by decide +kernel
theorem dX8_beginsNow_197 : decode cX8_beginsNow 197 = .ok (.if_icmp .le 8, 3) := by decide +kernel
theorem dX8_beginsNow_200 : decode cX8_beginsNow 200 = .ok (.iload 4, 2) := by decide +kernel
theorem dX8_beginsNow_202 : decode cX8_beginsNow 202 = .ok (.goto 4, 3) := by decide +kernel
theorem dX8_beginsNow_205 : decode cX8_beginsNow 205 = .ok (.iload_n 1, 1) := by decide +kernel
theorem dX8_beginsNow_206 : decode cX8_beginsNow 206 = .ok (.istore_n 1, 1) := by decide +kernel
theorem dX8_beginsNow_207 : decode cX8_beginsNow 207 = .ok (.iload_n 2, 1) := by decide +kernel
theorem dX8_beginsNow_208 : decode cX8_beginsNow 208 = .ok (.aload_n 0, 1) := by decide +kernel
theorem dX8_beginsNow_209 : decode cX8_beginsNow 209 = .ok (.getfield 143, 3) := by decide +kernel
theorem dX8_beginsNow_212 : decode cX8_beginsNow 212 = .ok (.iconst 1, 1) := by decide +kernel
theorem dX8_beginsNow_213 : decode cX8_beginsNow 213 = .ok (.isub, 1) := by decide +kernel
theorem dX8_beginsNow_214 : decode cX8_beginsNow 214 = .ok (.if_icmp .eq 14, 3) := by decide +kernel
theorem dX8_beginsNow_217 : decode cX8_beginsNow 217 = .ok (.aload_n 0, 1) := by decide +kernel
theorem dX8_beginsNow_218 : decode cX8_beginsNow 218 = .ok (.getfield 43, 3) := by decide +kernel
theorem dX8_beginsNow_221 : decode cX8_beginsNow 221 = .ok (.iload_n 2, 1) := by decide +kernel
theorem dX8_beginsNow_222 : decode cX8_beginsNow 222 = .ok (.iconst 1, 1) := by decide +kernel
theorem dX8_beginsNow_223 : decode cX8_beginsNow 223 = .ok (.iadd, 1) := by decide +kernel
theorem dX8_beginsNow_224 : decode cX8_beginsNow 224 = .ok (.baload, 1) := by decide +kernel
theorem dX8_beginsNow_225 : decode cX8_beginsNow 225 = .ok (.ifCond .eq 7, 3) := by decide +kernel
theorem dX8_beginsNow_228 : decode cX8_beginsNow 228 = .ok (.iconst 1, 1) := by decide +kernel
theorem dX8_beginsNow_229 : decode cX8_beginsNow 229 = .ok (.goto 4, 3) := by decide +kernel
theorem dX8_beginsNow_232 : decode cX8_beginsNow 232 = .ok (.iconst 0, 1) := by decide +kernel
theorem dX8_beginsNow_233 : decode cX8_beginsNow 233 = .ok (.istore 5, 2) := by decide +kernel
theorem dX8_beginsNow_235 : decode cX8_beginsNow 235 = .ok (.aload_n 0, 1) := by decide +kernel
theorem dX8_beginsNow_236 : decode cX8_beginsNow 236 = .ok (.iload 5, 2) := by decide +kernel
theorem dX8_beginsNow_238 : decode cX8_beginsNow 238 = .ok (.ifCond .eq 15, 3) := by decide +kernel
theorem dX8_beginsNow_241 : decode cX8_beginsNow 241 = .ok (.iload_n 1, 1) := by decide +kernel
theorem dX8_beginsNow_242 : decode cX8_beginsNow 242 = .ok (.aload_n 0, 1) := by decide +kernel
theorem dX8_beginsNow_243 : decode cX8_beginsNow 243 = .ok (.getfield 178, 3) := by decide +kernel
theorem dX8_beginsNow_246 : decode cX8_beginsNow 246 = .ok (.if_icmp .ge 7, 3) := by decide +kernel
theorem dX8_beginsNow_249 : decode cX8_beginsNow 249 = .ok (.iload_n 1, 1) := by decide +kernel
theorem dX8_beginsNow_250 : decode cX8_beginsNow 250 = .ok (.goto 7, 3) := by decide +kernel
theorem dX8_beginsNow_253 : decode cX8_beginsNow 253 = .ok (.aload_n 0, 1) := by decide +kernel
theorem dX8_beginsNow_254 : decode cX8_beginsNow 254 = .ok (.getfield 178, 3) := by decide +kernel
theorem dX8_beginsNow_257 : decode cX8_beginsNow 257 = .ok (.putfield 178, 3) := by decide +kernel
theorem dX8_beginsNow_260 : decode cX8_beginsNow 260 = .ok (.iinc 2 1, 3) := by decide +kernel
theorem dX8_beginsNow_263 : decode cX8_beginsNow 263 = .ok (.goto (-182), 3) := by decide +kernel
theorem dX8_beginsNow_266 : decode cX8_beginsNow 266 = .ok (.return_, 1) := by decide +kernel
theorem dX8_goes_0 : decode cX8_goes 0 = .ok (.aload_n 0, 1) := by decide +kernel
theorem dX8_goes_1 : decode cX8_goes 1 = .ok (.invokevirtual 181, 3) := by decide +kernel
theorem dX8_goes_4 : decode cX8_goes 4 = .ok (.aload_n 0, 1) := by decide +kernel
theorem dX8_goes_5 : decode cX8_goes 5 = .ok (.invokevirtual 154, 3) := by decide +kernel
theorem dX8_goes_8 : decode cX8_goes 8 = .ok (.iconst (-1), 1) := by decide +kernel
theorem dX8_goes_9 : decode cX8_goes 9 = .ok (.if_icmp .ne 10, 3) := by decide +kernel
theorem dX8_goes_12 : decode cX8_goes 12 = .ok (.aload_n 0, 1) := by decide +kernel
theorem dX8_goes_13 : decode cX8_goes 13 = .ok (.invokevirtual 184, 3) := by decide +kernel
theorem dX8_goes_16 : decode cX8_goes 16 = .ok (.goto 9, 3) := by decide +kernel
theorem dX8_goes_19 : decode cX8_goes 19 = .ok (.aload_n 0, 1) := by decide +kernel
theorem dX8_goes_20 : decode cX8_goes 20 = .ok (.bipush 60, 2) := by decide +kernel
theorem dX8_goes_22 : decode cX8_goes 22 = .ok (.putfield 178, 3) := by decide +kernel
theorem dX8_goes_25 : decode cX8_goes 25 = .ok (.return_, 1) := by decide +kernel
theorem dX8_paysNow_0 : decode cX8_paysNow 0 = .ok (.aload_n 0, 1) := by decide +kernel
theorem dX8_paysNow_1 : decode cX8_paysNow 1 = .ok (.getfield 50, 3) := by decide +kernel
theorem dX8_paysNow_4 : decode cX8_paysNow 4 = .ok (.iload_n 1, 1) := by decide +kernel
theorem dX8_paysNow_5 : decode cX8_paysNow 5 = .ok (.iaload, 1) := by decide +kernel
theorem dX8_paysNow_6 : decode cX8_paysNow 6 = .ok (.bipush 60, 2) := by decide +kernel
theorem dX8_paysNow_8 : decode cX8_paysNow 8 = .ok (.if_icmp .ne 10, 3) := by decide +kernel
theorem dX8_paysNow_11 : decode cX8_paysNow 11 = .ok (.aload_n 0, 1) := by decide +kernel
theorem dX8_paysNow_12 : decode cX8_paysNow 12 = .ok (.getfield 25, 3) := by decide +kernel
theorem dX8_paysNow_15 : decode cX8_paysNow 15 = .ok (.iload_n 1, 1) := by decide +kernel
theorem dX8_paysNow_16 : decode cX8_paysNow 16 = .ok (.iaload, 1) := by decide +kernel
theorem dX8_paysNow_17 : decode cX8_paysNow 17 = .ok (.ireturn, 1) := by decide +kernel
theorem dX8_paysNow_18 : decode cX8_paysNow 18 = .ok (.aload_n 0, 1) := by decide +kernel
theorem dX8_paysNow_19 : decode cX8_paysNow 19 = .ok (.getfield 50, 3) := by decide +kernel
theorem dX8_paysNow_22 : decode cX8_paysNow 22 = .ok (.iload_n 1, 1) := by decide +kernel
theorem dX8_paysNow_23 : decode cX8_paysNow 23 = .ok (.iaload, 1) := by decide +kernel
theorem dX8_paysNow_24 : decode cX8_paysNow 24 = .ok (.aload_n 0, 1) := by decide +kernel
theorem dX8_paysNow_25 : decode cX8_paysNow 25 = .ok (.getfield 157, 3) := by decide +kernel
theorem dX8_paysNow_28 : decode cX8_paysNow 28 = .ok (.if_icmp .le 10, 3) := by decide +kernel
theorem dX8_paysNow_31 : decode cX8_paysNow 31 = .ok (.aload_n 0, 1) := by decide +kernel
theorem dX8_paysNow_32 : decode cX8_paysNow 32 = .ok (.getfield 160, 3) := by decide +kernel
theorem dX8_paysNow_35 : decode cX8_paysNow 35 = .ok (.goto 4, 3) := by decide +kernel
theorem dX8_paysNow_38 : decode cX8_paysNow 38 = .ok (.iconst 0, 1) := by decide +kernel
theorem dX8_paysNow_39 : decode cX8_paysNow 39 = .ok (.istore_n 2, 1) := by decide +kernel
theorem dX8_paysNow_40 : decode cX8_paysNow 40 = .ok (.aload_n 0, 1) := by decide +kernel
theorem dX8_paysNow_41 : decode cX8_paysNow 41 = .ok (.getfield 50, 3) := by decide +kernel
theorem dX8_paysNow_44 : decode cX8_paysNow 44 = .ok (.iload_n 1, 1) := by decide +kernel
theorem dX8_paysNow_45 : decode cX8_paysNow 45 = .ok (.iaload, 1) := by decide +kernel
theorem dX8_paysNow_46 : decode cX8_paysNow 46 = .ok (.aload_n 0, 1) := by decide +kernel
theorem dX8_paysNow_47 : decode cX8_paysNow 47 = .ok (.getfield 178, 3) := by decide +kernel
theorem dX8_paysNow_50 : decode cX8_paysNow 50 = .ok (.if_icmp .gt 42, 3) := by decide +kernel
theorem dX8_paysNow_53 : decode cX8_paysNow 53 = .ok (.iload_n 2, 1) := by decide +kernel
theorem dX8_paysNow_54 : decode cX8_paysNow 54 = .ok (.aload_n 0, 1) := by decide +kernel
theorem dX8_paysNow_55 : decode cX8_paysNow 55 = .ok (.getfield 19, 3) := by decide +kernel
theorem dX8_paysNow_58 : decode cX8_paysNow 58 = .ok (.iload_n 1, 1) := by decide +kernel
theorem dX8_paysNow_59 : decode cX8_paysNow 59 = .ok (.iaload, 1) := by decide +kernel
theorem dX8_paysNow_60 : decode cX8_paysNow 60 = .ok (.aload_n 0, 1) := by decide +kernel
theorem dX8_paysNow_61 : decode cX8_paysNow 61 = .ok (.getfield 178, 3) := by decide +kernel
theorem dX8_paysNow_64 : decode cX8_paysNow 64 = .ok (.aload_n 0, 1) := by decide +kernel
theorem dX8_paysNow_65 : decode cX8_paysNow 65 = .ok (.getfield 50, 3) := by decide +kernel
theorem dX8_paysNow_68 : decode cX8_paysNow 68 = .ok (.iload_n 1, 1) := by decide +kernel
theorem dX8_paysNow_69 : decode cX8_paysNow 69 = .ok (.iaload, 1) := by decide +kernel
theorem dX8_paysNow_70 : decode cX8_paysNow 70 = .ok (.isub, 1) := by decide +kernel
theorem dX8_paysNow_71 : decode cX8_paysNow 71 = .ok (.imul, 1) := by decide +kernel
theorem dX8_paysNow_72 : decode cX8_paysNow 72 = .ok (.iadd, 1) := by decide +kernel
theorem dX8_paysNow_73 : decode cX8_paysNow 73 = .ok (.aload_n 0, 1) := by decide +kernel
theorem dX8_paysNow_74 : decode cX8_paysNow 74 = .ok (.getfield 178, 3) := by decide +kernel
theorem dX8_paysNow_77 : decode cX8_paysNow 77 = .ok (.bipush 60, 2) := by decide +kernel
theorem dX8_paysNow_79 : decode cX8_paysNow 79 = .ok (.if_icmp .ge 10, 3) := by decide +kernel
theorem dX8_paysNow_82 : decode cX8_paysNow 82 = .ok (.aload_n 0, 1) := by decide +kernel
theorem dX8_paysNow_83 : decode cX8_paysNow 83 = .ok (.getfield 163, 3) := by decide +kernel
theorem dX8_paysNow_86 : decode cX8_paysNow 86 = .ok (.goto 4, 3) := by decide +kernel
theorem dX8_paysNow_89 : decode cX8_paysNow 89 = .ok (.iconst 0, 1) := by decide +kernel
theorem dX8_paysNow_90 : decode cX8_paysNow 90 = .ok (.isub, 1) := by decide +kernel
theorem dX8_paysNow_91 : decode cX8_paysNow 91 = .ok (.ireturn, 1) := by decide +kernel
theorem dX8_paysNow_92 : decode cX8_paysNow 92 = .ok (.iload_n 2, 1) := by decide +kernel
theorem dX8_paysNow_93 : decode cX8_paysNow 93 = .ok (.aload_n 0, 1) := by decide +kernel
theorem dX8_paysNow_94 : decode cX8_paysNow 94 = .ok (.getfield 22, 3) := by decide +kernel
theorem dX8_paysNow_97 : decode cX8_paysNow 97 = .ok (.iload_n 1, 1) := by decide +kernel
theorem dX8_paysNow_98 : decode cX8_paysNow 98 = .ok (.iaload, 1) := by decide +kernel
theorem dX8_paysNow_99 : decode cX8_paysNow 99 = .ok (.aload_n 0, 1) := by decide +kernel
theorem dX8_paysNow_100 : decode cX8_paysNow 100 = .ok (.getfield 50, 3) := by decide +kernel
theorem dX8_paysNow_103 : decode cX8_paysNow 103 = .ok (.iload_n 1, 1) := by decide +kernel
theorem dX8_paysNow_104 : decode cX8_paysNow 104 = .ok (.iaload, 1) := by decide +kernel
theorem dX8_paysNow_105 : decode cX8_paysNow 105 = .ok (.aload_n 0, 1) := by decide +kernel
theorem dX8_paysNow_106 : decode cX8_paysNow 106 = .ok (.getfield 178, 3) := by decide +kernel
theorem dX8_paysNow_109 : decode cX8_paysNow 109 = .ok (.isub, 1) := by decide +kernel
theorem dX8_paysNow_110 : decode cX8_paysNow 110 = .ok (.imul, 1) := by decide +kernel
theorem dX8_paysNow_111 : decode cX8_paysNow 111 = .ok (.iadd, 1) := by decide +kernel
theorem dX8_paysNow_112 : decode cX8_paysNow 112 = .ok (.ireturn, 1) := by decide +kernel
theorem dX8_paysAll_0 : decode cX8_paysAll 0 = .ok (.iconst 0, 1) := by decide +kernel
theorem dX8_paysAll_1 : decode cX8_paysAll 1 = .ok (.istore_n 1, 1) := by decide +kernel
theorem dX8_paysAll_2 : decode cX8_paysAll 2 = .ok (.iconst 0, 1) := by decide +kernel
theorem dX8_paysAll_3 : decode cX8_paysAll 3 = .ok (.istore_n 2, 1) := by decide +kernel
theorem dX8_paysAll_4 : decode cX8_paysAll 4 = .ok (.iload_n 2, 1) := by decide +kernel
theorem dX8_paysAll_5 : decode cX8_paysAll 5 = .ok (.aload_n 0, 1) := by decide +kernel
theorem dX8_paysAll_6 : decode cX8_paysAll 6 = .ok (.getfield 99, 3) := by decide +kernel
theorem dX8_paysAll_9 : decode cX8_paysAll 9 = .ok (.if_icmp .ge 17, 3) := by decide +kernel
theorem dX8_paysAll_12 : decode cX8_paysAll 12 = .ok (.iload_n 1, 1) := by decide +kernel
theorem dX8_paysAll_13 : decode cX8_paysAll 13 = .ok (.aload_n 0, 1) := by decide +kernel
theorem dX8_paysAll_14 : decode cX8_paysAll 14 = .ok (.iload_n 2, 1) := by decide +kernel
theorem dX8_paysAll_15 : decode cX8_paysAll 15 = .ok (.invokevirtual 187, 3) := by decide +kernel
theorem dX8_paysAll_18 : decode cX8_paysAll 18 = .ok (.iadd, 1) := by decide +kernel
theorem dX8_paysAll_19 : decode cX8_paysAll 19 = .ok (.istore_n 1, 1) := by decide +kernel
theorem dX8_paysAll_20 : decode cX8_paysAll 20 = .ok (.iinc 2 1, 3) := by decide +kernel
theorem dX8_paysAll_23 : decode cX8_paysAll 23 = .ok (.goto (-19), 3) := by decide +kernel
theorem dX8_paysAll_26 : decode cX8_paysAll 26 = .ok (.iload_n 1, 1) := by decide +kernel
theorem dX8_paysAll_27 : decode cX8_paysAll 27 = .ok (.ireturn, 1) := by decide +kernel
theorem dX8_begins_0 : decode cX8_begins 0 = .ok (.aload_n 0, 1) := by decide +kernel
theorem dX8_begins_1 : decode cX8_begins 1 = .ok (.invokevirtual 190, 3) := by decide +kernel
theorem dX8_begins_4 : decode cX8_begins 4 = .ok (.aload_n 0, 1) := by decide +kernel
theorem dX8_begins_5 : decode cX8_begins 5 = .ok (.invokevirtual 193, 3) := by decide +kernel
theorem dX8_begins_8 : decode cX8_begins 8 = .ok (.aload_n 0, 1) := by decide +kernel
theorem dX8_begins_9 : decode cX8_begins 9 = .ok (.getfield 178, 3) := by decide +kernel
theorem dX8_begins_12 : decode cX8_begins 12 = .ok (.ireturn, 1) := by decide +kernel
theorem dX8_comes_0 : decode cX8_comes 0 = .ok (.aload_n 0, 1) := by decide +kernel
theorem dX8_comes_1 : decode cX8_comes 1 = .ok (.iload_n 1, 1) := by decide +kernel
theorem dX8_comes_2 : decode cX8_comes 2 = .ok (.invokevirtual 103, 3) := by decide +kernel
theorem dX8_comes_5 : decode cX8_comes 5 = .ok (.ifCond .ne 6, 3) := by decide +kernel
theorem dX8_comes_8 : decode cX8_comes 8 = .ok (.bipush (-2), 2) := by decide +kernel
theorem dX8_comes_10 : decode cX8_comes 10 = .ok (.ireturn, 1) := by decide +kernel
theorem dX8_comes_11 : decode cX8_comes 11 = .ok (.aload_n 0, 1) := by decide +kernel
theorem dX8_comes_12 : decode cX8_comes 12 = .ok (.invokevirtual 190, 3) := by decide +kernel
theorem dX8_comes_15 : decode cX8_comes 15 = .ok (.aload_n 0, 1) := by decide +kernel
theorem dX8_comes_16 : decode cX8_comes 16 = .ok (.invokevirtual 193, 3) := by decide +kernel
theorem dX8_comes_19 : decode cX8_comes 19 = .ok (.aload_n 0, 1) := by decide +kernel
theorem dX8_comes_20 : decode cX8_comes 20 = .ok (.getfield 50, 3) := by decide +kernel
theorem dX8_comes_23 : decode cX8_comes 23 = .ok (.iload_n 1, 1) := by decide +kernel
theorem dX8_comes_24 : decode cX8_comes 24 = .ok (.iaload, 1) := by decide +kernel
theorem dX8_comes_25 : decode cX8_comes 25 = .ok (.ireturn, 1) := by decide +kernel
theorem dX8_pays_0 : decode cX8_pays 0 = .ok (.iload_n 1, 1) := by decide +kernel
theorem dX8_pays_1 : decode cX8_pays 1 = .ok (.iconst (-1), 1) := by decide +kernel
theorem dX8_pays_2 : decode cX8_pays 2 = .ok (.if_icmp .eq 15, 3) := by decide +kernel
theorem dX8_pays_5 : decode cX8_pays 5 = .ok (.aload_n 0, 1) := by decide +kernel
theorem dX8_pays_6 : decode cX8_pays 6 = .ok (.iload_n 1, 1) := by decide +kernel
theorem dX8_pays_7 : decode cX8_pays 7 = .ok (.invokevirtual 103, 3) := by decide +kernel
theorem dX8_pays_10 : decode cX8_pays 10 = .ok (.ifCond .ne 7, 3) := by decide +kernel
theorem dX8_pays_13 : decode cX8_pays 13 = .ok (.sipush (-10000), 3) := by decide +kernel
theorem dX8_pays_16 : decode cX8_pays 16 = .ok (.ireturn, 1) := by decide +kernel
theorem dX8_pays_17 : decode cX8_pays 17 = .ok (.aload_n 0, 1) := by decide +kernel
theorem dX8_pays_18 : decode cX8_pays 18 = .ok (.invokevirtual 190, 3) := by decide +kernel
theorem dX8_pays_21 : decode cX8_pays 21 = .ok (.aload_n 0, 1) := by decide +kernel
theorem dX8_pays_22 : decode cX8_pays 22 = .ok (.invokevirtual 193, 3) := by decide +kernel
theorem dX8_pays_25 : decode cX8_pays 25 = .ok (.iload_n 1, 1) := by decide +kernel
theorem dX8_pays_26 : decode cX8_pays 26 = .ok (.iconst (-1), 1) := by decide +kernel
theorem dX8_pays_27 : decode cX8_pays 27 = .ok (.if_icmp .ne 10, 3) := by decide +kernel
theorem dX8_pays_30 : decode cX8_pays 30 = .ok (.aload_n 0, 1) := by decide +kernel
theorem dX8_pays_31 : decode cX8_pays 31 = .ok (.invokevirtual 196, 3) := by decide +kernel
theorem dX8_pays_34 : decode cX8_pays 34 = .ok (.goto 8, 3) := by decide +kernel
theorem dX8_pays_37 : decode cX8_pays 37 = .ok (.aload_n 0, 1) := by decide +kernel
theorem dX8_pays_38 : decode cX8_pays 38 = .ok (.iload_n 1, 1) := by decide +kernel
theorem dX8_pays_39 : decode cX8_pays 39 = .ok (.invokevirtual 187, 3) := by decide +kernel
theorem dX8_pays_42 : decode cX8_pays 42 = .ok (.ireturn, 1) := by decide +kernel
theorem dX8_bestOf_0 : decode cX8_bestOf 0 = .ok (.aload_n 0, 1) := by decide +kernel
theorem dX8_bestOf_1 : decode cX8_bestOf 1 = .ok (.getfield 47, 3) := by decide +kernel
theorem dX8_bestOf_4 : decode cX8_bestOf 4 = .ok (.iload_n 1, 1) := by decide +kernel
theorem dX8_bestOf_5 : decode cX8_bestOf 5 = .ok (.iaload, 1) := by decide +kernel
theorem dX8_bestOf_6 : decode cX8_bestOf 6 = .ok (.istore_n 3, 1) := by decide +kernel
theorem dX8_bestOf_7 : decode cX8_bestOf 7 = .ok (.iconst 0, 1) := by decide +kernel
theorem dX8_bestOf_8 : decode cX8_bestOf 8 = .ok (.istore 4, 2) := by decide +kernel
theorem dX8_bestOf_10 : decode cX8_bestOf 10 = .ok (.iconst 0, 1) := by decide +kernel
theorem dX8_bestOf_11 : decode cX8_bestOf 11 = .ok (.istore 5, 2) := by decide +kernel
theorem dX8_bestOf_13 : decode cX8_bestOf 13 = .ok (.iconst 0, 1) := by decide +kernel
theorem dX8_bestOf_14 : decode cX8_bestOf 14 = .ok (.istore 6, 2) := by decide +kernel
theorem dX8_bestOf_16 : decode cX8_bestOf 16 = .ok (.iload 6, 2) := by decide +kernel
theorem dX8_bestOf_18 : decode cX8_bestOf 18 = .ok (.bipush 60, 2) := by decide +kernel
theorem dX8_bestOf_20 : decode cX8_bestOf 20 = .ok (.if_icmp .gt 86, 3) := by decide +kernel
theorem dX8_bestOf_23 : decode cX8_bestOf 23 = .ok (.aload_n 0, 1) := by decide +kernel
theorem dX8_bestOf_24 : decode cX8_bestOf 24 = .ok (.getfield 47, 3) := by decide +kernel
theorem dX8_bestOf_27 : decode cX8_bestOf 27 = .ok (.iload_n 1, 1) := by decide +kernel
theorem dX8_bestOf_28 : decode cX8_bestOf 28 = .ok (.iload 6, 2) := by decide +kernel
theorem dX8_bestOf_30 : decode cX8_bestOf 30 = .ok (.iastore, 1) := by decide +kernel
theorem dX8_bestOf_31 : decode cX8_bestOf 31 = .ok (.aload_n 0, 1) := by decide +kernel
theorem dX8_bestOf_32 : decode cX8_bestOf 32 = .ok (.invokevirtual 193, 3) := by decide +kernel
theorem dX8_bestOf_35 : decode cX8_bestOf 35 = .ok (.aload_n 0, 1) := by decide +kernel
theorem dX8_bestOf_36 : decode cX8_bestOf 36 = .ok (.iload_n 1, 1) := by decide +kernel
theorem dX8_bestOf_37 : decode cX8_bestOf 37 = .ok (.invokevirtual 187, 3) := by decide +kernel
theorem dX8_bestOf_40 : decode cX8_bestOf 40 = .ok (.istore 7, 2) := by decide +kernel
theorem dX8_bestOf_42 : decode cX8_bestOf 42 = .ok (.iload 6, 2) := by decide +kernel
theorem dX8_bestOf_44 : decode cX8_bestOf 44 = .ok (.ifCond .eq 21, 3) := by decide +kernel
theorem dX8_bestOf_47 : decode cX8_bestOf 47 = .ok (.iload 7, 2) := by decide +kernel
theorem dX8_bestOf_49 : decode cX8_bestOf 49 = .ok (.iload 5, 2) := by decide +kernel
theorem dX8_bestOf_51 : decode cX8_bestOf 51 = .ok (.if_icmp .lt 14, 3) := by decide +kernel
theorem dX8_bestOf_54 : decode cX8_bestOf 54 = .ok (.iload_n 2, 1) := by decide +kernel
theorem dX8_bestOf_55 : decode cX8_bestOf 55 = .ok (.ifCond .eq 14, 3) := by decide +kernel
theorem dX8_bestOf_58 : decode cX8_bestOf 58 = .ok (.iload 7, 2) := by decide +kernel
theorem dX8_bestOf_60 : decode cX8_bestOf 60 = .ok (.iload 5, 2) := by decide +kernel
theorem dX8_bestOf_62 : decode cX8_bestOf 62 = .ok (.if_icmp .ne 7, 3) := by decide +kernel
theorem dX8_bestOf_65 : decode cX8_bestOf 65 = .ok (.iconst 1, 1) := by decide +kernel
theorem dX8_bestOf_66 : decode cX8_bestOf 66 = .ok (.goto 4, 3) := by decide +kernel
theorem dX8_bestOf_69 : decode cX8_bestOf 69 = .ok (.iconst 0, 1) := by decide +kernel
theorem dX8_bestOf_70 : decode cX8_bestOf 70 = .ok (.istore 8, 2) := by decide +kernel
theorem dX8_bestOf_72 : decode cX8_bestOf 72 = .ok (.iload 8, 2) := by decide +kernel
theorem dX8_bestOf_74 : decode cX8_bestOf 74 = .ok (.ifCond .eq 8, 3) := by decide +kernel
theorem dX8_bestOf_77 : decode cX8_bestOf 77 = .ok (.iload 6, 2) := by decide +kernel
theorem dX8_bestOf_79 : decode cX8_bestOf 79 = .ok (.goto 5, 3) := by decide +kernel
theorem dX8_bestOf_82 : decode cX8_bestOf 82 = .ok (.iload 4, 2) := by decide +kernel
theorem dX8_bestOf_84 : decode cX8_bestOf 84 = .ok (.istore 4, 2) := by decide +kernel
theorem dX8_bestOf_86 : decode cX8_bestOf 86 = .ok (.iload 8, 2) := by decide +kernel
theorem dX8_bestOf_88 : decode cX8_bestOf 88 = .ok (.ifCond .eq 8, 3) := by decide +kernel
theorem dX8_bestOf_91 : decode cX8_bestOf 91 = .ok (.iload 7, 2) := by decide +kernel
theorem dX8_bestOf_93 : decode cX8_bestOf 93 = .ok (.goto 5, 3) := by decide +kernel
theorem dX8_bestOf_96 : decode cX8_bestOf 96 = .ok (.iload 5, 2) := by decide +kernel
theorem dX8_bestOf_98 : decode cX8_bestOf 98 = .ok (.istore 5, 2) := by decide +kernel
theorem dX8_bestOf_100 : decode cX8_bestOf 100 = .ok (.iinc 6 1, 3) := by decide +kernel
theorem dX8_bestOf_103 : decode cX8_bestOf 103 = .ok (.goto (-87), 3) := by decide +kernel
theorem dX8_bestOf_106 : decode cX8_bestOf 106 = .ok (.aload_n 0, 1) := by decide +kernel
theorem dX8_bestOf_107 : decode cX8_bestOf 107 = .ok (.getfield 47, 3) := by decide +kernel
theorem dX8_bestOf_110 : decode cX8_bestOf 110 = .ok (.iload_n 1, 1) := by decide +kernel
theorem dX8_bestOf_111 : decode cX8_bestOf 111 = .ok (.iload_n 3, 1) := by decide +kernel
theorem dX8_bestOf_112 : decode cX8_bestOf 112 = .ok (.iastore, 1) := by decide +kernel
theorem dX8_bestOf_113 : decode cX8_bestOf 113 = .ok (.iload 4, 2) := by decide +kernel
theorem dX8_bestOf_115 : decode cX8_bestOf 115 = .ok (.ireturn, 1) := by decide +kernel
theorem dX8_best_0 : decode cX8_best 0 = .ok (.aload_n 0, 1) := by decide +kernel
theorem dX8_best_1 : decode cX8_best 1 = .ok (.iload_n 1, 1) := by decide +kernel
theorem dX8_best_2 : decode cX8_best 2 = .ok (.invokevirtual 107, 3) := by decide +kernel
theorem dX8_best_5 : decode cX8_best 5 = .ok (.ifCond .ne 6, 3) := by decide +kernel
theorem dX8_best_8 : decode cX8_best 8 = .ok (.bipush (-2), 2) := by decide +kernel
theorem dX8_best_10 : decode cX8_best 10 = .ok (.ireturn, 1) := by decide +kernel
theorem dX8_best_11 : decode cX8_best 11 = .ok (.aload_n 0, 1) := by decide +kernel
theorem dX8_best_12 : decode cX8_best 12 = .ok (.invokevirtual 190, 3) := by decide +kernel
theorem dX8_best_15 : decode cX8_best 15 = .ok (.aload_n 0, 1) := by decide +kernel
theorem dX8_best_16 : decode cX8_best 16 = .ok (.iload_n 1, 1) := by decide +kernel
theorem dX8_best_17 : decode cX8_best 17 = .ok (.iload_n 2, 1) := by decide +kernel
theorem dX8_best_18 : decode cX8_best 18 = .ok (.invokevirtual 199, 3) := by decide +kernel
theorem dX8_best_21 : decode cX8_best 21 = .ok (.ireturn, 1) := by decide +kernel
theorem dX8_restlessNow_0 : decode cX8_restlessNow 0 = .ok (.aload_n 0, 1) := by decide +kernel
theorem dX8_restlessNow_1 : decode cX8_restlessNow 1 = .ok (.invokevirtual 190, 3) := by decide +kernel
theorem dX8_restlessNow_4 : decode cX8_restlessNow 4 = .ok (.iconst 0, 1) := by decide +kernel
theorem dX8_restlessNow_5 : decode cX8_restlessNow 5 = .ok (.istore_n 1, 1) := by decide +kernel
theorem dX8_restlessNow_6 : decode cX8_restlessNow 6 = .ok (.iload_n 1, 1) := by decide +kernel
theorem dX8_restlessNow_7 : decode cX8_restlessNow 7 = .ok (.aload_n 0, 1) := by decide +kernel
theorem dX8_restlessNow_8 : decode cX8_restlessNow 8 = .ok (.getfield 99, 3) := by decide +kernel
theorem dX8_restlessNow_11 : decode cX8_restlessNow 11 = .ok (.if_icmp .ge 73, 3) := by decide +kernel
theorem dX8_restlessNow_14 : decode cX8_restlessNow 14 = .ok (.aload_n 0, 1) := by decide +kernel
theorem dX8_restlessNow_15 : decode cX8_restlessNow 15 = .ok (.getfield 7, 3) := by decide +kernel
theorem dX8_restlessNow_18 : decode cX8_restlessNow 18 = .ok (.iload_n 1, 1) := by decide +kernel
theorem dX8_restlessNow_19 : decode cX8_restlessNow 19 = .ok (.iaload, 1) := by decide +kernel
theorem dX8_restlessNow_20 : decode cX8_restlessNow 20 = .ok (.ifCond .ne 58, 3) := by decide +kernel
theorem dX8_restlessNow_23 : decode cX8_restlessNow 23 = .ok (.aload_n 0, 1) := by decide +kernel
theorem dX8_restlessNow_24 : decode cX8_restlessNow 24 = .ok (.invokevirtual 193, 3) := by decide +kernel
theorem dX8_restlessNow_27 : decode cX8_restlessNow 27 = .ok (.aload_n 0, 1) := by decide +kernel
theorem dX8_restlessNow_28 : decode cX8_restlessNow 28 = .ok (.iload_n 1, 1) := by decide +kernel
theorem dX8_restlessNow_29 : decode cX8_restlessNow 29 = .ok (.invokevirtual 187, 3) := by decide +kernel
theorem dX8_restlessNow_32 : decode cX8_restlessNow 32 = .ok (.istore_n 2, 1) := by decide +kernel
theorem dX8_restlessNow_33 : decode cX8_restlessNow 33 = .ok (.aload_n 0, 1) := by decide +kernel
theorem dX8_restlessNow_34 : decode cX8_restlessNow 34 = .ok (.getfield 47, 3) := by decide +kernel
theorem dX8_restlessNow_37 : decode cX8_restlessNow 37 = .ok (.iload_n 1, 1) := by decide +kernel
theorem dX8_restlessNow_38 : decode cX8_restlessNow 38 = .ok (.iaload, 1) := by decide +kernel
theorem dX8_restlessNow_39 : decode cX8_restlessNow 39 = .ok (.istore_n 3, 1) := by decide +kernel
theorem dX8_restlessNow_40 : decode cX8_restlessNow 40 = .ok (.aload_n 0, 1) := by decide +kernel
theorem dX8_restlessNow_41 : decode cX8_restlessNow 41 = .ok (.getfield 47, 3) := by decide +kernel
theorem dX8_restlessNow_44 : decode cX8_restlessNow 44 = .ok (.iload_n 1, 1) := by decide +kernel
theorem dX8_restlessNow_45 : decode cX8_restlessNow 45 = .ok (.aload_n 0, 1) := by decide +kernel
theorem dX8_restlessNow_46 : decode cX8_restlessNow 46 = .ok (.iload_n 1, 1) := by decide +kernel
theorem dX8_restlessNow_47 : decode cX8_restlessNow 47 = .ok (.iconst 0, 1) := by decide +kernel
theorem dX8_restlessNow_48 : decode cX8_restlessNow 48 = .ok (.invokevirtual 199, 3) := by decide +kernel
theorem dX8_restlessNow_51 : decode cX8_restlessNow 51 = .ok (.iastore, 1) := by decide +kernel
theorem dX8_restlessNow_52 : decode cX8_restlessNow 52 = .ok (.aload_n 0, 1) := by decide +kernel
theorem dX8_restlessNow_53 : decode cX8_restlessNow 53 = .ok (.invokevirtual 193, 3) := by decide +kernel
theorem dX8_restlessNow_56 : decode cX8_restlessNow 56 = .ok (.aload_n 0, 1) := by decide +kernel
theorem dX8_restlessNow_57 : decode cX8_restlessNow 57 = .ok (.iload_n 1, 1) := by decide +kernel
theorem dX8_restlessNow_58 : decode cX8_restlessNow 58 = .ok (.invokevirtual 187, 3) := by decide +kernel
theorem dX8_restlessNow_61 : decode cX8_restlessNow 61 = .ok (.istore 4, 2) := by decide +kernel
theorem dX8_restlessNow_63 : decode cX8_restlessNow 63 = .ok (.aload_n 0, 1) := by decide +kernel
theorem dX8_restlessNow_64 : decode cX8_restlessNow 64 = .ok (.getfield 47, 3) := by decide +kernel
theorem dX8_restlessNow_67 : decode cX8_restlessNow 67 = .ok (.iload_n 1, 1) := by decide +kernel
theorem dX8_restlessNow_68 : decode cX8_restlessNow 68 = .ok (.iload_n 3, 1) := by decide +kernel
theorem dX8_restlessNow_69 : decode cX8_restlessNow 69 = .ok (.iastore, 1) := by decide +kernel
theorem dX8_restlessNow_70 : decode cX8_restlessNow 70 = .ok (.iload 4, 2) := by decide +kernel
theorem dX8_restlessNow_72 : decode cX8_restlessNow 72 = .ok (.iload_n 2, 1) := by decide +kernel
theorem dX8_restlessNow_73 : decode cX8_restlessNow 73 = .ok (.if_icmp .ge 5, 3) := by decide +kernel
theorem dX8_restlessNow_76 : decode cX8_restlessNow 76 = .ok (.iload_n 1, 1) := by decide +kernel
theorem dX8_restlessNow_77 : decode cX8_restlessNow 77 = .ok (.ireturn, 1) := by decide +kernel
theorem dX8_restlessNow_78 : decode cX8_restlessNow 78 = .ok (.iinc 1 1, 3) := by decide +kernel
theorem dX8_restlessNow_81 : decode cX8_restlessNow 81 = .ok (.goto (-75), 3) := by decide +kernel
theorem dX8_restlessNow_84 : decode cX8_restlessNow 84 = .ok (.iconst (-1), 1) := by decide +kernel
theorem dX8_restlessNow_85 : decode cX8_restlessNow 85 = .ok (.ireturn, 1) := by decide +kernel
theorem dX8_restless_0 : decode cX8_restless 0 = .ok (.aload_n 0, 1) := by decide +kernel
theorem dX8_restless_1 : decode cX8_restless 1 = .ok (.invokevirtual 203, 3) := by decide +kernel
theorem dX8_restless_4 : decode cX8_restless 4 = .ok (.ireturn, 1) := by decide +kernel
theorem dX8_climbs_0 : decode cX8_climbs 0 = .ok (.iconst 0, 1) := by decide +kernel
theorem dX8_climbs_1 : decode cX8_climbs 1 = .ok (.istore_n 2, 1) := by decide +kernel
theorem dX8_climbs_2 : decode cX8_climbs 2 = .ok (.iload_n 2, 1) := by decide +kernel
theorem dX8_climbs_3 : decode cX8_climbs 3 = .ok (.aload_n 0, 1) := by decide +kernel
theorem dX8_climbs_4 : decode cX8_climbs 4 = .ok (.getfield 99, 3) := by decide +kernel
theorem dX8_climbs_7 : decode cX8_climbs 7 = .ok (.if_icmp .ge 43, 3) := by decide +kernel
theorem dX8_climbs_10 : decode cX8_climbs 10 = .ok (.aload_n 0, 1) := by decide +kernel
theorem dX8_climbs_11 : decode cX8_climbs 11 = .ok (.getfield 47, 3) := by decide +kernel
theorem dX8_climbs_14 : decode cX8_climbs 14 = .ok (.iload_n 2, 1) := by decide +kernel
theorem dX8_climbs_15 : decode cX8_climbs 15 = .ok (.aload_n 0, 1) := by decide +kernel
theorem dX8_climbs_16 : decode cX8_climbs 16 = .ok (.getfield 7, 3) := by decide +kernel
theorem dX8_climbs_19 : decode cX8_climbs 19 = .ok (.iload_n 2, 1) := by decide +kernel
theorem dX8_climbs_20 : decode cX8_climbs 20 = .ok (.iaload, 1) := by decide +kernel
theorem dX8_climbs_21 : decode cX8_climbs 21 = .ok (.ifCond .ne 16, 3) := by decide +kernel
theorem dX8_climbs_24 : decode cX8_climbs 24 = .ok (.iload_n 1, 1) := by decide +kernel
theorem dX8_climbs_25 : decode cX8_climbs 25 = .ok (.ifCond .eq 8, 3) := by decide +kernel
theorem dX8_climbs_28 : decode cX8_climbs 28 = .ok (.bipush 60, 2) := by decide +kernel
theorem dX8_climbs_30 : decode cX8_climbs 30 = .ok (.goto 13, 3) := by decide +kernel
theorem dX8_climbs_33 : decode cX8_climbs 33 = .ok (.iconst 0, 1) := by decide +kernel
theorem dX8_climbs_34 : decode cX8_climbs 34 = .ok (.goto 9, 3) := by decide +kernel
theorem dX8_climbs_37 : decode cX8_climbs 37 = .ok (.aload_n 0, 1) := by decide +kernel
theorem dX8_climbs_38 : decode cX8_climbs 38 = .ok (.getfield 47, 3) := by decide +kernel
theorem dX8_climbs_41 : decode cX8_climbs 41 = .ok (.iload_n 2, 1) := by decide +kernel
theorem dX8_climbs_42 : decode cX8_climbs 42 = .ok (.iaload, 1) := by decide +kernel
theorem dX8_climbs_43 : decode cX8_climbs 43 = .ok (.iastore, 1) := by decide +kernel
theorem dX8_climbs_44 : decode cX8_climbs 44 = .ok (.iinc 2 1, 3) := by decide +kernel
theorem dX8_climbs_47 : decode cX8_climbs 47 = .ok (.goto (-45), 3) := by decide +kernel
theorem dX8_climbs_50 : decode cX8_climbs 50 = .ok (.iconst 0, 1) := by decide +kernel
theorem dX8_climbs_51 : decode cX8_climbs 51 = .ok (.istore_n 2, 1) := by decide +kernel
theorem dX8_climbs_52 : decode cX8_climbs 52 = .ok (.iload_n 2, 1) := by decide +kernel
theorem dX8_climbs_53 : decode cX8_climbs 53 = .ok (.bipush 20, 2) := by decide +kernel
theorem dX8_climbs_55 : decode cX8_climbs 55 = .ok (.if_icmp .ge 101, 3) := by decide +kernel
theorem dX8_climbs_58 : decode cX8_climbs 58 = .ok (.iconst 0, 1) := by decide +kernel
theorem dX8_climbs_59 : decode cX8_climbs 59 = .ok (.istore_n 3, 1) := by decide +kernel
theorem dX8_climbs_60 : decode cX8_climbs 60 = .ok (.iconst 0, 1) := by decide +kernel
theorem dX8_climbs_61 : decode cX8_climbs 61 = .ok (.istore 4, 2) := by decide +kernel
theorem dX8_climbs_63 : decode cX8_climbs 63 = .ok (.iload 4, 2) := by decide +kernel
theorem dX8_climbs_65 : decode cX8_climbs 65 = .ok (.aload_n 0, 1) := by decide +kernel
theorem dX8_climbs_66 : decode cX8_climbs 66 = .ok (.getfield 99, 3) := by decide +kernel
theorem dX8_climbs_69 : decode cX8_climbs 69 = .ok (.if_icmp .ge 71, 3) := by decide +kernel
theorem dX8_climbs_72 : decode cX8_climbs 72 = .ok (.aload_n 0, 1) := by decide +kernel
theorem dX8_climbs_73 : decode cX8_climbs 73 = .ok (.getfield 7, 3) := by decide +kernel
theorem dX8_climbs_76 : decode cX8_climbs 76 = .ok (.iload 4, 2) := by decide +kernel
theorem dX8_climbs_78 : decode cX8_climbs 78 = .ok (.iaload, 1) := by decide +kernel
theorem dX8_climbs_79 : decode cX8_climbs 79 = .ok (.ifCond .ne 55, 3) := by decide +kernel
theorem dX8_climbs_82 : decode cX8_climbs 82 = .ok (.aload_n 0, 1) := by decide +kernel
theorem dX8_climbs_83 : decode cX8_climbs 83 = .ok (.getfield 166, 3) := by decide +kernel
theorem dX8_climbs_86 : decode cX8_climbs 86 = .ok (.iload 4, 2) := by decide +kernel
theorem dX8_climbs_88 : decode cX8_climbs 88 = .ok (.ishr, 1) := by decide +kernel
theorem dX8_climbs_89 : decode cX8_climbs 89 = .ok (.iconst 1, 1) := by decide +kernel
theorem dX8_climbs_90 : decode cX8_climbs 90 = .ok (.iand, 1) := by decide +kernel
theorem dX8_climbs_91 : decode cX8_climbs 91 = .ok (.ifCond .ne 43, 3) := by decide +kernel
theorem dX8_climbs_94 : decode cX8_climbs 94 = .ok (.aload_n 0, 1) := by decide +kernel
theorem dX8_climbs_95 : decode cX8_climbs 95 = .ok (.iload 4, 2) := by decide +kernel
theorem dX8_climbs_97 : decode cX8_climbs 97 = .ok (.iload_n 1, 1) := by decide +kernel
theorem dX8_climbs_98 : decode cX8_climbs 98 = .ok (.invokevirtual 199, 3) := by decide +kernel
theorem dX8_climbs_101 : decode cX8_climbs 101 = .ok (.istore 5, 2) := by decide +kernel
theorem dX8_climbs_103 : decode cX8_climbs 103 = .ok (.iload_n 3, 1) := by decide +kernel
theorem dX8_climbs_104 : decode cX8_climbs 104 = .ok (.ifCond .ne 15, 3) := by decide +kernel
theorem dX8_climbs_107 : decode cX8_climbs 107 = .ok (.iload 5, 2) := by decide +kernel
theorem dX8_climbs_109 : decode cX8_climbs 109 = .ok (.aload_n 0, 1) := by decide +kernel
theorem dX8_climbs_110 : decode cX8_climbs 110 = .ok (.getfield 47, 3) := by decide +kernel
theorem dX8_climbs_113 : decode cX8_climbs 113 = .ok (.iload 4, 2) := by decide +kernel
theorem dX8_climbs_115 : decode cX8_climbs 115 = .ok (.iaload, 1) := by decide +kernel
theorem dX8_climbs_116 : decode cX8_climbs 116 = .ok (.if_icmp .eq 7, 3) := by decide +kernel
theorem dX8_climbs_119 : decode cX8_climbs 119 = .ok (.iconst 1, 1) := by decide +kernel
theorem dX8_climbs_120 : decode cX8_climbs 120 = .ok (.goto 4, 3) := by decide +kernel
theorem dX8_climbs_123 : decode cX8_climbs 123 = .ok (.iconst 0, 1) := by decide +kernel
theorem dX8_climbs_124 : decode cX8_climbs 124 = .ok (.istore_n 3, 1) := by decide +kernel
theorem dX8_climbs_125 : decode cX8_climbs 125 = .ok (.aload_n 0, 1) := by decide +kernel
theorem dX8_climbs_126 : decode cX8_climbs 126 = .ok (.getfield 47, 3) := by decide +kernel
theorem dX8_climbs_129 : decode cX8_climbs 129 = .ok (.iload 4, 2) := by decide +kernel
theorem dX8_climbs_131 : decode cX8_climbs 131 = .ok (.iload 5, 2) := by decide +kernel
theorem dX8_climbs_133 : decode cX8_climbs 133 = .ok (.iastore, 1) := by decide +kernel
theorem dX8_climbs_134 : decode cX8_climbs 134 = .ok (.iinc 4 1, 3) := by decide +kernel
theorem dX8_climbs_137 : decode cX8_climbs 137 = .ok (.goto (-74), 3) := by decide +kernel
theorem dX8_climbs_140 : decode cX8_climbs 140 = .ok (.iload_n 3, 1) := by decide +kernel
theorem dX8_climbs_141 : decode cX8_climbs 141 = .ok (.ifCond .ne 9, 3) := by decide +kernel
theorem dX8_climbs_144 : decode cX8_climbs 144 = .ok (.aload_n 0, 1) := by decide +kernel
theorem dX8_climbs_145 : decode cX8_climbs 145 = .ok (.invokevirtual 193, 3) := by decide +kernel
theorem dX8_climbs_148 : decode cX8_climbs 148 = .ok (.iconst 1, 1) := by decide +kernel
theorem dX8_climbs_149 : decode cX8_climbs 149 = .ok (.ireturn, 1) := by decide +kernel
theorem dX8_climbs_150 : decode cX8_climbs 150 = .ok (.iinc 2 1, 3) := by decide +kernel
theorem dX8_climbs_153 : decode cX8_climbs 153 = .ok (.goto (-101), 3) := by decide +kernel
theorem dX8_climbs_156 : decode cX8_climbs 156 = .ok (.iconst 0, 1) := by decide +kernel
theorem dX8_climbs_157 : decode cX8_climbs 157 = .ok (.ireturn, 1) := by decide +kernel
theorem dX8_climbNow_0 : decode cX8_climbNow 0 = .ok (.aload_n 0, 1) := by decide +kernel
theorem dX8_climbNow_1 : decode cX8_climbNow 1 = .ok (.invokevirtual 190, 3) := by decide +kernel
theorem dX8_climbNow_4 : decode cX8_climbNow 4 = .ok (.aload_n 0, 1) := by decide +kernel
theorem dX8_climbNow_5 : decode cX8_climbNow 5 = .ok (.iload_n 1, 1) := by decide +kernel
theorem dX8_climbNow_6 : decode cX8_climbNow 6 = .ok (.invokevirtual 206, 3) := by decide +kernel
theorem dX8_climbNow_9 : decode cX8_climbNow 9 = .ok (.ifCond .eq 10, 3) := by decide +kernel
theorem dX8_climbNow_12 : decode cX8_climbNow 12 = .ok (.aload_n 0, 1) := by decide +kernel
theorem dX8_climbNow_13 : decode cX8_climbNow 13 = .ok (.getfield 178, 3) := by decide +kernel
theorem dX8_climbNow_16 : decode cX8_climbNow 16 = .ok (.goto 4, 3) := by decide +kernel
theorem dX8_climbNow_19 : decode cX8_climbNow 19 = .ok (.iconst (-1), 1) := by decide +kernel
theorem dX8_climbNow_20 : decode cX8_climbNow 20 = .ok (.ireturn, 1) := by decide +kernel
theorem dX8_climb_0 : decode cX8_climb 0 = .ok (.iload_n 2, 1) := by decide +kernel
theorem dX8_climb_1 : decode cX8_climb 1 = .ok (.iconst (-1), 1) := by decide +kernel
theorem dX8_climb_2 : decode cX8_climb 2 = .ok (.if_icmp .eq 14, 3) := by decide +kernel
theorem dX8_climb_5 : decode cX8_climb 5 = .ok (.aload_n 0, 1) := by decide +kernel
theorem dX8_climb_6 : decode cX8_climb 6 = .ok (.iload_n 2, 1) := by decide +kernel
theorem dX8_climb_7 : decode cX8_climb 7 = .ok (.invokevirtual 107, 3) := by decide +kernel
theorem dX8_climb_10 : decode cX8_climb 10 = .ok (.ifCond .ne 6, 3) := by decide +kernel
theorem dX8_climb_13 : decode cX8_climb 13 = .ok (.bipush (-2), 2) := by decide +kernel
theorem dX8_climb_15 : decode cX8_climb 15 = .ok (.ireturn, 1) := by decide +kernel
theorem dX8_climb_16 : decode cX8_climb 16 = .ok (.aload_n 0, 1) := by decide +kernel
theorem dX8_climb_17 : decode cX8_climb 17 = .ok (.iload_n 1, 1) := by decide +kernel
theorem dX8_climb_18 : decode cX8_climb 18 = .ok (.invokevirtual 210, 3) := by decide +kernel
theorem dX8_climb_21 : decode cX8_climb 21 = .ok (.istore_n 3, 1) := by decide +kernel
theorem dX8_climb_22 : decode cX8_climb 22 = .ok (.iload_n 3, 1) := by decide +kernel
theorem dX8_climb_23 : decode cX8_climb 23 = .ok (.iconst (-1), 1) := by decide +kernel
theorem dX8_climb_24 : decode cX8_climb 24 = .ok (.if_icmp .eq 8, 3) := by decide +kernel
theorem dX8_climb_27 : decode cX8_climb 27 = .ok (.iload_n 2, 1) := by decide +kernel
theorem dX8_climb_28 : decode cX8_climb 28 = .ok (.iconst (-1), 1) := by decide +kernel
theorem dX8_climb_29 : decode cX8_climb 29 = .ok (.if_icmp .ne 7, 3) := by decide +kernel
theorem dX8_climb_32 : decode cX8_climb 32 = .ok (.iload_n 3, 1) := by decide +kernel
theorem dX8_climb_33 : decode cX8_climb 33 = .ok (.goto 9, 3) := by decide +kernel
theorem dX8_climb_36 : decode cX8_climb 36 = .ok (.aload_n 0, 1) := by decide +kernel
theorem dX8_climb_37 : decode cX8_climb 37 = .ok (.getfield 47, 3) := by decide +kernel
theorem dX8_climb_40 : decode cX8_climb 40 = .ok (.iload_n 2, 1) := by decide +kernel
theorem dX8_climb_41 : decode cX8_climb 41 = .ok (.iaload, 1) := by decide +kernel
theorem dX8_climb_42 : decode cX8_climb 42 = .ok (.ireturn, 1) := by decide +kernel
theorem dX8_minuteOf_0 : decode cX8_minuteOf 0 = .ok (.iload_n 2, 1) := by decide +kernel
theorem dX8_minuteOf_1 : decode cX8_minuteOf 1 = .ok (.iload_n 1, 1) := by decide +kernel
theorem dX8_minuteOf_2 : decode cX8_minuteOf 2 = .ok (.iconst 1, 1) := by decide +kernel
theorem dX8_minuteOf_3 : decode cX8_minuteOf 3 = .ok (.isub, 1) := by decide +kernel
theorem dX8_minuteOf_4 : decode cX8_minuteOf 4 = .ok (.if_icmp .ne 8, 3) := by decide +kernel
theorem dX8_minuteOf_7 : decode cX8_minuteOf 7 = .ok (.bipush 60, 2) := by decide +kernel
theorem dX8_minuteOf_9 : decode cX8_minuteOf 9 = .ok (.goto 6, 3) := by decide +kernel
theorem dX8_minuteOf_12 : decode cX8_minuteOf 12 = .ok (.iload_n 0, 1) := by decide +kernel
theorem dX8_minuteOf_13 : decode cX8_minuteOf 13 = .ok (.iload_n 2, 1) := by decide +kernel
theorem dX8_minuteOf_14 : decode cX8_minuteOf 14 = .ok (.imul, 1) := by decide +kernel
theorem dX8_minuteOf_15 : decode cX8_minuteOf 15 = .ok (.ireturn, 1) := by decide +kernel
theorem dX8_gathers_0 : decode cX8_gathers 0 = .ok (.aload_n 0, 1) := by decide +kernel
theorem dX8_gathers_1 : decode cX8_gathers 1 = .ok (.iconst 0, 1) := by decide +kernel
theorem dX8_gathers_2 : decode cX8_gathers 2 = .ok (.putfield 214, 3) := by decide +kernel
theorem dX8_gathers_5 : decode cX8_gathers 5 = .ok (.iconst 0, 1) := by decide +kernel
theorem dX8_gathers_6 : decode cX8_gathers 6 = .ok (.istore_n 1, 1) := by decide +kernel
theorem dX8_gathers_7 : decode cX8_gathers 7 = .ok (.iload_n 1, 1) := by decide +kernel
theorem dX8_gathers_8 : decode cX8_gathers 8 = .ok (.aload_n 0, 1) := by decide +kernel
theorem dX8_gathers_9 : decode cX8_gathers 9 = .ok (.getfield 99, 3) := by decide +kernel
theorem dX8_gathers_12 : decode cX8_gathers 12 = .ok (.if_icmp .ge 38, 3) := by decide +kernel
theorem dX8_gathers_15 : decode cX8_gathers 15 = .ok (.aload_n 0, 1) := by decide +kernel
theorem dX8_gathers_16 : decode cX8_gathers 16 = .ok (.getfield 7, 3) := by decide +kernel
theorem dX8_gathers_19 : decode cX8_gathers 19 = .ok (.iload_n 1, 1) := by decide +kernel
theorem dX8_gathers_20 : decode cX8_gathers 20 = .ok (.iaload, 1) := by decide +kernel
theorem dX8_gathers_21 : decode cX8_gathers 21 = .ok (.ifCond .ne 23, 3) := by decide +kernel
theorem dX8_gathers_24 : decode cX8_gathers 24 = .ok (.aload_n 0, 1) := by decide +kernel
theorem dX8_gathers_25 : decode cX8_gathers 25 = .ok (.getfield 56, 3) := by decide +kernel
theorem dX8_gathers_28 : decode cX8_gathers 28 = .ok (.aload_n 0, 1) := by decide +kernel
theorem dX8_gathers_29 : decode cX8_gathers 29 = .ok (.getfield 214, 3) := by decide +kernel
theorem dX8_gathers_32 : decode cX8_gathers 32 = .ok (.iload_n 1, 1) := by decide +kernel
theorem dX8_gathers_33 : decode cX8_gathers 33 = .ok (.iastore, 1) := by decide +kernel
theorem dX8_gathers_34 : decode cX8_gathers 34 = .ok (.aload_n 0, 1) := by decide +kernel
theorem dX8_gathers_35 : decode cX8_gathers 35 = .ok (.dup, 1) := by decide +kernel
theorem dX8_gathers_36 : decode cX8_gathers 36 = .ok (.getfield 214, 3) := by decide +kernel
theorem dX8_gathers_39 : decode cX8_gathers 39 = .ok (.iconst 1, 1) := by decide +kernel
theorem dX8_gathers_40 : decode cX8_gathers 40 = .ok (.iadd, 1) := by decide +kernel
theorem dX8_gathers_41 : decode cX8_gathers 41 = .ok (.putfield 214, 3) := by decide +kernel
theorem dX8_gathers_44 : decode cX8_gathers 44 = .ok (.iinc 1 1, 3) := by decide +kernel
theorem dX8_gathers_47 : decode cX8_gathers 47 = .ok (.goto (-40), 3) := by decide +kernel
theorem dX8_gathers_50 : decode cX8_gathers 50 = .ok (.aload_n 0, 1) := by decide +kernel
theorem dX8_gathers_51 : decode cX8_gathers 51 = .ok (.getfield 214, 3) := by decide +kernel
theorem dX8_gathers_54 : decode cX8_gathers 54 = .ok (.iconst 4, 1) := by decide +kernel
theorem dX8_gathers_55 : decode cX8_gathers 55 = .ok (.if_icmp .ge 7, 3) := by decide +kernel
theorem dX8_gathers_58 : decode cX8_gathers 58 = .ok (.iconst 1, 1) := by decide +kernel
theorem dX8_gathers_59 : decode cX8_gathers 59 = .ok (.goto 4, 3) := by decide +kernel
theorem dX8_gathers_62 : decode cX8_gathers 62 = .ok (.iconst 0, 1) := by decide +kernel
theorem dX8_gathers_63 : decode cX8_gathers 63 = .ok (.ireturn, 1) := by decide +kernel
theorem dX8_grids_0 : decode cX8_grids 0 = .ok (.aload_n 0, 1) := by decide +kernel
theorem dX8_grids_1 : decode cX8_grids 1 = .ok (.bipush 60, 2) := by decide +kernel
theorem dX8_grids_3 : decode cX8_grids 3 = .ok (.iload_n 1, 1) := by decide +kernel
theorem dX8_grids_4 : decode cX8_grids 4 = .ok (.iadd, 1) := by decide +kernel
theorem dX8_grids_5 : decode cX8_grids 5 = .ok (.iconst 1, 1) := by decide +kernel
theorem dX8_grids_6 : decode cX8_grids 6 = .ok (.isub, 1) := by decide +kernel
theorem dX8_grids_7 : decode cX8_grids 7 = .ok (.iload_n 1, 1) := by decide +kernel
theorem dX8_grids_8 : decode cX8_grids 8 = .ok (.idiv, 1) := by decide +kernel
theorem dX8_grids_9 : decode cX8_grids 9 = .ok (.iconst 1, 1) := by decide +kernel
theorem dX8_grids_10 : decode cX8_grids 10 = .ok (.iadd, 1) := by decide +kernel
theorem dX8_grids_11 : decode cX8_grids 11 = .ok (.putfield 217, 3) := by decide +kernel
theorem dX8_grids_14 : decode cX8_grids 14 = .ok (.aload_n 0, 1) := by decide +kernel
theorem dX8_grids_15 : decode cX8_grids 15 = .ok (.iconst 1, 1) := by decide +kernel
theorem dX8_grids_16 : decode cX8_grids 16 = .ok (.putfield 220, 3) := by decide +kernel
theorem dX8_grids_19 : decode cX8_grids 19 = .ok (.aload_n 0, 1) := by decide +kernel
theorem dX8_grids_20 : decode cX8_grids 20 = .ok (.getfield 214, 3) := by decide +kernel
theorem dX8_grids_23 : decode cX8_grids 23 = .ok (.iconst 1, 1) := by decide +kernel
theorem dX8_grids_24 : decode cX8_grids 24 = .ok (.isub, 1) := by decide +kernel
theorem dX8_grids_25 : decode cX8_grids 25 = .ok (.istore_n 2, 1) := by decide +kernel
theorem dX8_grids_26 : decode cX8_grids 26 = .ok (.iload_n 2, 1) := by decide +kernel
theorem dX8_grids_27 : decode cX8_grids 27 = .ok (.ifCond .lt 32, 3) := by decide +kernel
theorem dX8_grids_30 : decode cX8_grids 30 = .ok (.aload_n 0, 1) := by decide +kernel
theorem dX8_grids_31 : decode cX8_grids 31 = .ok (.getfield 65, 3) := by decide +kernel
theorem dX8_grids_34 : decode cX8_grids 34 = .ok (.iload_n 2, 1) := by decide +kernel
theorem dX8_grids_35 : decode cX8_grids 35 = .ok (.aload_n 0, 1) := by decide +kernel
theorem dX8_grids_36 : decode cX8_grids 36 = .ok (.getfield 220, 3) := by decide +kernel
theorem dX8_grids_39 : decode cX8_grids 39 = .ok (.iastore, 1) := by decide +kernel
theorem dX8_grids_40 : decode cX8_grids 40 = .ok (.aload_n 0, 1) := by decide +kernel
theorem dX8_grids_41 : decode cX8_grids 41 = .ok (.dup, 1) := by decide +kernel
theorem dX8_grids_42 : decode cX8_grids 42 = .ok (.getfield 220, 3) := by decide +kernel
theorem dX8_grids_45 : decode cX8_grids 45 = .ok (.aload_n 0, 1) := by decide +kernel
theorem dX8_grids_46 : decode cX8_grids 46 = .ok (.getfield 217, 3) := by decide +kernel
theorem dX8_grids_49 : decode cX8_grids 49 = .ok (.imul, 1) := by decide +kernel
theorem dX8_grids_50 : decode cX8_grids 50 = .ok (.putfield 220, 3) := by decide +kernel
theorem dX8_grids_53 : decode cX8_grids 53 = .ok (.iinc 2 (-1), 3) := by decide +kernel
theorem dX8_grids_56 : decode cX8_grids 56 = .ok (.goto (-30), 3) := by decide +kernel
theorem dX8_grids_59 : decode cX8_grids 59 = .ok (.aload_n 0, 1) := by decide +kernel
theorem dX8_grids_60 : decode cX8_grids 60 = .ok (.invokevirtual 190, 3) := by decide +kernel
theorem dX8_grids_63 : decode cX8_grids 63 = .ok (.iconst 0, 1) := by decide +kernel
theorem dX8_grids_64 : decode cX8_grids 64 = .ok (.istore_n 2, 1) := by decide +kernel
theorem dX8_grids_65 : decode cX8_grids 65 = .ok (.iload_n 2, 1) := by decide +kernel
theorem dX8_grids_66 : decode cX8_grids 66 = .ok (.aload_n 0, 1) := by decide +kernel
theorem dX8_grids_67 : decode cX8_grids 67 = .ok (.getfield 220, 3) := by decide +kernel
theorem dX8_grids_70 : decode cX8_grids 70 = .ok (.if_icmp .ge 109, 3) := by decide +kernel
theorem dX8_grids_73 : decode cX8_grids 73 = .ok (.iconst 0, 1) := by decide +kernel
theorem dX8_grids_74 : decode cX8_grids 74 = .ok (.istore_n 3, 1) := by decide +kernel
theorem dX8_grids_75 : decode cX8_grids 75 = .ok (.iload_n 3, 1) := by decide +kernel
theorem dX8_grids_76 : decode cX8_grids 76 = .ok (.aload_n 0, 1) := by decide +kernel
theorem dX8_grids_77 : decode cX8_grids 77 = .ok (.getfield 214, 3) := by decide +kernel
theorem dX8_grids_80 : decode cX8_grids 80 = .ok (.if_icmp .ge 41, 3) := by decide +kernel
theorem dX8_grids_83 : decode cX8_grids 83 = .ok (.aload_n 0, 1) := by decide +kernel
theorem dX8_grids_84 : decode cX8_grids 84 = .ok (.getfield 47, 3) := by decide +kernel
theorem dX8_grids_87 : decode cX8_grids 87 = .ok (.aload_n 0, 1) := by decide +kernel
theorem dX8_grids_88 : decode cX8_grids 88 = .ok (.getfield 56, 3) := by decide +kernel
theorem dX8_grids_91 : decode cX8_grids 91 = .ok (.iload_n 3, 1) := by decide +kernel
theorem dX8_grids_92 : decode cX8_grids 92 = .ok (.iaload, 1) := by decide +kernel
theorem dX8_grids_93 : decode cX8_grids 93 = .ok (.iload_n 1, 1) := by decide +kernel
theorem dX8_grids_94 : decode cX8_grids 94 = .ok (.aload_n 0, 1) := by decide +kernel
theorem dX8_grids_95 : decode cX8_grids 95 = .ok (.getfield 217, 3) := by decide +kernel
theorem dX8_grids_98 : decode cX8_grids 98 = .ok (.iload_n 2, 1) := by decide +kernel
theorem dX8_grids_99 : decode cX8_grids 99 = .ok (.aload_n 0, 1) := by decide +kernel
theorem dX8_grids_100 : decode cX8_grids 100 = .ok (.getfield 65, 3) := by decide +kernel
theorem dX8_grids_103 : decode cX8_grids 103 = .ok (.iload_n 3, 1) := by decide +kernel
theorem dX8_grids_104 : decode cX8_grids 104 = .ok (.iaload, 1) := by decide +kernel
theorem dX8_grids_105 : decode cX8_grids 105 = .ok (.idiv, 1) := by decide +kernel
theorem dX8_grids_106 : decode cX8_grids 106 = .ok (.aload_n 0, 1) := by decide +kernel
theorem dX8_grids_107 : decode cX8_grids 107 = .ok (.getfield 217, 3) := by decide +kernel
theorem dX8_grids_110 : decode cX8_grids 110 = .ok (.irem, 1) := by decide +kernel
theorem dX8_grids_111 : decode cX8_grids 111 = .ok (.invokestatic 223, 3) := by decide +kernel
theorem dX8_grids_114 : decode cX8_grids 114 = .ok (.iastore, 1) := by decide +kernel
theorem dX8_grids_115 : decode cX8_grids 115 = .ok (.iinc 3 1, 3) := by decide +kernel
theorem dX8_grids_118 : decode cX8_grids 118 = .ok (.goto (-43), 3) := by decide +kernel
theorem dX8_grids_121 : decode cX8_grids 121 = .ok (.aload_n 0, 1) := by decide +kernel
theorem dX8_grids_122 : decode cX8_grids 122 = .ok (.invokevirtual 193, 3) := by decide +kernel
theorem dX8_grids_125 : decode cX8_grids 125 = .ok (.iconst 0, 1) := by decide +kernel
theorem dX8_grids_126 : decode cX8_grids 126 = .ok (.istore_n 3, 1) := by decide +kernel
theorem dX8_grids_127 : decode cX8_grids 127 = .ok (.iload_n 3, 1) := by decide +kernel
theorem dX8_grids_128 : decode cX8_grids 128 = .ok (.aload_n 0, 1) := by decide +kernel
theorem dX8_grids_129 : decode cX8_grids 129 = .ok (.getfield 214, 3) := by decide +kernel
theorem dX8_grids_132 : decode cX8_grids 132 = .ok (.if_icmp .ge 31, 3) := by decide +kernel
theorem dX8_grids_135 : decode cX8_grids 135 = .ok (.aload_n 0, 1) := by decide +kernel
theorem dX8_grids_136 : decode cX8_grids 136 = .ok (.getfield 59, 3) := by decide +kernel
theorem dX8_grids_139 : decode cX8_grids 139 = .ok (.sipush 2197, 3) := by decide +kernel
theorem dX8_grids_142 : decode cX8_grids 142 = .ok (.iload_n 3, 1) := by decide +kernel
theorem dX8_grids_143 : decode cX8_grids 143 = .ok (.imul, 1) := by decide +kernel
theorem dX8_grids_144 : decode cX8_grids 144 = .ok (.iload_n 2, 1) := by decide +kernel
theorem dX8_grids_145 : decode cX8_grids 145 = .ok (.iadd, 1) := by decide +kernel
theorem dX8_grids_146 : decode cX8_grids 146 = .ok (.aload_n 0, 1) := by decide +kernel
theorem dX8_grids_147 : decode cX8_grids 147 = .ok (.aload_n 0, 1) := by decide +kernel
theorem dX8_grids_148 : decode cX8_grids 148 = .ok (.getfield 56, 3) := by decide +kernel
theorem dX8_grids_151 : decode cX8_grids 151 = .ok (.iload_n 3, 1) := by decide +kernel
theorem dX8_grids_152 : decode cX8_grids 152 = .ok (.iaload, 1) := by decide +kernel
theorem dX8_grids_153 : decode cX8_grids 153 = .ok (.invokevirtual 187, 3) := by decide +kernel
theorem dX8_grids_156 : decode cX8_grids 156 = .ok (.iastore, 1) := by decide +kernel
theorem dX8_grids_157 : decode cX8_grids 157 = .ok (.iinc 3 1, 3) := by decide +kernel
theorem dX8_grids_160 : decode cX8_grids 160 = .ok (.goto (-33), 3) := by decide +kernel
theorem dX8_grids_163 : decode cX8_grids 163 = .ok (.aload_n 0, 1) := by decide +kernel
theorem dX8_grids_164 : decode cX8_grids 164 = .ok (.getfield 62, 3) := by decide +kernel
theorem dX8_grids_167 : decode cX8_grids 167 = .ok (.iload_n 2, 1) := by decide +kernel
theorem dX8_grids_168 : decode cX8_grids 168 = .ok (.aload_n 0, 1) := by decide +kernel
theorem dX8_grids_169 : decode cX8_grids 169 = .ok (.invokevirtual 196, 3) := by decide +kernel
theorem dX8_grids_172 : decode cX8_grids 172 = .ok (.iastore, 1) := by decide +kernel
theorem dX8_grids_173 : decode cX8_grids 173 = .ok (.iinc 2 1, 3) := by decide +kernel
theorem dX8_grids_176 : decode cX8_grids 176 = .ok (.goto (-111), 3) := by decide +kernel
theorem dX8_grids_179 : decode cX8_grids 179 = .ok (.return_, 1) := by decide +kernel
theorem dX8_isRest_0 : decode cX8_isRest 0 = .ok (.iconst 0, 1) := by decide +kernel
theorem dX8_isRest_1 : decode cX8_isRest 1 = .ok (.istore_n 2, 1) := by decide +kernel
theorem dX8_isRest_2 : decode cX8_isRest 2 = .ok (.iload_n 2, 1) := by decide +kernel
theorem dX8_isRest_3 : decode cX8_isRest 3 = .ok (.aload_n 0, 1) := by decide +kernel
theorem dX8_isRest_4 : decode cX8_isRest 4 = .ok (.getfield 214, 3) := by decide +kernel
theorem dX8_isRest_7 : decode cX8_isRest 7 = .ok (.if_icmp .ge 82, 3) := by decide +kernel
theorem dX8_isRest_10 : decode cX8_isRest 10 = .ok (.iload_n 1, 1) := by decide +kernel
theorem dX8_isRest_11 : decode cX8_isRest 11 = .ok (.aload_n 0, 1) := by decide +kernel
theorem dX8_isRest_12 : decode cX8_isRest 12 = .ok (.getfield 65, 3) := by decide +kernel
theorem dX8_isRest_15 : decode cX8_isRest 15 = .ok (.iload_n 2, 1) := by decide +kernel
theorem dX8_isRest_16 : decode cX8_isRest 16 = .ok (.iaload, 1) := by decide +kernel
theorem dX8_isRest_17 : decode cX8_isRest 17 = .ok (.idiv, 1) := by decide +kernel
theorem dX8_isRest_18 : decode cX8_isRest 18 = .ok (.aload_n 0, 1) := by decide +kernel
theorem dX8_isRest_19 : decode cX8_isRest 19 = .ok (.getfield 217, 3) := by decide +kernel
theorem dX8_isRest_22 : decode cX8_isRest 22 = .ok (.irem, 1) := by decide +kernel
theorem dX8_isRest_23 : decode cX8_isRest 23 = .ok (.istore_n 3, 1) := by decide +kernel
theorem dX8_isRest_24 : decode cX8_isRest 24 = .ok (.iconst 0, 1) := by decide +kernel
theorem dX8_isRest_25 : decode cX8_isRest 25 = .ok (.istore 4, 2) := by decide +kernel
theorem dX8_isRest_27 : decode cX8_isRest 27 = .ok (.iload 4, 2) := by decide +kernel
theorem dX8_isRest_29 : decode cX8_isRest 29 = .ok (.aload_n 0, 1) := by decide +kernel
theorem dX8_isRest_30 : decode cX8_isRest 30 = .ok (.getfield 217, 3) := by decide +kernel
theorem dX8_isRest_33 : decode cX8_isRest 33 = .ok (.if_icmp .ge 50, 3) := by decide +kernel
theorem dX8_isRest_36 : decode cX8_isRest 36 = .ok (.aload_n 0, 1) := by decide +kernel
theorem dX8_isRest_37 : decode cX8_isRest 37 = .ok (.getfield 59, 3) := by decide +kernel
theorem dX8_isRest_40 : decode cX8_isRest 40 = .ok (.sipush 2197, 3) := by decide +kernel
theorem dX8_isRest_43 : decode cX8_isRest 43 = .ok (.iload_n 2, 1) := by decide +kernel
theorem dX8_isRest_44 : decode cX8_isRest 44 = .ok (.imul, 1) := by decide +kernel
theorem dX8_isRest_45 : decode cX8_isRest 45 = .ok (.iload_n 1, 1) := by decide +kernel
theorem dX8_isRest_46 : decode cX8_isRest 46 = .ok (.iadd, 1) := by decide +kernel
theorem dX8_isRest_47 : decode cX8_isRest 47 = .ok (.iload 4, 2) := by decide +kernel
theorem dX8_isRest_49 : decode cX8_isRest 49 = .ok (.iload_n 3, 1) := by decide +kernel
theorem dX8_isRest_50 : decode cX8_isRest 50 = .ok (.isub, 1) := by decide +kernel
theorem dX8_isRest_51 : decode cX8_isRest 51 = .ok (.aload_n 0, 1) := by decide +kernel
theorem dX8_isRest_52 : decode cX8_isRest 52 = .ok (.getfield 65, 3) := by decide +kernel
theorem dX8_isRest_55 : decode cX8_isRest 55 = .ok (.iload_n 2, 1) := by decide +kernel
theorem dX8_isRest_56 : decode cX8_isRest 56 = .ok (.iaload, 1) := by decide +kernel
theorem dX8_isRest_57 : decode cX8_isRest 57 = .ok (.imul, 1) := by decide +kernel
theorem dX8_isRest_58 : decode cX8_isRest 58 = .ok (.iadd, 1) := by decide +kernel
theorem dX8_isRest_59 : decode cX8_isRest 59 = .ok (.iaload, 1) := by decide +kernel
theorem dX8_isRest_60 : decode cX8_isRest 60 = .ok (.aload_n 0, 1) := by decide +kernel
theorem dX8_isRest_61 : decode cX8_isRest 61 = .ok (.getfield 59, 3) := by decide +kernel
theorem dX8_isRest_64 : decode cX8_isRest 64 = .ok (.sipush 2197, 3) := by decide +kernel
theorem dX8_isRest_67 : decode cX8_isRest 67 = .ok (.iload_n 2, 1) := by decide +kernel
theorem dX8_isRest_68 : decode cX8_isRest 68 = .ok (.imul, 1) := by decide +kernel
theorem dX8_isRest_69 : decode cX8_isRest 69 = .ok (.iload_n 1, 1) := by decide +kernel
theorem dX8_isRest_70 : decode cX8_isRest 70 = .ok (.iadd, 1) := by decide +kernel
theorem dX8_isRest_71 : decode cX8_isRest 71 = .ok (.iaload, 1) := by decide +kernel
theorem dX8_isRest_72 : decode cX8_isRest 72 = .ok (.if_icmp .ge 5, 3) := by decide +kernel
theorem dX8_isRest_75 : decode cX8_isRest 75 = .ok (.iconst 0, 1) := by decide +kernel
theorem dX8_isRest_76 : decode cX8_isRest 76 = .ok (.ireturn, 1) := by decide +kernel
theorem dX8_isRest_77 : decode cX8_isRest 77 = .ok (.iinc 4 1, 3) := by decide +kernel
theorem dX8_isRest_80 : decode cX8_isRest 80 = .ok (.goto (-53), 3) := by decide +kernel
theorem dX8_isRest_83 : decode cX8_isRest 83 = .ok (.iinc 2 1, 3) := by decide +kernel
theorem dX8_isRest_86 : decode cX8_isRest 86 = .ok (.goto (-84), 3) := by decide +kernel
theorem dX8_isRest_89 : decode cX8_isRest 89 = .ok (.iconst 1, 1) := by decide +kernel
theorem dX8_isRest_90 : decode cX8_isRest 90 = .ok (.ireturn, 1) := by decide +kernel
theorem dX8_restAt_0 : decode cX8_restAt 0 = .ok (.aload_n 0, 1) := by decide +kernel
theorem dX8_restAt_1 : decode cX8_restAt 1 = .ok (.iconst 0, 1) := by decide +kernel
theorem dX8_restAt_2 : decode cX8_restAt 2 = .ok (.putfield 226, 3) := by decide +kernel
theorem dX8_restAt_5 : decode cX8_restAt 5 = .ok (.iconst 0, 1) := by decide +kernel
theorem dX8_restAt_6 : decode cX8_restAt 6 = .ok (.istore_n 2, 1) := by decide +kernel
theorem dX8_restAt_7 : decode cX8_restAt 7 = .ok (.iload_n 2, 1) := by decide +kernel
theorem dX8_restAt_8 : decode cX8_restAt 8 = .ok (.aload_n 0, 1) := by decide +kernel
theorem dX8_restAt_9 : decode cX8_restAt 9 = .ok (.getfield 220, 3) := by decide +kernel
theorem dX8_restAt_12 : decode cX8_restAt 12 = .ok (.if_icmp .ge 37, 3) := by decide +kernel
theorem dX8_restAt_15 : decode cX8_restAt 15 = .ok (.aload_n 0, 1) := by decide +kernel
theorem dX8_restAt_16 : decode cX8_restAt 16 = .ok (.iload_n 2, 1) := by decide +kernel
theorem dX8_restAt_17 : decode cX8_restAt 17 = .ok (.invokevirtual 229, 3) := by decide +kernel
theorem dX8_restAt_20 : decode cX8_restAt 20 = .ok (.ifCond .eq 23, 3) := by decide +kernel
theorem dX8_restAt_23 : decode cX8_restAt 23 = .ok (.aload_n 0, 1) := by decide +kernel
theorem dX8_restAt_24 : decode cX8_restAt 24 = .ok (.getfield 226, 3) := by decide +kernel
theorem dX8_restAt_27 : decode cX8_restAt 27 = .ok (.iload_n 1, 1) := by decide +kernel
theorem dX8_restAt_28 : decode cX8_restAt 28 = .ok (.if_icmp .ne 5, 3) := by decide +kernel
theorem dX8_restAt_31 : decode cX8_restAt 31 = .ok (.iload_n 2, 1) := by decide +kernel
theorem dX8_restAt_32 : decode cX8_restAt 32 = .ok (.ireturn, 1) := by decide +kernel
theorem dX8_restAt_33 : decode cX8_restAt 33 = .ok (.aload_n 0, 1) := by decide +kernel
theorem dX8_restAt_34 : decode cX8_restAt 34 = .ok (.dup, 1) := by decide +kernel
theorem dX8_restAt_35 : decode cX8_restAt 35 = .ok (.getfield 226, 3) := by decide +kernel
theorem dX8_restAt_38 : decode cX8_restAt 38 = .ok (.iconst 1, 1) := by decide +kernel
theorem dX8_restAt_39 : decode cX8_restAt 39 = .ok (.iadd, 1) := by decide +kernel
theorem dX8_restAt_40 : decode cX8_restAt 40 = .ok (.putfield 226, 3) := by decide +kernel
theorem dX8_restAt_43 : decode cX8_restAt 43 = .ok (.iinc 2 1, 3) := by decide +kernel
theorem dX8_restAt_46 : decode cX8_restAt 46 = .ok (.goto (-39), 3) := by decide +kernel
theorem dX8_restAt_49 : decode cX8_restAt 49 = .ok (.iconst (-1), 1) := by decide +kernel
theorem dX8_restAt_50 : decode cX8_restAt 50 = .ok (.ireturn, 1) := by decide +kernel
theorem dX8_rests_0 : decode cX8_rests 0 = .ok (.iload_n 2, 1) := by decide +kernel
theorem dX8_rests_1 : decode cX8_rests 1 = .ok (.iconst (-1), 1) := by decide +kernel
theorem dX8_rests_2 : decode cX8_rests 2 = .ok (.if_icmp .ne 12, 3) := by decide +kernel
theorem dX8_rests_5 : decode cX8_rests 5 = .ok (.iload_n 3, 1) := by decide +kernel
theorem dX8_rests_6 : decode cX8_rests 6 = .ok (.iconst (-1), 1) := by decide +kernel
theorem dX8_rests_7 : decode cX8_rests 7 = .ok (.if_icmp .ne 7, 3) := by decide +kernel
theorem dX8_rests_10 : decode cX8_rests 10 = .ok (.iconst 1, 1) := by decide +kernel
theorem dX8_rests_11 : decode cX8_rests 11 = .ok (.goto 4, 3) := by decide +kernel
theorem dX8_rests_14 : decode cX8_rests 14 = .ok (.iconst 0, 1) := by decide +kernel
theorem dX8_rests_15 : decode cX8_rests 15 = .ok (.istore 4, 2) := by decide +kernel
theorem dX8_rests_17 : decode cX8_rests 17 = .ok (.iload_n 1, 1) := by decide +kernel
theorem dX8_rests_18 : decode cX8_rests 18 = .ok (.iconst 5, 1) := by decide +kernel
theorem dX8_rests_19 : decode cX8_rests 19 = .ok (.bipush 30, 2) := by decide +kernel
theorem dX8_rests_21 : decode cX8_rests 21 = .ok (.invokestatic 95, 3) := by decide +kernel
theorem dX8_rests_24 : decode cX8_rests 24 = .ok (.ifCond .eq 20, 3) := by decide +kernel
theorem dX8_rests_27 : decode cX8_rests 27 = .ok (.iload 4, 2) := by decide +kernel
theorem dX8_rests_29 : decode cX8_rests 29 = .ok (.ifCond .ne 18, 3) := by decide +kernel
theorem dX8_rests_32 : decode cX8_rests 32 = .ok (.iload_n 2, 1) := by decide +kernel
theorem dX8_rests_33 : decode cX8_rests 33 = .ok (.ifCond .lt 11, 3) := by decide +kernel
theorem dX8_rests_36 : decode cX8_rests 36 = .ok (.aload_n 0, 1) := by decide +kernel
theorem dX8_rests_37 : decode cX8_rests 37 = .ok (.iload_n 3, 1) := by decide +kernel
theorem dX8_rests_38 : decode cX8_rests 38 = .ok (.invokevirtual 107, 3) := by decide +kernel
theorem dX8_rests_41 : decode cX8_rests 41 = .ok (.ifCond .ne 6, 3) := by decide +kernel
theorem dX8_rests_44 : decode cX8_rests 44 = .ok (.bipush (-2), 2) := by decide +kernel
theorem dX8_rests_46 : decode cX8_rests 46 = .ok (.ireturn, 1) := by decide +kernel
theorem dX8_rests_47 : decode cX8_rests 47 = .ok (.aload_n 0, 1) := by decide +kernel
theorem dX8_rests_48 : decode cX8_rests 48 = .ok (.invokevirtual 232, 3) := by decide +kernel
theorem dX8_rests_51 : decode cX8_rests 51 = .ok (.ifCond .ne 6, 3) := by decide +kernel
theorem dX8_rests_54 : decode cX8_rests 54 = .ok (.bipush (-4), 2) := by decide +kernel
theorem dX8_rests_56 : decode cX8_rests 56 = .ok (.ireturn, 1) := by decide +kernel
theorem dX8_rests_57 : decode cX8_rests 57 = .ok (.aload_n 0, 1) := by decide +kernel
theorem dX8_rests_58 : decode cX8_rests 58 = .ok (.iload_n 1, 1) := by decide +kernel
theorem dX8_rests_59 : decode cX8_rests 59 = .ok (.invokevirtual 236, 3) := by decide +kernel
theorem dX8_rests_62 : decode cX8_rests 62 = .ok (.aload_n 0, 1) := by decide +kernel
theorem dX8_rests_63 : decode cX8_rests 63 = .ok (.iload_n 2, 1) := by decide +kernel
theorem dX8_rests_64 : decode cX8_rests 64 = .ok (.invokevirtual 240, 3) := by decide +kernel
theorem dX8_rests_67 : decode cX8_rests 67 = .ok (.istore 5, 2) := by decide +kernel
theorem dX8_rests_69 : decode cX8_rests 69 = .ok (.iload 4, 2) := by decide +kernel
theorem dX8_rests_71 : decode cX8_rests 71 = .ok (.ifCond .eq 8, 3) := by decide +kernel
theorem dX8_rests_74 : decode cX8_rests 74 = .ok (.aload_n 0, 1) := by decide +kernel
theorem dX8_rests_75 : decode cX8_rests 75 = .ok (.getfield 226, 3) := by decide +kernel
theorem dX8_rests_78 : decode cX8_rests 78 = .ok (.ireturn, 1) := by decide +kernel
theorem dX8_rests_79 : decode cX8_rests 79 = .ok (.iconst 0, 1) := by decide +kernel
theorem dX8_rests_80 : decode cX8_rests 80 = .ok (.istore 6, 2) := by decide +kernel
theorem dX8_rests_82 : decode cX8_rests 82 = .ok (.aload_n 0, 1) := by decide +kernel
theorem dX8_rests_83 : decode cX8_rests 83 = .ok (.getfield 56, 3) := by decide +kernel
theorem dX8_rests_86 : decode cX8_rests 86 = .ok (.iload 6, 2) := by decide +kernel
theorem dX8_rests_88 : decode cX8_rests 88 = .ok (.iaload, 1) := by decide +kernel
theorem dX8_rests_89 : decode cX8_rests 89 = .ok (.iload_n 3, 1) := by decide +kernel
theorem dX8_rests_90 : decode cX8_rests 90 = .ok (.if_icmp .eq 9, 3) := by decide +kernel
theorem dX8_rests_93 : decode cX8_rests 93 = .ok (.iinc 6 1, 3) := by decide +kernel
theorem dX8_rests_96 : decode cX8_rests 96 = .ok (.goto (-14), 3) := by decide +kernel
theorem dX8_rests_99 : decode cX8_rests 99 = .ok (.iload 5, 2) := by decide +kernel
theorem dX8_rests_101 : decode cX8_rests 101 = .ok (.iconst (-1), 1) := by decide +kernel
theorem dX8_rests_102 : decode cX8_rests 102 = .ok (.if_icmp .ne 7, 3) := by decide +kernel
theorem dX8_rests_105 : decode cX8_rests 105 = .ok (.iconst (-1), 1) := by decide +kernel
theorem dX8_rests_106 : decode cX8_rests 106 = .ok (.goto 26, 3) := by decide +kernel
theorem dX8_rests_109 : decode cX8_rests 109 = .ok (.iload_n 1, 1) := by decide +kernel
theorem dX8_rests_110 : decode cX8_rests 110 = .ok (.aload_n 0, 1) := by decide +kernel
theorem dX8_rests_111 : decode cX8_rests 111 = .ok (.getfield 217, 3) := by decide +kernel
theorem dX8_rests_114 : decode cX8_rests 114 = .ok (.iload 5, 2) := by decide +kernel
theorem dX8_rests_116 : decode cX8_rests 116 = .ok (.aload_n 0, 1) := by decide +kernel
theorem dX8_rests_117 : decode cX8_rests 117 = .ok (.getfield 65, 3) := by decide +kernel
theorem dX8_rests_120 : decode cX8_rests 120 = .ok (.iload 6, 2) := by decide +kernel
theorem dX8_rests_122 : decode cX8_rests 122 = .ok (.iaload, 1) := by decide +kernel
theorem dX8_rests_123 : decode cX8_rests 123 = .ok (.idiv, 1) := by decide +kernel
theorem dX8_rests_124 : decode cX8_rests 124 = .ok (.aload_n 0, 1) := by decide +kernel
theorem dX8_rests_125 : decode cX8_rests 125 = .ok (.getfield 217, 3) := by decide +kernel
theorem dX8_rests_128 : decode cX8_rests 128 = .ok (.irem, 1) := by decide +kernel
theorem dX8_rests_129 : decode cX8_rests 129 = .ok (.invokestatic 223, 3) := by decide +kernel
theorem dX8_rests_132 : decode cX8_rests 132 = .ok (.ireturn, 1) := by decide +kernel
theorem dX8_lost_0 : decode cX8_lost 0 = .ok (.iload_n 1, 1) := by decide +kernel
theorem dX8_lost_1 : decode cX8_lost 1 = .ok (.iconst 5, 1) := by decide +kernel
theorem dX8_lost_2 : decode cX8_lost 2 = .ok (.bipush 30, 2) := by decide +kernel
theorem dX8_lost_4 : decode cX8_lost 4 = .ok (.invokestatic 95, 3) := by decide +kernel
theorem dX8_lost_7 : decode cX8_lost 7 = .ok (.ifCond .eq 8, 3) := by decide +kernel
theorem dX8_lost_10 : decode cX8_lost 10 = .ok (.iload_n 2, 1) := by decide +kernel
theorem dX8_lost_11 : decode cX8_lost 11 = .ok (.iconst (-1), 1) := by decide +kernel
theorem dX8_lost_12 : decode cX8_lost 12 = .ok (.if_icmp .ge 7, 3) := by decide +kernel
theorem dX8_lost_15 : decode cX8_lost 15 = .ok (.sipush (-10000), 3) := by decide +kernel
theorem dX8_lost_18 : decode cX8_lost 18 = .ok (.ireturn, 1) := by decide +kernel
theorem dX8_lost_19 : decode cX8_lost 19 = .ok (.aload_n 0, 1) := by decide +kernel
theorem dX8_lost_20 : decode cX8_lost 20 = .ok (.invokevirtual 232, 3) := by decide +kernel
theorem dX8_lost_23 : decode cX8_lost 23 = .ok (.ifCond .ne 7, 3) := by decide +kernel
theorem dX8_lost_26 : decode cX8_lost 26 = .ok (.sipush (-10001), 3) := by decide +kernel
theorem dX8_lost_29 : decode cX8_lost 29 = .ok (.ireturn, 1) := by decide +kernel
theorem dX8_lost_30 : decode cX8_lost 30 = .ok (.aload_n 0, 1) := by decide +kernel
theorem dX8_lost_31 : decode cX8_lost 31 = .ok (.iload_n 1, 1) := by decide +kernel
theorem dX8_lost_32 : decode cX8_lost 32 = .ok (.invokevirtual 236, 3) := by decide +kernel
theorem dX8_lost_35 : decode cX8_lost 35 = .ok (.aload_n 0, 1) := by decide +kernel
theorem dX8_lost_36 : decode cX8_lost 36 = .ok (.getfield 62, 3) := by decide +kernel
theorem dX8_lost_39 : decode cX8_lost 39 = .ok (.iconst 0, 1) := by decide +kernel
theorem dX8_lost_40 : decode cX8_lost 40 = .ok (.iaload, 1) := by decide +kernel
theorem dX8_lost_41 : decode cX8_lost 41 = .ok (.istore_n 3, 1) := by decide +kernel
theorem dX8_lost_42 : decode cX8_lost 42 = .ok (.iconst 1, 1) := by decide +kernel
theorem dX8_lost_43 : decode cX8_lost 43 = .ok (.istore 4, 2) := by decide +kernel
theorem dX8_lost_45 : decode cX8_lost 45 = .ok (.iload 4, 2) := by decide +kernel
theorem dX8_lost_47 : decode cX8_lost 47 = .ok (.aload_n 0, 1) := by decide +kernel
theorem dX8_lost_48 : decode cX8_lost 48 = .ok (.getfield 220, 3) := by decide +kernel
theorem dX8_lost_51 : decode cX8_lost 51 = .ok (.if_icmp .ge 32, 3) := by decide +kernel
theorem dX8_lost_54 : decode cX8_lost 54 = .ok (.aload_n 0, 1) := by decide +kernel
theorem dX8_lost_55 : decode cX8_lost 55 = .ok (.getfield 62, 3) := by decide +kernel
theorem dX8_lost_58 : decode cX8_lost 58 = .ok (.iload 4, 2) := by decide +kernel
theorem dX8_lost_60 : decode cX8_lost 60 = .ok (.iaload, 1) := by decide +kernel
theorem dX8_lost_61 : decode cX8_lost 61 = .ok (.iload_n 3, 1) := by decide +kernel
theorem dX8_lost_62 : decode cX8_lost 62 = .ok (.if_icmp .ge 13, 3) := by decide +kernel
theorem dX8_lost_65 : decode cX8_lost 65 = .ok (.aload_n 0, 1) := by decide +kernel
theorem dX8_lost_66 : decode cX8_lost 66 = .ok (.getfield 62, 3) := by decide +kernel
theorem dX8_lost_69 : decode cX8_lost 69 = .ok (.iload 4, 2) := by decide +kernel
theorem dX8_lost_71 : decode cX8_lost 71 = .ok (.iaload, 1) := by decide +kernel
theorem dX8_lost_72 : decode cX8_lost 72 = .ok (.goto 4, 3) := by decide +kernel
theorem dX8_lost_75 : decode cX8_lost 75 = .ok (.iload_n 3, 1) := by decide +kernel
theorem dX8_lost_76 : decode cX8_lost 76 = .ok (.istore_n 3, 1) := by decide +kernel
theorem dX8_lost_77 : decode cX8_lost 77 = .ok (.iinc 4 1, 3) := by decide +kernel
theorem dX8_lost_80 : decode cX8_lost 80 = .ok (.goto (-35), 3) := by decide +kernel
theorem dX8_lost_83 : decode cX8_lost 83 = .ok (.iload_n 2, 1) := by decide +kernel
theorem dX8_lost_84 : decode cX8_lost 84 = .ok (.iconst (-1), 1) := by decide +kernel
theorem dX8_lost_85 : decode cX8_lost 85 = .ok (.if_icmp .ne 5, 3) := by decide +kernel
theorem dX8_lost_88 : decode cX8_lost 88 = .ok (.iload_n 3, 1) := by decide +kernel
theorem dX8_lost_89 : decode cX8_lost 89 = .ok (.ireturn, 1) := by decide +kernel
theorem dX8_lost_90 : decode cX8_lost 90 = .ok (.aload_n 0, 1) := by decide +kernel
theorem dX8_lost_91 : decode cX8_lost 91 = .ok (.iload_n 2, 1) := by decide +kernel
theorem dX8_lost_92 : decode cX8_lost 92 = .ok (.invokevirtual 240, 3) := by decide +kernel
theorem dX8_lost_95 : decode cX8_lost 95 = .ok (.istore 4, 2) := by decide +kernel
theorem dX8_lost_97 : decode cX8_lost 97 = .ok (.iload 4, 2) := by decide +kernel
theorem dX8_lost_99 : decode cX8_lost 99 = .ok (.iconst (-1), 1) := by decide +kernel
theorem dX8_lost_100 : decode cX8_lost 100 = .ok (.if_icmp .ne 9, 3) := by decide +kernel
theorem dX8_lost_103 : decode cX8_lost 103 = .ok (.sipush (-10002), 3) := by decide +kernel
theorem dX8_lost_106 : decode cX8_lost 106 = .ok (.goto 12, 3) := by decide +kernel
theorem dX8_lost_109 : decode cX8_lost 109 = .ok (.aload_n 0, 1) := by decide +kernel
theorem dX8_lost_110 : decode cX8_lost 110 = .ok (.getfield 62, 3) := by decide +kernel
theorem dX8_lost_113 : decode cX8_lost 113 = .ok (.iload 4, 2) := by decide +kernel
theorem dX8_lost_115 : decode cX8_lost 115 = .ok (.iaload, 1) := by decide +kernel
theorem dX8_lost_116 : decode cX8_lost 116 = .ok (.iload_n 3, 1) := by decide +kernel
theorem dX8_lost_117 : decode cX8_lost 117 = .ok (.isub, 1) := by decide +kernel
theorem dX8_lost_118 : decode cX8_lost 118 = .ok (.ireturn, 1) := by decide +kernel
theorem dX8_weeks_0 : decode cX8_weeks 0 = .ok (.aload_n 0, 1) := by decide +kernel
theorem dX8_weeks_1 : decode cX8_weeks 1 = .ok (.invokevirtual 190, 3) := by decide +kernel
theorem dX8_weeks_4 : decode cX8_weeks 4 = .ok (.iconst 0, 1) := by decide +kernel
theorem dX8_weeks_5 : decode cX8_weeks 5 = .ok (.istore_n 2, 1) := by decide +kernel
theorem dX8_weeks_6 : decode cX8_weeks 6 = .ok (.iload_n 2, 1) := by decide +kernel
theorem dX8_weeks_7 : decode cX8_weeks 7 = .ok (.iload_n 1, 1) := by decide +kernel
theorem dX8_weeks_8 : decode cX8_weeks 8 = .ok (.if_icmp .gt 140, 3) := by decide +kernel
theorem dX8_weeks_11 : decode cX8_weeks 11 = .ok (.aload_n 0, 1) := by decide +kernel
theorem dX8_weeks_12 : decode cX8_weeks 12 = .ok (.invokevirtual 193, 3) := by decide +kernel
theorem dX8_weeks_15 : decode cX8_weeks 15 = .ok (.aload_n 0, 1) := by decide +kernel
theorem dX8_weeks_16 : decode cX8_weeks 16 = .ok (.getfield 71, 3) := by decide +kernel
theorem dX8_weeks_19 : decode cX8_weeks 19 = .ok (.iload_n 2, 1) := by decide +kernel
theorem dX8_weeks_20 : decode cX8_weeks 20 = .ok (.aload_n 0, 1) := by decide +kernel
theorem dX8_weeks_21 : decode cX8_weeks 21 = .ok (.getfield 178, 3) := by decide +kernel
theorem dX8_weeks_24 : decode cX8_weeks 24 = .ok (.iastore, 1) := by decide +kernel
theorem dX8_weeks_25 : decode cX8_weeks 25 = .ok (.iconst 0, 1) := by decide +kernel
theorem dX8_weeks_26 : decode cX8_weeks 26 = .ok (.istore_n 3, 1) := by decide +kernel
theorem dX8_weeks_27 : decode cX8_weeks 27 = .ok (.iload_n 3, 1) := by decide +kernel
theorem dX8_weeks_28 : decode cX8_weeks 28 = .ok (.aload_n 0, 1) := by decide +kernel
theorem dX8_weeks_29 : decode cX8_weeks 29 = .ok (.getfield 99, 3) := by decide +kernel
theorem dX8_weeks_32 : decode cX8_weeks 32 = .ok (.if_icmp .ge 26, 3) := by decide +kernel
theorem dX8_weeks_35 : decode cX8_weeks 35 = .ok (.aload_n 0, 1) := by decide +kernel
theorem dX8_weeks_36 : decode cX8_weeks 36 = .ok (.getfield 68, 3) := by decide +kernel
theorem dX8_weeks_39 : decode cX8_weeks 39 = .ok (.bipush 8, 2) := by decide +kernel
theorem dX8_weeks_41 : decode cX8_weeks 41 = .ok (.iload_n 2, 1) := by decide +kernel
theorem dX8_weeks_42 : decode cX8_weeks 42 = .ok (.imul, 1) := by decide +kernel
theorem dX8_weeks_43 : decode cX8_weeks 43 = .ok (.iload_n 3, 1) := by decide +kernel
theorem dX8_weeks_44 : decode cX8_weeks 44 = .ok (.iadd, 1) := by decide +kernel
theorem dX8_weeks_45 : decode cX8_weeks 45 = .ok (.aload_n 0, 1) := by decide +kernel
theorem dX8_weeks_46 : decode cX8_weeks 46 = .ok (.getfield 47, 3) := by decide +kernel
theorem dX8_weeks_49 : decode cX8_weeks 49 = .ok (.iload_n 3, 1) := by decide +kernel
theorem dX8_weeks_50 : decode cX8_weeks 50 = .ok (.iaload, 1) := by decide +kernel
theorem dX8_weeks_51 : decode cX8_weeks 51 = .ok (.iastore, 1) := by decide +kernel
theorem dX8_weeks_52 : decode cX8_weeks 52 = .ok (.iinc 3 1, 3) := by decide +kernel
theorem dX8_weeks_55 : decode cX8_weeks 55 = .ok (.goto (-28), 3) := by decide +kernel
theorem dX8_weeks_58 : decode cX8_weeks 58 = .ok (.iconst 0, 1) := by decide +kernel
theorem dX8_weeks_59 : decode cX8_weeks 59 = .ok (.istore_n 3, 1) := by decide +kernel
theorem dX8_weeks_60 : decode cX8_weeks 60 = .ok (.iload_n 3, 1) := by decide +kernel
theorem dX8_weeks_61 : decode cX8_weeks 61 = .ok (.aload_n 0, 1) := by decide +kernel
theorem dX8_weeks_62 : decode cX8_weeks 62 = .ok (.getfield 99, 3) := by decide +kernel
theorem dX8_weeks_65 : decode cX8_weeks 65 = .ok (.if_icmp .ge 44, 3) := by decide +kernel
theorem dX8_weeks_68 : decode cX8_weeks 68 = .ok (.iload_n 2, 1) := by decide +kernel
theorem dX8_weeks_69 : decode cX8_weeks 69 = .ok (.iload_n 1, 1) := by decide +kernel
theorem dX8_weeks_70 : decode cX8_weeks 70 = .ok (.if_icmp .ge 39, 3) := by decide +kernel
theorem dX8_weeks_73 : decode cX8_weeks 73 = .ok (.aload_n 0, 1) := by decide +kernel
theorem dX8_weeks_74 : decode cX8_weeks 74 = .ok (.getfield 74, 3) := by decide +kernel
theorem dX8_weeks_77 : decode cX8_weeks 77 = .ok (.iload_n 3, 1) := by decide +kernel
theorem dX8_weeks_78 : decode cX8_weeks 78 = .ok (.aload_n 0, 1) := by decide +kernel
theorem dX8_weeks_79 : decode cX8_weeks 79 = .ok (.getfield 7, 3) := by decide +kernel
theorem dX8_weeks_82 : decode cX8_weeks 82 = .ok (.iload_n 3, 1) := by decide +kernel
theorem dX8_weeks_83 : decode cX8_weeks 83 = .ok (.iaload, 1) := by decide +kernel
theorem dX8_weeks_84 : decode cX8_weeks 84 = .ok (.ifCond .ne 12, 3) := by decide +kernel
theorem dX8_weeks_87 : decode cX8_weeks 87 = .ok (.aload_n 0, 1) := by decide +kernel
theorem dX8_weeks_88 : decode cX8_weeks 88 = .ok (.iload_n 3, 1) := by decide +kernel
theorem dX8_weeks_89 : decode cX8_weeks 89 = .ok (.iconst 0, 1) := by decide +kernel
theorem dX8_weeks_90 : decode cX8_weeks 90 = .ok (.invokevirtual 199, 3) := by decide +kernel
theorem dX8_weeks_93 : decode cX8_weeks 93 = .ok (.goto 9, 3) := by decide +kernel
theorem dX8_weeks_96 : decode cX8_weeks 96 = .ok (.aload_n 0, 1) := by decide +kernel
theorem dX8_weeks_97 : decode cX8_weeks 97 = .ok (.getfield 47, 3) := by decide +kernel
theorem dX8_weeks_100 : decode cX8_weeks 100 = .ok (.iload_n 3, 1) := by decide +kernel
theorem dX8_weeks_101 : decode cX8_weeks 101 = .ok (.iaload, 1) := by decide +kernel
theorem dX8_weeks_102 : decode cX8_weeks 102 = .ok (.iastore, 1) := by decide +kernel
theorem dX8_weeks_103 : decode cX8_weeks 103 = .ok (.iinc 3 1, 3) := by decide +kernel
theorem dX8_weeks_106 : decode cX8_weeks 106 = .ok (.goto (-46), 3) := by decide +kernel
theorem dX8_weeks_109 : decode cX8_weeks 109 = .ok (.iconst 0, 1) := by decide +kernel
theorem dX8_weeks_110 : decode cX8_weeks 110 = .ok (.istore_n 3, 1) := by decide +kernel
theorem dX8_weeks_111 : decode cX8_weeks 111 = .ok (.iload_n 3, 1) := by decide +kernel
theorem dX8_weeks_112 : decode cX8_weeks 112 = .ok (.aload_n 0, 1) := by decide +kernel
theorem dX8_weeks_113 : decode cX8_weeks 113 = .ok (.getfield 99, 3) := by decide +kernel
theorem dX8_weeks_116 : decode cX8_weeks 116 = .ok (.if_icmp .ge 26, 3) := by decide +kernel
theorem dX8_weeks_119 : decode cX8_weeks 119 = .ok (.iload_n 2, 1) := by decide +kernel
theorem dX8_weeks_120 : decode cX8_weeks 120 = .ok (.iload_n 1, 1) := by decide +kernel
theorem dX8_weeks_121 : decode cX8_weeks 121 = .ok (.if_icmp .ge 21, 3) := by decide +kernel
theorem dX8_weeks_124 : decode cX8_weeks 124 = .ok (.aload_n 0, 1) := by decide +kernel
theorem dX8_weeks_125 : decode cX8_weeks 125 = .ok (.getfield 47, 3) := by decide +kernel
theorem dX8_weeks_128 : decode cX8_weeks 128 = .ok (.iload_n 3, 1) := by decide +kernel
theorem dX8_weeks_129 : decode cX8_weeks 129 = .ok (.aload_n 0, 1) := by decide +kernel
theorem dX8_weeks_130 : decode cX8_weeks 130 = .ok (.getfield 74, 3) := by decide +kernel
theorem dX8_weeks_133 : decode cX8_weeks 133 = .ok (.iload_n 3, 1) := by decide +kernel
theorem dX8_weeks_134 : decode cX8_weeks 134 = .ok (.iaload, 1) := by decide +kernel
theorem dX8_weeks_135 : decode cX8_weeks 135 = .ok (.iastore, 1) := by decide +kernel
theorem dX8_weeks_136 : decode cX8_weeks 136 = .ok (.iinc 3 1, 3) := by decide +kernel
theorem dX8_weeks_139 : decode cX8_weeks 139 = .ok (.goto (-28), 3) := by decide +kernel
theorem dX8_weeks_142 : decode cX8_weeks 142 = .ok (.iinc 2 1, 3) := by decide +kernel
theorem dX8_weeks_145 : decode cX8_weeks 145 = .ok (.goto (-139), 3) := by decide +kernel
theorem dX8_weeks_148 : decode cX8_weeks 148 = .ok (.return_, 1) := by decide +kernel
theorem dX8_weekNow_0 : decode cX8_weekNow 0 = .ok (.aload_n 0, 1) := by decide +kernel
theorem dX8_weekNow_1 : decode cX8_weekNow 1 = .ok (.iload_n 1, 1) := by decide +kernel
theorem dX8_weekNow_2 : decode cX8_weekNow 2 = .ok (.invokevirtual 243, 3) := by decide +kernel
theorem dX8_weekNow_5 : decode cX8_weekNow 5 = .ok (.aload_n 0, 1) := by decide +kernel
theorem dX8_weekNow_6 : decode cX8_weekNow 6 = .ok (.getfield 71, 3) := by decide +kernel
theorem dX8_weekNow_9 : decode cX8_weekNow 9 = .ok (.iload_n 1, 1) := by decide +kernel
theorem dX8_weekNow_10 : decode cX8_weekNow 10 = .ok (.iaload, 1) := by decide +kernel
theorem dX8_weekNow_11 : decode cX8_weekNow 11 = .ok (.ireturn, 1) := by decide +kernel
theorem dX8_week_0 : decode cX8_week 0 = .ok (.iload_n 1, 1) := by decide +kernel
theorem dX8_week_1 : decode cX8_week 1 = .ok (.iconst 0, 1) := by decide +kernel
theorem dX8_week_2 : decode cX8_week 2 = .ok (.bipush 60, 2) := by decide +kernel
theorem dX8_week_4 : decode cX8_week 4 = .ok (.invokestatic 95, 3) := by decide +kernel
theorem dX8_week_7 : decode cX8_week 7 = .ok (.ifCond .eq 11, 3) := by decide +kernel
theorem dX8_week_10 : decode cX8_week 10 = .ok (.aload_n 0, 1) := by decide +kernel
theorem dX8_week_11 : decode cX8_week 11 = .ok (.iload_n 1, 1) := by decide +kernel
theorem dX8_week_12 : decode cX8_week 12 = .ok (.invokevirtual 246, 3) := by decide +kernel
theorem dX8_week_15 : decode cX8_week 15 = .ok (.goto 5, 3) := by decide +kernel
theorem dX8_week_18 : decode cX8_week 18 = .ok (.bipush (-2), 2) := by decide +kernel
theorem dX8_week_20 : decode cX8_week 20 = .ok (.ireturn, 1) := by decide +kernel
theorem dX8_isSameWeek_0 : decode cX8_isSameWeek 0 = .ok (.iconst 0, 1) := by decide +kernel
theorem dX8_isSameWeek_1 : decode cX8_isSameWeek 1 = .ok (.istore_n 3, 1) := by decide +kernel
theorem dX8_isSameWeek_2 : decode cX8_isSameWeek 2 = .ok (.iload_n 3, 1) := by decide +kernel
theorem dX8_isSameWeek_3 : decode cX8_isSameWeek 3 = .ok (.aload_n 0, 1) := by decide +kernel
theorem dX8_isSameWeek_4 : decode cX8_isSameWeek 4 = .ok (.getfield 99, 3) := by decide +kernel
theorem dX8_isSameWeek_7 : decode cX8_isSameWeek 7 = .ok (.if_icmp .ge 36, 3) := by decide +kernel
theorem dX8_isSameWeek_10 : decode cX8_isSameWeek 10 = .ok (.aload_n 0, 1) := by decide +kernel
theorem dX8_isSameWeek_11 : decode cX8_isSameWeek 11 = .ok (.getfield 68, 3) := by decide +kernel
theorem dX8_isSameWeek_14 : decode cX8_isSameWeek 14 = .ok (.bipush 8, 2) := by decide +kernel
theorem dX8_isSameWeek_16 : decode cX8_isSameWeek 16 = .ok (.iload_n 1, 1) := by decide +kernel
theorem dX8_isSameWeek_17 : decode cX8_isSameWeek 17 = .ok (.imul, 1) := by decide +kernel
theorem dX8_isSameWeek_18 : decode cX8_isSameWeek 18 = .ok (.iload_n 3, 1) := by decide +kernel
theorem dX8_isSameWeek_19 : decode cX8_isSameWeek 19 = .ok (.iadd, 1) := by decide +kernel
theorem dX8_isSameWeek_20 : decode cX8_isSameWeek 20 = .ok (.iaload, 1) := by decide +kernel
theorem dX8_isSameWeek_21 : decode cX8_isSameWeek 21 = .ok (.aload_n 0, 1) := by decide +kernel
theorem dX8_isSameWeek_22 : decode cX8_isSameWeek 22 = .ok (.getfield 68, 3) := by decide +kernel
theorem dX8_isSameWeek_25 : decode cX8_isSameWeek 25 = .ok (.bipush 8, 2) := by decide +kernel
theorem dX8_isSameWeek_27 : decode cX8_isSameWeek 27 = .ok (.iload_n 2, 1) := by decide +kernel
theorem dX8_isSameWeek_28 : decode cX8_isSameWeek 28 = .ok (.imul, 1) := by decide +kernel
theorem dX8_isSameWeek_29 : decode cX8_isSameWeek 29 = .ok (.iload_n 3, 1) := by decide +kernel
theorem dX8_isSameWeek_30 : decode cX8_isSameWeek 30 = .ok (.iadd, 1) := by decide +kernel
theorem dX8_isSameWeek_31 : decode cX8_isSameWeek 31 = .ok (.iaload, 1) := by decide +kernel
theorem dX8_isSameWeek_32 : decode cX8_isSameWeek 32 = .ok (.if_icmp .eq 5, 3) := by decide +kernel
theorem dX8_isSameWeek_35 : decode cX8_isSameWeek 35 = .ok (.iconst 0, 1) := by decide +kernel
theorem dX8_isSameWeek_36 : decode cX8_isSameWeek 36 = .ok (.ireturn, 1) := by decide +kernel
theorem dX8_isSameWeek_37 : decode cX8_isSameWeek 37 = .ok (.iinc 3 1, 3) := by decide +kernel
theorem dX8_isSameWeek_40 : decode cX8_isSameWeek 40 = .ok (.goto (-38), 3) := by decide +kernel
theorem dX8_isSameWeek_43 : decode cX8_isSameWeek 43 = .ok (.iconst 1, 1) := by decide +kernel
theorem dX8_isSameWeek_44 : decode cX8_isSameWeek 44 = .ok (.ireturn, 1) := by decide +kernel
theorem dX8_round_0 : decode cX8_round 0 = .ok (.iload_n 1, 1) := by decide +kernel
theorem dX8_round_1 : decode cX8_round 1 = .ok (.iconst 0, 1) := by decide +kernel
theorem dX8_round_2 : decode cX8_round 2 = .ok (.iconst 1, 1) := by decide +kernel
theorem dX8_round_3 : decode cX8_round 3 = .ok (.invokestatic 95, 3) := by decide +kernel
theorem dX8_round_6 : decode cX8_round 6 = .ok (.ifCond .ne 6, 3) := by decide +kernel
theorem dX8_round_9 : decode cX8_round 9 = .ok (.bipush (-2), 2) := by decide +kernel
theorem dX8_round_11 : decode cX8_round 11 = .ok (.ireturn, 1) := by decide +kernel
theorem dX8_round_12 : decode cX8_round 12 = .ok (.aload_n 0, 1) := by decide +kernel
theorem dX8_round_13 : decode cX8_round 13 = .ok (.bipush 60, 2) := by decide +kernel
theorem dX8_round_15 : decode cX8_round 15 = .ok (.invokevirtual 243, 3) := by decide +kernel
theorem dX8_round_18 : decode cX8_round 18 = .ok (.iconst 0, 1) := by decide +kernel
theorem dX8_round_19 : decode cX8_round 19 = .ok (.istore_n 2, 1) := by decide +kernel
theorem dX8_round_20 : decode cX8_round 20 = .ok (.iload_n 2, 1) := by decide +kernel
theorem dX8_round_21 : decode cX8_round 21 = .ok (.bipush 60, 2) := by decide +kernel
theorem dX8_round_23 : decode cX8_round 23 = .ok (.if_icmp .ge 46, 3) := by decide +kernel
theorem dX8_round_26 : decode cX8_round 26 = .ok (.iload_n 2, 1) := by decide +kernel
theorem dX8_round_27 : decode cX8_round 27 = .ok (.iconst 1, 1) := by decide +kernel
theorem dX8_round_28 : decode cX8_round 28 = .ok (.iadd, 1) := by decide +kernel
theorem dX8_round_29 : decode cX8_round 29 = .ok (.istore_n 3, 1) := by decide +kernel
theorem dX8_round_30 : decode cX8_round 30 = .ok (.iload_n 3, 1) := by decide +kernel
theorem dX8_round_31 : decode cX8_round 31 = .ok (.bipush 60, 2) := by decide +kernel
theorem dX8_round_33 : decode cX8_round 33 = .ok (.if_icmp .gt 30, 3) := by decide +kernel
theorem dX8_round_36 : decode cX8_round 36 = .ok (.aload_n 0, 1) := by decide +kernel
theorem dX8_round_37 : decode cX8_round 37 = .ok (.iload_n 2, 1) := by decide +kernel
theorem dX8_round_38 : decode cX8_round 38 = .ok (.iload_n 3, 1) := by decide +kernel
theorem dX8_round_39 : decode cX8_round 39 = .ok (.invokevirtual 249, 3) := by decide +kernel
theorem dX8_round_42 : decode cX8_round 42 = .ok (.ifCond .eq 15, 3) := by decide +kernel
theorem dX8_round_45 : decode cX8_round 45 = .ok (.iload_n 1, 1) := by decide +kernel
theorem dX8_round_46 : decode cX8_round 46 = .ok (.ifCond .ne 7, 3) := by decide +kernel
theorem dX8_round_49 : decode cX8_round 49 = .ok (.iload_n 2, 1) := by decide +kernel
theorem dX8_round_50 : decode cX8_round 50 = .ok (.goto 6, 3) := by decide +kernel
theorem dX8_round_53 : decode cX8_round 53 = .ok (.iload_n 3, 1) := by decide +kernel
theorem dX8_round_54 : decode cX8_round 54 = .ok (.iload_n 2, 1) := by decide +kernel
theorem dX8_round_55 : decode cX8_round 55 = .ok (.isub, 1) := by decide +kernel
theorem dX8_round_56 : decode cX8_round 56 = .ok (.ireturn, 1) := by decide +kernel
theorem dX8_round_57 : decode cX8_round 57 = .ok (.iinc 3 1, 3) := by decide +kernel
theorem dX8_round_60 : decode cX8_round 60 = .ok (.goto (-30), 3) := by decide +kernel
theorem dX8_round_63 : decode cX8_round 63 = .ok (.iinc 2 1, 3) := by decide +kernel
theorem dX8_round_66 : decode cX8_round 66 = .ok (.goto (-46), 3) := by decide +kernel
theorem dX8_round_69 : decode cX8_round 69 = .ok (.iconst (-1), 1) := by decide +kernel
theorem dX8_round_70 : decode cX8_round 70 = .ok (.ireturn, 1) := by decide +kernel
theorem dX8_moved_0 : decode cX8_moved 0 = .ok (.iload_n 1, 1) := by decide +kernel
theorem dX8_moved_1 : decode cX8_moved 1 = .ok (.iconst 0, 1) := by decide +kernel
theorem dX8_moved_2 : decode cX8_moved 2 = .ok (.bipush 59, 2) := by decide +kernel
theorem dX8_moved_4 : decode cX8_moved 4 = .ok (.invokestatic 95, 3) := by decide +kernel
theorem dX8_moved_7 : decode cX8_moved 7 = .ok (.ifCond .ne 6, 3) := by decide +kernel
theorem dX8_moved_10 : decode cX8_moved 10 = .ok (.bipush (-2), 2) := by decide +kernel
theorem dX8_moved_12 : decode cX8_moved 12 = .ok (.ireturn, 1) := by decide +kernel
theorem dX8_moved_13 : decode cX8_moved 13 = .ok (.iconst (-1), 1) := by decide +kernel
theorem dX8_moved_14 : decode cX8_moved 14 = .ok (.istore_n 2, 1) := by decide +kernel
theorem dX8_moved_15 : decode cX8_moved 15 = .ok (.iconst 0, 1) := by decide +kernel
theorem dX8_moved_16 : decode cX8_moved 16 = .ok (.istore_n 3, 1) := by decide +kernel
theorem dX8_moved_17 : decode cX8_moved 17 = .ok (.iconst 0, 1) := by decide +kernel
theorem dX8_moved_18 : decode cX8_moved 18 = .ok (.istore 4, 2) := by decide +kernel
theorem dX8_moved_20 : decode cX8_moved 20 = .ok (.iload 4, 2) := by decide +kernel
theorem dX8_moved_22 : decode cX8_moved 22 = .ok (.bipush 60, 2) := by decide +kernel
theorem dX8_moved_24 : decode cX8_moved 24 = .ok (.if_icmp .ge 89, 3) := by decide +kernel
theorem dX8_moved_27 : decode cX8_moved 27 = .ok (.aload_n 0, 1) := by decide +kernel
theorem dX8_moved_28 : decode cX8_moved 28 = .ok (.invokevirtual 190, 3) := by decide +kernel
theorem dX8_moved_31 : decode cX8_moved 31 = .ok (.aload_n 0, 1) := by decide +kernel
theorem dX8_moved_32 : decode cX8_moved 32 = .ok (.iload 4, 2) := by decide +kernel
theorem dX8_moved_34 : decode cX8_moved 34 = .ok (.putfield 157, 3) := by decide +kernel
theorem dX8_moved_37 : decode cX8_moved 37 = .ok (.aload_n 0, 1) := by decide +kernel
theorem dX8_moved_38 : decode cX8_moved 38 = .ok (.iconst 0, 1) := by decide +kernel
theorem dX8_moved_39 : decode cX8_moved 39 = .ok (.invokevirtual 206, 3) := by decide +kernel
theorem dX8_moved_42 : decode cX8_moved 42 = .ok (.ifCond .eq 10, 3) := by decide +kernel
theorem dX8_moved_45 : decode cX8_moved 45 = .ok (.aload_n 0, 1) := by decide +kernel
theorem dX8_moved_46 : decode cX8_moved 46 = .ok (.getfield 178, 3) := by decide +kernel
theorem dX8_moved_49 : decode cX8_moved 49 = .ok (.goto 5, 3) := by decide +kernel
theorem dX8_moved_52 : decode cX8_moved 52 = .ok (.bipush 60, 2) := by decide +kernel
theorem dX8_moved_54 : decode cX8_moved 54 = .ok (.istore 5, 2) := by decide +kernel
theorem dX8_moved_56 : decode cX8_moved 56 = .ok (.iload 5, 2) := by decide +kernel
theorem dX8_moved_58 : decode cX8_moved 58 = .ok (.iload_n 1, 1) := by decide +kernel
theorem dX8_moved_59 : decode cX8_moved 59 = .ok (.isub, 1) := by decide +kernel
theorem dX8_moved_60 : decode cX8_moved 60 = .ok (.invokestatic 253, 3) := by decide +kernel
theorem dX8_moved_63 : decode cX8_moved 63 = .ok (.istore 6, 2) := by decide +kernel
theorem dX8_moved_65 : decode cX8_moved 65 = .ok (.iload_n 2, 1) := by decide +kernel
theorem dX8_moved_66 : decode cX8_moved 66 = .ok (.iconst (-1), 1) := by decide +kernel
theorem dX8_moved_67 : decode cX8_moved 67 = .ok (.if_icmp .eq 9, 3) := by decide +kernel
theorem dX8_moved_70 : decode cX8_moved 70 = .ok (.iload 6, 2) := by decide +kernel
theorem dX8_moved_72 : decode cX8_moved 72 = .ok (.iload_n 3, 1) := by decide +kernel
theorem dX8_moved_73 : decode cX8_moved 73 = .ok (.if_icmp .ge 7, 3) := by decide +kernel
theorem dX8_moved_76 : decode cX8_moved 76 = .ok (.iconst 1, 1) := by decide +kernel
theorem dX8_moved_77 : decode cX8_moved 77 = .ok (.goto 4, 3) := by decide +kernel
theorem dX8_moved_80 : decode cX8_moved 80 = .ok (.iconst 0, 1) := by decide +kernel
theorem dX8_moved_81 : decode cX8_moved 81 = .ok (.istore 7, 2) := by decide +kernel
theorem dX8_moved_83 : decode cX8_moved 83 = .ok (.iload 7, 2) := by decide +kernel
theorem dX8_moved_85 : decode cX8_moved 85 = .ok (.ifCond .eq 8, 3) := by decide +kernel
theorem dX8_moved_88 : decode cX8_moved 88 = .ok (.iload 4, 2) := by decide +kernel
theorem dX8_moved_90 : decode cX8_moved 90 = .ok (.goto 4, 3) := by decide +kernel
theorem dX8_moved_93 : decode cX8_moved 93 = .ok (.iload_n 2, 1) := by decide +kernel
theorem dX8_moved_94 : decode cX8_moved 94 = .ok (.istore_n 2, 1) := by decide +kernel
theorem dX8_moved_95 : decode cX8_moved 95 = .ok (.iload 7, 2) := by decide +kernel
theorem dX8_moved_97 : decode cX8_moved 97 = .ok (.ifCond .eq 8, 3) := by decide +kernel
theorem dX8_moved_100 : decode cX8_moved 100 = .ok (.iload 6, 2) := by decide +kernel
theorem dX8_moved_102 : decode cX8_moved 102 = .ok (.goto 4, 3) := by decide +kernel
theorem dX8_moved_105 : decode cX8_moved 105 = .ok (.iload_n 3, 1) := by decide +kernel
theorem dX8_moved_106 : decode cX8_moved 106 = .ok (.istore_n 3, 1) := by decide +kernel
theorem dX8_moved_107 : decode cX8_moved 107 = .ok (.iinc 4 1, 3) := by decide +kernel
theorem dX8_moved_110 : decode cX8_moved 110 = .ok (.goto (-90), 3) := by decide +kernel
theorem dX8_moved_113 : decode cX8_moved 113 = .ok (.iload_n 2, 1) := by decide +kernel
theorem dX8_moved_114 : decode cX8_moved 114 = .ok (.ireturn, 1) := by decide +kernel
theorem dX8_least_0 : decode cX8_least 0 = .ok (.iconst 0, 1) := by decide +kernel
theorem dX8_least_1 : decode cX8_least 1 = .ok (.istore_n 2, 1) := by decide +kernel
theorem dX8_least_2 : decode cX8_least 2 = .ok (.iload_n 2, 1) := by decide +kernel
theorem dX8_least_3 : decode cX8_least 3 = .ok (.bipush 40, 2) := by decide +kernel
theorem dX8_least_5 : decode cX8_least 5 = .ok (.if_icmp .gt 66, 3) := by decide +kernel
theorem dX8_least_8 : decode cX8_least 8 = .ok (.aload_n 0, 1) := by decide +kernel
theorem dX8_least_9 : decode cX8_least 9 = .ok (.invokevirtual 190, 3) := by decide +kernel
theorem dX8_least_12 : decode cX8_least 12 = .ok (.aload_n 0, 1) := by decide +kernel
theorem dX8_least_13 : decode cX8_least 13 = .ok (.iload_n 1, 1) := by decide +kernel
theorem dX8_least_14 : decode cX8_least 14 = .ok (.ifCond .eq 10, 3) := by decide +kernel
theorem dX8_least_17 : decode cX8_least 17 = .ok (.aload_n 0, 1) := by decide +kernel
theorem dX8_least_18 : decode cX8_least 18 = .ok (.getfield 160, 3) := by decide +kernel
theorem dX8_least_21 : decode cX8_least 21 = .ok (.goto 4, 3) := by decide +kernel
theorem dX8_least_24 : decode cX8_least 24 = .ok (.iload_n 2, 1) := by decide +kernel
theorem dX8_least_25 : decode cX8_least 25 = .ok (.putfield 160, 3) := by decide +kernel
theorem dX8_least_28 : decode cX8_least 28 = .ok (.aload_n 0, 1) := by decide +kernel
theorem dX8_least_29 : decode cX8_least 29 = .ok (.iload_n 1, 1) := by decide +kernel
theorem dX8_least_30 : decode cX8_least 30 = .ok (.ifCond .eq 7, 3) := by decide +kernel
theorem dX8_least_33 : decode cX8_least 33 = .ok (.iload_n 2, 1) := by decide +kernel
theorem dX8_least_34 : decode cX8_least 34 = .ok (.goto 7, 3) := by decide +kernel
theorem dX8_least_37 : decode cX8_least 37 = .ok (.aload_n 0, 1) := by decide +kernel
theorem dX8_least_38 : decode cX8_least 38 = .ok (.getfield 163, 3) := by decide +kernel
theorem dX8_least_41 : decode cX8_least 41 = .ok (.putfield 163, 3) := by decide +kernel
theorem dX8_least_44 : decode cX8_least 44 = .ok (.aload_n 0, 1) := by decide +kernel
theorem dX8_least_45 : decode cX8_least 45 = .ok (.iconst 1, 1) := by decide +kernel
theorem dX8_least_46 : decode cX8_least 46 = .ok (.invokevirtual 206, 3) := by decide +kernel
theorem dX8_least_49 : decode cX8_least 49 = .ok (.ifCond .eq 16, 3) := by decide +kernel
theorem dX8_least_52 : decode cX8_least 52 = .ok (.aload_n 0, 1) := by decide +kernel
theorem dX8_least_53 : decode cX8_least 53 = .ok (.getfield 178, 3) := by decide +kernel
theorem dX8_least_56 : decode cX8_least 56 = .ok (.aload_n 0, 1) := by decide +kernel
theorem dX8_least_57 : decode cX8_least 57 = .ok (.getfield 157, 3) := by decide +kernel
theorem dX8_least_60 : decode cX8_least 60 = .ok (.if_icmp .gt 5, 3) := by decide +kernel
theorem dX8_least_63 : decode cX8_least 63 = .ok (.iload_n 2, 1) := by decide +kernel
theorem dX8_least_64 : decode cX8_least 64 = .ok (.ireturn, 1) := by decide +kernel
theorem dX8_least_65 : decode cX8_least 65 = .ok (.iinc 2 1, 3) := by decide +kernel
theorem dX8_least_68 : decode cX8_least 68 = .ok (.goto (-66), 3) := by decide +kernel
theorem dX8_least_71 : decode cX8_least 71 = .ok (.iconst (-1), 1) := by decide +kernel
theorem dX8_least_72 : decode cX8_least 72 = .ok (.ireturn, 1) := by decide +kernel
theorem dX8_keysNow_0 : decode cX8_keysNow 0 = .ok (.aload_n 0, 1) := by decide +kernel
theorem dX8_keysNow_1 : decode cX8_keysNow 1 = .ok (.invokevirtual 190, 3) := by decide +kernel
theorem dX8_keysNow_4 : decode cX8_keysNow 4 = .ok (.aload_n 0, 1) := by decide +kernel
theorem dX8_keysNow_5 : decode cX8_keysNow 5 = .ok (.invokevirtual 193, 3) := by decide +kernel
theorem dX8_keysNow_8 : decode cX8_keysNow 8 = .ok (.aload_n 0, 1) := by decide +kernel
theorem dX8_keysNow_9 : decode cX8_keysNow 9 = .ok (.getfield 178, 3) := by decide +kernel
theorem dX8_keysNow_12 : decode cX8_keysNow 12 = .ok (.istore_n 2, 1) := by decide +kernel
theorem dX8_keysNow_13 : decode cX8_keysNow 13 = .ok (.iconst 0, 1) := by decide +kernel
theorem dX8_keysNow_14 : decode cX8_keysNow 14 = .ok (.istore_n 3, 1) := by decide +kernel
theorem dX8_keysNow_15 : decode cX8_keysNow 15 = .ok (.iconst 0, 1) := by decide +kernel
theorem dX8_keysNow_16 : decode cX8_keysNow 16 = .ok (.istore 4, 2) := by decide +kernel
theorem dX8_keysNow_18 : decode cX8_keysNow 18 = .ok (.iload 4, 2) := by decide +kernel
theorem dX8_keysNow_20 : decode cX8_keysNow 20 = .ok (.aload_n 0, 1) := by decide +kernel
theorem dX8_keysNow_21 : decode cX8_keysNow 21 = .ok (.getfield 99, 3) := by decide +kernel
theorem dX8_keysNow_24 : decode cX8_keysNow 24 = .ok (.if_icmp .ge 81, 3) := by decide +kernel
theorem dX8_keysNow_27 : decode cX8_keysNow 27 = .ok (.iload_n 2, 1) := by decide +kernel
theorem dX8_keysNow_28 : decode cX8_keysNow 28 = .ok (.bipush 60, 2) := by decide +kernel
theorem dX8_keysNow_30 : decode cX8_keysNow 30 = .ok (.if_icmp .ge 75, 3) := by decide +kernel
theorem dX8_keysNow_33 : decode cX8_keysNow 33 = .ok (.iload_n 1, 1) := by decide +kernel
theorem dX8_keysNow_34 : decode cX8_keysNow 34 = .ok (.ifCond .ne 43, 3) := by decide +kernel
theorem dX8_keysNow_37 : decode cX8_keysNow 37 = .ok (.aload_n 0, 1) := by decide +kernel
theorem dX8_keysNow_38 : decode cX8_keysNow 38 = .ok (.iconst 1, 1) := by decide +kernel
theorem dX8_keysNow_39 : decode cX8_keysNow 39 = .ok (.iload 4, 2) := by decide +kernel
theorem dX8_keysNow_41 : decode cX8_keysNow 41 = .ok (.ishl, 1) := by decide +kernel
theorem dX8_keysNow_42 : decode cX8_keysNow 42 = .ok (.putfield 169, 3) := by decide +kernel
theorem dX8_keysNow_45 : decode cX8_keysNow 45 = .ok (.aload_n 0, 1) := by decide +kernel
theorem dX8_keysNow_46 : decode cX8_keysNow 46 = .ok (.invokevirtual 193, 3) := by decide +kernel
theorem dX8_keysNow_49 : decode cX8_keysNow 49 = .ok (.iload_n 3, 1) := by decide +kernel
theorem dX8_keysNow_50 : decode cX8_keysNow 50 = .ok (.aload_n 0, 1) := by decide +kernel
theorem dX8_keysNow_51 : decode cX8_keysNow 51 = .ok (.getfield 178, 3) := by decide +kernel
theorem dX8_keysNow_54 : decode cX8_keysNow 54 = .ok (.bipush 60, 2) := by decide +kernel
theorem dX8_keysNow_56 : decode cX8_keysNow 56 = .ok (.if_icmp .ne 10, 3) := by decide +kernel
theorem dX8_keysNow_59 : decode cX8_keysNow 59 = .ok (.iconst 1, 1) := by decide +kernel
theorem dX8_keysNow_60 : decode cX8_keysNow 60 = .ok (.iload 4, 2) := by decide +kernel
theorem dX8_keysNow_62 : decode cX8_keysNow 62 = .ok (.ishl, 1) := by decide +kernel
theorem dX8_keysNow_63 : decode cX8_keysNow 63 = .ok (.goto 4, 3) := by decide +kernel
theorem dX8_keysNow_66 : decode cX8_keysNow 66 = .ok (.iconst 0, 1) := by decide +kernel
theorem dX8_keysNow_67 : decode cX8_keysNow 67 = .ok (.ior, 1) := by decide +kernel
theorem dX8_keysNow_68 : decode cX8_keysNow 68 = .ok (.istore_n 3, 1) := by decide +kernel
theorem dX8_keysNow_69 : decode cX8_keysNow 69 = .ok (.aload_n 0, 1) := by decide +kernel
theorem dX8_keysNow_70 : decode cX8_keysNow 70 = .ok (.iconst 0, 1) := by decide +kernel
theorem dX8_keysNow_71 : decode cX8_keysNow 71 = .ok (.putfield 169, 3) := by decide +kernel
theorem dX8_keysNow_74 : decode cX8_keysNow 74 = .ok (.goto 25, 3) := by decide +kernel
theorem dX8_keysNow_77 : decode cX8_keysNow 77 = .ok (.iload_n 3, 1) := by decide +kernel
theorem dX8_keysNow_78 : decode cX8_keysNow 78 = .ok (.aload_n 0, 1) := by decide +kernel
theorem dX8_keysNow_79 : decode cX8_keysNow 79 = .ok (.getfield 50, 3) := by decide +kernel
theorem dX8_keysNow_82 : decode cX8_keysNow 82 = .ok (.iload 4, 2) := by decide +kernel
theorem dX8_keysNow_84 : decode cX8_keysNow 84 = .ok (.iaload, 1) := by decide +kernel
theorem dX8_keysNow_85 : decode cX8_keysNow 85 = .ok (.iload_n 2, 1) := by decide +kernel
theorem dX8_keysNow_86 : decode cX8_keysNow 86 = .ok (.if_icmp .ne 10, 3) := by decide +kernel
theorem dX8_keysNow_89 : decode cX8_keysNow 89 = .ok (.iconst 1, 1) := by decide +kernel
theorem dX8_keysNow_90 : decode cX8_keysNow 90 = .ok (.iload 4, 2) := by decide +kernel
theorem dX8_keysNow_92 : decode cX8_keysNow 92 = .ok (.ishl, 1) := by decide +kernel
theorem dX8_keysNow_93 : decode cX8_keysNow 93 = .ok (.goto 4, 3) := by decide +kernel
theorem dX8_keysNow_96 : decode cX8_keysNow 96 = .ok (.iconst 0, 1) := by decide +kernel
theorem dX8_keysNow_97 : decode cX8_keysNow 97 = .ok (.ior, 1) := by decide +kernel
theorem dX8_keysNow_98 : decode cX8_keysNow 98 = .ok (.istore_n 3, 1) := by decide +kernel
theorem dX8_keysNow_99 : decode cX8_keysNow 99 = .ok (.iinc 4 1, 3) := by decide +kernel
theorem dX8_keysNow_102 : decode cX8_keysNow 102 = .ok (.goto (-84), 3) := by decide +kernel
theorem dX8_keysNow_105 : decode cX8_keysNow 105 = .ok (.iload_n 3, 1) := by decide +kernel
theorem dX8_keysNow_106 : decode cX8_keysNow 106 = .ok (.ireturn, 1) := by decide +kernel
theorem dX8_keys_0 : decode cX8_keys 0 = .ok (.iload_n 1, 1) := by decide +kernel
theorem dX8_keys_1 : decode cX8_keys 1 = .ok (.iconst 0, 1) := by decide +kernel
theorem dX8_keys_2 : decode cX8_keys 2 = .ok (.iconst 1, 1) := by decide +kernel
theorem dX8_keys_3 : decode cX8_keys 3 = .ok (.invokestatic 95, 3) := by decide +kernel
theorem dX8_keys_6 : decode cX8_keys 6 = .ok (.ifCond .eq 11, 3) := by decide +kernel
theorem dX8_keys_9 : decode cX8_keys 9 = .ok (.aload_n 0, 1) := by decide +kernel
theorem dX8_keys_10 : decode cX8_keys 10 = .ok (.iload_n 1, 1) := by decide +kernel
theorem dX8_keys_11 : decode cX8_keys 11 = .ok (.invokevirtual 256, 3) := by decide +kernel
theorem dX8_keys_14 : decode cX8_keys 14 = .ok (.goto 5, 3) := by decide +kernel
theorem dX8_keys_17 : decode cX8_keys 17 = .ok (.bipush (-2), 2) := by decide +kernel
theorem dX8_keys_19 : decode cX8_keys 19 = .ok (.ireturn, 1) := by decide +kernel
theorem dX8_guests_0 : decode cX8_guests 0 = .ok (.iconst 0, 1) := by decide +kernel
theorem dX8_guests_1 : decode cX8_guests 1 = .ok (.istore_n 1, 1) := by decide +kernel
theorem dX8_guests_2 : decode cX8_guests 2 = .ok (.iconst 0, 1) := by decide +kernel
theorem dX8_guests_3 : decode cX8_guests 3 = .ok (.istore_n 2, 1) := by decide +kernel
theorem dX8_guests_4 : decode cX8_guests 4 = .ok (.iload_n 2, 1) := by decide +kernel
theorem dX8_guests_5 : decode cX8_guests 5 = .ok (.aload_n 0, 1) := by decide +kernel
theorem dX8_guests_6 : decode cX8_guests 6 = .ok (.getfield 99, 3) := by decide +kernel
theorem dX8_guests_9 : decode cX8_guests 9 = .ok (.if_icmp .ge 28, 3) := by decide +kernel
theorem dX8_guests_12 : decode cX8_guests 12 = .ok (.iload_n 1, 1) := by decide +kernel
theorem dX8_guests_13 : decode cX8_guests 13 = .ok (.aload_n 0, 1) := by decide +kernel
theorem dX8_guests_14 : decode cX8_guests 14 = .ok (.getfield 7, 3) := by decide +kernel
theorem dX8_guests_17 : decode cX8_guests 17 = .ok (.iload_n 2, 1) := by decide +kernel
theorem dX8_guests_18 : decode cX8_guests 18 = .ok (.iaload, 1) := by decide +kernel
theorem dX8_guests_19 : decode cX8_guests 19 = .ok (.ifCond .ne 9, 3) := by decide +kernel
theorem dX8_guests_22 : decode cX8_guests 22 = .ok (.iconst 1, 1) := by decide +kernel
theorem dX8_guests_23 : decode cX8_guests 23 = .ok (.iload_n 2, 1) := by decide +kernel
theorem dX8_guests_24 : decode cX8_guests 24 = .ok (.ishl, 1) := by decide +kernel
theorem dX8_guests_25 : decode cX8_guests 25 = .ok (.goto 4, 3) := by decide +kernel
theorem dX8_guests_28 : decode cX8_guests 28 = .ok (.iconst 0, 1) := by decide +kernel
theorem dX8_guests_29 : decode cX8_guests 29 = .ok (.ior, 1) := by decide +kernel
theorem dX8_guests_30 : decode cX8_guests 30 = .ok (.istore_n 1, 1) := by decide +kernel
theorem dX8_guests_31 : decode cX8_guests 31 = .ok (.iinc 2 1, 3) := by decide +kernel
theorem dX8_guests_34 : decode cX8_guests 34 = .ok (.goto (-30), 3) := by decide +kernel
theorem dX8_guests_37 : decode cX8_guests 37 = .ok (.iconst 0, 1) := by decide +kernel
theorem dX8_guests_38 : decode cX8_guests 38 = .ok (.istore_n 2, 1) := by decide +kernel
theorem dX8_guests_39 : decode cX8_guests 39 = .ok (.iload_n 2, 1) := by decide +kernel
theorem dX8_guests_40 : decode cX8_guests 40 = .ok (.iconst 4, 1) := by decide +kernel
theorem dX8_guests_41 : decode cX8_guests 41 = .ok (.if_icmp .ge 70, 3) := by decide +kernel
theorem dX8_guests_44 : decode cX8_guests 44 = .ok (.iconst 0, 1) := by decide +kernel
theorem dX8_guests_45 : decode cX8_guests 45 = .ok (.istore_n 3, 1) := by decide +kernel
theorem dX8_guests_46 : decode cX8_guests 46 = .ok (.iload_n 3, 1) := by decide +kernel
theorem dX8_guests_47 : decode cX8_guests 47 = .ok (.sipush 256, 3) := by decide +kernel
theorem dX8_guests_50 : decode cX8_guests 50 = .ok (.if_icmp .ge 55, 3) := by decide +kernel
theorem dX8_guests_53 : decode cX8_guests 53 = .ok (.iload_n 3, 1) := by decide +kernel
theorem dX8_guests_54 : decode cX8_guests 54 = .ok (.invokestatic 259, 3) := by decide +kernel
theorem dX8_guests_57 : decode cX8_guests 57 = .ok (.iload_n 2, 1) := by decide +kernel
theorem dX8_guests_58 : decode cX8_guests 58 = .ok (.if_icmp .ne 41, 3) := by decide +kernel
theorem dX8_guests_61 : decode cX8_guests 61 = .ok (.iload_n 3, 1) := by decide +kernel
theorem dX8_guests_62 : decode cX8_guests 62 = .ok (.iload_n 1, 1) := by decide +kernel
theorem dX8_guests_63 : decode cX8_guests 63 = .ok (.iconst (-1), 1) := by decide +kernel
theorem dX8_guests_64 : decode cX8_guests 64 = .ok (.ixor, 1) := by decide +kernel
theorem dX8_guests_65 : decode cX8_guests 65 = .ok (.iand, 1) := by decide +kernel
theorem dX8_guests_66 : decode cX8_guests 66 = .ok (.ifCond .ne 33, 3) := by decide +kernel
theorem dX8_guests_69 : decode cX8_guests 69 = .ok (.aload_n 0, 1) := by decide +kernel
theorem dX8_guests_70 : decode cX8_guests 70 = .ok (.invokevirtual 190, 3) := by decide +kernel
theorem dX8_guests_73 : decode cX8_guests 73 = .ok (.aload_n 0, 1) := by decide +kernel
theorem dX8_guests_74 : decode cX8_guests 74 = .ok (.iload_n 3, 1) := by decide +kernel
theorem dX8_guests_75 : decode cX8_guests 75 = .ok (.putfield 166, 3) := by decide +kernel
theorem dX8_guests_78 : decode cX8_guests 78 = .ok (.aload_n 0, 1) := by decide +kernel
theorem dX8_guests_79 : decode cX8_guests 79 = .ok (.iconst 1, 1) := by decide +kernel
theorem dX8_guests_80 : decode cX8_guests 80 = .ok (.invokevirtual 206, 3) := by decide +kernel
theorem dX8_guests_83 : decode cX8_guests 83 = .ok (.ifCond .eq 16, 3) := by decide +kernel
theorem dX8_guests_86 : decode cX8_guests 86 = .ok (.aload_n 0, 1) := by decide +kernel
theorem dX8_guests_87 : decode cX8_guests 87 = .ok (.getfield 178, 3) := by decide +kernel
theorem dX8_guests_90 : decode cX8_guests 90 = .ok (.aload_n 0, 1) := by decide +kernel
theorem dX8_guests_91 : decode cX8_guests 91 = .ok (.getfield 157, 3) := by decide +kernel
theorem dX8_guests_94 : decode cX8_guests 94 = .ok (.if_icmp .gt 5, 3) := by decide +kernel
theorem dX8_guests_97 : decode cX8_guests 97 = .ok (.iload_n 3, 1) := by decide +kernel
theorem dX8_guests_98 : decode cX8_guests 98 = .ok (.ireturn, 1) := by decide +kernel
theorem dX8_guests_99 : decode cX8_guests 99 = .ok (.iinc 3 1, 3) := by decide +kernel
theorem dX8_guests_102 : decode cX8_guests 102 = .ok (.goto (-56), 3) := by decide +kernel
theorem dX8_guests_105 : decode cX8_guests 105 = .ok (.iinc 2 1, 3) := by decide +kernel
theorem dX8_guests_108 : decode cX8_guests 108 = .ok (.goto (-69), 3) := by decide +kernel
theorem dX8_guests_111 : decode cX8_guests 111 = .ok (.iconst (-1), 1) := by decide +kernel
theorem dX8_guests_112 : decode cX8_guests 112 = .ok (.ireturn, 1) := by decide +kernel
theorem dX8_roads_0 : decode cX8_roads 0 = .ok (.aload_n 0, 1) := by decide +kernel
theorem dX8_roads_1 : decode cX8_roads 1 = .ok (.iconst 0, 1) := by decide +kernel
theorem dX8_roads_2 : decode cX8_roads 2 = .ok (.putfield 262, 3) := by decide +kernel
theorem dX8_roads_5 : decode cX8_roads 5 = .ok (.iconst 0, 1) := by decide +kernel
theorem dX8_roads_6 : decode cX8_roads 6 = .ok (.istore_n 1, 1) := by decide +kernel
theorem dX8_roads_7 : decode cX8_roads 7 = .ok (.iload_n 1, 1) := by decide +kernel
theorem dX8_roads_8 : decode cX8_roads 8 = .ok (.aload_n 0, 1) := by decide +kernel
theorem dX8_roads_9 : decode cX8_roads 9 = .ok (.getfield 99, 3) := by decide +kernel
theorem dX8_roads_12 : decode cX8_roads 12 = .ok (.if_icmp .ge 48, 3) := by decide +kernel
theorem dX8_roads_15 : decode cX8_roads 15 = .ok (.aload_n 0, 1) := by decide +kernel
theorem dX8_roads_16 : decode cX8_roads 16 = .ok (.getfield 7, 3) := by decide +kernel
theorem dX8_roads_19 : decode cX8_roads 19 = .ok (.iload_n 1, 1) := by decide +kernel
theorem dX8_roads_20 : decode cX8_roads 20 = .ok (.iaload, 1) := by decide +kernel
theorem dX8_roads_21 : decode cX8_roads 21 = .ok (.iconst 2, 1) := by decide +kernel
theorem dX8_roads_22 : decode cX8_roads 22 = .ok (.if_icmp .eq 32, 3) := by decide +kernel
theorem dX8_roads_25 : decode cX8_roads 25 = .ok (.aload_n 0, 1) := by decide +kernel
theorem dX8_roads_26 : decode cX8_roads 26 = .ok (.getfield 28, 3) := by decide +kernel
theorem dX8_roads_29 : decode cX8_roads 29 = .ok (.iload_n 1, 1) := by decide +kernel
theorem dX8_roads_30 : decode cX8_roads 30 = .ok (.iaload, 1) := by decide +kernel
theorem dX8_roads_31 : decode cX8_roads 31 = .ok (.ifCond .le 23, 3) := by decide +kernel
theorem dX8_roads_34 : decode cX8_roads 34 = .ok (.aload_n 0, 1) := by decide +kernel
theorem dX8_roads_35 : decode cX8_roads 35 = .ok (.getfield 77, 3) := by decide +kernel
theorem dX8_roads_38 : decode cX8_roads 38 = .ok (.aload_n 0, 1) := by decide +kernel
theorem dX8_roads_39 : decode cX8_roads 39 = .ok (.getfield 262, 3) := by decide +kernel
theorem dX8_roads_42 : decode cX8_roads 42 = .ok (.iload_n 1, 1) := by decide +kernel
theorem dX8_roads_43 : decode cX8_roads 43 = .ok (.iastore, 1) := by decide +kernel
theorem dX8_roads_44 : decode cX8_roads 44 = .ok (.aload_n 0, 1) := by decide +kernel
theorem dX8_roads_45 : decode cX8_roads 45 = .ok (.dup, 1) := by decide +kernel
theorem dX8_roads_46 : decode cX8_roads 46 = .ok (.getfield 262, 3) := by decide +kernel
theorem dX8_roads_49 : decode cX8_roads 49 = .ok (.iconst 1, 1) := by decide +kernel
theorem dX8_roads_50 : decode cX8_roads 50 = .ok (.iadd, 1) := by decide +kernel
theorem dX8_roads_51 : decode cX8_roads 51 = .ok (.putfield 262, 3) := by decide +kernel
theorem dX8_roads_54 : decode cX8_roads 54 = .ok (.iinc 1 1, 3) := by decide +kernel
theorem dX8_roads_57 : decode cX8_roads 57 = .ok (.goto (-50), 3) := by decide +kernel
theorem dX8_roads_60 : decode cX8_roads 60 = .ok (.return_, 1) := by decide +kernel
theorem dX8_takes_0 : decode cX8_takes 0 = .ok (.lconst 1, 1) := by decide +kernel
theorem dX8_takes_1 : decode cX8_takes 1 = .ok (.lstore_n 2, 1) := by decide +kernel
theorem dX8_takes_2 : decode cX8_takes 2 = .ok (.aload_n 0, 1) := by decide +kernel
theorem dX8_takes_3 : decode cX8_takes 3 = .ok (.iconst 0, 1) := by decide +kernel
theorem dX8_takes_4 : decode cX8_takes 4 = .ok (.putfield 172, 3) := by decide +kernel
theorem dX8_takes_7 : decode cX8_takes 7 = .ok (.iconst 0, 1) := by decide +kernel
theorem dX8_takes_8 : decode cX8_takes 8 = .ok (.istore 4, 2) := by decide +kernel
theorem dX8_takes_10 : decode cX8_takes 10 = .ok (.iload 4, 2) := by decide +kernel
theorem dX8_takes_12 : decode cX8_takes 12 = .ok (.aload_n 0, 1) := by decide +kernel
theorem dX8_takes_13 : decode cX8_takes 13 = .ok (.getfield 262, 3) := by decide +kernel
theorem dX8_takes_16 : decode cX8_takes 16 = .ok (.if_icmp .ge 93, 3) := by decide +kernel
theorem dX8_takes_19 : decode cX8_takes 19 = .ok (.iload_n 1, 1) := by decide +kernel
theorem dX8_takes_20 : decode cX8_takes 20 = .ok (.iload 4, 2) := by decide +kernel
theorem dX8_takes_22 : decode cX8_takes 22 = .ok (.ishr, 1) := by decide +kernel
theorem dX8_takes_23 : decode cX8_takes 23 = .ok (.iconst 1, 1) := by decide +kernel
theorem dX8_takes_24 : decode cX8_takes 24 = .ok (.iand, 1) := by decide +kernel
theorem dX8_takes_25 : decode cX8_takes 25 = .ok (.iconst 1, 1) := by decide +kernel
theorem dX8_takes_26 : decode cX8_takes 26 = .ok (.if_icmp .ne 7, 3) := by decide +kernel
theorem dX8_takes_29 : decode cX8_takes 29 = .ok (.iconst 1, 1) := by decide +kernel
theorem dX8_takes_30 : decode cX8_takes 30 = .ok (.goto 4, 3) := by decide +kernel
theorem dX8_takes_33 : decode cX8_takes 33 = .ok (.iconst 0, 1) := by decide +kernel
theorem dX8_takes_34 : decode cX8_takes 34 = .ok (.istore 5, 2) := by decide +kernel
theorem dX8_takes_36 : decode cX8_takes 36 = .ok (.lload_n 2, 1) := by decide +kernel
theorem dX8_takes_37 : decode cX8_takes 37 = .ok (.iload 5, 2) := by decide +kernel
theorem dX8_takes_39 : decode cX8_takes 39 = .ok (.ifCond .eq 19, 3) := by decide +kernel
theorem dX8_takes_42 : decode cX8_takes 42 = .ok (.aload_n 0, 1) := by decide +kernel
theorem dX8_takes_43 : decode cX8_takes 43 = .ok (.getfield 28, 3) := by decide +kernel
theorem dX8_takes_46 : decode cX8_takes 46 = .ok (.aload_n 0, 1) := by decide +kernel
theorem dX8_takes_47 : decode cX8_takes 47 = .ok (.getfield 77, 3) := by decide +kernel
theorem dX8_takes_50 : decode cX8_takes 50 = .ok (.iload 4, 2) := by decide +kernel
theorem dX8_takes_52 : decode cX8_takes 52 = .ok (.iaload, 1) := by decide +kernel
theorem dX8_takes_53 : decode cX8_takes 53 = .ok (.iaload, 1) := by decide +kernel
theorem dX8_takes_54 : decode cX8_takes 54 = .ok (.i2l, 1) := by decide +kernel
theorem dX8_takes_55 : decode cX8_takes 55 = .ok (.goto 19, 3) := by decide +kernel
theorem dX8_takes_58 : decode cX8_takes 58 = .ok (.bipush 16, 2) := by decide +kernel
theorem dX8_takes_60 : decode cX8_takes 60 = .ok (.aload_n 0, 1) := by decide +kernel
theorem dX8_takes_61 : decode cX8_takes 61 = .ok (.getfield 28, 3) := by decide +kernel
theorem dX8_takes_64 : decode cX8_takes 64 = .ok (.aload_n 0, 1) := by decide +kernel
theorem dX8_takes_65 : decode cX8_takes 65 = .ok (.getfield 77, 3) := by decide +kernel
theorem dX8_takes_68 : decode cX8_takes 68 = .ok (.iload 4, 2) := by decide +kernel
theorem dX8_takes_70 : decode cX8_takes 70 = .ok (.iaload, 1) := by decide +kernel
theorem dX8_takes_71 : decode cX8_takes 71 = .ok (.iaload, 1) := by decide +kernel
theorem dX8_takes_72 : decode cX8_takes 72 = .ok (.isub, 1) := by decide +kernel
theorem dX8_takes_73 : decode cX8_takes 73 = .ok (.i2l, 1) := by decide +kernel
theorem dX8_takes_74 : decode cX8_takes 74 = .ok (.lmul, 1) := by decide +kernel
theorem dX8_takes_75 : decode cX8_takes 75 = .ok (.lstore_n 2, 1) := by decide +kernel
theorem dX8_takes_76 : decode cX8_takes 76 = .ok (.aload_n 0, 1) := by decide +kernel
theorem dX8_takes_77 : decode cX8_takes 77 = .ok (.dup, 1) := by decide +kernel
theorem dX8_takes_78 : decode cX8_takes 78 = .ok (.getfield 172, 3) := by decide +kernel
theorem dX8_takes_81 : decode cX8_takes 81 = .ok (.iload 5, 2) := by decide +kernel
theorem dX8_takes_83 : decode cX8_takes 83 = .ok (.ifCond .eq 15, 3) := by decide +kernel
theorem dX8_takes_86 : decode cX8_takes 86 = .ok (.iconst 1, 1) := by decide +kernel
theorem dX8_takes_87 : decode cX8_takes 87 = .ok (.aload_n 0, 1) := by decide +kernel
theorem dX8_takes_88 : decode cX8_takes 88 = .ok (.getfield 77, 3) := by decide +kernel
theorem dX8_takes_91 : decode cX8_takes 91 = .ok (.iload 4, 2) := by decide +kernel
theorem dX8_takes_93 : decode cX8_takes 93 = .ok (.iaload, 1) := by decide +kernel
theorem dX8_takes_94 : decode cX8_takes 94 = .ok (.ishl, 1) := by decide +kernel
theorem dX8_takes_95 : decode cX8_takes 95 = .ok (.goto 4, 3) := by decide +kernel
theorem dX8_takes_98 : decode cX8_takes 98 = .ok (.iconst 0, 1) := by decide +kernel
theorem dX8_takes_99 : decode cX8_takes 99 = .ok (.ior, 1) := by decide +kernel
theorem dX8_takes_100 : decode cX8_takes 100 = .ok (.putfield 172, 3) := by decide +kernel
theorem dX8_takes_103 : decode cX8_takes 103 = .ok (.iinc 4 1, 3) := by decide +kernel
theorem dX8_takes_106 : decode cX8_takes 106 = .ok (.goto (-96), 3) := by decide +kernel
theorem dX8_takes_109 : decode cX8_takes 109 = .ok (.aload_n 0, 1) := by decide +kernel
theorem dX8_takes_110 : decode cX8_takes 110 = .ok (.invokevirtual 193, 3) := by decide +kernel
theorem dX8_takes_113 : decode cX8_takes 113 = .ok (.lload_n 2, 1) := by decide +kernel
theorem dX8_takes_114 : decode cX8_takes 114 = .ok (.lreturn, 1) := by decide +kernel
theorem dX8_oddsNow_0 : decode cX8_oddsNow 0 = .ok (.aload_n 0, 1) := by decide +kernel
theorem dX8_oddsNow_1 : decode cX8_oddsNow 1 = .ok (.invokevirtual 190, 3) := by decide +kernel
theorem dX8_oddsNow_4 : decode cX8_oddsNow 4 = .ok (.aload_n 0, 1) := by decide +kernel
theorem dX8_oddsNow_5 : decode cX8_oddsNow 5 = .ok (.invokevirtual 265, 3) := by decide +kernel
theorem dX8_oddsNow_8 : decode cX8_oddsNow 8 = .ok (.lconst 0, 1) := by decide +kernel
theorem dX8_oddsNow_9 : decode cX8_oddsNow 9 = .ok (.lstore_n 3, 1) := by decide +kernel
theorem dX8_oddsNow_10 : decode cX8_oddsNow 10 = .ok (.iconst 0, 1) := by decide +kernel
theorem dX8_oddsNow_11 : decode cX8_oddsNow 11 = .ok (.istore 5, 2) := by decide +kernel
theorem dX8_oddsNow_13 : decode cX8_oddsNow 13 = .ok (.iload 5, 2) := by decide +kernel
theorem dX8_oddsNow_15 : decode cX8_oddsNow 15 = .ok (.iconst 1, 1) := by decide +kernel
theorem dX8_oddsNow_16 : decode cX8_oddsNow 16 = .ok (.aload_n 0, 1) := by decide +kernel
theorem dX8_oddsNow_17 : decode cX8_oddsNow 17 = .ok (.getfield 262, 3) := by decide +kernel
theorem dX8_oddsNow_20 : decode cX8_oddsNow 20 = .ok (.ishl, 1) := by decide +kernel
theorem dX8_oddsNow_21 : decode cX8_oddsNow 21 = .ok (.if_icmp .ge 34, 3) := by decide +kernel
theorem dX8_oddsNow_24 : decode cX8_oddsNow 24 = .ok (.aload_n 0, 1) := by decide +kernel
theorem dX8_oddsNow_25 : decode cX8_oddsNow 25 = .ok (.iload 5, 2) := by decide +kernel
theorem dX8_oddsNow_27 : decode cX8_oddsNow 27 = .ok (.invokevirtual 268, 3) := by decide +kernel
theorem dX8_oddsNow_30 : decode cX8_oddsNow 30 = .ok (.lstore 6, 2) := by decide +kernel
theorem dX8_oddsNow_32 : decode cX8_oddsNow 32 = .ok (.lload_n 3, 1) := by decide +kernel
theorem dX8_oddsNow_33 : decode cX8_oddsNow 33 = .ok (.aload_n 0, 1) := by decide +kernel
theorem dX8_oddsNow_34 : decode cX8_oddsNow 34 = .ok (.getfield 178, 3) := by decide +kernel
theorem dX8_oddsNow_37 : decode cX8_oddsNow 37 = .ok (.iload_n 1, 1) := by decide +kernel
theorem dX8_oddsNow_38 : decode cX8_oddsNow 38 = .ok (.if_icmp .gt 8, 3) := by decide +kernel
theorem dX8_oddsNow_41 : decode cX8_oddsNow 41 = .ok (.lload 6, 2) := by decide +kernel
theorem dX8_oddsNow_43 : decode cX8_oddsNow 43 = .ok (.goto 4, 3) := by decide +kernel
theorem dX8_oddsNow_46 : decode cX8_oddsNow 46 = .ok (.lconst 0, 1) := by decide +kernel
theorem dX8_oddsNow_47 : decode cX8_oddsNow 47 = .ok (.ladd, 1) := by decide +kernel
theorem dX8_oddsNow_48 : decode cX8_oddsNow 48 = .ok (.lstore_n 3, 1) := by decide +kernel
theorem dX8_oddsNow_49 : decode cX8_oddsNow 49 = .ok (.iinc 5 1, 3) := by decide +kernel
theorem dX8_oddsNow_52 : decode cX8_oddsNow 52 = .ok (.goto (-39), 3) := by decide +kernel
theorem dX8_oddsNow_55 : decode cX8_oddsNow 55 = .ok (.lload_n 3, 1) := by decide +kernel
theorem dX8_oddsNow_56 : decode cX8_oddsNow 56 = .ok (.lconst 1, 1) := by decide +kernel
theorem dX8_oddsNow_57 : decode cX8_oddsNow 57 = .ok (.iconst 4, 1) := by decide +kernel
theorem dX8_oddsNow_58 : decode cX8_oddsNow 58 = .ok (.aload_n 0, 1) := by decide +kernel
theorem dX8_oddsNow_59 : decode cX8_oddsNow 59 = .ok (.getfield 262, 3) := by decide +kernel
theorem dX8_oddsNow_62 : decode cX8_oddsNow 62 = .ok (.imul, 1) := by decide +kernel
theorem dX8_oddsNow_63 : decode cX8_oddsNow 63 = .ok (.lshl, 1) := by decide +kernel
theorem dX8_oddsNow_64 : decode cX8_oddsNow 64 = .ok (.iload_n 2, 1) := by decide +kernel
theorem dX8_oddsNow_65 : decode cX8_oddsNow 65 = .ok (.invokestatic 272, 3) := by decide +kernel
theorem dX8_oddsNow_68 : decode cX8_oddsNow 68 = .ok (.lreturn, 1) := by decide +kernel
theorem dX8_odds_0 : decode cX8_odds 0 = .ok (.iload_n 1, 1) := by decide +kernel
theorem dX8_odds_1 : decode cX8_odds 1 = .ok (.iconst 0, 1) := by decide +kernel
theorem dX8_odds_2 : decode cX8_odds 2 = .ok (.bipush 59, 2) := by decide +kernel
theorem dX8_odds_4 : decode cX8_odds 4 = .ok (.invokestatic 95, 3) := by decide +kernel
theorem dX8_odds_7 : decode cX8_odds 7 = .ok (.ifCond .eq 21, 3) := by decide +kernel
theorem dX8_odds_10 : decode cX8_odds 10 = .ok (.iload_n 2, 1) := by decide +kernel
theorem dX8_odds_11 : decode cX8_odds 11 = .ok (.iconst 0, 1) := by decide +kernel
theorem dX8_odds_12 : decode cX8_odds 12 = .ok (.iconst 1, 1) := by decide +kernel
theorem dX8_odds_13 : decode cX8_odds 13 = .ok (.invokestatic 95, 3) := by decide +kernel
theorem dX8_odds_16 : decode cX8_odds 16 = .ok (.ifCond .eq 12, 3) := by decide +kernel
theorem dX8_odds_19 : decode cX8_odds 19 = .ok (.aload_n 0, 1) := by decide +kernel
theorem dX8_odds_20 : decode cX8_odds 20 = .ok (.iload_n 1, 1) := by decide +kernel
theorem dX8_odds_21 : decode cX8_odds 21 = .ok (.iload_n 2, 1) := by decide +kernel
theorem dX8_odds_22 : decode cX8_odds 22 = .ok (.invokevirtual 276, 3) := by decide +kernel
theorem dX8_odds_25 : decode cX8_odds 25 = .ok (.goto 6, 3) := by decide +kernel
theorem dX8_odds_28 : decode cX8_odds 28 = .ok (.ldc2_w 280, 3) := by decide +kernel
theorem dX8_odds_31 : decode cX8_odds 31 = .ok (.lreturn, 1) := by decide +kernel
theorem dX8_meanNow_0 : decode cX8_meanNow 0 = .ok (.lconst 0, 1) := by decide +kernel
theorem dX8_meanNow_1 : decode cX8_meanNow 1 = .ok (.lstore_n 2, 1) := by decide +kernel
theorem dX8_meanNow_2 : decode cX8_meanNow 2 = .ok (.iconst 0, 1) := by decide +kernel
theorem dX8_meanNow_3 : decode cX8_meanNow 3 = .ok (.istore 4, 2) := by decide +kernel
theorem dX8_meanNow_5 : decode cX8_meanNow 5 = .ok (.iload 4, 2) := by decide +kernel
theorem dX8_meanNow_7 : decode cX8_meanNow 7 = .ok (.iconst 1, 1) := by decide +kernel
theorem dX8_meanNow_8 : decode cX8_meanNow 8 = .ok (.aload_n 0, 1) := by decide +kernel
theorem dX8_meanNow_9 : decode cX8_meanNow 9 = .ok (.getfield 262, 3) := by decide +kernel
theorem dX8_meanNow_12 : decode cX8_meanNow 12 = .ok (.ishl, 1) := by decide +kernel
theorem dX8_meanNow_13 : decode cX8_meanNow 13 = .ok (.if_icmp .ge 29, 3) := by decide +kernel
theorem dX8_meanNow_16 : decode cX8_meanNow 16 = .ok (.aload_n 0, 1) := by decide +kernel
theorem dX8_meanNow_17 : decode cX8_meanNow 17 = .ok (.iload 4, 2) := by decide +kernel
theorem dX8_meanNow_19 : decode cX8_meanNow 19 = .ok (.invokevirtual 268, 3) := by decide +kernel
theorem dX8_meanNow_22 : decode cX8_meanNow 22 = .ok (.lstore 5, 2) := by decide +kernel
theorem dX8_meanNow_24 : decode cX8_meanNow 24 = .ok (.lload_n 2, 1) := by decide +kernel
theorem dX8_meanNow_25 : decode cX8_meanNow 25 = .ok (.lload 5, 2) := by decide +kernel
theorem dX8_meanNow_27 : decode cX8_meanNow 27 = .ok (.aload_n 0, 1) := by decide +kernel
theorem dX8_meanNow_28 : decode cX8_meanNow 28 = .ok (.iload_n 1, 1) := by decide +kernel
theorem dX8_meanNow_29 : decode cX8_meanNow 29 = .ok (.invokevirtual 187, 3) := by decide +kernel
theorem dX8_meanNow_32 : decode cX8_meanNow 32 = .ok (.i2l, 1) := by decide +kernel
theorem dX8_meanNow_33 : decode cX8_meanNow 33 = .ok (.lmul, 1) := by decide +kernel
theorem dX8_meanNow_34 : decode cX8_meanNow 34 = .ok (.ladd, 1) := by decide +kernel
theorem dX8_meanNow_35 : decode cX8_meanNow 35 = .ok (.lstore_n 2, 1) := by decide +kernel
theorem dX8_meanNow_36 : decode cX8_meanNow 36 = .ok (.iinc 4 1, 3) := by decide +kernel
theorem dX8_meanNow_39 : decode cX8_meanNow 39 = .ok (.goto (-34), 3) := by decide +kernel
theorem dX8_meanNow_42 : decode cX8_meanNow 42 = .ok (.lload_n 2, 1) := by decide +kernel
theorem dX8_meanNow_43 : decode cX8_meanNow 43 = .ok (.lreturn, 1) := by decide +kernel
theorem dX8_mean_0 : decode cX8_mean 0 = .ok (.aload_n 0, 1) := by decide +kernel
theorem dX8_mean_1 : decode cX8_mean 1 = .ok (.iload_n 1, 1) := by decide +kernel
theorem dX8_mean_2 : decode cX8_mean 2 = .ok (.invokevirtual 103, 3) := by decide +kernel
theorem dX8_mean_5 : decode cX8_mean 5 = .ok (.ifCond .eq 12, 3) := by decide +kernel
theorem dX8_mean_8 : decode cX8_mean 8 = .ok (.iload_n 2, 1) := by decide +kernel
theorem dX8_mean_9 : decode cX8_mean 9 = .ok (.iconst 0, 1) := by decide +kernel
theorem dX8_mean_10 : decode cX8_mean 10 = .ok (.iconst 1, 1) := by decide +kernel
theorem dX8_mean_11 : decode cX8_mean 11 = .ok (.invokestatic 95, 3) := by decide +kernel
theorem dX8_mean_14 : decode cX8_mean 14 = .ok (.ifCond .ne 7, 3) := by decide +kernel
theorem dX8_mean_17 : decode cX8_mean 17 = .ok (.ldc2_w 280, 3) := by decide +kernel
theorem dX8_mean_20 : decode cX8_mean 20 = .ok (.lreturn, 1) := by decide +kernel
theorem dX8_mean_21 : decode cX8_mean 21 = .ok (.aload_n 0, 1) := by decide +kernel
theorem dX8_mean_22 : decode cX8_mean 22 = .ok (.invokevirtual 190, 3) := by decide +kernel
theorem dX8_mean_25 : decode cX8_mean 25 = .ok (.aload_n 0, 1) := by decide +kernel
theorem dX8_mean_26 : decode cX8_mean 26 = .ok (.invokevirtual 265, 3) := by decide +kernel
theorem dX8_mean_29 : decode cX8_mean 29 = .ok (.aload_n 0, 1) := by decide +kernel
theorem dX8_mean_30 : decode cX8_mean 30 = .ok (.iload_n 1, 1) := by decide +kernel
theorem dX8_mean_31 : decode cX8_mean 31 = .ok (.invokevirtual 282, 3) := by decide +kernel
theorem dX8_mean_34 : decode cX8_mean 34 = .ok (.lconst 1, 1) := by decide +kernel
theorem dX8_mean_35 : decode cX8_mean 35 = .ok (.iconst 4, 1) := by decide +kernel
theorem dX8_mean_36 : decode cX8_mean 36 = .ok (.aload_n 0, 1) := by decide +kernel
theorem dX8_mean_37 : decode cX8_mean 37 = .ok (.getfield 262, 3) := by decide +kernel
theorem dX8_mean_40 : decode cX8_mean 40 = .ok (.imul, 1) := by decide +kernel
theorem dX8_mean_41 : decode cX8_mean 41 = .ok (.lshl, 1) := by decide +kernel
theorem dX8_mean_42 : decode cX8_mean 42 = .ok (.iload_n 2, 1) := by decide +kernel
theorem dX8_mean_43 : decode cX8_mean 43 = .ok (.invokestatic 272, 3) := by decide +kernel
theorem dX8_mean_46 : decode cX8_mean 46 = .ok (.lreturn, 1) := by decide +kernel
theorem dX8_sure_0 : decode cX8_sure 0 = .ok (.aload_n 0, 1) := by decide +kernel
theorem dX8_sure_1 : decode cX8_sure 1 = .ok (.iload_n 1, 1) := by decide +kernel
theorem dX8_sure_2 : decode cX8_sure 2 = .ok (.invokevirtual 107, 3) := by decide +kernel
theorem dX8_sure_5 : decode cX8_sure 5 = .ok (.ifCond .ne 6, 3) := by decide +kernel
theorem dX8_sure_8 : decode cX8_sure 8 = .ok (.bipush (-2), 2) := by decide +kernel
theorem dX8_sure_10 : decode cX8_sure 10 = .ok (.ireturn, 1) := by decide +kernel
theorem dX8_sure_11 : decode cX8_sure 11 = .ok (.aload_n 0, 1) := by decide +kernel
theorem dX8_sure_12 : decode cX8_sure 12 = .ok (.invokevirtual 190, 3) := by decide +kernel
theorem dX8_sure_15 : decode cX8_sure 15 = .ok (.aload_n 0, 1) := by decide +kernel
theorem dX8_sure_16 : decode cX8_sure 16 = .ok (.invokevirtual 265, 3) := by decide +kernel
theorem dX8_sure_19 : decode cX8_sure 19 = .ok (.iconst 0, 1) := by decide +kernel
theorem dX8_sure_20 : decode cX8_sure 20 = .ok (.istore_n 2, 1) := by decide +kernel
theorem dX8_sure_21 : decode cX8_sure 21 = .ok (.lconst 0, 1) := by decide +kernel
theorem dX8_sure_22 : decode cX8_sure 22 = .ok (.lstore_n 3, 1) := by decide +kernel
theorem dX8_sure_23 : decode cX8_sure 23 = .ok (.iconst 0, 1) := by decide +kernel
theorem dX8_sure_24 : decode cX8_sure 24 = .ok (.istore 5, 2) := by decide +kernel
theorem dX8_sure_26 : decode cX8_sure 26 = .ok (.iload 5, 2) := by decide +kernel
theorem dX8_sure_28 : decode cX8_sure 28 = .ok (.bipush 60, 2) := by decide +kernel
theorem dX8_sure_30 : decode cX8_sure 30 = .ok (.if_icmp .gt 67, 3) := by decide +kernel
theorem dX8_sure_33 : decode cX8_sure 33 = .ok (.aload_n 0, 1) := by decide +kernel
theorem dX8_sure_34 : decode cX8_sure 34 = .ok (.getfield 47, 3) := by decide +kernel
theorem dX8_sure_37 : decode cX8_sure 37 = .ok (.iload_n 1, 1) := by decide +kernel
theorem dX8_sure_38 : decode cX8_sure 38 = .ok (.iload 5, 2) := by decide +kernel
theorem dX8_sure_40 : decode cX8_sure 40 = .ok (.iastore, 1) := by decide +kernel
theorem dX8_sure_41 : decode cX8_sure 41 = .ok (.aload_n 0, 1) := by decide +kernel
theorem dX8_sure_42 : decode cX8_sure 42 = .ok (.iload_n 1, 1) := by decide +kernel
theorem dX8_sure_43 : decode cX8_sure 43 = .ok (.invokevirtual 282, 3) := by decide +kernel
theorem dX8_sure_46 : decode cX8_sure 46 = .ok (.lstore 6, 2) := by decide +kernel
theorem dX8_sure_48 : decode cX8_sure 48 = .ok (.iload 5, 2) := by decide +kernel
theorem dX8_sure_50 : decode cX8_sure 50 = .ok (.ifCond .eq 10, 3) := by decide +kernel
theorem dX8_sure_53 : decode cX8_sure 53 = .ok (.lload 6, 2) := by decide +kernel
theorem dX8_sure_55 : decode cX8_sure 55 = .ok (.lload_n 3, 1) := by decide +kernel
theorem dX8_sure_56 : decode cX8_sure 56 = .ok (.lcmp, 1) := by decide +kernel
theorem dX8_sure_57 : decode cX8_sure 57 = .ok (.ifCond .ge 7, 3) := by decide +kernel
theorem dX8_sure_60 : decode cX8_sure 60 = .ok (.iconst 1, 1) := by decide +kernel
theorem dX8_sure_61 : decode cX8_sure 61 = .ok (.goto 4, 3) := by decide +kernel
theorem dX8_sure_64 : decode cX8_sure 64 = .ok (.iconst 0, 1) := by decide +kernel
theorem dX8_sure_65 : decode cX8_sure 65 = .ok (.istore 8, 2) := by decide +kernel
theorem dX8_sure_67 : decode cX8_sure 67 = .ok (.iload 8, 2) := by decide +kernel
theorem dX8_sure_69 : decode cX8_sure 69 = .ok (.ifCond .eq 8, 3) := by decide +kernel
theorem dX8_sure_72 : decode cX8_sure 72 = .ok (.iload 5, 2) := by decide +kernel
theorem dX8_sure_74 : decode cX8_sure 74 = .ok (.goto 4, 3) := by decide +kernel
theorem dX8_sure_77 : decode cX8_sure 77 = .ok (.iload_n 2, 1) := by decide +kernel
theorem dX8_sure_78 : decode cX8_sure 78 = .ok (.istore_n 2, 1) := by decide +kernel
theorem dX8_sure_79 : decode cX8_sure 79 = .ok (.iload 8, 2) := by decide +kernel
theorem dX8_sure_81 : decode cX8_sure 81 = .ok (.ifCond .eq 8, 3) := by decide +kernel
theorem dX8_sure_84 : decode cX8_sure 84 = .ok (.lload 6, 2) := by decide +kernel
theorem dX8_sure_86 : decode cX8_sure 86 = .ok (.goto 4, 3) := by decide +kernel
theorem dX8_sure_89 : decode cX8_sure 89 = .ok (.lload_n 3, 1) := by decide +kernel
theorem dX8_sure_90 : decode cX8_sure 90 = .ok (.lstore_n 3, 1) := by decide +kernel
theorem dX8_sure_91 : decode cX8_sure 91 = .ok (.iinc 5 1, 3) := by decide +kernel
theorem dX8_sure_94 : decode cX8_sure 94 = .ok (.goto (-68), 3) := by decide +kernel
theorem dX8_sure_97 : decode cX8_sure 97 = .ok (.iload_n 2, 1) := by decide +kernel
theorem dX8_sure_98 : decode cX8_sure 98 = .ok (.ireturn, 1) := by decide +kernel
theorem dX8_meets_0 : decode cX8_meets 0 = .ok (.aload_n 0, 1) := by decide +kernel
theorem dX8_meets_1 : decode cX8_meets 1 = .ok (.iload_n 1, 1) := by decide +kernel
theorem dX8_meets_2 : decode cX8_meets 2 = .ok (.putfield 285, 3) := by decide +kernel
theorem dX8_meets_5 : decode cX8_meets 5 = .ok (.bipush (-10), 2) := by decide +kernel
theorem dX8_meets_7 : decode cX8_meets 7 = .ok (.iload_n 1, 1) := by decide +kernel
theorem dX8_meets_8 : decode cX8_meets 8 = .ok (.isub, 1) := by decide +kernel
theorem dX8_meets_9 : decode cX8_meets 9 = .ok (.ireturn, 1) := by decide +kernel
theorem dX8_isSheet_0 : decode cX8_isSheet 0 = .ok (.iload_n 0, 1) := by decide +kernel
theorem dX8_isSheet_1 : decode cX8_isSheet 1 = .ok (.iconst 0, 1) := by decide +kernel
theorem dX8_isSheet_2 : decode cX8_isSheet 2 = .ok (.iconst 3, 1) := by decide +kernel
theorem dX8_isSheet_3 : decode cX8_isSheet 3 = .ok (.invokestatic 95, 3) := by decide +kernel
theorem dX8_isSheet_6 : decode cX8_isSheet 6 = .ok (.ireturn, 1) := by decide +kernel
theorem dX8_sheet_0 : decode cX8_sheet 0 = .ok (.iload_n 1, 1) := by decide +kernel
theorem dX8_sheet_1 : decode cX8_sheet 1 = .ok (.invokestatic 110, 3) := by decide +kernel
theorem dX8_sheet_4 : decode cX8_sheet 4 = .ok (.ifCond .eq 18, 3) := by decide +kernel
theorem dX8_sheet_7 : decode cX8_sheet 7 = .ok (.iload_n 2, 1) := by decide +kernel
theorem dX8_sheet_8 : decode cX8_sheet 8 = .ok (.iconst 0, 1) := by decide +kernel
theorem dX8_sheet_9 : decode cX8_sheet 9 = .ok (.iconst 2, 1) := by decide +kernel
theorem dX8_sheet_10 : decode cX8_sheet 10 = .ok (.invokestatic 95, 3) := by decide +kernel
theorem dX8_sheet_13 : decode cX8_sheet 13 = .ok (.ifCond .eq 9, 3) := by decide +kernel
theorem dX8_sheet_16 : decode cX8_sheet 16 = .ok (.iload_n 3, 1) := by decide +kernel
theorem dX8_sheet_17 : decode cX8_sheet 17 = .ok (.bipush 64, 2) := by decide +kernel
theorem dX8_sheet_19 : decode cX8_sheet 19 = .ok (.if_icmp .le 6, 3) := by decide +kernel
theorem dX8_sheet_22 : decode cX8_sheet 22 = .ok (.bipush (-2), 2) := by decide +kernel
theorem dX8_sheet_24 : decode cX8_sheet 24 = .ok (.ireturn, 1) := by decide +kernel
theorem dX8_sheet_25 : decode cX8_sheet 25 = .ok (.iload_n 3, 1) := by decide +kernel
theorem dX8_sheet_26 : decode cX8_sheet 26 = .ok (.ifCond .ge 9, 3) := by decide +kernel
theorem dX8_sheet_29 : decode cX8_sheet 29 = .ok (.aload_n 0, 1) := by decide +kernel
theorem dX8_sheet_30 : decode cX8_sheet 30 = .ok (.iconst 5, 1) := by decide +kernel
theorem dX8_sheet_31 : decode cX8_sheet 31 = .ok (.invokevirtual 113, 3) := by decide +kernel
theorem dX8_sheet_34 : decode cX8_sheet 34 = .ok (.ireturn, 1) := by decide +kernel
theorem dX8_sheet_35 : decode cX8_sheet 35 = .ok (.aload_n 0, 1) := by decide +kernel
theorem dX8_sheet_36 : decode cX8_sheet 36 = .ok (.getfield 80, 3) := by decide +kernel
theorem dX8_sheet_39 : decode cX8_sheet 39 = .ok (.iload_n 1, 1) := by decide +kernel
theorem dX8_sheet_40 : decode cX8_sheet 40 = .ok (.iconst 1, 1) := by decide +kernel
theorem dX8_sheet_41 : decode cX8_sheet 41 = .ok (.bastore, 1) := by decide +kernel
theorem dX8_sheet_42 : decode cX8_sheet 42 = .ok (.aload_n 0, 1) := by decide +kernel
theorem dX8_sheet_43 : decode cX8_sheet 43 = .ok (.getfield 83, 3) := by decide +kernel
theorem dX8_sheet_46 : decode cX8_sheet 46 = .ok (.iload_n 1, 1) := by decide +kernel
theorem dX8_sheet_47 : decode cX8_sheet 47 = .ok (.iload_n 2, 1) := by decide +kernel
theorem dX8_sheet_48 : decode cX8_sheet 48 = .ok (.iastore, 1) := by decide +kernel
theorem dX8_sheet_49 : decode cX8_sheet 49 = .ok (.aload_n 0, 1) := by decide +kernel
theorem dX8_sheet_50 : decode cX8_sheet 50 = .ok (.getfield 86, 3) := by decide +kernel
theorem dX8_sheet_53 : decode cX8_sheet 53 = .ok (.iload_n 1, 1) := by decide +kernel
theorem dX8_sheet_54 : decode cX8_sheet 54 = .ok (.iload_n 3, 1) := by decide +kernel
theorem dX8_sheet_55 : decode cX8_sheet 55 = .ok (.iastore, 1) := by decide +kernel
theorem dX8_sheet_56 : decode cX8_sheet 56 = .ok (.iconst 0, 1) := by decide +kernel
theorem dX8_sheet_57 : decode cX8_sheet 57 = .ok (.istore 4, 2) := by decide +kernel
theorem dX8_sheet_59 : decode cX8_sheet 59 = .ok (.iload 4, 2) := by decide +kernel
theorem dX8_sheet_61 : decode cX8_sheet 61 = .ok (.bipush 64, 2) := by decide +kernel
theorem dX8_sheet_63 : decode cX8_sheet 63 = .ok (.if_icmp .ge 22, 3) := by decide +kernel
theorem dX8_sheet_66 : decode cX8_sheet 66 = .ok (.aload_n 0, 1) := by decide +kernel
theorem dX8_sheet_67 : decode cX8_sheet 67 = .ok (.getfield 89, 3) := by decide +kernel
theorem dX8_sheet_70 : decode cX8_sheet 70 = .ok (.bipush 64, 2) := by decide +kernel
theorem dX8_sheet_72 : decode cX8_sheet 72 = .ok (.iload_n 1, 1) := by decide +kernel
theorem dX8_sheet_73 : decode cX8_sheet 73 = .ok (.imul, 1) := by decide +kernel
theorem dX8_sheet_74 : decode cX8_sheet 74 = .ok (.iload 4, 2) := by decide +kernel
theorem dX8_sheet_76 : decode cX8_sheet 76 = .ok (.iadd, 1) := by decide +kernel
theorem dX8_sheet_77 : decode cX8_sheet 77 = .ok (.iconst 0, 1) := by decide +kernel
theorem dX8_sheet_78 : decode cX8_sheet 78 = .ok (.iastore, 1) := by decide +kernel
theorem dX8_sheet_79 : decode cX8_sheet 79 = .ok (.iinc 4 1, 3) := by decide +kernel
theorem dX8_sheet_82 : decode cX8_sheet 82 = .ok (.goto (-23), 3) := by decide +kernel
theorem dX8_sheet_85 : decode cX8_sheet 85 = .ok (.iload_n 3, 1) := by decide +kernel
theorem dX8_sheet_86 : decode cX8_sheet 86 = .ok (.ireturn, 1) := by decide +kernel
theorem dX8_lose_0 : decode cX8_lose 0 = .ok (.iload_n 1, 1) := by decide +kernel
theorem dX8_lose_1 : decode cX8_lose 1 = .ok (.invokestatic 110, 3) := by decide +kernel
theorem dX8_lose_4 : decode cX8_lose 4 = .ok (.ifCond .ne 6, 3) := by decide +kernel
theorem dX8_lose_7 : decode cX8_lose 7 = .ok (.bipush (-2), 2) := by decide +kernel
theorem dX8_lose_9 : decode cX8_lose 9 = .ok (.ireturn, 1) := by decide +kernel
theorem dX8_lose_10 : decode cX8_lose 10 = .ok (.aload_n 0, 1) := by decide +kernel
theorem dX8_lose_11 : decode cX8_lose 11 = .ok (.getfield 80, 3) := by decide +kernel
theorem dX8_lose_14 : decode cX8_lose 14 = .ok (.iload_n 1, 1) := by decide +kernel
theorem dX8_lose_15 : decode cX8_lose 15 = .ok (.baload, 1) := by decide +kernel
theorem dX8_lose_16 : decode cX8_lose 16 = .ok (.ifCond .ne 9, 3) := by decide +kernel
theorem dX8_lose_19 : decode cX8_lose 19 = .ok (.aload_n 0, 1) := by decide +kernel
theorem dX8_lose_20 : decode cX8_lose 20 = .ok (.iconst 1, 1) := by decide +kernel
theorem dX8_lose_21 : decode cX8_lose 21 = .ok (.invokevirtual 113, 3) := by decide +kernel
theorem dX8_lose_24 : decode cX8_lose 24 = .ok (.ireturn, 1) := by decide +kernel
theorem dX8_lose_25 : decode cX8_lose 25 = .ok (.aload_n 0, 1) := by decide +kernel
theorem dX8_lose_26 : decode cX8_lose 26 = .ok (.getfield 80, 3) := by decide +kernel
theorem dX8_lose_29 : decode cX8_lose 29 = .ok (.iload_n 1, 1) := by decide +kernel
theorem dX8_lose_30 : decode cX8_lose 30 = .ok (.iconst 0, 1) := by decide +kernel
theorem dX8_lose_31 : decode cX8_lose 31 = .ok (.bastore, 1) := by decide +kernel
theorem dX8_lose_32 : decode cX8_lose 32 = .ok (.aload_n 0, 1) := by decide +kernel
theorem dX8_lose_33 : decode cX8_lose 33 = .ok (.getfield 86, 3) := by decide +kernel
theorem dX8_lose_36 : decode cX8_lose 36 = .ok (.iload_n 1, 1) := by decide +kernel
theorem dX8_lose_37 : decode cX8_lose 37 = .ok (.iaload, 1) := by decide +kernel
theorem dX8_lose_38 : decode cX8_lose 38 = .ok (.ireturn, 1) := by decide +kernel
theorem dX8_lacks_0 : decode cX8_lacks 0 = .ok (.aload_n 0, 1) := by decide +kernel
theorem dX8_lacks_1 : decode cX8_lacks 1 = .ok (.getfield 80, 3) := by decide +kernel
theorem dX8_lacks_4 : decode cX8_lacks 4 = .ok (.iload_n 1, 1) := by decide +kernel
theorem dX8_lacks_5 : decode cX8_lacks 5 = .ok (.baload, 1) := by decide +kernel
theorem dX8_lacks_6 : decode cX8_lacks 6 = .ok (.ifCond .ne 7, 3) := by decide +kernel
theorem dX8_lacks_9 : decode cX8_lacks 9 = .ok (.iconst 1, 1) := by decide +kernel
theorem dX8_lacks_10 : decode cX8_lacks 10 = .ok (.goto 38, 3) := by decide +kernel
theorem dX8_lacks_13 : decode cX8_lacks 13 = .ok (.aload_n 0, 1) := by decide +kernel
theorem dX8_lacks_14 : decode cX8_lacks 14 = .ok (.getfield 83, 3) := by decide +kernel
theorem dX8_lacks_17 : decode cX8_lacks 17 = .ok (.iload_n 1, 1) := by decide +kernel
theorem dX8_lacks_18 : decode cX8_lacks 18 = .ok (.iaload, 1) := by decide +kernel
theorem dX8_lacks_19 : decode cX8_lacks 19 = .ok (.iload_n 2, 1) := by decide +kernel
theorem dX8_lacks_20 : decode cX8_lacks 20 = .ok (.if_icmp .eq 7, 3) := by decide +kernel
theorem dX8_lacks_23 : decode cX8_lacks 23 = .ok (.iconst 3, 1) := by decide +kernel
theorem dX8_lacks_24 : decode cX8_lacks 24 = .ok (.goto 24, 3) := by decide +kernel
theorem dX8_lacks_27 : decode cX8_lacks 27 = .ok (.iload_n 3, 1) := by decide +kernel
theorem dX8_lacks_28 : decode cX8_lacks 28 = .ok (.iconst 0, 1) := by decide +kernel
theorem dX8_lacks_29 : decode cX8_lacks 29 = .ok (.aload_n 0, 1) := by decide +kernel
theorem dX8_lacks_30 : decode cX8_lacks 30 = .ok (.getfield 86, 3) := by decide +kernel
theorem dX8_lacks_33 : decode cX8_lacks 33 = .ok (.iload_n 1, 1) := by decide +kernel
theorem dX8_lacks_34 : decode cX8_lacks 34 = .ok (.iaload, 1) := by decide +kernel
theorem dX8_lacks_35 : decode cX8_lacks 35 = .ok (.iconst 1, 1) := by decide +kernel
theorem dX8_lacks_36 : decode cX8_lacks 36 = .ok (.isub, 1) := by decide +kernel
theorem dX8_lacks_37 : decode cX8_lacks 37 = .ok (.invokestatic 95, 3) := by decide +kernel
theorem dX8_lacks_40 : decode cX8_lacks 40 = .ok (.ifCond .eq 7, 3) := by decide +kernel
theorem dX8_lacks_43 : decode cX8_lacks 43 = .ok (.iconst 0, 1) := by decide +kernel
theorem dX8_lacks_44 : decode cX8_lacks 44 = .ok (.goto 4, 3) := by decide +kernel
theorem dX8_lacks_47 : decode cX8_lacks 47 = .ok (.iconst 2, 1) := by decide +kernel
theorem dX8_lacks_48 : decode cX8_lacks 48 = .ok (.ireturn, 1) := by decide +kernel
theorem dX8_keep_0 : decode cX8_keep 0 = .ok (.aload_n 0, 1) := by decide +kernel
theorem dX8_keep_1 : decode cX8_keep 1 = .ok (.getfield 89, 3) := by decide +kernel
theorem dX8_keep_4 : decode cX8_keep 4 = .ok (.bipush 64, 2) := by decide +kernel
theorem dX8_keep_6 : decode cX8_keep 6 = .ok (.iload_n 1, 1) := by decide +kernel
theorem dX8_keep_7 : decode cX8_keep 7 = .ok (.imul, 1) := by decide +kernel
theorem dX8_keep_8 : decode cX8_keep 8 = .ok (.iload_n 2, 1) := by decide +kernel
theorem dX8_keep_9 : decode cX8_keep 9 = .ok (.iadd, 1) := by decide +kernel
theorem dX8_keep_10 : decode cX8_keep 10 = .ok (.aload_n 0, 1) := by decide +kernel
theorem dX8_keep_11 : decode cX8_keep 11 = .ok (.getfield 83, 3) := by decide +kernel
theorem dX8_keep_14 : decode cX8_keep 14 = .ok (.iload_n 1, 1) := by decide +kernel
theorem dX8_keep_15 : decode cX8_keep 15 = .ok (.iaload, 1) := by decide +kernel
theorem dX8_keep_16 : decode cX8_keep 16 = .ok (.ifCond .ne 8, 3) := by decide +kernel
theorem dX8_keep_19 : decode cX8_keep 19 = .ok (.iload_n 3, 1) := by decide +kernel
theorem dX8_keep_20 : decode cX8_keep 20 = .ok (.i2b, 1) := by decide +kernel
theorem dX8_keep_21 : decode cX8_keep 21 = .ok (.goto 19, 3) := by decide +kernel
theorem dX8_keep_24 : decode cX8_keep 24 = .ok (.aload_n 0, 1) := by decide +kernel
theorem dX8_keep_25 : decode cX8_keep 25 = .ok (.getfield 83, 3) := by decide +kernel
theorem dX8_keep_28 : decode cX8_keep 28 = .ok (.iload_n 1, 1) := by decide +kernel
theorem dX8_keep_29 : decode cX8_keep 29 = .ok (.iaload, 1) := by decide +kernel
theorem dX8_keep_30 : decode cX8_keep 30 = .ok (.iconst 1, 1) := by decide +kernel
theorem dX8_keep_31 : decode cX8_keep 31 = .ok (.if_icmp .ne 8, 3) := by decide +kernel
theorem dX8_keep_34 : decode cX8_keep 34 = .ok (.iload_n 3, 1) := by decide +kernel
theorem dX8_keep_35 : decode cX8_keep 35 = .ok (.i2s, 1) := by decide +kernel
theorem dX8_keep_36 : decode cX8_keep 36 = .ok (.goto 4, 3) := by decide +kernel
theorem dX8_keep_39 : decode cX8_keep 39 = .ok (.iload_n 3, 1) := by decide +kernel
theorem dX8_keep_40 : decode cX8_keep 40 = .ok (.iastore, 1) := by decide +kernel
theorem dX8_keep_41 : decode cX8_keep 41 = .ok (.return_, 1) := by decide +kernel
theorem dX8_put_0 : decode cX8_put 0 = .ok (.iload_n 1, 1) := by decide +kernel
theorem dX8_put_1 : decode cX8_put 1 = .ok (.invokestatic 110, 3) := by decide +kernel
theorem dX8_put_4 : decode cX8_put 4 = .ok (.ifCond .eq 12, 3) := by decide +kernel
theorem dX8_put_7 : decode cX8_put 7 = .ok (.iload_n 2, 1) := by decide +kernel
theorem dX8_put_8 : decode cX8_put 8 = .ok (.iconst 0, 1) := by decide +kernel
theorem dX8_put_9 : decode cX8_put 9 = .ok (.iconst 2, 1) := by decide +kernel
theorem dX8_put_10 : decode cX8_put 10 = .ok (.invokestatic 95, 3) := by decide +kernel
theorem dX8_put_13 : decode cX8_put 13 = .ok (.ifCond .ne 6, 3) := by decide +kernel
theorem dX8_put_16 : decode cX8_put 16 = .ok (.bipush (-2), 2) := by decide +kernel
theorem dX8_put_18 : decode cX8_put 18 = .ok (.ireturn, 1) := by decide +kernel
theorem dX8_put_19 : decode cX8_put 19 = .ok (.aload_n 0, 1) := by decide +kernel
theorem dX8_put_20 : decode cX8_put 20 = .ok (.iload_n 1, 1) := by decide +kernel
theorem dX8_put_21 : decode cX8_put 21 = .ok (.iload_n 2, 1) := by decide +kernel
theorem dX8_put_22 : decode cX8_put 22 = .ok (.iload_n 3, 1) := by decide +kernel
theorem dX8_put_23 : decode cX8_put 23 = .ok (.invokevirtual 288, 3) := by decide +kernel
theorem dX8_put_26 : decode cX8_put 26 = .ok (.istore 5, 2) := by decide +kernel
theorem dX8_put_28 : decode cX8_put 28 = .ok (.iload 5, 2) := by decide +kernel
theorem dX8_put_30 : decode cX8_put 30 = .ok (.ifCond .le 10, 3) := by decide +kernel
theorem dX8_put_33 : decode cX8_put 33 = .ok (.aload_n 0, 1) := by decide +kernel
theorem dX8_put_34 : decode cX8_put 34 = .ok (.iload 5, 2) := by decide +kernel
theorem dX8_put_36 : decode cX8_put 36 = .ok (.invokevirtual 113, 3) := by decide +kernel
theorem dX8_put_39 : decode cX8_put 39 = .ok (.ireturn, 1) := by decide +kernel
theorem dX8_put_40 : decode cX8_put 40 = .ok (.aload_n 0, 1) := by decide +kernel
theorem dX8_put_41 : decode cX8_put 41 = .ok (.iload_n 1, 1) := by decide +kernel
theorem dX8_put_42 : decode cX8_put 42 = .ok (.iload_n 3, 1) := by decide +kernel
theorem dX8_put_43 : decode cX8_put 43 = .ok (.iload 4, 2) := by decide +kernel
theorem dX8_put_45 : decode cX8_put 45 = .ok (.invokevirtual 291, 3) := by decide +kernel
theorem dX8_put_48 : decode cX8_put 48 = .ok (.iconst 1, 1) := by decide +kernel
theorem dX8_put_49 : decode cX8_put 49 = .ok (.ireturn, 1) := by decide +kernel
theorem dX8_get_0 : decode cX8_get 0 = .ok (.iload_n 1, 1) := by decide +kernel
theorem dX8_get_1 : decode cX8_get 1 = .ok (.invokestatic 110, 3) := by decide +kernel
theorem dX8_get_4 : decode cX8_get 4 = .ok (.ifCond .eq 12, 3) := by decide +kernel
theorem dX8_get_7 : decode cX8_get 7 = .ok (.iload_n 2, 1) := by decide +kernel
theorem dX8_get_8 : decode cX8_get 8 = .ok (.iconst 0, 1) := by decide +kernel
theorem dX8_get_9 : decode cX8_get 9 = .ok (.iconst 2, 1) := by decide +kernel
theorem dX8_get_10 : decode cX8_get 10 = .ok (.invokestatic 95, 3) := by decide +kernel
theorem dX8_get_13 : decode cX8_get 13 = .ok (.ifCond .ne 7, 3) := by decide +kernel
theorem dX8_get_16 : decode cX8_get 16 = .ok (.ldc_w 295, 3) := by decide +kernel
theorem dX8_get_19 : decode cX8_get 19 = .ok (.ireturn, 1) := by decide +kernel
theorem dX8_get_20 : decode cX8_get 20 = .ok (.aload_n 0, 1) := by decide +kernel
theorem dX8_get_21 : decode cX8_get 21 = .ok (.iload_n 1, 1) := by decide +kernel
theorem dX8_get_22 : decode cX8_get 22 = .ok (.iload_n 2, 1) := by decide +kernel
theorem dX8_get_23 : decode cX8_get 23 = .ok (.iload_n 3, 1) := by decide +kernel
theorem dX8_get_24 : decode cX8_get 24 = .ok (.invokevirtual 288, 3) := by decide +kernel
theorem dX8_get_27 : decode cX8_get 27 = .ok (.istore 4, 2) := by decide +kernel
theorem dX8_get_29 : decode cX8_get 29 = .ok (.iload 4, 2) := by decide +kernel
theorem dX8_get_31 : decode cX8_get 31 = .ok (.ifCond .le 13, 3) := by decide +kernel
theorem dX8_get_34 : decode cX8_get 34 = .ok (.aload_n 0, 1) := by decide +kernel
theorem dX8_get_35 : decode cX8_get 35 = .ok (.iload 4, 2) := by decide +kernel
theorem dX8_get_37 : decode cX8_get 37 = .ok (.putfield 285, 3) := by decide +kernel
theorem dX8_get_40 : decode cX8_get 40 = .ok (.ldc_w 295, 3) := by decide +kernel
theorem dX8_get_43 : decode cX8_get 43 = .ok (.ireturn, 1) := by decide +kernel
theorem dX8_get_44 : decode cX8_get 44 = .ok (.aload_n 0, 1) := by decide +kernel
theorem dX8_get_45 : decode cX8_get 45 = .ok (.getfield 89, 3) := by decide +kernel
theorem dX8_get_48 : decode cX8_get 48 = .ok (.bipush 64, 2) := by decide +kernel
theorem dX8_get_50 : decode cX8_get 50 = .ok (.iload_n 1, 1) := by decide +kernel
theorem dX8_get_51 : decode cX8_get 51 = .ok (.imul, 1) := by decide +kernel
theorem dX8_get_52 : decode cX8_get 52 = .ok (.iload_n 3, 1) := by decide +kernel
theorem dX8_get_53 : decode cX8_get 53 = .ok (.iadd, 1) := by decide +kernel
theorem dX8_get_54 : decode cX8_get 54 = .ok (.iaload, 1) := by decide +kernel
theorem dX8_get_55 : decode cX8_get 55 = .ok (.ireturn, 1) := by decide +kernel
theorem dX8_copy_0 : decode cX8_copy 0 = .ok (.iload_n 1, 1) := by decide +kernel
theorem dX8_copy_1 : decode cX8_copy 1 = .ok (.invokestatic 110, 3) := by decide +kernel
theorem dX8_copy_4 : decode cX8_copy 4 = .ok (.ifCond .eq 10, 3) := by decide +kernel
theorem dX8_copy_7 : decode cX8_copy 7 = .ok (.iload_n 3, 1) := by decide +kernel
theorem dX8_copy_8 : decode cX8_copy 8 = .ok (.invokestatic 110, 3) := by decide +kernel
theorem dX8_copy_11 : decode cX8_copy 11 = .ok (.ifCond .ne 6, 3) := by decide +kernel
theorem dX8_copy_14 : decode cX8_copy 14 = .ok (.bipush (-2), 2) := by decide +kernel
theorem dX8_copy_16 : decode cX8_copy 16 = .ok (.ireturn, 1) := by decide +kernel
theorem dX8_copy_17 : decode cX8_copy 17 = .ok (.aload_n 0, 1) := by decide +kernel
theorem dX8_copy_18 : decode cX8_copy 18 = .ok (.getfield 80, 3) := by decide +kernel
theorem dX8_copy_21 : decode cX8_copy 21 = .ok (.iload_n 1, 1) := by decide +kernel
theorem dX8_copy_22 : decode cX8_copy 22 = .ok (.baload, 1) := by decide +kernel
theorem dX8_copy_23 : decode cX8_copy 23 = .ok (.ifCond .eq 12, 3) := by decide +kernel
theorem dX8_copy_26 : decode cX8_copy 26 = .ok (.aload_n 0, 1) := by decide +kernel
theorem dX8_copy_27 : decode cX8_copy 27 = .ok (.getfield 80, 3) := by decide +kernel
theorem dX8_copy_30 : decode cX8_copy 30 = .ok (.iload_n 3, 1) := by decide +kernel
theorem dX8_copy_31 : decode cX8_copy 31 = .ok (.baload, 1) := by decide +kernel
theorem dX8_copy_32 : decode cX8_copy 32 = .ok (.ifCond .ne 9, 3) := by decide +kernel
theorem dX8_copy_35 : decode cX8_copy 35 = .ok (.aload_n 0, 1) := by decide +kernel
theorem dX8_copy_36 : decode cX8_copy 36 = .ok (.iconst 1, 1) := by decide +kernel
theorem dX8_copy_37 : decode cX8_copy 37 = .ok (.invokevirtual 113, 3) := by decide +kernel
theorem dX8_copy_40 : decode cX8_copy 40 = .ok (.ireturn, 1) := by decide +kernel
theorem dX8_copy_41 : decode cX8_copy 41 = .ok (.aload_n 0, 1) := by decide +kernel
theorem dX8_copy_42 : decode cX8_copy 42 = .ok (.getfield 83, 3) := by decide +kernel
theorem dX8_copy_45 : decode cX8_copy 45 = .ok (.iload_n 1, 1) := by decide +kernel
theorem dX8_copy_46 : decode cX8_copy 46 = .ok (.iaload, 1) := by decide +kernel
theorem dX8_copy_47 : decode cX8_copy 47 = .ok (.aload_n 0, 1) := by decide +kernel
theorem dX8_copy_48 : decode cX8_copy 48 = .ok (.getfield 83, 3) := by decide +kernel
theorem dX8_copy_51 : decode cX8_copy 51 = .ok (.iload_n 3, 1) := by decide +kernel
theorem dX8_copy_52 : decode cX8_copy 52 = .ok (.iaload, 1) := by decide +kernel
theorem dX8_copy_53 : decode cX8_copy 53 = .ok (.if_icmp .eq 9, 3) := by decide +kernel
theorem dX8_copy_56 : decode cX8_copy 56 = .ok (.aload_n 0, 1) := by decide +kernel
theorem dX8_copy_57 : decode cX8_copy 57 = .ok (.iconst 4, 1) := by decide +kernel
theorem dX8_copy_58 : decode cX8_copy 58 = .ok (.invokevirtual 113, 3) := by decide +kernel
theorem dX8_copy_61 : decode cX8_copy 61 = .ok (.ireturn, 1) := by decide +kernel
theorem dX8_copy_62 : decode cX8_copy 62 = .ok (.iload_n 2, 1) := by decide +kernel
theorem dX8_copy_63 : decode cX8_copy 63 = .ok (.ifCond .lt 48, 3) := by decide +kernel
theorem dX8_copy_66 : decode cX8_copy 66 = .ok (.iload 4, 2) := by decide +kernel
theorem dX8_copy_68 : decode cX8_copy 68 = .ok (.ifCond .lt 43, 3) := by decide +kernel
theorem dX8_copy_71 : decode cX8_copy 71 = .ok (.iload 5, 2) := by decide +kernel
theorem dX8_copy_73 : decode cX8_copy 73 = .ok (.ifCond .lt 38, 3) := by decide +kernel
theorem dX8_copy_76 : decode cX8_copy 76 = .ok (.iload_n 2, 1) := by decide +kernel
theorem dX8_copy_77 : decode cX8_copy 77 = .ok (.i2l, 1) := by decide +kernel
theorem dX8_copy_78 : decode cX8_copy 78 = .ok (.iload 5, 2) := by decide +kernel
theorem dX8_copy_80 : decode cX8_copy 80 = .ok (.i2l, 1) := by decide +kernel
theorem dX8_copy_81 : decode cX8_copy 81 = .ok (.ladd, 1) := by decide +kernel
theorem dX8_copy_82 : decode cX8_copy 82 = .ok (.aload_n 0, 1) := by decide +kernel
theorem dX8_copy_83 : decode cX8_copy 83 = .ok (.getfield 86, 3) := by decide +kernel
theorem dX8_copy_86 : decode cX8_copy 86 = .ok (.iload_n 1, 1) := by decide +kernel
theorem dX8_copy_87 : decode cX8_copy 87 = .ok (.iaload, 1) := by decide +kernel
theorem dX8_copy_88 : decode cX8_copy 88 = .ok (.i2l, 1) := by decide +kernel
theorem dX8_copy_89 : decode cX8_copy 89 = .ok (.lcmp, 1) := by decide +kernel
theorem dX8_copy_90 : decode cX8_copy 90 = .ok (.ifCond .gt 21, 3) := by decide +kernel
theorem dX8_copy_93 : decode cX8_copy 93 = .ok (.iload 4, 2) := by decide +kernel
theorem dX8_copy_95 : decode cX8_copy 95 = .ok (.i2l, 1) := by decide +kernel
theorem dX8_copy_96 : decode cX8_copy 96 = .ok (.iload 5, 2) := by decide +kernel
theorem dX8_copy_98 : decode cX8_copy 98 = .ok (.i2l, 1) := by decide +kernel
theorem dX8_copy_99 : decode cX8_copy 99 = .ok (.ladd, 1) := by decide +kernel
theorem dX8_copy_100 : decode cX8_copy 100 = .ok (.aload_n 0, 1) := by decide +kernel
theorem dX8_copy_101 : decode cX8_copy 101 = .ok (.getfield 86, 3) := by decide +kernel
theorem dX8_copy_104 : decode cX8_copy 104 = .ok (.iload_n 3, 1) := by decide +kernel
theorem dX8_copy_105 : decode cX8_copy 105 = .ok (.iaload, 1) := by decide +kernel
theorem dX8_copy_106 : decode cX8_copy 106 = .ok (.i2l, 1) := by decide +kernel
theorem dX8_copy_107 : decode cX8_copy 107 = .ok (.lcmp, 1) := by decide +kernel
theorem dX8_copy_108 : decode cX8_copy 108 = .ok (.ifCond .le 9, 3) := by decide +kernel
theorem dX8_copy_111 : decode cX8_copy 111 = .ok (.aload_n 0, 1) := by decide +kernel
theorem dX8_copy_112 : decode cX8_copy 112 = .ok (.iconst 2, 1) := by decide +kernel
theorem dX8_copy_113 : decode cX8_copy 113 = .ok (.invokevirtual 113, 3) := by decide +kernel
theorem dX8_copy_116 : decode cX8_copy 116 = .ok (.ireturn, 1) := by decide +kernel
theorem dX8_copy_117 : decode cX8_copy 117 = .ok (.iconst 0, 1) := by decide +kernel
theorem dX8_copy_118 : decode cX8_copy 118 = .ok (.istore 6, 2) := by decide +kernel
theorem dX8_copy_120 : decode cX8_copy 120 = .ok (.iload 6, 2) := by decide +kernel
theorem dX8_copy_122 : decode cX8_copy 122 = .ok (.iload 5, 2) := by decide +kernel
theorem dX8_copy_124 : decode cX8_copy 124 = .ok (.if_icmp .ge 30, 3) := by decide +kernel
theorem dX8_copy_127 : decode cX8_copy 127 = .ok (.aload_n 0, 1) := by decide +kernel
theorem dX8_copy_128 : decode cX8_copy 128 = .ok (.getfield 92, 3) := by decide +kernel
theorem dX8_copy_131 : decode cX8_copy 131 = .ok (.iload 6, 2) := by decide +kernel
theorem dX8_copy_133 : decode cX8_copy 133 = .ok (.aload_n 0, 1) := by decide +kernel
theorem dX8_copy_134 : decode cX8_copy 134 = .ok (.getfield 89, 3) := by decide +kernel
theorem dX8_copy_137 : decode cX8_copy 137 = .ok (.bipush 64, 2) := by decide +kernel
theorem dX8_copy_139 : decode cX8_copy 139 = .ok (.iload_n 1, 1) := by decide +kernel
theorem dX8_copy_140 : decode cX8_copy 140 = .ok (.imul, 1) := by decide +kernel
theorem dX8_copy_141 : decode cX8_copy 141 = .ok (.iload_n 2, 1) := by decide +kernel
theorem dX8_copy_142 : decode cX8_copy 142 = .ok (.iadd, 1) := by decide +kernel
theorem dX8_copy_143 : decode cX8_copy 143 = .ok (.iload 6, 2) := by decide +kernel
theorem dX8_copy_145 : decode cX8_copy 145 = .ok (.iadd, 1) := by decide +kernel
theorem dX8_copy_146 : decode cX8_copy 146 = .ok (.iaload, 1) := by decide +kernel
theorem dX8_copy_147 : decode cX8_copy 147 = .ok (.iastore, 1) := by decide +kernel
theorem dX8_copy_148 : decode cX8_copy 148 = .ok (.iinc 6 1, 3) := by decide +kernel
theorem dX8_copy_151 : decode cX8_copy 151 = .ok (.goto (-31), 3) := by decide +kernel
theorem dX8_copy_154 : decode cX8_copy 154 = .ok (.iconst 0, 1) := by decide +kernel
theorem dX8_copy_155 : decode cX8_copy 155 = .ok (.istore 6, 2) := by decide +kernel
theorem dX8_copy_157 : decode cX8_copy 157 = .ok (.iload 6, 2) := by decide +kernel
theorem dX8_copy_159 : decode cX8_copy 159 = .ok (.iload 5, 2) := by decide +kernel
theorem dX8_copy_161 : decode cX8_copy 161 = .ok (.if_icmp .ge 31, 3) := by decide +kernel
theorem dX8_copy_164 : decode cX8_copy 164 = .ok (.aload_n 0, 1) := by decide +kernel
theorem dX8_copy_165 : decode cX8_copy 165 = .ok (.getfield 89, 3) := by decide +kernel
theorem dX8_copy_168 : decode cX8_copy 168 = .ok (.bipush 64, 2) := by decide +kernel
theorem dX8_copy_170 : decode cX8_copy 170 = .ok (.iload_n 3, 1) := by decide +kernel
theorem dX8_copy_171 : decode cX8_copy 171 = .ok (.imul, 1) := by decide +kernel
theorem dX8_copy_172 : decode cX8_copy 172 = .ok (.iload 4, 2) := by decide +kernel
theorem dX8_copy_174 : decode cX8_copy 174 = .ok (.iadd, 1) := by decide +kernel
theorem dX8_copy_175 : decode cX8_copy 175 = .ok (.iload 6, 2) := by decide +kernel
theorem dX8_copy_177 : decode cX8_copy 177 = .ok (.iadd, 1) := by decide +kernel
theorem dX8_copy_178 : decode cX8_copy 178 = .ok (.aload_n 0, 1) := by decide +kernel
theorem dX8_copy_179 : decode cX8_copy 179 = .ok (.getfield 92, 3) := by decide +kernel
theorem dX8_copy_182 : decode cX8_copy 182 = .ok (.iload 6, 2) := by decide +kernel
theorem dX8_copy_184 : decode cX8_copy 184 = .ok (.iaload, 1) := by decide +kernel
theorem dX8_copy_185 : decode cX8_copy 185 = .ok (.iastore, 1) := by decide +kernel
theorem dX8_copy_186 : decode cX8_copy 186 = .ok (.iinc 6 1, 3) := by decide +kernel
theorem dX8_copy_189 : decode cX8_copy 189 = .ok (.goto (-32), 3) := by decide +kernel
theorem dX8_copy_192 : decode cX8_copy 192 = .ok (.iconst 1, 1) := by decide +kernel
theorem dX8_copy_193 : decode cX8_copy 193 = .ok (.ireturn, 1) := by decide +kernel
theorem dX8_write_0 : decode cX8_write 0 = .ok (.iload_n 1, 1) := by decide +kernel
theorem dX8_write_1 : decode cX8_write 1 = .ok (.invokestatic 110, 3) := by decide +kernel
theorem dX8_write_4 : decode cX8_write 4 = .ok (.ifCond .ne 6, 3) := by decide +kernel
theorem dX8_write_7 : decode cX8_write 7 = .ok (.bipush (-2), 2) := by decide +kernel
theorem dX8_write_9 : decode cX8_write 9 = .ok (.ireturn, 1) := by decide +kernel
theorem dX8_write_10 : decode cX8_write 10 = .ok (.aload_n 0, 1) := by decide +kernel
theorem dX8_write_11 : decode cX8_write 11 = .ok (.getfield 80, 3) := by decide +kernel
theorem dX8_write_14 : decode cX8_write 14 = .ok (.iload_n 1, 1) := by decide +kernel
theorem dX8_write_15 : decode cX8_write 15 = .ok (.baload, 1) := by decide +kernel
theorem dX8_write_16 : decode cX8_write 16 = .ok (.ifCond .ne 9, 3) := by decide +kernel
theorem dX8_write_19 : decode cX8_write 19 = .ok (.aload_n 0, 1) := by decide +kernel
theorem dX8_write_20 : decode cX8_write 20 = .ok (.iconst 1, 1) := by decide +kernel
theorem dX8_write_21 : decode cX8_write 21 = .ok (.invokevirtual 113, 3) := by decide +kernel
theorem dX8_write_24 : decode cX8_write 24 = .ok (.ireturn, 1) := by decide +kernel
theorem dX8_write_25 : decode cX8_write 25 = .ok (.aload_n 0, 1) := by decide +kernel
theorem dX8_write_26 : decode cX8_write 26 = .ok (.getfield 86, 3) := by decide +kernel
theorem dX8_write_29 : decode cX8_write 29 = .ok (.iload_n 1, 1) := by decide +kernel
theorem dX8_write_30 : decode cX8_write 30 = .ok (.iaload, 1) := by decide +kernel
theorem dX8_write_31 : decode cX8_write 31 = .ok (.bipush 61, 2) := by decide +kernel
theorem dX8_write_33 : decode cX8_write 33 = .ok (.if_icmp .ge 12, 3) := by decide +kernel
theorem dX8_write_36 : decode cX8_write 36 = .ok (.aload_n 0, 1) := by decide +kernel
theorem dX8_write_37 : decode cX8_write 37 = .ok (.getfield 86, 3) := by decide +kernel
theorem dX8_write_40 : decode cX8_write 40 = .ok (.iload_n 1, 1) := by decide +kernel
theorem dX8_write_41 : decode cX8_write 41 = .ok (.iaload, 1) := by decide +kernel
theorem dX8_write_42 : decode cX8_write 42 = .ok (.goto 5, 3) := by decide +kernel
theorem dX8_write_45 : decode cX8_write 45 = .ok (.bipush 61, 2) := by decide +kernel
theorem dX8_write_47 : decode cX8_write 47 = .ok (.istore_n 2, 1) := by decide +kernel
theorem dX8_write_48 : decode cX8_write 48 = .ok (.iload_n 2, 1) := by decide +kernel
theorem dX8_write_49 : decode cX8_write 49 = .ok (.ifCond .le 10, 3) := by decide +kernel
theorem dX8_write_52 : decode cX8_write 52 = .ok (.aload_n 0, 1) := by decide +kernel
theorem dX8_write_53 : decode cX8_write 53 = .ok (.iload_n 2, 1) := by decide +kernel
theorem dX8_write_54 : decode cX8_write 54 = .ok (.iconst 1, 1) := by decide +kernel
theorem dX8_write_55 : decode cX8_write 55 = .ok (.isub, 1) := by decide +kernel
theorem dX8_write_56 : decode cX8_write 56 = .ok (.invokevirtual 243, 3) := by decide +kernel
theorem dX8_write_59 : decode cX8_write 59 = .ok (.iconst 0, 1) := by decide +kernel
theorem dX8_write_60 : decode cX8_write 60 = .ok (.istore_n 3, 1) := by decide +kernel
theorem dX8_write_61 : decode cX8_write 61 = .ok (.iload_n 3, 1) := by decide +kernel
theorem dX8_write_62 : decode cX8_write 62 = .ok (.iload_n 2, 1) := by decide +kernel
theorem dX8_write_63 : decode cX8_write 63 = .ok (.if_icmp .ge 21, 3) := by decide +kernel
theorem dX8_write_66 : decode cX8_write 66 = .ok (.aload_n 0, 1) := by decide +kernel
theorem dX8_write_67 : decode cX8_write 67 = .ok (.iload_n 1, 1) := by decide +kernel
theorem dX8_write_68 : decode cX8_write 68 = .ok (.iload_n 3, 1) := by decide +kernel
theorem dX8_write_69 : decode cX8_write 69 = .ok (.aload_n 0, 1) := by decide +kernel
theorem dX8_write_70 : decode cX8_write 70 = .ok (.getfield 71, 3) := by decide +kernel
theorem dX8_write_73 : decode cX8_write 73 = .ok (.iload_n 3, 1) := by decide +kernel
theorem dX8_write_74 : decode cX8_write 74 = .ok (.iaload, 1) := by decide +kernel
theorem dX8_write_75 : decode cX8_write 75 = .ok (.invokevirtual 291, 3) := by decide +kernel
theorem dX8_write_78 : decode cX8_write 78 = .ok (.iinc 3 1, 3) := by decide +kernel
theorem dX8_write_81 : decode cX8_write 81 = .ok (.goto (-20), 3) := by decide +kernel
theorem dX8_write_84 : decode cX8_write 84 = .ok (.iload_n 2, 1) := by decide +kernel
theorem dX8_write_85 : decode cX8_write 85 = .ok (.ireturn, 1) := by decide +kernel
theorem dX8_sumOf_0 : decode cX8_sumOf 0 = .ok (.iconst 0, 1) := by decide +kernel
theorem dX8_sumOf_1 : decode cX8_sumOf 1 = .ok (.istore_n 2, 1) := by decide +kernel
theorem dX8_sumOf_2 : decode cX8_sumOf 2 = .ok (.iconst 0, 1) := by decide +kernel
theorem dX8_sumOf_3 : decode cX8_sumOf 3 = .ok (.istore_n 3, 1) := by decide +kernel
theorem dX8_sumOf_4 : decode cX8_sumOf 4 = .ok (.iload_n 3, 1) := by decide +kernel
theorem dX8_sumOf_5 : decode cX8_sumOf 5 = .ok (.aload_n 0, 1) := by decide +kernel
theorem dX8_sumOf_6 : decode cX8_sumOf 6 = .ok (.getfield 99, 3) := by decide +kernel
theorem dX8_sumOf_9 : decode cX8_sumOf 9 = .ok (.if_icmp .ge 57, 3) := by decide +kernel
theorem dX8_sumOf_12 : decode cX8_sumOf 12 = .ok (.iload_n 2, 1) := by decide +kernel
theorem dX8_sumOf_13 : decode cX8_sumOf 13 = .ok (.iload_n 1, 1) := by decide +kernel
theorem dX8_sumOf_14 : decode cX8_sumOf 14 = .ok (.bipush 7, 2) := by decide +kernel
theorem dX8_sumOf_16 : decode cX8_sumOf 16 = .ok (.if_icmp .ne 12, 3) := by decide +kernel
theorem dX8_sumOf_19 : decode cX8_sumOf 19 = .ok (.aload_n 0, 1) := by decide +kernel
theorem dX8_sumOf_20 : decode cX8_sumOf 20 = .ok (.getfield 28, 3) := by decide +kernel
theorem dX8_sumOf_23 : decode cX8_sumOf 23 = .ok (.iload_n 3, 1) := by decide +kernel
theorem dX8_sumOf_24 : decode cX8_sumOf 24 = .ok (.iaload, 1) := by decide +kernel
theorem dX8_sumOf_25 : decode cX8_sumOf 25 = .ok (.goto 33, 3) := by decide +kernel
theorem dX8_sumOf_28 : decode cX8_sumOf 28 = .ok (.aload_n 0, 1) := by decide +kernel
theorem dX8_sumOf_29 : decode cX8_sumOf 29 = .ok (.getfield 7, 3) := by decide +kernel
theorem dX8_sumOf_32 : decode cX8_sumOf 32 = .ok (.iload_n 3, 1) := by decide +kernel
theorem dX8_sumOf_33 : decode cX8_sumOf 33 = .ok (.iaload, 1) := by decide +kernel
theorem dX8_sumOf_34 : decode cX8_sumOf 34 = .ok (.ifCond .eq 7, 3) := by decide +kernel
theorem dX8_sumOf_37 : decode cX8_sumOf 37 = .ok (.iconst 0, 1) := by decide +kernel
theorem dX8_sumOf_38 : decode cX8_sumOf 38 = .ok (.goto 20, 3) := by decide +kernel
theorem dX8_sumOf_41 : decode cX8_sumOf 41 = .ok (.iload_n 1, 1) := by decide +kernel
theorem dX8_sumOf_42 : decode cX8_sumOf 42 = .ok (.iconst 1, 1) := by decide +kernel
theorem dX8_sumOf_43 : decode cX8_sumOf 43 = .ok (.if_icmp .ne 9, 3) := by decide +kernel
theorem dX8_sumOf_46 : decode cX8_sumOf 46 = .ok (.iconst 1, 1) := by decide +kernel
theorem dX8_sumOf_47 : decode cX8_sumOf 47 = .ok (.iload_n 3, 1) := by decide +kernel
theorem dX8_sumOf_48 : decode cX8_sumOf 48 = .ok (.ishl, 1) := by decide +kernel
theorem dX8_sumOf_49 : decode cX8_sumOf 49 = .ok (.goto 9, 3) := by decide +kernel
theorem dX8_sumOf_52 : decode cX8_sumOf 52 = .ok (.aload_n 0, 1) := by decide +kernel
theorem dX8_sumOf_53 : decode cX8_sumOf 53 = .ok (.getfield 13, 3) := by decide +kernel
theorem dX8_sumOf_56 : decode cX8_sumOf 56 = .ok (.iload_n 3, 1) := by decide +kernel
theorem dX8_sumOf_57 : decode cX8_sumOf 57 = .ok (.iaload, 1) := by decide +kernel
theorem dX8_sumOf_58 : decode cX8_sumOf 58 = .ok (.iadd, 1) := by decide +kernel
theorem dX8_sumOf_59 : decode cX8_sumOf 59 = .ok (.istore_n 2, 1) := by decide +kernel
theorem dX8_sumOf_60 : decode cX8_sumOf 60 = .ok (.iinc 3 1, 3) := by decide +kernel
theorem dX8_sumOf_63 : decode cX8_sumOf 63 = .ok (.goto (-59), 3) := by decide +kernel
theorem dX8_sumOf_66 : decode cX8_sumOf 66 = .ok (.iload_n 2, 1) := by decide +kernel
theorem dX8_sumOf_67 : decode cX8_sumOf 67 = .ok (.ireturn, 1) := by decide +kernel
theorem dX8_count_0 : decode cX8_count 0 = .ok (.iload_n 1, 1) := by decide +kernel
theorem dX8_count_1 : decode cX8_count 1 = .ok (.tableswitch 87 0 8 #[51, 56, 62, 67, 72, 77, 56, 56, 82], 51) := by decide +kernel
theorem dX8_count_52 : decode cX8_count 52 = .ok (.aload_n 0, 1) := by decide +kernel
theorem dX8_count_53 : decode cX8_count 53 = .ok (.getfield 99, 3) := by decide +kernel
theorem dX8_count_56 : decode cX8_count 56 = .ok (.ireturn, 1) := by decide +kernel
theorem dX8_count_57 : decode cX8_count 57 = .ok (.aload_n 0, 1) := by decide +kernel
theorem dX8_count_58 : decode cX8_count 58 = .ok (.iload_n 1, 1) := by decide +kernel
theorem dX8_count_59 : decode cX8_count 59 = .ok (.invokevirtual 296, 3) := by decide +kernel
theorem dX8_count_62 : decode cX8_count 62 = .ok (.ireturn, 1) := by decide +kernel
theorem dX8_count_63 : decode cX8_count 63 = .ok (.aload_n 0, 1) := by decide +kernel
theorem dX8_count_64 : decode cX8_count 64 = .ok (.getfield 117, 3) := by decide +kernel
theorem dX8_count_67 : decode cX8_count 67 = .ok (.ireturn, 1) := by decide +kernel
theorem dX8_count_68 : decode cX8_count 68 = .ok (.aload_n 0, 1) := by decide +kernel
theorem dX8_count_69 : decode cX8_count 69 = .ok (.getfield 120, 3) := by decide +kernel
theorem dX8_count_72 : decode cX8_count 72 = .ok (.ireturn, 1) := by decide +kernel
theorem dX8_count_73 : decode cX8_count 73 = .ok (.aload_n 0, 1) := by decide +kernel
theorem dX8_count_74 : decode cX8_count 74 = .ok (.getfield 123, 3) := by decide +kernel
theorem dX8_count_77 : decode cX8_count 77 = .ok (.ireturn, 1) := by decide +kernel
theorem dX8_count_78 : decode cX8_count 78 = .ok (.aload_n 0, 1) := by decide +kernel
theorem dX8_count_79 : decode cX8_count 79 = .ok (.getfield 126, 3) := by decide +kernel
theorem dX8_count_82 : decode cX8_count 82 = .ok (.ireturn, 1) := by decide +kernel
theorem dX8_count_83 : decode cX8_count 83 = .ok (.aload_n 0, 1) := by decide +kernel
theorem dX8_count_84 : decode cX8_count 84 = .ok (.getfield 285, 3) := by decide +kernel
theorem dX8_count_87 : decode cX8_count 87 = .ok (.ireturn, 1) := by decide +kernel
theorem dX8_count_88 : decode cX8_count 88 = .ok (.bipush (-2), 2) := by decide +kernel
theorem dX8_count_90 : decode cX8_count 90 = .ok (.ireturn, 1) := by decide +kernel
theorem dX8_digest_0 : decode cX8_digest 0 = .ok (.ldc2_w 299, 3) := by decide +kernel
theorem dX8_digest_3 : decode cX8_digest 3 = .ok (.lstore_n 1, 1) := by decide +kernel
theorem dX8_digest_4 : decode cX8_digest 4 = .ok (.iconst 0, 1) := by decide +kernel
theorem dX8_digest_5 : decode cX8_digest 5 = .ok (.istore_n 3, 1) := by decide +kernel
theorem dX8_digest_6 : decode cX8_digest 6 = .ok (.iload_n 3, 1) := by decide +kernel
theorem dX8_digest_7 : decode cX8_digest 7 = .ok (.bipush 8, 2) := by decide +kernel
theorem dX8_digest_9 : decode cX8_digest 9 = .ok (.if_icmp .ge 22, 3) := by decide +kernel
theorem dX8_digest_12 : decode cX8_digest 12 = .ok (.ldc2_w 301, 3) := by decide +kernel
theorem dX8_digest_15 : decode cX8_digest 15 = .ok (.lload_n 1, 1) := by decide +kernel
theorem dX8_digest_16 : decode cX8_digest 16 = .ok (.lmul, 1) := by decide +kernel
theorem dX8_digest_17 : decode cX8_digest 17 = .ok (.aload_n 0, 1) := by decide +kernel
theorem dX8_digest_18 : decode cX8_digest 18 = .ok (.iload_n 3, 1) := by decide +kernel
theorem dX8_digest_19 : decode cX8_digest 19 = .ok (.invokevirtual 303, 3) := by decide +kernel
theorem dX8_digest_22 : decode cX8_digest 22 = .ok (.i2l, 1) := by decide +kernel
theorem dX8_digest_23 : decode cX8_digest 23 = .ok (.ladd, 1) := by decide +kernel
theorem dX8_digest_24 : decode cX8_digest 24 = .ok (.lstore_n 1, 1) := by decide +kernel
theorem dX8_digest_25 : decode cX8_digest 25 = .ok (.iinc 3 1, 3) := by decide +kernel
theorem dX8_digest_28 : decode cX8_digest 28 = .ok (.goto (-22), 3) := by decide +kernel
theorem dX8_digest_31 : decode cX8_digest 31 = .ok (.ldc2_w 301, 3) := by decide +kernel
theorem dX8_digest_34 : decode cX8_digest 34 = .ok (.lload_n 1, 1) := by decide +kernel
theorem dX8_digest_35 : decode cX8_digest 35 = .ok (.lmul, 1) := by decide +kernel
theorem dX8_digest_36 : decode cX8_digest 36 = .ok (.aload_n 0, 1) := by decide +kernel
theorem dX8_digest_37 : decode cX8_digest 37 = .ok (.invokevirtual 154, 3) := by decide +kernel
theorem dX8_digest_40 : decode cX8_digest 40 = .ok (.i2l, 1) := by decide +kernel
theorem dX8_digest_41 : decode cX8_digest 41 = .ok (.ladd, 1) := by decide +kernel
theorem dX8_digest_42 : decode cX8_digest 42 = .ok (.lstore_n 1, 1) := by decide +kernel
theorem dX8_digest_43 : decode cX8_digest 43 = .ok (.aload_n 0, 1) := by decide +kernel
theorem dX8_digest_44 : decode cX8_digest 44 = .ok (.invokevirtual 190, 3) := by decide +kernel
theorem dX8_digest_47 : decode cX8_digest 47 = .ok (.aload_n 0, 1) := by decide +kernel
theorem dX8_digest_48 : decode cX8_digest 48 = .ok (.invokevirtual 193, 3) := by decide +kernel
theorem dX8_digest_51 : decode cX8_digest 51 = .ok (.ldc2_w 301, 3) := by decide +kernel
theorem dX8_digest_54 : decode cX8_digest 54 = .ok (.lload_n 1, 1) := by decide +kernel
theorem dX8_digest_55 : decode cX8_digest 55 = .ok (.lmul, 1) := by decide +kernel
theorem dX8_digest_56 : decode cX8_digest 56 = .ok (.aload_n 0, 1) := by decide +kernel
theorem dX8_digest_57 : decode cX8_digest 57 = .ok (.getfield 178, 3) := by decide +kernel
theorem dX8_digest_60 : decode cX8_digest 60 = .ok (.i2l, 1) := by decide +kernel
theorem dX8_digest_61 : decode cX8_digest 61 = .ok (.ladd, 1) := by decide +kernel
theorem dX8_digest_62 : decode cX8_digest 62 = .ok (.lstore_n 1, 1) := by decide +kernel
theorem dX8_digest_63 : decode cX8_digest 63 = .ok (.iconst 0, 1) := by decide +kernel
theorem dX8_digest_64 : decode cX8_digest 64 = .ok (.istore_n 3, 1) := by decide +kernel
theorem dX8_digest_65 : decode cX8_digest 65 = .ok (.iload_n 3, 1) := by decide +kernel
theorem dX8_digest_66 : decode cX8_digest 66 = .ok (.aload_n 0, 1) := by decide +kernel
theorem dX8_digest_67 : decode cX8_digest 67 = .ok (.getfield 99, 3) := by decide +kernel
theorem dX8_digest_70 : decode cX8_digest 70 = .ok (.if_icmp .ge 36, 3) := by decide +kernel
theorem dX8_digest_73 : decode cX8_digest 73 = .ok (.ldc2_w 301, 3) := by decide +kernel
theorem dX8_digest_76 : decode cX8_digest 76 = .ok (.lload_n 1, 1) := by decide +kernel
theorem dX8_digest_77 : decode cX8_digest 77 = .ok (.lmul, 1) := by decide +kernel
theorem dX8_digest_78 : decode cX8_digest 78 = .ok (.aload_n 0, 1) := by decide +kernel
theorem dX8_digest_79 : decode cX8_digest 79 = .ok (.getfield 50, 3) := by decide +kernel
theorem dX8_digest_82 : decode cX8_digest 82 = .ok (.iload_n 3, 1) := by decide +kernel
theorem dX8_digest_83 : decode cX8_digest 83 = .ok (.iaload, 1) := by decide +kernel
theorem dX8_digest_84 : decode cX8_digest 84 = .ok (.i2l, 1) := by decide +kernel
theorem dX8_digest_85 : decode cX8_digest 85 = .ok (.ladd, 1) := by decide +kernel
theorem dX8_digest_86 : decode cX8_digest 86 = .ok (.lstore_n 1, 1) := by decide +kernel
theorem dX8_digest_87 : decode cX8_digest 87 = .ok (.ldc2_w 301, 3) := by decide +kernel
theorem dX8_digest_90 : decode cX8_digest 90 = .ok (.lload_n 1, 1) := by decide +kernel
theorem dX8_digest_91 : decode cX8_digest 91 = .ok (.lmul, 1) := by decide +kernel
theorem dX8_digest_92 : decode cX8_digest 92 = .ok (.aload_n 0, 1) := by decide +kernel
theorem dX8_digest_93 : decode cX8_digest 93 = .ok (.iload_n 3, 1) := by decide +kernel
theorem dX8_digest_94 : decode cX8_digest 94 = .ok (.invokevirtual 187, 3) := by decide +kernel
theorem dX8_digest_97 : decode cX8_digest 97 = .ok (.i2l, 1) := by decide +kernel
theorem dX8_digest_98 : decode cX8_digest 98 = .ok (.ladd, 1) := by decide +kernel
theorem dX8_digest_99 : decode cX8_digest 99 = .ok (.lstore_n 1, 1) := by decide +kernel
theorem dX8_digest_100 : decode cX8_digest 100 = .ok (.iinc 3 1, 3) := by decide +kernel
theorem dX8_digest_103 : decode cX8_digest 103 = .ok (.goto (-38), 3) := by decide +kernel
theorem dX8_digest_106 : decode cX8_digest 106 = .ok (.ldc2_w 301, 3) := by decide +kernel
theorem dX8_digest_109 : decode cX8_digest 109 = .ok (.lload_n 1, 1) := by decide +kernel
theorem dX8_digest_110 : decode cX8_digest 110 = .ok (.lmul, 1) := by decide +kernel
theorem dX8_digest_111 : decode cX8_digest 111 = .ok (.aload_n 0, 1) := by decide +kernel
theorem dX8_digest_112 : decode cX8_digest 112 = .ok (.invokevirtual 203, 3) := by decide +kernel
theorem dX8_digest_115 : decode cX8_digest 115 = .ok (.i2l, 1) := by decide +kernel
theorem dX8_digest_116 : decode cX8_digest 116 = .ok (.ladd, 1) := by decide +kernel
theorem dX8_digest_117 : decode cX8_digest 117 = .ok (.lstore_n 1, 1) := by decide +kernel
theorem dX8_digest_118 : decode cX8_digest 118 = .ok (.ldc2_w 301, 3) := by decide +kernel
theorem dX8_digest_121 : decode cX8_digest 121 = .ok (.lload_n 1, 1) := by decide +kernel
theorem dX8_digest_122 : decode cX8_digest 122 = .ok (.lmul, 1) := by decide +kernel
theorem dX8_digest_123 : decode cX8_digest 123 = .ok (.aload_n 0, 1) := by decide +kernel
theorem dX8_digest_124 : decode cX8_digest 124 = .ok (.iconst 0, 1) := by decide +kernel
theorem dX8_digest_125 : decode cX8_digest 125 = .ok (.invokevirtual 210, 3) := by decide +kernel
theorem dX8_digest_128 : decode cX8_digest 128 = .ok (.i2l, 1) := by decide +kernel
theorem dX8_digest_129 : decode cX8_digest 129 = .ok (.ladd, 1) := by decide +kernel
theorem dX8_digest_130 : decode cX8_digest 130 = .ok (.lstore_n 1, 1) := by decide +kernel
theorem dX8_digest_131 : decode cX8_digest 131 = .ok (.ldc2_w 301, 3) := by decide +kernel
theorem dX8_digest_134 : decode cX8_digest 134 = .ok (.lload_n 1, 1) := by decide +kernel
theorem dX8_digest_135 : decode cX8_digest 135 = .ok (.lmul, 1) := by decide +kernel
theorem dX8_digest_136 : decode cX8_digest 136 = .ok (.aload_n 0, 1) := by decide +kernel
theorem dX8_digest_137 : decode cX8_digest 137 = .ok (.iconst 1, 1) := by decide +kernel
theorem dX8_digest_138 : decode cX8_digest 138 = .ok (.invokevirtual 210, 3) := by decide +kernel
theorem dX8_digest_141 : decode cX8_digest 141 = .ok (.i2l, 1) := by decide +kernel
theorem dX8_digest_142 : decode cX8_digest 142 = .ok (.ladd, 1) := by decide +kernel
theorem dX8_digest_143 : decode cX8_digest 143 = .ok (.lstore_n 1, 1) := by decide +kernel
theorem dX8_digest_144 : decode cX8_digest 144 = .ok (.ldc2_w 301, 3) := by decide +kernel
theorem dX8_digest_147 : decode cX8_digest 147 = .ok (.lload_n 1, 1) := by decide +kernel
theorem dX8_digest_148 : decode cX8_digest 148 = .ok (.lmul, 1) := by decide +kernel
theorem dX8_digest_149 : decode cX8_digest 149 = .ok (.aload_n 0, 1) := by decide +kernel
theorem dX8_digest_150 : decode cX8_digest 150 = .ok (.iconst 1, 1) := by decide +kernel
theorem dX8_digest_151 : decode cX8_digest 151 = .ok (.invokevirtual 246, 3) := by decide +kernel
theorem dX8_digest_154 : decode cX8_digest 154 = .ok (.i2l, 1) := by decide +kernel
theorem dX8_digest_155 : decode cX8_digest 155 = .ok (.ladd, 1) := by decide +kernel
theorem dX8_digest_156 : decode cX8_digest 156 = .ok (.lstore_n 1, 1) := by decide +kernel
theorem dX8_digest_157 : decode cX8_digest 157 = .ok (.ldc2_w 301, 3) := by decide +kernel
theorem dX8_digest_160 : decode cX8_digest 160 = .ok (.lload_n 1, 1) := by decide +kernel
theorem dX8_digest_161 : decode cX8_digest 161 = .ok (.lmul, 1) := by decide +kernel
theorem dX8_digest_162 : decode cX8_digest 162 = .ok (.aload_n 0, 1) := by decide +kernel
theorem dX8_digest_163 : decode cX8_digest 163 = .ok (.iconst 2, 1) := by decide +kernel
theorem dX8_digest_164 : decode cX8_digest 164 = .ok (.invokevirtual 246, 3) := by decide +kernel
theorem dX8_digest_167 : decode cX8_digest 167 = .ok (.i2l, 1) := by decide +kernel
theorem dX8_digest_168 : decode cX8_digest 168 = .ok (.ladd, 1) := by decide +kernel
theorem dX8_digest_169 : decode cX8_digest 169 = .ok (.lstore_n 1, 1) := by decide +kernel
theorem dX8_digest_170 : decode cX8_digest 170 = .ok (.ldc2_w 301, 3) := by decide +kernel
theorem dX8_digest_173 : decode cX8_digest 173 = .ok (.lload_n 1, 1) := by decide +kernel
theorem dX8_digest_174 : decode cX8_digest 174 = .ok (.lmul, 1) := by decide +kernel
theorem dX8_digest_175 : decode cX8_digest 175 = .ok (.aload_n 0, 1) := by decide +kernel
theorem dX8_digest_176 : decode cX8_digest 176 = .ok (.iconst 0, 1) := by decide +kernel
theorem dX8_digest_177 : decode cX8_digest 177 = .ok (.invokevirtual 256, 3) := by decide +kernel
theorem dX8_digest_180 : decode cX8_digest 180 = .ok (.i2l, 1) := by decide +kernel
theorem dX8_digest_181 : decode cX8_digest 181 = .ok (.ladd, 1) := by decide +kernel
theorem dX8_digest_182 : decode cX8_digest 182 = .ok (.lstore_n 1, 1) := by decide +kernel
theorem dX8_digest_183 : decode cX8_digest 183 = .ok (.ldc2_w 301, 3) := by decide +kernel
theorem dX8_digest_186 : decode cX8_digest 186 = .ok (.lload_n 1, 1) := by decide +kernel
theorem dX8_digest_187 : decode cX8_digest 187 = .ok (.lmul, 1) := by decide +kernel
theorem dX8_digest_188 : decode cX8_digest 188 = .ok (.aload_n 0, 1) := by decide +kernel
theorem dX8_digest_189 : decode cX8_digest 189 = .ok (.iconst 1, 1) := by decide +kernel
theorem dX8_digest_190 : decode cX8_digest 190 = .ok (.invokevirtual 256, 3) := by decide +kernel
theorem dX8_digest_193 : decode cX8_digest 193 = .ok (.i2l, 1) := by decide +kernel
theorem dX8_digest_194 : decode cX8_digest 194 = .ok (.ladd, 1) := by decide +kernel
theorem dX8_digest_195 : decode cX8_digest 195 = .ok (.lstore_n 1, 1) := by decide +kernel
theorem dX8_digest_196 : decode cX8_digest 196 = .ok (.ldc2_w 301, 3) := by decide +kernel
theorem dX8_digest_199 : decode cX8_digest 199 = .ok (.lload_n 1, 1) := by decide +kernel
theorem dX8_digest_200 : decode cX8_digest 200 = .ok (.lmul, 1) := by decide +kernel
theorem dX8_digest_201 : decode cX8_digest 201 = .ok (.aload_n 0, 1) := by decide +kernel
theorem dX8_digest_202 : decode cX8_digest 202 = .ok (.bipush 30, 2) := by decide +kernel
theorem dX8_digest_204 : decode cX8_digest 204 = .ok (.iconst 0, 1) := by decide +kernel
theorem dX8_digest_205 : decode cX8_digest 205 = .ok (.invokevirtual 276, 3) := by decide +kernel
theorem dX8_digest_208 : decode cX8_digest 208 = .ok (.ladd, 1) := by decide +kernel
theorem dX8_digest_209 : decode cX8_digest 209 = .ok (.lreturn, 1) := by decide +kernel
