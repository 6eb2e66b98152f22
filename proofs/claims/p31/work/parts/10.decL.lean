theorem dL_cell_0 : decode cL_cell 0 = .ok (.iload_n 1, 1) := by decide +kernel
theorem dL_cell_1 : decode cL_cell 1 = .ok (.aload_n 0, 1) := by decide +kernel
theorem dL_cell_2 : decode cL_cell 2 = .ok (.arraylength, 1) := by decide +kernel
theorem dL_cell_3 : decode cL_cell 3 = .ok (.if_icmp .ge 9, 3) := by decide +kernel
theorem dL_cell_6 : decode cL_cell 6 = .ok (.aload_n 0, 1) := by decide +kernel
theorem dL_cell_7 : decode cL_cell 7 = .ok (.iload_n 1, 1) := by decide +kernel
theorem dL_cell_8 : decode cL_cell 8 = .ok (.iaload, 1) := by decide +kernel
theorem dL_cell_9 : decode cL_cell 9 = .ok (.goto 10, 3) := by decide +kernel
theorem dL_cell_12 : decode cL_cell 12 = .ok (.ldc 7, 2) := by decide +kernel
theorem dL_cell_14 : decode cL_cell 14 = .ok (.iload_n 1, 1) := by decide +kernel
theorem dL_cell_15 : decode cL_cell 15 = .ok (.imul, 1) := by decide +kernel
theorem dL_cell_16 : decode cL_cell 16 = .ok (.ldc 8, 2) := by decide +kernel
theorem dL_cell_18 : decode cL_cell 18 = .ok (.iadd, 1) := by decide +kernel
theorem dL_cell_19 : decode cL_cell 19 = .ok (.ireturn, 1) := by decide +kernel
theorem dL_low_0 : decode cL_low 0 = .ok (.iload_n 0, 1) := by decide +kernel
theorem dL_low_1 : decode cL_low 1 = .ok (.ldc 9, 2) := by decide +kernel
theorem dL_low_3 : decode cL_low 3 = .ok (.iand, 1) := by decide +kernel
theorem dL_low_4 : decode cL_low 4 = .ok (.iload_n 1, 1) := by decide +kernel
theorem dL_low_5 : decode cL_low 5 = .ok (.irem, 1) := by decide +kernel
theorem dL_low_6 : decode cL_low 6 = .ok (.ireturn, 1) := by decide +kernel
theorem dL_wide_0 : decode cL_wide 0 = .ok (.bipush 8, 2) := by decide +kernel
theorem dL_wide_2 : decode cL_wide 2 = .ok (.istore_n 2, 1) := by decide +kernel
theorem dL_wide_3 : decode cL_wide 3 = .ok (.iconst 0, 1) := by decide +kernel
theorem dL_wide_4 : decode cL_wide 4 = .ok (.istore_n 3, 1) := by decide +kernel
theorem dL_wide_5 : decode cL_wide 5 = .ok (.iload_n 3, 1) := by decide +kernel
theorem dL_wide_6 : decode cL_wide 6 = .ok (.iload_n 1, 1) := by decide +kernel
theorem dL_wide_7 : decode cL_wide 7 = .ok (.if_icmp .ge 24, 3) := by decide +kernel
theorem dL_wide_10 : decode cL_wide 10 = .ok (.aload_n 0, 1) := by decide +kernel
theorem dL_wide_11 : decode cL_wide 11 = .ok (.iload_n 3, 1) := by decide +kernel
theorem dL_wide_12 : decode cL_wide 12 = .ok (.iaload, 1) := by decide +kernel
theorem dL_wide_13 : decode cL_wide 13 = .ok (.iconst 2, 1) := by decide +kernel
theorem dL_wide_14 : decode cL_wide 14 = .ok (.if_icmp .ge 9, 3) := by decide +kernel
theorem dL_wide_17 : decode cL_wide 17 = .ok (.iload_n 2, 1) := by decide +kernel
theorem dL_wide_18 : decode cL_wide 18 = .ok (.iconst 2, 1) := by decide +kernel
theorem dL_wide_19 : decode cL_wide 19 = .ok (.idiv, 1) := by decide +kernel
theorem dL_wide_20 : decode cL_wide 20 = .ok (.goto 4, 3) := by decide +kernel
theorem dL_wide_23 : decode cL_wide 23 = .ok (.iload_n 2, 1) := by decide +kernel
theorem dL_wide_24 : decode cL_wide 24 = .ok (.istore_n 2, 1) := by decide +kernel
theorem dL_wide_25 : decode cL_wide 25 = .ok (.iinc 3 1, 3) := by decide +kernel
theorem dL_wide_28 : decode cL_wide 28 = .ok (.goto (-23), 3) := by decide +kernel
theorem dL_wide_31 : decode cL_wide 31 = .ok (.iload_n 2, 1) := by decide +kernel
theorem dL_wide_32 : decode cL_wide 32 = .ok (.ireturn, 1) := by decide +kernel
theorem dL_high_0 : decode cL_high 0 = .ok (.bipush 8, 2) := by decide +kernel
theorem dL_high_2 : decode cL_high 2 = .ok (.istore_n 2, 1) := by decide +kernel
theorem dL_high_3 : decode cL_high 3 = .ok (.iconst 0, 1) := by decide +kernel
theorem dL_high_4 : decode cL_high 4 = .ok (.istore_n 3, 1) := by decide +kernel
theorem dL_high_5 : decode cL_high 5 = .ok (.iload_n 3, 1) := by decide +kernel
theorem dL_high_6 : decode cL_high 6 = .ok (.iload_n 1, 1) := by decide +kernel
theorem dL_high_7 : decode cL_high 7 = .ok (.if_icmp .ge 24, 3) := by decide +kernel
theorem dL_high_10 : decode cL_high 10 = .ok (.aload_n 0, 1) := by decide +kernel
theorem dL_high_11 : decode cL_high 11 = .ok (.iload_n 3, 1) := by decide +kernel
theorem dL_high_12 : decode cL_high 12 = .ok (.iaload, 1) := by decide +kernel
theorem dL_high_13 : decode cL_high 13 = .ok (.iconst 2, 1) := by decide +kernel
theorem dL_high_14 : decode cL_high 14 = .ok (.if_icmp .ge 7, 3) := by decide +kernel
theorem dL_high_17 : decode cL_high 17 = .ok (.iload_n 2, 1) := by decide +kernel
theorem dL_high_18 : decode cL_high 18 = .ok (.goto 6, 3) := by decide +kernel
theorem dL_high_21 : decode cL_high 21 = .ok (.iload_n 2, 1) := by decide +kernel
theorem dL_high_22 : decode cL_high 22 = .ok (.iconst 2, 1) := by decide +kernel
theorem dL_high_23 : decode cL_high 23 = .ok (.idiv, 1) := by decide +kernel
theorem dL_high_24 : decode cL_high 24 = .ok (.istore_n 2, 1) := by decide +kernel
theorem dL_high_25 : decode cL_high 25 = .ok (.iinc 3 1, 3) := by decide +kernel
theorem dL_high_28 : decode cL_high 28 = .ok (.goto (-23), 3) := by decide +kernel
theorem dL_high_31 : decode cL_high 31 = .ok (.iload_n 2, 1) := by decide +kernel
theorem dL_high_32 : decode cL_high 32 = .ok (.ireturn, 1) := by decide +kernel
set_option maxRecDepth 20000 in
theorem ggL_where_L_wide : GoodIn wsL_where wsL_wide := goodIn_r _ [4] (by decide +kernel) (by decide +kernel)
set_option maxRecDepth 20000 in
theorem gL_where_L_wide : GoodIn wsL_where (va_wsS RL 10 yL_wide wsL_wide) := goodIn_app (goodIn_of _ (by decide +kernel)) ggL_where_L_wide
set_option maxRecDepth 20000 in
theorem ggL_where_L_high : GoodIn wsL_where wsL_high := goodIn_r _ [7] (by decide +kernel) (by decide +kernel)
set_option maxRecDepth 20000 in
theorem gL_where_L_high : GoodIn wsL_where (va_wsS RL 16 yL_high wsL_high) := goodIn_app (goodIn_of _ (by decide +kernel)) ggL_where_L_high
theorem dL_where_0 : decode cL_where 0 = .ok (.iload_n 1, 1) := by decide +kernel
theorem dL_where_1 : decode cL_where 1 = .ok (.bipush 8, 2) := by decide +kernel
theorem dL_where_3 : decode cL_where 3 = .ok (.irem, 1) := by decide +kernel
theorem dL_where_4 : decode cL_where 4 = .ok (.istore_n 2, 1) := by decide +kernel
theorem dL_where_5 : decode cL_where 5 = .ok (.iload_n 1, 1) := by decide +kernel
theorem dL_where_6 : decode cL_where 6 = .ok (.bipush 8, 2) := by decide +kernel
theorem dL_where_8 : decode cL_where 8 = .ok (.idiv, 1) := by decide +kernel
theorem dL_where_9 : decode cL_where 9 = .ok (.istore_n 3, 1) := by decide +kernel
theorem dL_where_10 : decode cL_where 10 = .ok (.iconst 0, 1) := by decide +kernel
theorem dL_where_11 : decode cL_where 11 = .ok (.istore 4, 2) := by decide +kernel
theorem dL_where_13 : decode cL_where 13 = .ok (.iconst 0, 1) := by decide +kernel
theorem dL_where_14 : decode cL_where 14 = .ok (.istore 5, 2) := by decide +kernel
theorem dL_where_16 : decode cL_where 16 = .ok (.iconst 0, 1) := by decide +kernel
theorem dL_where_17 : decode cL_where 17 = .ok (.istore 6, 2) := by decide +kernel
theorem dL_where_19 : decode cL_where 19 = .ok (.iload 6, 2) := by decide +kernel
theorem dL_where_21 : decode cL_where 21 = .ok (.aload_n 0, 1) := by decide +kernel
theorem dL_where_22 : decode cL_where 22 = .ok (.bipush 6, 2) := by decide +kernel
theorem dL_where_24 : decode cL_where 24 = .ok (.iaload, 1) := by decide +kernel
theorem dL_where_25 : decode cL_where 25 = .ok (.if_icmp .ge 244, 3) := by decide +kernel
theorem dL_where_28 : decode cL_where 28 = .ok (.aload_n 0, 1) := by decide +kernel
theorem dL_where_29 : decode cL_where 29 = .ok (.iload 6, 2) := by decide +kernel
theorem dL_where_31 : decode cL_where 31 = .ok (.invokestatic 10, 3) := by decide +kernel
theorem dL_where_34 : decode cL_where 34 = .ok (.istore 7, 2) := by decide +kernel
theorem dL_where_36 : decode cL_where 36 = .ok (.aload_n 0, 1) := by decide +kernel
theorem dL_where_37 : decode cL_where 37 = .ok (.iload 6, 2) := by decide +kernel
theorem dL_where_39 : decode cL_where 39 = .ok (.invokestatic 16, 3) := by decide +kernel
theorem dL_where_42 : decode cL_where 42 = .ok (.istore 8, 2) := by decide +kernel
theorem dL_where_44 : decode cL_where 44 = .ok (.bipush 64, 2) := by decide +kernel
theorem dL_where_46 : decode cL_where 46 = .ok (.iload 7, 2) := by decide +kernel
theorem dL_where_48 : decode cL_where 48 = .ok (.iload 8, 2) := by decide +kernel
theorem dL_where_50 : decode cL_where 50 = .ok (.imul, 1) := by decide +kernel
theorem dL_where_51 : decode cL_where 51 = .ok (.idiv, 1) := by decide +kernel
theorem dL_where_52 : decode cL_where 52 = .ok (.istore 9, 2) := by decide +kernel
theorem dL_where_54 : decode cL_where 54 = .ok (.aload_n 0, 1) := by decide +kernel
theorem dL_where_55 : decode cL_where 55 = .ok (.iload 6, 2) := by decide +kernel
theorem dL_where_57 : decode cL_where 57 = .ok (.iaload, 1) := by decide +kernel
theorem dL_where_58 : decode cL_where 58 = .ok (.ifCond .ne 19, 3) := by decide +kernel
theorem dL_where_61 : decode cL_where 61 = .ok (.iload_n 2, 1) := by decide +kernel
theorem dL_where_62 : decode cL_where 62 = .ok (.iload 7, 2) := by decide +kernel
theorem dL_where_64 : decode cL_where 64 = .ok (.iconst 2, 1) := by decide +kernel
theorem dL_where_65 : decode cL_where 65 = .ok (.idiv, 1) := by decide +kernel
theorem dL_where_66 : decode cL_where 66 = .ok (.if_icmp .ge 7, 3) := by decide +kernel
theorem dL_where_69 : decode cL_where 69 = .ok (.iconst 1, 1) := by decide +kernel
theorem dL_where_70 : decode cL_where 70 = .ok (.goto 68, 3) := by decide +kernel
theorem dL_where_73 : decode cL_where 73 = .ok (.iconst 0, 1) := by decide +kernel
theorem dL_where_74 : decode cL_where 74 = .ok (.goto 64, 3) := by decide +kernel
theorem dL_where_77 : decode cL_where 77 = .ok (.aload_n 0, 1) := by decide +kernel
theorem dL_where_78 : decode cL_where 78 = .ok (.iload 6, 2) := by decide +kernel
theorem dL_where_80 : decode cL_where 80 = .ok (.iaload, 1) := by decide +kernel
theorem dL_where_81 : decode cL_where 81 = .ok (.iconst 1, 1) := by decide +kernel
theorem dL_where_82 : decode cL_where 82 = .ok (.if_icmp .ne 19, 3) := by decide +kernel
theorem dL_where_85 : decode cL_where 85 = .ok (.iload_n 2, 1) := by decide +kernel
theorem dL_where_86 : decode cL_where 86 = .ok (.iload 7, 2) := by decide +kernel
theorem dL_where_88 : decode cL_where 88 = .ok (.iconst 2, 1) := by decide +kernel
theorem dL_where_89 : decode cL_where 89 = .ok (.idiv, 1) := by decide +kernel
theorem dL_where_90 : decode cL_where 90 = .ok (.if_icmp .lt 7, 3) := by decide +kernel
theorem dL_where_93 : decode cL_where 93 = .ok (.iconst 1, 1) := by decide +kernel
theorem dL_where_94 : decode cL_where 94 = .ok (.goto 44, 3) := by decide +kernel
theorem dL_where_97 : decode cL_where 97 = .ok (.iconst 0, 1) := by decide +kernel
theorem dL_where_98 : decode cL_where 98 = .ok (.goto 40, 3) := by decide +kernel
theorem dL_where_101 : decode cL_where 101 = .ok (.aload_n 0, 1) := by decide +kernel
theorem dL_where_102 : decode cL_where 102 = .ok (.iload 6, 2) := by decide +kernel
theorem dL_where_104 : decode cL_where 104 = .ok (.iaload, 1) := by decide +kernel
theorem dL_where_105 : decode cL_where 105 = .ok (.iconst 2, 1) := by decide +kernel
theorem dL_where_106 : decode cL_where 106 = .ok (.if_icmp .ne 19, 3) := by decide +kernel
theorem dL_where_109 : decode cL_where 109 = .ok (.iload_n 3, 1) := by decide +kernel
theorem dL_where_110 : decode cL_where 110 = .ok (.iload 8, 2) := by decide +kernel
theorem dL_where_112 : decode cL_where 112 = .ok (.iconst 2, 1) := by decide +kernel
theorem dL_where_113 : decode cL_where 113 = .ok (.idiv, 1) := by decide +kernel
theorem dL_where_114 : decode cL_where 114 = .ok (.if_icmp .ge 7, 3) := by decide +kernel
theorem dL_where_117 : decode cL_where 117 = .ok (.iconst 1, 1) := by decide +kernel
theorem dL_where_118 : decode cL_where 118 = .ok (.goto 20, 3) := by decide +kernel
theorem dL_where_121 : decode cL_where 121 = .ok (.iconst 0, 1) := by decide +kernel
theorem dL_where_122 : decode cL_where 122 = .ok (.goto 16, 3) := by decide +kernel
theorem dL_where_125 : decode cL_where 125 = .ok (.iload_n 3, 1) := by decide +kernel
theorem dL_where_126 : decode cL_where 126 = .ok (.iload 8, 2) := by decide +kernel
theorem dL_where_128 : decode cL_where 128 = .ok (.iconst 2, 1) := by decide +kernel
theorem dL_where_129 : decode cL_where 129 = .ok (.idiv, 1) := by decide +kernel
theorem dL_where_130 : decode cL_where 130 = .ok (.if_icmp .lt 7, 3) := by decide +kernel
theorem dL_where_133 : decode cL_where 133 = .ok (.iconst 1, 1) := by decide +kernel
theorem dL_where_134 : decode cL_where 134 = .ok (.goto 4, 3) := by decide +kernel
theorem dL_where_137 : decode cL_where 137 = .ok (.iconst 0, 1) := by decide +kernel
theorem dL_where_138 : decode cL_where 138 = .ok (.istore 10, 2) := by decide +kernel
theorem dL_where_140 : decode cL_where 140 = .ok (.iload 10, 2) := by decide +kernel
theorem dL_where_142 : decode cL_where 142 = .ok (.ifCond .eq 13, 3) := by decide +kernel
theorem dL_where_145 : decode cL_where 145 = .ok (.iload 9, 2) := by decide +kernel
theorem dL_where_147 : decode cL_where 147 = .ok (.iconst 1, 1) := by decide +kernel
theorem dL_where_148 : decode cL_where 148 = .ok (.isub, 1) := by decide +kernel
theorem dL_where_149 : decode cL_where 149 = .ok (.iload 4, 2) := by decide +kernel
theorem dL_where_151 : decode cL_where 151 = .ok (.isub, 1) := by decide +kernel
theorem dL_where_152 : decode cL_where 152 = .ok (.goto 8, 3) := by decide +kernel
theorem dL_where_155 : decode cL_where 155 = .ok (.iload 9, 2) := by decide +kernel
theorem dL_where_157 : decode cL_where 157 = .ok (.iload 4, 2) := by decide +kernel
theorem dL_where_159 : decode cL_where 159 = .ok (.iadd, 1) := by decide +kernel
theorem dL_where_160 : decode cL_where 160 = .ok (.istore 4, 2) := by decide +kernel
theorem dL_where_162 : decode cL_where 162 = .ok (.iload 10, 2) := by decide +kernel
theorem dL_where_164 : decode cL_where 164 = .ok (.ifCond .eq 10, 3) := by decide +kernel
theorem dL_where_167 : decode cL_where 167 = .ok (.iconst 1, 1) := by decide +kernel
theorem dL_where_168 : decode cL_where 168 = .ok (.iload 5, 2) := by decide +kernel
theorem dL_where_170 : decode cL_where 170 = .ok (.isub, 1) := by decide +kernel
theorem dL_where_171 : decode cL_where 171 = .ok (.goto 5, 3) := by decide +kernel
theorem dL_where_174 : decode cL_where 174 = .ok (.iload 5, 2) := by decide +kernel
theorem dL_where_176 : decode cL_where 176 = .ok (.istore 5, 2) := by decide +kernel
theorem dL_where_178 : decode cL_where 178 = .ok (.iload 10, 2) := by decide +kernel
theorem dL_where_180 : decode cL_where 180 = .ok (.ifCond .eq 20, 3) := by decide +kernel
theorem dL_where_183 : decode cL_where 183 = .ok (.aload_n 0, 1) := by decide +kernel
theorem dL_where_184 : decode cL_where 184 = .ok (.iload 6, 2) := by decide +kernel
theorem dL_where_186 : decode cL_where 186 = .ok (.iaload, 1) := by decide +kernel
theorem dL_where_187 : decode cL_where 187 = .ok (.iconst 2, 1) := by decide +kernel
theorem dL_where_188 : decode cL_where 188 = .ok (.if_icmp .ge 12, 3) := by decide +kernel
theorem dL_where_191 : decode cL_where 191 = .ok (.iload 7, 2) := by decide +kernel
theorem dL_where_193 : decode cL_where 193 = .ok (.iconst 1, 1) := by decide +kernel
theorem dL_where_194 : decode cL_where 194 = .ok (.isub, 1) := by decide +kernel
theorem dL_where_195 : decode cL_where 195 = .ok (.iload_n 2, 1) := by decide +kernel
theorem dL_where_196 : decode cL_where 196 = .ok (.isub, 1) := by decide +kernel
theorem dL_where_197 : decode cL_where 197 = .ok (.goto 4, 3) := by decide +kernel
theorem dL_where_200 : decode cL_where 200 = .ok (.iload_n 2, 1) := by decide +kernel
theorem dL_where_201 : decode cL_where 201 = .ok (.istore_n 2, 1) := by decide +kernel
theorem dL_where_202 : decode cL_where 202 = .ok (.iload 10, 2) := by decide +kernel
theorem dL_where_204 : decode cL_where 204 = .ok (.ifCond .eq 20, 3) := by decide +kernel
theorem dL_where_207 : decode cL_where 207 = .ok (.aload_n 0, 1) := by decide +kernel
theorem dL_where_208 : decode cL_where 208 = .ok (.iload 6, 2) := by decide +kernel
theorem dL_where_210 : decode cL_where 210 = .ok (.iaload, 1) := by decide +kernel
theorem dL_where_211 : decode cL_where 211 = .ok (.iconst 1, 1) := by decide +kernel
theorem dL_where_212 : decode cL_where 212 = .ok (.if_icmp .le 12, 3) := by decide +kernel
theorem dL_where_215 : decode cL_where 215 = .ok (.iload 8, 2) := by decide +kernel
theorem dL_where_217 : decode cL_where 217 = .ok (.iconst 1, 1) := by decide +kernel
theorem dL_where_218 : decode cL_where 218 = .ok (.isub, 1) := by decide +kernel
theorem dL_where_219 : decode cL_where 219 = .ok (.iload_n 3, 1) := by decide +kernel
theorem dL_where_220 : decode cL_where 220 = .ok (.isub, 1) := by decide +kernel
theorem dL_where_221 : decode cL_where 221 = .ok (.goto 4, 3) := by decide +kernel
theorem dL_where_224 : decode cL_where 224 = .ok (.iload_n 3, 1) := by decide +kernel
theorem dL_where_225 : decode cL_where 225 = .ok (.istore_n 3, 1) := by decide +kernel
theorem dL_where_226 : decode cL_where 226 = .ok (.aload_n 0, 1) := by decide +kernel
theorem dL_where_227 : decode cL_where 227 = .ok (.iload 6, 2) := by decide +kernel
theorem dL_where_229 : decode cL_where 229 = .ok (.iaload, 1) := by decide +kernel
theorem dL_where_230 : decode cL_where 230 = .ok (.ifCond .ne 12, 3) := by decide +kernel
theorem dL_where_233 : decode cL_where 233 = .ok (.iload_n 2, 1) := by decide +kernel
theorem dL_where_234 : decode cL_where 234 = .ok (.iload 7, 2) := by decide +kernel
theorem dL_where_236 : decode cL_where 236 = .ok (.iconst 2, 1) := by decide +kernel
theorem dL_where_237 : decode cL_where 237 = .ok (.idiv, 1) := by decide +kernel
theorem dL_where_238 : decode cL_where 238 = .ok (.isub, 1) := by decide +kernel
theorem dL_where_239 : decode cL_where 239 = .ok (.goto 4, 3) := by decide +kernel
theorem dL_where_242 : decode cL_where 242 = .ok (.iload_n 2, 1) := by decide +kernel
theorem dL_where_243 : decode cL_where 243 = .ok (.istore_n 2, 1) := by decide +kernel
theorem dL_where_244 : decode cL_where 244 = .ok (.aload_n 0, 1) := by decide +kernel
theorem dL_where_245 : decode cL_where 245 = .ok (.iload 6, 2) := by decide +kernel
theorem dL_where_247 : decode cL_where 247 = .ok (.iaload, 1) := by decide +kernel
theorem dL_where_248 : decode cL_where 248 = .ok (.iconst 2, 1) := by decide +kernel
theorem dL_where_249 : decode cL_where 249 = .ok (.if_icmp .ne 12, 3) := by decide +kernel
theorem dL_where_252 : decode cL_where 252 = .ok (.iload_n 3, 1) := by decide +kernel
theorem dL_where_253 : decode cL_where 253 = .ok (.iload 8, 2) := by decide +kernel
theorem dL_where_255 : decode cL_where 255 = .ok (.iconst 2, 1) := by decide +kernel
theorem dL_where_256 : decode cL_where 256 = .ok (.idiv, 1) := by decide +kernel
theorem dL_where_257 : decode cL_where 257 = .ok (.isub, 1) := by decide +kernel
theorem dL_where_258 : decode cL_where 258 = .ok (.goto 4, 3) := by decide +kernel
theorem dL_where_261 : decode cL_where 261 = .ok (.iload_n 3, 1) := by decide +kernel
theorem dL_where_262 : decode cL_where 262 = .ok (.istore_n 3, 1) := by decide +kernel
theorem dL_where_263 : decode cL_where 263 = .ok (.iinc 6 1, 3) := by decide +kernel
theorem dL_where_266 : decode cL_where 266 = .ok (.goto (-247), 3) := by decide +kernel
theorem dL_where_269 : decode cL_where 269 = .ok (.iload_n 2, 1) := by decide +kernel
theorem dL_where_270 : decode cL_where 270 = .ok (.bipush 8, 2) := by decide +kernel
theorem dL_where_272 : decode cL_where 272 = .ok (.iload_n 3, 1) := by decide +kernel
theorem dL_where_273 : decode cL_where 273 = .ok (.imul, 1) := by decide +kernel
theorem dL_where_274 : decode cL_where 274 = .ok (.iadd, 1) := by decide +kernel
theorem dL_where_275 : decode cL_where 275 = .ok (.bipush 64, 2) := by decide +kernel
theorem dL_where_277 : decode cL_where 277 = .ok (.iload 4, 2) := by decide +kernel
theorem dL_where_279 : decode cL_where 279 = .ok (.imul, 1) := by decide +kernel
theorem dL_where_280 : decode cL_where 280 = .ok (.iadd, 1) := by decide +kernel
theorem dL_where_281 : decode cL_where 281 = .ok (.sipush 4096, 3) := by decide +kernel
theorem dL_where_284 : decode cL_where 284 = .ok (.iload 5, 2) := by decide +kernel
theorem dL_where_286 : decode cL_where 286 = .ok (.imul, 1) := by decide +kernel
theorem dL_where_287 : decode cL_where 287 = .ok (.iadd, 1) := by decide +kernel
theorem dL_where_288 : decode cL_where 288 = .ok (.ireturn, 1) := by decide +kernel
set_option maxRecDepth 20000 in
theorem ggL_at_L_where : GoodIn wsL_at wsL_where := goodIn_r _ [4, 5, 6, 3, 7, 8, 9, 10] (by decide +kernel) (by decide +kernel)
set_option maxRecDepth 20000 in
theorem gL_at_L_where : GoodIn wsL_at (va_wsS RL 19 yL_where wsL_where) := goodIn_app (goodIn_of _ (by decide +kernel)) ggL_at_L_where
theorem dL_at_0 : decode cL_at 0 = .ok (.iconst (-1), 1) := by decide +kernel
theorem dL_at_1 : decode cL_at 1 = .ok (.istore 4, 2) := by decide +kernel
theorem dL_at_3 : decode cL_at 3 = .ok (.iconst 0, 1) := by decide +kernel
theorem dL_at_4 : decode cL_at 4 = .ok (.istore 5, 2) := by decide +kernel
theorem dL_at_6 : decode cL_at 6 = .ok (.iload 5, 2) := by decide +kernel
theorem dL_at_8 : decode cL_at 8 = .ok (.bipush 64, 2) := by decide +kernel
theorem dL_at_10 : decode cL_at 10 = .ok (.if_icmp .ge 42, 3) := by decide +kernel
theorem dL_at_13 : decode cL_at 13 = .ok (.aload_n 0, 1) := by decide +kernel
theorem dL_at_14 : decode cL_at 14 = .ok (.iload 5, 2) := by decide +kernel
theorem dL_at_16 : decode cL_at 16 = .ok (.invokestatic 19, 3) := by decide +kernel
theorem dL_at_19 : decode cL_at 19 = .ok (.sipush 4096, 3) := by decide +kernel
theorem dL_at_22 : decode cL_at 22 = .ok (.irem, 1) := by decide +kernel
theorem dL_at_23 : decode cL_at 23 = .ok (.iload_n 1, 1) := by decide +kernel
theorem dL_at_24 : decode cL_at 24 = .ok (.bipush 8, 2) := by decide +kernel
theorem dL_at_26 : decode cL_at 26 = .ok (.iload_n 2, 1) := by decide +kernel
theorem dL_at_27 : decode cL_at 27 = .ok (.imul, 1) := by decide +kernel
theorem dL_at_28 : decode cL_at 28 = .ok (.iadd, 1) := by decide +kernel
theorem dL_at_29 : decode cL_at 29 = .ok (.bipush 64, 2) := by decide +kernel
theorem dL_at_31 : decode cL_at 31 = .ok (.iload_n 3, 1) := by decide +kernel
theorem dL_at_32 : decode cL_at 32 = .ok (.imul, 1) := by decide +kernel
theorem dL_at_33 : decode cL_at 33 = .ok (.iadd, 1) := by decide +kernel
theorem dL_at_34 : decode cL_at 34 = .ok (.if_icmp .ne 8, 3) := by decide +kernel
theorem dL_at_37 : decode cL_at 37 = .ok (.iload 5, 2) := by decide +kernel
theorem dL_at_39 : decode cL_at 39 = .ok (.goto 5, 3) := by decide +kernel
theorem dL_at_42 : decode cL_at 42 = .ok (.iload 4, 2) := by decide +kernel
theorem dL_at_44 : decode cL_at 44 = .ok (.istore 4, 2) := by decide +kernel
theorem dL_at_46 : decode cL_at 46 = .ok (.iinc 5 1, 3) := by decide +kernel
theorem dL_at_49 : decode cL_at 49 = .ok (.goto (-43), 3) := by decide +kernel
theorem dL_at_52 : decode cL_at 52 = .ok (.iload 4, 2) := by decide +kernel
theorem dL_at_54 : decode cL_at 54 = .ok (.ireturn, 1) := by decide +kernel
set_option maxRecDepth 20000 in
theorem ggL_layers_L_wide : GoodIn wsL_layers wsL_wide := goodIn_r _ [4] (by decide +kernel) (by decide +kernel)
set_option maxRecDepth 20000 in
theorem gL_layers_L_wide : GoodIn wsL_layers (va_wsS RL 10 yL_wide wsL_wide) := goodIn_app (goodIn_of _ (by decide +kernel)) ggL_layers_L_wide
set_option maxRecDepth 20000 in
theorem ggL_layers_L_high : GoodIn wsL_layers wsL_high := goodIn_r _ [7] (by decide +kernel) (by decide +kernel)
set_option maxRecDepth 20000 in
theorem gL_layers_L_high : GoodIn wsL_layers (va_wsS RL 16 yL_high wsL_high) := goodIn_app (goodIn_of _ (by decide +kernel)) ggL_layers_L_high
theorem dL_layers_0 : decode cL_layers 0 = .ok (.bipush 64, 2) := by decide +kernel
theorem dL_layers_2 : decode cL_layers 2 = .ok (.aload_n 0, 1) := by decide +kernel
theorem dL_layers_3 : decode cL_layers 3 = .ok (.aload_n 0, 1) := by decide +kernel
theorem dL_layers_4 : decode cL_layers 4 = .ok (.bipush 6, 2) := by decide +kernel
theorem dL_layers_6 : decode cL_layers 6 = .ok (.iaload, 1) := by decide +kernel
theorem dL_layers_7 : decode cL_layers 7 = .ok (.invokestatic 10, 3) := by decide +kernel
theorem dL_layers_10 : decode cL_layers 10 = .ok (.aload_n 0, 1) := by decide +kernel
theorem dL_layers_11 : decode cL_layers 11 = .ok (.aload_n 0, 1) := by decide +kernel
theorem dL_layers_12 : decode cL_layers 12 = .ok (.bipush 6, 2) := by decide +kernel
theorem dL_layers_14 : decode cL_layers 14 = .ok (.iaload, 1) := by decide +kernel
theorem dL_layers_15 : decode cL_layers 15 = .ok (.invokestatic 16, 3) := by decide +kernel
theorem dL_layers_18 : decode cL_layers 18 = .ok (.imul, 1) := by decide +kernel
theorem dL_layers_19 : decode cL_layers 19 = .ok (.idiv, 1) := by decide +kernel
theorem dL_layers_20 : decode cL_layers 20 = .ok (.ireturn, 1) := by decide +kernel
set_option maxRecDepth 20000 in
theorem ggL_firstWhole_L_layers : GoodIn wsL_firstWhole wsL_layers := goodIn_r _ [4, 5, 6, 3, 7, 8, 9, 10] (by decide +kernel) (by decide +kernel)
set_option maxRecDepth 20000 in
theorem gL_firstWhole_L_layers : GoodIn wsL_firstWhole (va_wsS RL 22 yL_layers wsL_layers) := goodIn_app (goodIn_of _ (by decide +kernel)) ggL_firstWhole_L_layers
set_option maxRecDepth 20000 in
theorem ggL_firstWhole_L_at : GoodIn wsL_firstWhole wsL_at := goodIn_r _ [13, 14, 15, 3, 16, 5, 6, 7, 8, 9, 10] (by decide +kernel) (by decide +kernel)
set_option maxRecDepth 20000 in
theorem gL_firstWhole_L_at : GoodIn wsL_firstWhole (va_wsS RL 26 yL_at wsL_at) := goodIn_app (goodIn_of _ (by decide +kernel)) ggL_firstWhole_L_at
theorem dL_firstWhole_0 : decode cL_firstWhole 0 = .ok (.iconst 0, 1) := by decide +kernel
theorem dL_firstWhole_1 : decode cL_firstWhole 1 = .ok (.istore 4, 2) := by decide +kernel
theorem dL_firstWhole_3 : decode cL_firstWhole 3 = .ok (.iload 4, 2) := by decide +kernel
theorem dL_firstWhole_5 : decode cL_firstWhole 5 = .ok (.aload_n 0, 1) := by decide +kernel
theorem dL_firstWhole_6 : decode cL_firstWhole 6 = .ok (.invokestatic 22, 3) := by decide +kernel
theorem dL_firstWhole_9 : decode cL_firstWhole 9 = .ok (.if_icmp .ge 23, 3) := by decide +kernel
theorem dL_firstWhole_12 : decode cL_firstWhole 12 = .ok (.aload_n 1, 1) := by decide +kernel
theorem dL_firstWhole_13 : decode cL_firstWhole 13 = .ok (.aload_n 0, 1) := by decide +kernel
theorem dL_firstWhole_14 : decode cL_firstWhole 14 = .ok (.iload_n 2, 1) := by decide +kernel
theorem dL_firstWhole_15 : decode cL_firstWhole 15 = .ok (.iload_n 3, 1) := by decide +kernel
theorem dL_firstWhole_16 : decode cL_firstWhole 16 = .ok (.iload 4, 2) := by decide +kernel
theorem dL_firstWhole_18 : decode cL_firstWhole 18 = .ok (.invokestatic 26, 3) := by decide +kernel
theorem dL_firstWhole_21 : decode cL_firstWhole 21 = .ok (.iaload, 1) := by decide +kernel
theorem dL_firstWhole_22 : decode cL_firstWhole 22 = .ok (.iconst 1, 1) := by decide +kernel
theorem dL_firstWhole_23 : decode cL_firstWhole 23 = .ok (.if_icmp .ne 9, 3) := by decide +kernel
theorem dL_firstWhole_26 : decode cL_firstWhole 26 = .ok (.iinc 4 1, 3) := by decide +kernel
theorem dL_firstWhole_29 : decode cL_firstWhole 29 = .ok (.goto (-26), 3) := by decide +kernel
theorem dL_firstWhole_32 : decode cL_firstWhole 32 = .ok (.iload 4, 2) := by decide +kernel
theorem dL_firstWhole_34 : decode cL_firstWhole 34 = .ok (.ireturn, 1) := by decide +kernel
theorem dL_pieces_0 : decode cL_pieces 0 = .ok (.bipush 64, 2) := by decide +kernel
theorem dL_pieces_2 : decode cL_pieces 2 = .ok (.newarray .int, 2) := by decide +kernel
theorem dL_pieces_4 : decode cL_pieces 4 = .ok (.astore_n 1, 1) := by decide +kernel
theorem dL_pieces_5 : decode cL_pieces 5 = .ok (.bipush 64, 2) := by decide +kernel
theorem dL_pieces_7 : decode cL_pieces 7 = .ok (.newarray .int, 2) := by decide +kernel
theorem dL_pieces_9 : decode cL_pieces 9 = .ok (.astore_n 2, 1) := by decide +kernel
theorem dL_pieces_10 : decode cL_pieces 10 = .ok (.iconst 0, 1) := by decide +kernel
theorem dL_pieces_11 : decode cL_pieces 11 = .ok (.istore_n 3, 1) := by decide +kernel
theorem dL_pieces_12 : decode cL_pieces 12 = .ok (.iconst 0, 1) := by decide +kernel
theorem dL_pieces_13 : decode cL_pieces 13 = .ok (.istore 4, 2) := by decide +kernel
theorem dL_pieces_15 : decode cL_pieces 15 = .ok (.iconst 0, 1) := by decide +kernel
theorem dL_pieces_16 : decode cL_pieces 16 = .ok (.istore 5, 2) := by decide +kernel
theorem dL_pieces_18 : decode cL_pieces 18 = .ok (.iload 5, 2) := by decide +kernel
theorem dL_pieces_20 : decode cL_pieces 20 = .ok (.bipush 64, 2) := by decide +kernel
theorem dL_pieces_22 : decode cL_pieces 22 = .ok (.if_icmp .ge 237, 3) := by decide +kernel
theorem dL_pieces_25 : decode cL_pieces 25 = .ok (.aload_n 0, 1) := by decide +kernel
theorem dL_pieces_26 : decode cL_pieces 26 = .ok (.iload 5, 2) := by decide +kernel
theorem dL_pieces_28 : decode cL_pieces 28 = .ok (.iaload, 1) := by decide +kernel
theorem dL_pieces_29 : decode cL_pieces 29 = .ok (.ifCond .ne 224, 3) := by decide +kernel
theorem dL_pieces_32 : decode cL_pieces 32 = .ok (.aload_n 1, 1) := by decide +kernel
theorem dL_pieces_33 : decode cL_pieces 33 = .ok (.iload 5, 2) := by decide +kernel
theorem dL_pieces_35 : decode cL_pieces 35 = .ok (.iaload, 1) := by decide +kernel
theorem dL_pieces_36 : decode cL_pieces 36 = .ok (.ifCond .ne 217, 3) := by decide +kernel
theorem dL_pieces_39 : decode cL_pieces 39 = .ok (.iconst 0, 1) := by decide +kernel
theorem dL_pieces_40 : decode cL_pieces 40 = .ok (.istore 6, 2) := by decide +kernel
theorem dL_pieces_42 : decode cL_pieces 42 = .ok (.iconst 1, 1) := by decide +kernel
theorem dL_pieces_43 : decode cL_pieces 43 = .ok (.istore 7, 2) := by decide +kernel
theorem dL_pieces_45 : decode cL_pieces 45 = .ok (.aload_n 2, 1) := by decide +kernel
theorem dL_pieces_46 : decode cL_pieces 46 = .ok (.iconst 0, 1) := by decide +kernel
theorem dL_pieces_47 : decode cL_pieces 47 = .ok (.iload 5, 2) := by decide +kernel
theorem dL_pieces_49 : decode cL_pieces 49 = .ok (.iastore, 1) := by decide +kernel
theorem dL_pieces_50 : decode cL_pieces 50 = .ok (.aload_n 1, 1) := by decide +kernel
theorem dL_pieces_51 : decode cL_pieces 51 = .ok (.iload 5, 2) := by decide +kernel
theorem dL_pieces_53 : decode cL_pieces 53 = .ok (.iconst 1, 1) := by decide +kernel
theorem dL_pieces_54 : decode cL_pieces 54 = .ok (.iastore, 1) := by decide +kernel
theorem dL_pieces_55 : decode cL_pieces 55 = .ok (.iload 6, 2) := by decide +kernel
theorem dL_pieces_57 : decode cL_pieces 57 = .ok (.iload 7, 2) := by decide +kernel
theorem dL_pieces_59 : decode cL_pieces 59 = .ok (.if_icmp .ge 175, 3) := by decide +kernel
theorem dL_pieces_62 : decode cL_pieces 62 = .ok (.aload_n 2, 1) := by decide +kernel
theorem dL_pieces_63 : decode cL_pieces 63 = .ok (.iload 6, 2) := by decide +kernel
theorem dL_pieces_65 : decode cL_pieces 65 = .ok (.iaload, 1) := by decide +kernel
theorem dL_pieces_66 : decode cL_pieces 66 = .ok (.istore 8, 2) := by decide +kernel
theorem dL_pieces_68 : decode cL_pieces 68 = .ok (.iinc 6 1, 3) := by decide +kernel
theorem dL_pieces_71 : decode cL_pieces 71 = .ok (.iconst 0, 1) := by decide +kernel
theorem dL_pieces_72 : decode cL_pieces 72 = .ok (.istore 9, 2) := by decide +kernel
theorem dL_pieces_74 : decode cL_pieces 74 = .ok (.iload 9, 2) := by decide +kernel
theorem dL_pieces_76 : decode cL_pieces 76 = .ok (.iconst 4, 1) := by decide +kernel
theorem dL_pieces_77 : decode cL_pieces 77 = .ok (.if_icmp .ge 154, 3) := by decide +kernel
theorem dL_pieces_80 : decode cL_pieces 80 = .ok (.iload 8, 2) := by decide +kernel
theorem dL_pieces_82 : decode cL_pieces 82 = .ok (.bipush 8, 2) := by decide +kernel
theorem dL_pieces_84 : decode cL_pieces 84 = .ok (.irem, 1) := by decide +kernel
theorem dL_pieces_85 : decode cL_pieces 85 = .ok (.iload 9, 2) := by decide +kernel
theorem dL_pieces_87 : decode cL_pieces 87 = .ok (.ifCond .ne 7, 3) := by decide +kernel
theorem dL_pieces_90 : decode cL_pieces 90 = .ok (.iconst 1, 1) := by decide +kernel
theorem dL_pieces_91 : decode cL_pieces 91 = .ok (.goto 14, 3) := by decide +kernel
theorem dL_pieces_94 : decode cL_pieces 94 = .ok (.iload 9, 2) := by decide +kernel
theorem dL_pieces_96 : decode cL_pieces 96 = .ok (.iconst 1, 1) := by decide +kernel
theorem dL_pieces_97 : decode cL_pieces 97 = .ok (.if_icmp .ne 7, 3) := by decide +kernel
theorem dL_pieces_100 : decode cL_pieces 100 = .ok (.iconst (-1), 1) := by decide +kernel
theorem dL_pieces_101 : decode cL_pieces 101 = .ok (.goto 4, 3) := by decide +kernel
theorem dL_pieces_104 : decode cL_pieces 104 = .ok (.iconst 0, 1) := by decide +kernel
theorem dL_pieces_105 : decode cL_pieces 105 = .ok (.iadd, 1) := by decide +kernel
theorem dL_pieces_106 : decode cL_pieces 106 = .ok (.istore 10, 2) := by decide +kernel
theorem dL_pieces_108 : decode cL_pieces 108 = .ok (.iload 8, 2) := by decide +kernel
theorem dL_pieces_110 : decode cL_pieces 110 = .ok (.bipush 8, 2) := by decide +kernel
theorem dL_pieces_112 : decode cL_pieces 112 = .ok (.idiv, 1) := by decide +kernel
theorem dL_pieces_113 : decode cL_pieces 113 = .ok (.iload 9, 2) := by decide +kernel
theorem dL_pieces_115 : decode cL_pieces 115 = .ok (.iconst 2, 1) := by decide +kernel
theorem dL_pieces_116 : decode cL_pieces 116 = .ok (.if_icmp .ne 7, 3) := by decide +kernel
theorem dL_pieces_119 : decode cL_pieces 119 = .ok (.iconst 1, 1) := by decide +kernel
theorem dL_pieces_120 : decode cL_pieces 120 = .ok (.goto 14, 3) := by decide +kernel
theorem dL_pieces_123 : decode cL_pieces 123 = .ok (.iload 9, 2) := by decide +kernel
theorem dL_pieces_125 : decode cL_pieces 125 = .ok (.iconst 3, 1) := by decide +kernel
theorem dL_pieces_126 : decode cL_pieces 126 = .ok (.if_icmp .ne 7, 3) := by decide +kernel
theorem dL_pieces_129 : decode cL_pieces 129 = .ok (.iconst (-1), 1) := by decide +kernel
theorem dL_pieces_130 : decode cL_pieces 130 = .ok (.goto 4, 3) := by decide +kernel
theorem dL_pieces_133 : decode cL_pieces 133 = .ok (.iconst 0, 1) := by decide +kernel
theorem dL_pieces_134 : decode cL_pieces 134 = .ok (.iadd, 1) := by decide +kernel
theorem dL_pieces_135 : decode cL_pieces 135 = .ok (.istore 11, 2) := by decide +kernel
theorem dL_pieces_137 : decode cL_pieces 137 = .ok (.iload 10, 2) := by decide +kernel
theorem dL_pieces_139 : decode cL_pieces 139 = .ok (.ifCond .lt 26, 3) := by decide +kernel
theorem dL_pieces_142 : decode cL_pieces 142 = .ok (.iload 10, 2) := by decide +kernel
theorem dL_pieces_144 : decode cL_pieces 144 = .ok (.bipush 8, 2) := by decide +kernel
theorem dL_pieces_146 : decode cL_pieces 146 = .ok (.if_icmp .ge 19, 3) := by decide +kernel
theorem dL_pieces_149 : decode cL_pieces 149 = .ok (.iload 11, 2) := by decide +kernel
theorem dL_pieces_151 : decode cL_pieces 151 = .ok (.ifCond .lt 14, 3) := by decide +kernel
theorem dL_pieces_154 : decode cL_pieces 154 = .ok (.iload 11, 2) := by decide +kernel
theorem dL_pieces_156 : decode cL_pieces 156 = .ok (.bipush 8, 2) := by decide +kernel
theorem dL_pieces_158 : decode cL_pieces 158 = .ok (.if_icmp .ge 7, 3) := by decide +kernel
theorem dL_pieces_161 : decode cL_pieces 161 = .ok (.iconst 1, 1) := by decide +kernel
theorem dL_pieces_162 : decode cL_pieces 162 = .ok (.goto 4, 3) := by decide +kernel
theorem dL_pieces_165 : decode cL_pieces 165 = .ok (.iconst 0, 1) := by decide +kernel
theorem dL_pieces_166 : decode cL_pieces 166 = .ok (.istore 12, 2) := by decide +kernel
theorem dL_pieces_168 : decode cL_pieces 168 = .ok (.iload 12, 2) := by decide +kernel
theorem dL_pieces_170 : decode cL_pieces 170 = .ok (.ifCond .eq 55, 3) := by decide +kernel
theorem dL_pieces_173 : decode cL_pieces 173 = .ok (.aload_n 0, 1) := by decide +kernel
theorem dL_pieces_174 : decode cL_pieces 174 = .ok (.bipush 8, 2) := by decide +kernel
theorem dL_pieces_176 : decode cL_pieces 176 = .ok (.iload 11, 2) := by decide +kernel
theorem dL_pieces_178 : decode cL_pieces 178 = .ok (.imul, 1) := by decide +kernel
theorem dL_pieces_179 : decode cL_pieces 179 = .ok (.iload 10, 2) := by decide +kernel
theorem dL_pieces_181 : decode cL_pieces 181 = .ok (.iadd, 1) := by decide +kernel
theorem dL_pieces_182 : decode cL_pieces 182 = .ok (.iaload, 1) := by decide +kernel
theorem dL_pieces_183 : decode cL_pieces 183 = .ok (.ifCond .ne 42, 3) := by decide +kernel
theorem dL_pieces_186 : decode cL_pieces 186 = .ok (.aload_n 1, 1) := by decide +kernel
theorem dL_pieces_187 : decode cL_pieces 187 = .ok (.bipush 8, 2) := by decide +kernel
theorem dL_pieces_189 : decode cL_pieces 189 = .ok (.iload 11, 2) := by decide +kernel
theorem dL_pieces_191 : decode cL_pieces 191 = .ok (.imul, 1) := by decide +kernel
theorem dL_pieces_192 : decode cL_pieces 192 = .ok (.iload 10, 2) := by decide +kernel
theorem dL_pieces_194 : decode cL_pieces 194 = .ok (.iadd, 1) := by decide +kernel
theorem dL_pieces_195 : decode cL_pieces 195 = .ok (.iaload, 1) := by decide +kernel
theorem dL_pieces_196 : decode cL_pieces 196 = .ok (.ifCond .ne 29, 3) := by decide +kernel
theorem dL_pieces_199 : decode cL_pieces 199 = .ok (.aload_n 1, 1) := by decide +kernel
theorem dL_pieces_200 : decode cL_pieces 200 = .ok (.bipush 8, 2) := by decide +kernel
theorem dL_pieces_202 : decode cL_pieces 202 = .ok (.iload 11, 2) := by decide +kernel
theorem dL_pieces_204 : decode cL_pieces 204 = .ok (.imul, 1) := by decide +kernel
theorem dL_pieces_205 : decode cL_pieces 205 = .ok (.iload 10, 2) := by decide +kernel
theorem dL_pieces_207 : decode cL_pieces 207 = .ok (.iadd, 1) := by decide +kernel
theorem dL_pieces_208 : decode cL_pieces 208 = .ok (.iconst 1, 1) := by decide +kernel
theorem dL_pieces_209 : decode cL_pieces 209 = .ok (.iastore, 1) := by decide +kernel
theorem dL_pieces_210 : decode cL_pieces 210 = .ok (.aload_n 2, 1) := by decide +kernel
theorem dL_pieces_211 : decode cL_pieces 211 = .ok (.iload 7, 2) := by decide +kernel
theorem dL_pieces_213 : decode cL_pieces 213 = .ok (.bipush 8, 2) := by decide +kernel
theorem dL_pieces_215 : decode cL_pieces 215 = .ok (.iload 11, 2) := by decide +kernel
theorem dL_pieces_217 : decode cL_pieces 217 = .ok (.imul, 1) := by decide +kernel
theorem dL_pieces_218 : decode cL_pieces 218 = .ok (.iload 10, 2) := by decide +kernel
theorem dL_pieces_220 : decode cL_pieces 220 = .ok (.iadd, 1) := by decide +kernel
theorem dL_pieces_221 : decode cL_pieces 221 = .ok (.iastore, 1) := by decide +kernel
theorem dL_pieces_222 : decode cL_pieces 222 = .ok (.iinc 7 1, 3) := by decide +kernel
theorem dL_pieces_225 : decode cL_pieces 225 = .ok (.iinc 9 1, 3) := by decide +kernel
theorem dL_pieces_228 : decode cL_pieces 228 = .ok (.goto (-154), 3) := by decide +kernel
theorem dL_pieces_231 : decode cL_pieces 231 = .ok (.goto (-176), 3) := by decide +kernel
theorem dL_pieces_234 : decode cL_pieces 234 = .ok (.iinc 3 1, 3) := by decide +kernel
theorem dL_pieces_237 : decode cL_pieces 237 = .ok (.iload 7, 2) := by decide +kernel
theorem dL_pieces_239 : decode cL_pieces 239 = .ok (.iload 4, 2) := by decide +kernel
theorem dL_pieces_241 : decode cL_pieces 241 = .ok (.if_icmp .le 8, 3) := by decide +kernel
theorem dL_pieces_244 : decode cL_pieces 244 = .ok (.iload 7, 2) := by decide +kernel
theorem dL_pieces_246 : decode cL_pieces 246 = .ok (.goto 5, 3) := by decide +kernel
theorem dL_pieces_249 : decode cL_pieces 249 = .ok (.iload 4, 2) := by decide +kernel
theorem dL_pieces_251 : decode cL_pieces 251 = .ok (.istore 4, 2) := by decide +kernel
theorem dL_pieces_253 : decode cL_pieces 253 = .ok (.iinc 5 1, 3) := by decide +kernel
theorem dL_pieces_256 : decode cL_pieces 256 = .ok (.goto (-238), 3) := by decide +kernel
theorem dL_pieces_259 : decode cL_pieces 259 = .ok (.iload_n 3, 1) := by decide +kernel
theorem dL_pieces_260 : decode cL_pieces 260 = .ok (.bipush 100, 2) := by decide +kernel
theorem dL_pieces_262 : decode cL_pieces 262 = .ok (.iload 4, 2) := by decide +kernel
theorem dL_pieces_264 : decode cL_pieces 264 = .ok (.imul, 1) := by decide +kernel
theorem dL_pieces_265 : decode cL_pieces 265 = .ok (.iadd, 1) := by decide +kernel
theorem dL_pieces_266 : decode cL_pieces 266 = .ok (.ireturn, 1) := by decide +kernel
set_option maxRecDepth 20000 in
theorem ggL_paper_L_wide : GoodIn wsL_paper wsL_wide := goodIn_r _ [4] (by decide +kernel) (by decide +kernel)
set_option maxRecDepth 20000 in
theorem gL_paper_L_wide : GoodIn wsL_paper (va_wsS RL 10 yL_wide wsL_wide) := goodIn_app (goodIn_of _ (by decide +kernel)) ggL_paper_L_wide
set_option maxRecDepth 20000 in
theorem ggL_paper_L_layers : GoodIn wsL_paper wsL_layers := goodIn_r _ [7, 1, 2, 3, 4, 8, 9, 10] (by decide +kernel) (by decide +kernel)
set_option maxRecDepth 20000 in
theorem gL_paper_L_layers : GoodIn wsL_paper (va_wsS RL 22 yL_layers wsL_layers) := goodIn_app (goodIn_of _ (by decide +kernel)) ggL_paper_L_layers
set_option maxRecDepth 20000 in
theorem ggL_paper_L_where : GoodIn wsL_paper wsL_where := goodIn_r _ [13, 1, 2, 3, 4, 8, 9, 10] (by decide +kernel) (by decide +kernel)
set_option maxRecDepth 20000 in
theorem gL_paper_L_where : GoodIn wsL_paper (va_wsS RL 19 yL_where wsL_where) := goodIn_app (goodIn_of _ (by decide +kernel)) ggL_paper_L_where
set_option maxRecDepth 20000 in
theorem ggL_paper_X5_where : GoodIn wsL_paper wsX5_where := goodIn_r _ [18, 19, 20, 21, 22, 17, 23, 24, 25, 26, 27, 28, 29, 30, 31, 32, 33, 34, 35, 36, 37, 38, 39, 40, 41, 42, 43, 166, 167, 168, 169, 170, 171, 172, 173, 174, 175, 176, 177, 178] (by decide +kernel) (by decide +kernel)
set_option maxRecDepth 20000 in
theorem gL_paper_X5_where : GoodIn wsL_paper (wsV RL 30 RX5 yX5_where wsX5_where) := goodIn_app (goodIn_of _ (by decide +kernel)) ggL_paper_X5_where
set_option maxRecDepth 20000 in
theorem ggL_paper_X5_layer : GoodIn wsL_paper wsX5_layer := goodIn_r _ [47, 19, 20, 48, 49, 50, 51, 27, 52, 53, 54, 55, 56, 57, 58, 59, 60, 61, 62, 63, 64, 65, 29, 66, 67, 68, 69, 70, 71, 72, 73, 30, 31, 32, 33, 34, 38, 39, 40, 35, 36, 37, 74, 75, 76, 77, 78, 17, 79, 80, 81, 82, 83, 84, 85, 86, 87, 88, 166, 167, 168, 169, 170, 171, 172, 173, 174, 175, 176, 177, 178] (by decide +kernel) (by decide +kernel)
set_option maxRecDepth 20000 in
theorem gL_paper_X5_layer : GoodIn wsL_paper (wsV RL 35 RX5 yX5_layer wsX5_layer) := goodIn_app (goodIn_of _ (by decide +kernel)) ggL_paper_X5_layer
set_option maxRecDepth 20000 in
theorem ggL_paper_X5_colour : GoodIn wsL_paper wsX5_colour := goodIn_r _ [92, 19, 21, 22, 17, 23, 83, 84, 85, 86, 87, 88, 166, 167, 168, 169, 170, 171, 172, 173, 174, 175] (by decide +kernel) (by decide +kernel)
set_option maxRecDepth 20000 in
theorem gL_paper_X5_colour : GoodIn wsL_paper (wsV RL 39 RX5 yX5_colour wsX5_colour) := goodIn_app (goodIn_of _ (by decide +kernel)) ggL_paper_X5_colour
set_option maxRecDepth 20000 in
theorem ggL_paper_X5_holes : GoodIn wsL_paper wsX5_holes := goodIn_r _ [96, 19, 48, 97, 98, 17, 99, 100, 101, 102, 166, 167, 168, 169, 170, 171, 172, 173, 174, 175] (by decide +kernel) (by decide +kernel)
set_option maxRecDepth 20000 in
theorem gL_paper_X5_holes : GoodIn wsL_paper (wsV RL 42 RX5 yX5_holes wsX5_holes) := goodIn_app (goodIn_of _ (by decide +kernel)) ggL_paper_X5_holes
set_option maxRecDepth 20000 in
theorem ggL_paper_X5_target : GoodIn wsL_paper wsX5_target := goodIn_r _ [106, 19, 107, 97, 98, 17, 99, 100, 101, 102, 166, 167, 168, 169, 170, 171, 172, 173, 174, 175] (by decide +kernel) (by decide +kernel)
set_option maxRecDepth 20000 in
theorem gL_paper_X5_target : GoodIn wsL_paper (wsV RL 46 RX5 yX5_target wsX5_target) := goodIn_app (goodIn_of _ (by decide +kernel)) ggL_paper_X5_target
set_option maxRecDepth 20000 in
theorem ggL_paper_X5_foldAt : GoodIn wsL_paper wsX5_foldAt := goodIn_r _ [111, 19, 20, 112, 113, 114, 27, 115, 29, 116, 31, 32, 33, 34, 166, 167, 168, 169, 170, 171, 172, 173, 174, 175, 176, 177, 178] (by decide +kernel) (by decide +kernel)
set_option maxRecDepth 20000 in
theorem gL_paper_X5_foldAt : GoodIn wsL_paper (wsV RL 49 RX5 yX5_foldAt wsX5_foldAt) := goodIn_app (goodIn_of _ (by decide +kernel)) ggL_paper_X5_foldAt
set_option maxRecDepth 20000 in
theorem ggL_paper_L_pieces : GoodIn wsL_paper wsL_pieces := goodIn_r _ [119, 120] (by decide +kernel) (by decide +kernel)
set_option maxRecDepth 20000 in
theorem gL_paper_L_pieces : GoodIn wsL_paper (va_wsS RL 52 yL_pieces wsL_pieces) := goodIn_app (goodIn_of _ (by decide +kernel)) ggL_paper_L_pieces
set_option maxRecDepth 20000 in
theorem ggL_paper_X5_size : GoodIn wsL_paper wsX5_size := goodIn_r _ [124, 19, 20, 125, 126, 58, 59, 27, 60, 61, 127, 63, 64, 65, 29, 128, 67, 68, 69, 166, 167, 168, 169, 170, 171, 172, 173, 174, 175, 176, 177, 178] (by decide +kernel) (by decide +kernel)
set_option maxRecDepth 20000 in
theorem gL_paper_X5_size : GoodIn wsL_paper (wsV RL 55 RX5 yX5_size wsX5_size) := goodIn_app (goodIn_of _ (by decide +kernel)) ggL_paper_X5_size
set_option maxRecDepth 20000 in
theorem ggL_paper_L_high : GoodIn wsL_paper wsL_high := goodIn_r _ [10] (by decide +kernel) (by decide +kernel)
set_option maxRecDepth 20000 in
theorem gL_paper_L_high : GoodIn wsL_paper (va_wsS RL 16 yL_high wsL_high) := goodIn_app (goodIn_of _ (by decide +kernel)) ggL_paper_L_high
set_option maxRecDepth 20000 in
theorem ggL_paper_X5_count : GoodIn wsL_paper wsX5_count := goodIn_r _ [132, 19, 48, 133, 107, 134, 135, 136, 137, 138, 139, 140, 141, 142, 143, 144, 145, 146, 147, 148, 149, 150, 151, 152, 153, 154, 155, 156, 157, 158, 159, 160, 161, 162, 163, 164, 86, 165, 88, 166, 167, 168, 169, 170, 171, 172, 173, 174, 175] (by decide +kernel) (by decide +kernel)
set_option maxRecDepth 20000 in
theorem gL_paper_X5_count : GoodIn wsL_paper (wsV RL 58 RX5 yX5_count wsX5_count) := goodIn_app (goodIn_of _ (by decide +kernel)) ggL_paper_X5_count
theorem dL_paper_0 : decode cL_paper 0 = .ok (.aload_n 1, 1) := by decide +kernel
theorem dL_paper_1 : decode cL_paper 1 = .ok (.aload_n 1, 1) := by decide +kernel
theorem dL_paper_2 : decode cL_paper 2 = .ok (.bipush 6, 2) := by decide +kernel
theorem dL_paper_4 : decode cL_paper 4 = .ok (.iaload, 1) := by decide +kernel
theorem dL_paper_5 : decode cL_paper 5 = .ok (.invokestatic 10, 3) := by decide +kernel
theorem dL_paper_8 : decode cL_paper 8 = .ok (.istore 6, 2) := by decide +kernel
theorem dL_paper_10 : decode cL_paper 10 = .ok (.aload_n 1, 1) := by decide +kernel
theorem dL_paper_11 : decode cL_paper 11 = .ok (.invokestatic 22, 3) := by decide +kernel
theorem dL_paper_14 : decode cL_paper 14 = .ok (.istore 7, 2) := by decide +kernel
theorem dL_paper_16 : decode cL_paper 16 = .ok (.iconst 0, 1) := by decide +kernel
theorem dL_paper_17 : decode cL_paper 17 = .ok (.istore 8, 2) := by decide +kernel
theorem dL_paper_19 : decode cL_paper 19 = .ok (.iconst 0, 1) := by decide +kernel
theorem dL_paper_20 : decode cL_paper 20 = .ok (.istore 9, 2) := by decide +kernel
theorem dL_paper_22 : decode cL_paper 22 = .ok (.iconst 0, 1) := by decide +kernel
theorem dL_paper_23 : decode cL_paper 23 = .ok (.istore 10, 2) := by decide +kernel
theorem dL_paper_25 : decode cL_paper 25 = .ok (.iconst 0, 1) := by decide +kernel
theorem dL_paper_26 : decode cL_paper 26 = .ok (.istore 11, 2) := by decide +kernel
theorem dL_paper_28 : decode cL_paper 28 = .ok (.iconst 0, 1) := by decide +kernel
theorem dL_paper_29 : decode cL_paper 29 = .ok (.istore 12, 2) := by decide +kernel
theorem dL_paper_31 : decode cL_paper 31 = .ok (.iload 12, 2) := by decide +kernel
theorem dL_paper_33 : decode cL_paper 33 = .ok (.bipush 64, 2) := by decide +kernel
theorem dL_paper_35 : decode cL_paper 35 = .ok (.if_icmp .ge 373, 3) := by decide +kernel
theorem dL_paper_38 : decode cL_paper 38 = .ok (.aload_n 1, 1) := by decide +kernel
theorem dL_paper_39 : decode cL_paper 39 = .ok (.iload 12, 2) := by decide +kernel
theorem dL_paper_41 : decode cL_paper 41 = .ok (.invokestatic 19, 3) := by decide +kernel
theorem dL_paper_44 : decode cL_paper 44 = .ok (.istore 13, 2) := by decide +kernel
theorem dL_paper_46 : decode cL_paper 46 = .ok (.iload 13, 2) := by decide +kernel
theorem dL_paper_48 : decode cL_paper 48 = .ok (.sipush 4096, 3) := by decide +kernel
theorem dL_paper_51 : decode cL_paper 51 = .ok (.idiv, 1) := by decide +kernel
theorem dL_paper_52 : decode cL_paper 52 = .ok (.istore 14, 2) := by decide +kernel
theorem dL_paper_54 : decode cL_paper 54 = .ok (.iload 13, 2) := by decide +kernel
theorem dL_paper_56 : decode cL_paper 56 = .ok (.sipush 4096, 3) := by decide +kernel
theorem dL_paper_59 : decode cL_paper 59 = .ok (.irem, 1) := by decide +kernel
theorem dL_paper_60 : decode cL_paper 60 = .ok (.bipush 64, 2) := by decide +kernel
theorem dL_paper_62 : decode cL_paper 62 = .ok (.idiv, 1) := by decide +kernel
theorem dL_paper_63 : decode cL_paper 63 = .ok (.istore 15, 2) := by decide +kernel
theorem dL_paper_65 : decode cL_paper 65 = .ok (.aload 5, 2) := by decide +kernel
theorem dL_paper_67 : decode cL_paper 67 = .ok (.iload 12, 2) := by decide +kernel
theorem dL_paper_69 : decode cL_paper 69 = .ok (.bipush 8, 2) := by decide +kernel
theorem dL_paper_71 : decode cL_paper 71 = .ok (.idiv, 1) := by decide +kernel
theorem dL_paper_72 : decode cL_paper 72 = .ok (.iaload, 1) := by decide +kernel
theorem dL_paper_73 : decode cL_paper 73 = .ok (.iload 12, 2) := by decide +kernel
theorem dL_paper_75 : decode cL_paper 75 = .ok (.bipush 8, 2) := by decide +kernel
theorem dL_paper_77 : decode cL_paper 77 = .ok (.irem, 1) := by decide +kernel
theorem dL_paper_78 : decode cL_paper 78 = .ok (.ishr, 1) := by decide +kernel
theorem dL_paper_79 : decode cL_paper 79 = .ok (.iconst 1, 1) := by decide +kernel
theorem dL_paper_80 : decode cL_paper 80 = .ok (.iand, 1) := by decide +kernel
theorem dL_paper_81 : decode cL_paper 81 = .ok (.istore 16, 2) := by decide +kernel
theorem dL_paper_83 : decode cL_paper 83 = .ok (.iload 14, 2) := by decide +kernel
theorem dL_paper_85 : decode cL_paper 85 = .ok (.ifCond .ne 10, 3) := by decide +kernel
theorem dL_paper_88 : decode cL_paper 88 = .ok (.aload_n 3, 1) := by decide +kernel
theorem dL_paper_89 : decode cL_paper 89 = .ok (.iload 12, 2) := by decide +kernel
theorem dL_paper_91 : decode cL_paper 91 = .ok (.iaload, 1) := by decide +kernel
theorem dL_paper_92 : decode cL_paper 92 = .ok (.goto 8, 3) := by decide +kernel
theorem dL_paper_95 : decode cL_paper 95 = .ok (.aload 4, 2) := by decide +kernel
theorem dL_paper_97 : decode cL_paper 97 = .ok (.iload 12, 2) := by decide +kernel
theorem dL_paper_99 : decode cL_paper 99 = .ok (.iaload, 1) := by decide +kernel
theorem dL_paper_100 : decode cL_paper 100 = .ok (.istore 17, 2) := by decide +kernel
theorem dL_paper_102 : decode cL_paper 102 = .ok (.iload 8, 2) := by decide +kernel
theorem dL_paper_104 : decode cL_paper 104 = .ok (.aload_n 2, 1) := by decide +kernel
theorem dL_paper_105 : decode cL_paper 105 = .ok (.iload 12, 2) := by decide +kernel
theorem dL_paper_107 : decode cL_paper 107 = .ok (.iaload, 1) := by decide +kernel
theorem dL_paper_108 : decode cL_paper 108 = .ok (.iadd, 1) := by decide +kernel
theorem dL_paper_109 : decode cL_paper 109 = .ok (.istore 8, 2) := by decide +kernel
theorem dL_paper_111 : decode cL_paper 111 = .ok (.iload 9, 2) := by decide +kernel
theorem dL_paper_113 : decode cL_paper 113 = .ok (.aload_n 3, 1) := by decide +kernel
theorem dL_paper_114 : decode cL_paper 114 = .ok (.iload 12, 2) := by decide +kernel
theorem dL_paper_116 : decode cL_paper 116 = .ok (.iaload, 1) := by decide +kernel
theorem dL_paper_117 : decode cL_paper 117 = .ok (.ifCond .le 7, 3) := by decide +kernel
theorem dL_paper_120 : decode cL_paper 120 = .ok (.iconst 1, 1) := by decide +kernel
theorem dL_paper_121 : decode cL_paper 121 = .ok (.goto 4, 3) := by decide +kernel
theorem dL_paper_124 : decode cL_paper 124 = .ok (.iconst 0, 1) := by decide +kernel
theorem dL_paper_125 : decode cL_paper 125 = .ok (.aload 4, 2) := by decide +kernel
theorem dL_paper_127 : decode cL_paper 127 = .ok (.iload 12, 2) := by decide +kernel
theorem dL_paper_129 : decode cL_paper 129 = .ok (.iaload, 1) := by decide +kernel
theorem dL_paper_130 : decode cL_paper 130 = .ok (.ifCond .le 7, 3) := by decide +kernel
theorem dL_paper_133 : decode cL_paper 133 = .ok (.iconst 1, 1) := by decide +kernel
theorem dL_paper_134 : decode cL_paper 134 = .ok (.goto 4, 3) := by decide +kernel
theorem dL_paper_137 : decode cL_paper 137 = .ok (.iconst 0, 1) := by decide +kernel
theorem dL_paper_138 : decode cL_paper 138 = .ok (.iadd, 1) := by decide +kernel
theorem dL_paper_139 : decode cL_paper 139 = .ok (.iadd, 1) := by decide +kernel
theorem dL_paper_140 : decode cL_paper 140 = .ok (.istore 9, 2) := by decide +kernel
theorem dL_paper_142 : decode cL_paper 142 = .ok (.iload 10, 2) := by decide +kernel
theorem dL_paper_144 : decode cL_paper 144 = .ok (.iload 16, 2) := by decide +kernel
theorem dL_paper_146 : decode cL_paper 146 = .ok (.iadd, 1) := by decide +kernel
theorem dL_paper_147 : decode cL_paper 147 = .ok (.istore 10, 2) := by decide +kernel
theorem dL_paper_149 : decode cL_paper 149 = .ok (.iload 11, 2) := by decide +kernel
theorem dL_paper_151 : decode cL_paper 151 = .ok (.iload 16, 2) := by decide +kernel
theorem dL_paper_153 : decode cL_paper 153 = .ok (.aload_n 2, 1) := by decide +kernel
theorem dL_paper_154 : decode cL_paper 154 = .ok (.iload 12, 2) := by decide +kernel
theorem dL_paper_156 : decode cL_paper 156 = .ok (.iaload, 1) := by decide +kernel
theorem dL_paper_157 : decode cL_paper 157 = .ok (.if_icmp .ne 7, 3) := by decide +kernel
theorem dL_paper_160 : decode cL_paper 160 = .ok (.iconst 0, 1) := by decide +kernel
theorem dL_paper_161 : decode cL_paper 161 = .ok (.goto 4, 3) := by decide +kernel
theorem dL_paper_164 : decode cL_paper 164 = .ok (.iconst 1, 1) := by decide +kernel
theorem dL_paper_165 : decode cL_paper 165 = .ok (.iadd, 1) := by decide +kernel
theorem dL_paper_166 : decode cL_paper 166 = .ok (.istore 11, 2) := by decide +kernel
theorem dL_paper_168 : decode cL_paper 168 = .ok (.aload_n 0, 1) := by decide +kernel
theorem dL_paper_169 : decode cL_paper 169 = .ok (.iload 12, 2) := by decide +kernel
theorem dL_paper_171 : decode cL_paper 171 = .ok (.iconst 0, 1) := by decide +kernel
theorem dL_paper_172 : decode cL_paper 172 = .ok (.invokevirtual 30, 3) := by decide +kernel
theorem dL_paper_175 : decode cL_paper 175 = .ok (.iload 13, 2) := by decide +kernel
theorem dL_paper_177 : decode cL_paper 177 = .ok (.bipush 8, 2) := by decide +kernel
theorem dL_paper_179 : decode cL_paper 179 = .ok (.irem, 1) := by decide +kernel
theorem dL_paper_180 : decode cL_paper 180 = .ok (.if_icmp .ne 220, 3) := by decide +kernel
theorem dL_paper_183 : decode cL_paper 183 = .ok (.aload_n 0, 1) := by decide +kernel
theorem dL_paper_184 : decode cL_paper 184 = .ok (.iload 12, 2) := by decide +kernel
theorem dL_paper_186 : decode cL_paper 186 = .ok (.iconst 1, 1) := by decide +kernel
theorem dL_paper_187 : decode cL_paper 187 = .ok (.invokevirtual 30, 3) := by decide +kernel
theorem dL_paper_190 : decode cL_paper 190 = .ok (.iload 13, 2) := by decide +kernel
theorem dL_paper_192 : decode cL_paper 192 = .ok (.bipush 64, 2) := by decide +kernel
theorem dL_paper_194 : decode cL_paper 194 = .ok (.irem, 1) := by decide +kernel
theorem dL_paper_195 : decode cL_paper 195 = .ok (.bipush 8, 2) := by decide +kernel
theorem dL_paper_197 : decode cL_paper 197 = .ok (.idiv, 1) := by decide +kernel
theorem dL_paper_198 : decode cL_paper 198 = .ok (.if_icmp .ne 202, 3) := by decide +kernel
theorem dL_paper_201 : decode cL_paper 201 = .ok (.aload_n 0, 1) := by decide +kernel
theorem dL_paper_202 : decode cL_paper 202 = .ok (.iload 12, 2) := by decide +kernel
theorem dL_paper_204 : decode cL_paper 204 = .ok (.iconst 2, 1) := by decide +kernel
theorem dL_paper_205 : decode cL_paper 205 = .ok (.invokevirtual 30, 3) := by decide +kernel
theorem dL_paper_208 : decode cL_paper 208 = .ok (.iload 15, 2) := by decide +kernel
theorem dL_paper_210 : decode cL_paper 210 = .ok (.if_icmp .ne 190, 3) := by decide +kernel
theorem dL_paper_213 : decode cL_paper 213 = .ok (.aload_n 0, 1) := by decide +kernel
theorem dL_paper_214 : decode cL_paper 214 = .ok (.iload 12, 2) := by decide +kernel
theorem dL_paper_216 : decode cL_paper 216 = .ok (.iconst 3, 1) := by decide +kernel
theorem dL_paper_217 : decode cL_paper 217 = .ok (.invokevirtual 30, 3) := by decide +kernel
theorem dL_paper_220 : decode cL_paper 220 = .ok (.iload 14, 2) := by decide +kernel
theorem dL_paper_222 : decode cL_paper 222 = .ok (.if_icmp .ne 178, 3) := by decide +kernel
theorem dL_paper_225 : decode cL_paper 225 = .ok (.aload_n 0, 1) := by decide +kernel
theorem dL_paper_226 : decode cL_paper 226 = .ok (.iload 13, 2) := by decide +kernel
theorem dL_paper_228 : decode cL_paper 228 = .ok (.bipush 8, 2) := by decide +kernel
theorem dL_paper_230 : decode cL_paper 230 = .ok (.irem, 1) := by decide +kernel
theorem dL_paper_231 : decode cL_paper 231 = .ok (.iload 13, 2) := by decide +kernel
theorem dL_paper_233 : decode cL_paper 233 = .ok (.bipush 64, 2) := by decide +kernel
theorem dL_paper_235 : decode cL_paper 235 = .ok (.irem, 1) := by decide +kernel
theorem dL_paper_236 : decode cL_paper 236 = .ok (.bipush 8, 2) := by decide +kernel
theorem dL_paper_238 : decode cL_paper 238 = .ok (.idiv, 1) := by decide +kernel
theorem dL_paper_239 : decode cL_paper 239 = .ok (.iload 15, 2) := by decide +kernel
theorem dL_paper_241 : decode cL_paper 241 = .ok (.iconst 0, 1) := by decide +kernel
theorem dL_paper_242 : decode cL_paper 242 = .ok (.invokevirtual 35, 3) := by decide +kernel
theorem dL_paper_245 : decode cL_paper 245 = .ok (.iload 12, 2) := by decide +kernel
theorem dL_paper_247 : decode cL_paper 247 = .ok (.if_icmp .ne 153, 3) := by decide +kernel
theorem dL_paper_250 : decode cL_paper 250 = .ok (.aload_n 0, 1) := by decide +kernel
theorem dL_paper_251 : decode cL_paper 251 = .ok (.iload 13, 2) := by decide +kernel
theorem dL_paper_253 : decode cL_paper 253 = .ok (.bipush 8, 2) := by decide +kernel
theorem dL_paper_255 : decode cL_paper 255 = .ok (.irem, 1) := by decide +kernel
theorem dL_paper_256 : decode cL_paper 256 = .ok (.iload 13, 2) := by decide +kernel
theorem dL_paper_258 : decode cL_paper 258 = .ok (.bipush 64, 2) := by decide +kernel
theorem dL_paper_260 : decode cL_paper 260 = .ok (.irem, 1) := by decide +kernel
theorem dL_paper_261 : decode cL_paper 261 = .ok (.bipush 8, 2) := by decide +kernel
theorem dL_paper_263 : decode cL_paper 263 = .ok (.idiv, 1) := by decide +kernel
theorem dL_paper_264 : decode cL_paper 264 = .ok (.iload 15, 2) := by decide +kernel
theorem dL_paper_266 : decode cL_paper 266 = .ok (.iconst 1, 1) := by decide +kernel
theorem dL_paper_267 : decode cL_paper 267 = .ok (.invokevirtual 35, 3) := by decide +kernel
theorem dL_paper_270 : decode cL_paper 270 = .ok (.iload 14, 2) := by decide +kernel
theorem dL_paper_272 : decode cL_paper 272 = .ok (.if_icmp .ne 128, 3) := by decide +kernel
theorem dL_paper_275 : decode cL_paper 275 = .ok (.aload_n 0, 1) := by decide +kernel
theorem dL_paper_276 : decode cL_paper 276 = .ok (.iload 13, 2) := by decide +kernel
theorem dL_paper_278 : decode cL_paper 278 = .ok (.bipush 8, 2) := by decide +kernel
theorem dL_paper_280 : decode cL_paper 280 = .ok (.irem, 1) := by decide +kernel
theorem dL_paper_281 : decode cL_paper 281 = .ok (.iload 13, 2) := by decide +kernel
theorem dL_paper_283 : decode cL_paper 283 = .ok (.bipush 64, 2) := by decide +kernel
theorem dL_paper_285 : decode cL_paper 285 = .ok (.irem, 1) := by decide +kernel
theorem dL_paper_286 : decode cL_paper 286 = .ok (.bipush 8, 2) := by decide +kernel
theorem dL_paper_288 : decode cL_paper 288 = .ok (.idiv, 1) := by decide +kernel
theorem dL_paper_289 : decode cL_paper 289 = .ok (.iload 15, 2) := by decide +kernel
theorem dL_paper_291 : decode cL_paper 291 = .ok (.iconst 2, 1) := by decide +kernel
theorem dL_paper_292 : decode cL_paper 292 = .ok (.invokevirtual 35, 3) := by decide +kernel
theorem dL_paper_295 : decode cL_paper 295 = .ok (.aload_n 2, 1) := by decide +kernel
theorem dL_paper_296 : decode cL_paper 296 = .ok (.iload 12, 2) := by decide +kernel
theorem dL_paper_298 : decode cL_paper 298 = .ok (.iaload, 1) := by decide +kernel
theorem dL_paper_299 : decode cL_paper 299 = .ok (.if_icmp .ne 101, 3) := by decide +kernel
theorem dL_paper_302 : decode cL_paper 302 = .ok (.aload_n 0, 1) := by decide +kernel
theorem dL_paper_303 : decode cL_paper 303 = .ok (.iload 13, 2) := by decide +kernel
theorem dL_paper_305 : decode cL_paper 305 = .ok (.bipush 8, 2) := by decide +kernel
theorem dL_paper_307 : decode cL_paper 307 = .ok (.irem, 1) := by decide +kernel
theorem dL_paper_308 : decode cL_paper 308 = .ok (.iload 13, 2) := by decide +kernel
theorem dL_paper_310 : decode cL_paper 310 = .ok (.bipush 64, 2) := by decide +kernel
theorem dL_paper_312 : decode cL_paper 312 = .ok (.irem, 1) := by decide +kernel
theorem dL_paper_313 : decode cL_paper 313 = .ok (.bipush 8, 2) := by decide +kernel
theorem dL_paper_315 : decode cL_paper 315 = .ok (.idiv, 1) := by decide +kernel
theorem dL_paper_316 : decode cL_paper 316 = .ok (.iload 15, 2) := by decide +kernel
theorem dL_paper_318 : decode cL_paper 318 = .ok (.iconst 3, 1) := by decide +kernel
theorem dL_paper_319 : decode cL_paper 319 = .ok (.invokevirtual 35, 3) := by decide +kernel
theorem dL_paper_322 : decode cL_paper 322 = .ok (.iload 17, 2) := by decide +kernel
theorem dL_paper_324 : decode cL_paper 324 = .ok (.if_icmp .ne 76, 3) := by decide +kernel
theorem dL_paper_327 : decode cL_paper 327 = .ok (.aload_n 0, 1) := by decide +kernel
theorem dL_paper_328 : decode cL_paper 328 = .ok (.iload 12, 2) := by decide +kernel
theorem dL_paper_330 : decode cL_paper 330 = .ok (.iconst 0, 1) := by decide +kernel
theorem dL_paper_331 : decode cL_paper 331 = .ok (.invokevirtual 39, 3) := by decide +kernel
theorem dL_paper_334 : decode cL_paper 334 = .ok (.aload_n 3, 1) := by decide +kernel
theorem dL_paper_335 : decode cL_paper 335 = .ok (.iload 12, 2) := by decide +kernel
theorem dL_paper_337 : decode cL_paper 337 = .ok (.iaload, 1) := by decide +kernel
theorem dL_paper_338 : decode cL_paper 338 = .ok (.if_icmp .ne 62, 3) := by decide +kernel
theorem dL_paper_341 : decode cL_paper 341 = .ok (.aload_n 0, 1) := by decide +kernel
theorem dL_paper_342 : decode cL_paper 342 = .ok (.iload 12, 2) := by decide +kernel
theorem dL_paper_344 : decode cL_paper 344 = .ok (.iconst 1, 1) := by decide +kernel
theorem dL_paper_345 : decode cL_paper 345 = .ok (.invokevirtual 39, 3) := by decide +kernel
theorem dL_paper_348 : decode cL_paper 348 = .ok (.aload 4, 2) := by decide +kernel
theorem dL_paper_350 : decode cL_paper 350 = .ok (.iload 12, 2) := by decide +kernel
theorem dL_paper_352 : decode cL_paper 352 = .ok (.iaload, 1) := by decide +kernel
theorem dL_paper_353 : decode cL_paper 353 = .ok (.if_icmp .ne 47, 3) := by decide +kernel
theorem dL_paper_356 : decode cL_paper 356 = .ok (.aload_n 0, 1) := by decide +kernel
theorem dL_paper_357 : decode cL_paper 357 = .ok (.iload 12, 2) := by decide +kernel
theorem dL_paper_359 : decode cL_paper 359 = .ok (.bipush 8, 2) := by decide +kernel
theorem dL_paper_361 : decode cL_paper 361 = .ok (.idiv, 1) := by decide +kernel
theorem dL_paper_362 : decode cL_paper 362 = .ok (.invokevirtual 42, 3) := by decide +kernel
theorem dL_paper_365 : decode cL_paper 365 = .ok (.iload 12, 2) := by decide +kernel
theorem dL_paper_367 : decode cL_paper 367 = .ok (.bipush 8, 2) := by decide +kernel
theorem dL_paper_369 : decode cL_paper 369 = .ok (.irem, 1) := by decide +kernel
theorem dL_paper_370 : decode cL_paper 370 = .ok (.ishr, 1) := by decide +kernel
theorem dL_paper_371 : decode cL_paper 371 = .ok (.iconst 1, 1) := by decide +kernel
theorem dL_paper_372 : decode cL_paper 372 = .ok (.iand, 1) := by decide +kernel
theorem dL_paper_373 : decode cL_paper 373 = .ok (.aload_n 2, 1) := by decide +kernel
theorem dL_paper_374 : decode cL_paper 374 = .ok (.iload 12, 2) := by decide +kernel
theorem dL_paper_376 : decode cL_paper 376 = .ok (.iaload, 1) := by decide +kernel
theorem dL_paper_377 : decode cL_paper 377 = .ok (.if_icmp .ne 23, 3) := by decide +kernel
theorem dL_paper_380 : decode cL_paper 380 = .ok (.aload_n 0, 1) := by decide +kernel
theorem dL_paper_381 : decode cL_paper 381 = .ok (.iload 12, 2) := by decide +kernel
theorem dL_paper_383 : decode cL_paper 383 = .ok (.bipush 8, 2) := by decide +kernel
theorem dL_paper_385 : decode cL_paper 385 = .ok (.idiv, 1) := by decide +kernel
theorem dL_paper_386 : decode cL_paper 386 = .ok (.invokevirtual 46, 3) := by decide +kernel
theorem dL_paper_389 : decode cL_paper 389 = .ok (.aload 5, 2) := by decide +kernel
theorem dL_paper_391 : decode cL_paper 391 = .ok (.iload 12, 2) := by decide +kernel
theorem dL_paper_393 : decode cL_paper 393 = .ok (.bipush 8, 2) := by decide +kernel
theorem dL_paper_395 : decode cL_paper 395 = .ok (.idiv, 1) := by decide +kernel
theorem dL_paper_396 : decode cL_paper 396 = .ok (.iaload, 1) := by decide +kernel
theorem dL_paper_397 : decode cL_paper 397 = .ok (.if_icmp .eq 5, 3) := by decide +kernel
theorem dL_paper_400 : decode cL_paper 400 = .ok (.iconst 0, 1) := by decide +kernel
theorem dL_paper_401 : decode cL_paper 401 = .ok (.ireturn, 1) := by decide +kernel
theorem dL_paper_402 : decode cL_paper 402 = .ok (.iinc 12 1, 3) := by decide +kernel
theorem dL_paper_405 : decode cL_paper 405 = .ok (.goto (-374), 3) := by decide +kernel
theorem dL_paper_408 : decode cL_paper 408 = .ok (.iconst 0, 1) := by decide +kernel
theorem dL_paper_409 : decode cL_paper 409 = .ok (.istore 12, 2) := by decide +kernel
theorem dL_paper_411 : decode cL_paper 411 = .ok (.iload 12, 2) := by decide +kernel
theorem dL_paper_413 : decode cL_paper 413 = .ok (.bipush 6, 2) := by decide +kernel
theorem dL_paper_415 : decode cL_paper 415 = .ok (.if_icmp .ge 37, 3) := by decide +kernel
theorem dL_paper_418 : decode cL_paper 418 = .ok (.aload_n 0, 1) := by decide +kernel
theorem dL_paper_419 : decode cL_paper 419 = .ok (.iload 12, 2) := by decide +kernel
theorem dL_paper_421 : decode cL_paper 421 = .ok (.invokevirtual 49, 3) := by decide +kernel
theorem dL_paper_424 : decode cL_paper 424 = .ok (.iload 12, 2) := by decide +kernel
theorem dL_paper_426 : decode cL_paper 426 = .ok (.aload_n 1, 1) := by decide +kernel
theorem dL_paper_427 : decode cL_paper 427 = .ok (.bipush 6, 2) := by decide +kernel
theorem dL_paper_429 : decode cL_paper 429 = .ok (.iaload, 1) := by decide +kernel
theorem dL_paper_430 : decode cL_paper 430 = .ok (.if_icmp .ge 10, 3) := by decide +kernel
theorem dL_paper_433 : decode cL_paper 433 = .ok (.aload_n 1, 1) := by decide +kernel
theorem dL_paper_434 : decode cL_paper 434 = .ok (.iload 12, 2) := by decide +kernel
theorem dL_paper_436 : decode cL_paper 436 = .ok (.iaload, 1) := by decide +kernel
theorem dL_paper_437 : decode cL_paper 437 = .ok (.goto 4, 3) := by decide +kernel
theorem dL_paper_440 : decode cL_paper 440 = .ok (.iconst (-1), 1) := by decide +kernel
theorem dL_paper_441 : decode cL_paper 441 = .ok (.if_icmp .eq 5, 3) := by decide +kernel
theorem dL_paper_444 : decode cL_paper 444 = .ok (.iconst 0, 1) := by decide +kernel
theorem dL_paper_445 : decode cL_paper 445 = .ok (.ireturn, 1) := by decide +kernel
theorem dL_paper_446 : decode cL_paper 446 = .ok (.iinc 12 1, 3) := by decide +kernel
theorem dL_paper_449 : decode cL_paper 449 = .ok (.goto (-38), 3) := by decide +kernel
theorem dL_paper_452 : decode cL_paper 452 = .ok (.aload_n 2, 1) := by decide +kernel
theorem dL_paper_453 : decode cL_paper 453 = .ok (.invokestatic 52, 3) := by decide +kernel
theorem dL_paper_456 : decode cL_paper 456 = .ok (.istore 12, 2) := by decide +kernel
theorem dL_paper_458 : decode cL_paper 458 = .ok (.aload_n 0, 1) := by decide +kernel
theorem dL_paper_459 : decode cL_paper 459 = .ok (.iconst 0, 1) := by decide +kernel
theorem dL_paper_460 : decode cL_paper 460 = .ok (.invokevirtual 55, 3) := by decide +kernel
theorem dL_paper_463 : decode cL_paper 463 = .ok (.iload 6, 2) := by decide +kernel
theorem dL_paper_465 : decode cL_paper 465 = .ok (.if_icmp .ne 111, 3) := by decide +kernel
theorem dL_paper_468 : decode cL_paper 468 = .ok (.aload_n 0, 1) := by decide +kernel
theorem dL_paper_469 : decode cL_paper 469 = .ok (.iconst 1, 1) := by decide +kernel
theorem dL_paper_470 : decode cL_paper 470 = .ok (.invokevirtual 55, 3) := by decide +kernel
theorem dL_paper_473 : decode cL_paper 473 = .ok (.aload_n 1, 1) := by decide +kernel
theorem dL_paper_474 : decode cL_paper 474 = .ok (.aload_n 1, 1) := by decide +kernel
theorem dL_paper_475 : decode cL_paper 475 = .ok (.bipush 6, 2) := by decide +kernel
theorem dL_paper_477 : decode cL_paper 477 = .ok (.iaload, 1) := by decide +kernel
theorem dL_paper_478 : decode cL_paper 478 = .ok (.invokestatic 16, 3) := by decide +kernel
theorem dL_paper_481 : decode cL_paper 481 = .ok (.if_icmp .ne 95, 3) := by decide +kernel
theorem dL_paper_484 : decode cL_paper 484 = .ok (.aload_n 0, 1) := by decide +kernel
theorem dL_paper_485 : decode cL_paper 485 = .ok (.iconst 2, 1) := by decide +kernel
theorem dL_paper_486 : decode cL_paper 486 = .ok (.invokevirtual 55, 3) := by decide +kernel
theorem dL_paper_489 : decode cL_paper 489 = .ok (.iload 7, 2) := by decide +kernel
theorem dL_paper_491 : decode cL_paper 491 = .ok (.if_icmp .ne 85, 3) := by decide +kernel
theorem dL_paper_494 : decode cL_paper 494 = .ok (.aload_n 0, 1) := by decide +kernel
theorem dL_paper_495 : decode cL_paper 495 = .ok (.iconst 3, 1) := by decide +kernel
theorem dL_paper_496 : decode cL_paper 496 = .ok (.invokevirtual 55, 3) := by decide +kernel
theorem dL_paper_499 : decode cL_paper 499 = .ok (.aload_n 1, 1) := by decide +kernel
theorem dL_paper_500 : decode cL_paper 500 = .ok (.bipush 6, 2) := by decide +kernel
theorem dL_paper_502 : decode cL_paper 502 = .ok (.iaload, 1) := by decide +kernel
theorem dL_paper_503 : decode cL_paper 503 = .ok (.if_icmp .ne 73, 3) := by decide +kernel
theorem dL_paper_506 : decode cL_paper 506 = .ok (.aload_n 0, 1) := by decide +kernel
theorem dL_paper_507 : decode cL_paper 507 = .ok (.iconst 0, 1) := by decide +kernel
theorem dL_paper_508 : decode cL_paper 508 = .ok (.invokevirtual 58, 3) := by decide +kernel
theorem dL_paper_511 : decode cL_paper 511 = .ok (.iload 8, 2) := by decide +kernel
theorem dL_paper_513 : decode cL_paper 513 = .ok (.if_icmp .ne 63, 3) := by decide +kernel
theorem dL_paper_516 : decode cL_paper 516 = .ok (.aload_n 0, 1) := by decide +kernel
theorem dL_paper_517 : decode cL_paper 517 = .ok (.iconst 1, 1) := by decide +kernel
theorem dL_paper_518 : decode cL_paper 518 = .ok (.invokevirtual 58, 3) := by decide +kernel
theorem dL_paper_521 : decode cL_paper 521 = .ok (.iload 12, 2) := by decide +kernel
theorem dL_paper_523 : decode cL_paper 523 = .ok (.bipush 100, 2) := by decide +kernel
theorem dL_paper_525 : decode cL_paper 525 = .ok (.irem, 1) := by decide +kernel
theorem dL_paper_526 : decode cL_paper 526 = .ok (.if_icmp .ne 50, 3) := by decide +kernel
theorem dL_paper_529 : decode cL_paper 529 = .ok (.aload_n 0, 1) := by decide +kernel
theorem dL_paper_530 : decode cL_paper 530 = .ok (.iconst 2, 1) := by decide +kernel
theorem dL_paper_531 : decode cL_paper 531 = .ok (.invokevirtual 58, 3) := by decide +kernel
theorem dL_paper_534 : decode cL_paper 534 = .ok (.iload 12, 2) := by decide +kernel
theorem dL_paper_536 : decode cL_paper 536 = .ok (.bipush 100, 2) := by decide +kernel
theorem dL_paper_538 : decode cL_paper 538 = .ok (.idiv, 1) := by decide +kernel
theorem dL_paper_539 : decode cL_paper 539 = .ok (.if_icmp .ne 37, 3) := by decide +kernel
theorem dL_paper_542 : decode cL_paper 542 = .ok (.aload_n 0, 1) := by decide +kernel
theorem dL_paper_543 : decode cL_paper 543 = .ok (.iconst 3, 1) := by decide +kernel
theorem dL_paper_544 : decode cL_paper 544 = .ok (.invokevirtual 58, 3) := by decide +kernel
theorem dL_paper_547 : decode cL_paper 547 = .ok (.iload 9, 2) := by decide +kernel
theorem dL_paper_549 : decode cL_paper 549 = .ok (.if_icmp .ne 27, 3) := by decide +kernel
theorem dL_paper_552 : decode cL_paper 552 = .ok (.aload_n 0, 1) := by decide +kernel
theorem dL_paper_553 : decode cL_paper 553 = .ok (.iconst 4, 1) := by decide +kernel
theorem dL_paper_554 : decode cL_paper 554 = .ok (.invokevirtual 58, 3) := by decide +kernel
theorem dL_paper_557 : decode cL_paper 557 = .ok (.iload 10, 2) := by decide +kernel
theorem dL_paper_559 : decode cL_paper 559 = .ok (.if_icmp .ne 17, 3) := by decide +kernel
theorem dL_paper_562 : decode cL_paper 562 = .ok (.aload_n 0, 1) := by decide +kernel
theorem dL_paper_563 : decode cL_paper 563 = .ok (.iconst 5, 1) := by decide +kernel
theorem dL_paper_564 : decode cL_paper 564 = .ok (.invokevirtual 58, 3) := by decide +kernel
theorem dL_paper_567 : decode cL_paper 567 = .ok (.iload 11, 2) := by decide +kernel
theorem dL_paper_569 : decode cL_paper 569 = .ok (.if_icmp .ne 7, 3) := by decide +kernel
theorem dL_paper_572 : decode cL_paper 572 = .ok (.iconst 1, 1) := by decide +kernel
theorem dL_paper_573 : decode cL_paper 573 = .ok (.goto 4, 3) := by decide +kernel
theorem dL_paper_576 : decode cL_paper 576 = .ok (.iconst 0, 1) := by decide +kernel
theorem dL_paper_577 : decode cL_paper 577 = .ok (.ireturn, 1) := by decide +kernel
set_option maxRecDepth 20000 in
theorem ggL_punches_L_wide : GoodIn wsL_punches wsL_wide := goodIn_r _ [5] (by decide +kernel) (by decide +kernel)
set_option maxRecDepth 20000 in
theorem gL_punches_L_wide : GoodIn wsL_punches (va_wsS RL 10 yL_wide wsL_wide) := goodIn_app (goodIn_of _ (by decide +kernel)) ggL_punches_L_wide
set_option maxRecDepth 20000 in
theorem ggL_punches_L_layers : GoodIn wsL_punches wsL_layers := goodIn_r _ [8, 2, 3, 4, 5, 9, 10, 11] (by decide +kernel) (by decide +kernel)
set_option maxRecDepth 20000 in
theorem gL_punches_L_layers : GoodIn wsL_punches (va_wsS RL 22 yL_layers wsL_layers) := goodIn_app (goodIn_of _ (by decide +kernel)) ggL_punches_L_layers
set_option maxRecDepth 20000 in
theorem ggL_punches_L_where : GoodIn wsL_punches wsL_where := goodIn_r _ [14, 2, 3, 4, 5, 9, 10, 11] (by decide +kernel) (by decide +kernel)
set_option maxRecDepth 20000 in
theorem gL_punches_L_where : GoodIn wsL_punches (va_wsS RL 19 yL_where wsL_where) := goodIn_app (goodIn_of _ (by decide +kernel)) ggL_punches_L_where
theorem dL_punches_0 : decode cL_punches 0 = .ok (.aload_n 0, 1) := by decide +kernel
theorem dL_punches_1 : decode cL_punches 1 = .ok (.aload_n 0, 1) := by decide +kernel
theorem dL_punches_2 : decode cL_punches 2 = .ok (.bipush 6, 2) := by decide +kernel
theorem dL_punches_4 : decode cL_punches 4 = .ok (.iaload, 1) := by decide +kernel
theorem dL_punches_5 : decode cL_punches 5 = .ok (.invokestatic 10, 3) := by decide +kernel
theorem dL_punches_8 : decode cL_punches 8 = .ok (.istore_n 2, 1) := by decide +kernel
theorem dL_punches_9 : decode cL_punches 9 = .ok (.aload_n 0, 1) := by decide +kernel
theorem dL_punches_10 : decode cL_punches 10 = .ok (.invokestatic 22, 3) := by decide +kernel
theorem dL_punches_13 : decode cL_punches 13 = .ok (.istore_n 3, 1) := by decide +kernel
theorem dL_punches_14 : decode cL_punches 14 = .ok (.bipush 64, 2) := by decide +kernel
theorem dL_punches_16 : decode cL_punches 16 = .ok (.newarray .int, 2) := by decide +kernel
theorem dL_punches_18 : decode cL_punches 18 = .ok (.astore 4, 2) := by decide +kernel
theorem dL_punches_20 : decode cL_punches 20 = .ok (.iconst 0, 1) := by decide +kernel
theorem dL_punches_21 : decode cL_punches 21 = .ok (.istore 5, 2) := by decide +kernel
theorem dL_punches_23 : decode cL_punches 23 = .ok (.iload 5, 2) := by decide +kernel
theorem dL_punches_25 : decode cL_punches 25 = .ok (.bipush 64, 2) := by decide +kernel
theorem dL_punches_27 : decode cL_punches 27 = .ok (.if_icmp .ge 39, 3) := by decide +kernel
theorem dL_punches_30 : decode cL_punches 30 = .ok (.aload 4, 2) := by decide +kernel
theorem dL_punches_32 : decode cL_punches 32 = .ok (.aload_n 0, 1) := by decide +kernel
theorem dL_punches_33 : decode cL_punches 33 = .ok (.iload 5, 2) := by decide +kernel
theorem dL_punches_35 : decode cL_punches 35 = .ok (.invokestatic 19, 3) := by decide +kernel
theorem dL_punches_38 : decode cL_punches 38 = .ok (.bipush 64, 2) := by decide +kernel
theorem dL_punches_40 : decode cL_punches 40 = .ok (.irem, 1) := by decide +kernel
theorem dL_punches_41 : decode cL_punches 41 = .ok (.dup2, 1) := by decide +kernel
theorem dL_punches_42 : decode cL_punches 42 = .ok (.iaload, 1) := by decide +kernel
theorem dL_punches_43 : decode cL_punches 43 = .ok (.aload_n 1, 1) := by decide +kernel
theorem dL_punches_44 : decode cL_punches 44 = .ok (.iload 5, 2) := by decide +kernel
theorem dL_punches_46 : decode cL_punches 46 = .ok (.bipush 8, 2) := by decide +kernel
theorem dL_punches_48 : decode cL_punches 48 = .ok (.idiv, 1) := by decide +kernel
theorem dL_punches_49 : decode cL_punches 49 = .ok (.iaload, 1) := by decide +kernel
theorem dL_punches_50 : decode cL_punches 50 = .ok (.iload 5, 2) := by decide +kernel
theorem dL_punches_52 : decode cL_punches 52 = .ok (.bipush 8, 2) := by decide +kernel
theorem dL_punches_54 : decode cL_punches 54 = .ok (.irem, 1) := by decide +kernel
theorem dL_punches_55 : decode cL_punches 55 = .ok (.ishr, 1) := by decide +kernel
theorem dL_punches_56 : decode cL_punches 56 = .ok (.iconst 1, 1) := by decide +kernel
theorem dL_punches_57 : decode cL_punches 57 = .ok (.iand, 1) := by decide +kernel
theorem dL_punches_58 : decode cL_punches 58 = .ok (.iadd, 1) := by decide +kernel
theorem dL_punches_59 : decode cL_punches 59 = .ok (.iastore, 1) := by decide +kernel
theorem dL_punches_60 : decode cL_punches 60 = .ok (.iinc 5 1, 3) := by decide +kernel
theorem dL_punches_63 : decode cL_punches 63 = .ok (.goto (-40), 3) := by decide +kernel
theorem dL_punches_66 : decode cL_punches 66 = .ok (.iconst 0, 1) := by decide +kernel
theorem dL_punches_67 : decode cL_punches 67 = .ok (.istore 5, 2) := by decide +kernel
theorem dL_punches_69 : decode cL_punches 69 = .ok (.iconst 0, 1) := by decide +kernel
theorem dL_punches_70 : decode cL_punches 70 = .ok (.istore 6, 2) := by decide +kernel
theorem dL_punches_72 : decode cL_punches 72 = .ok (.iload 6, 2) := by decide +kernel
theorem dL_punches_74 : decode cL_punches 74 = .ok (.bipush 64, 2) := by decide +kernel
theorem dL_punches_76 : decode cL_punches 76 = .ok (.if_icmp .ge 46, 3) := by decide +kernel
theorem dL_punches_79 : decode cL_punches 79 = .ok (.aload 4, 2) := by decide +kernel
theorem dL_punches_81 : decode cL_punches 81 = .ok (.iload 6, 2) := by decide +kernel
theorem dL_punches_83 : decode cL_punches 83 = .ok (.iaload, 1) := by decide +kernel
theorem dL_punches_84 : decode cL_punches 84 = .ok (.ifCond .le 14, 3) := by decide +kernel
theorem dL_punches_87 : decode cL_punches 87 = .ok (.aload 4, 2) := by decide +kernel
theorem dL_punches_89 : decode cL_punches 89 = .ok (.iload 6, 2) := by decide +kernel
theorem dL_punches_91 : decode cL_punches 91 = .ok (.iaload, 1) := by decide +kernel
theorem dL_punches_92 : decode cL_punches 92 = .ok (.iload_n 3, 1) := by decide +kernel
theorem dL_punches_93 : decode cL_punches 93 = .ok (.if_icmp .ge 5, 3) := by decide +kernel
theorem dL_punches_96 : decode cL_punches 96 = .ok (.iconst (-1), 1) := by decide +kernel
theorem dL_punches_97 : decode cL_punches 97 = .ok (.ireturn, 1) := by decide +kernel
theorem dL_punches_98 : decode cL_punches 98 = .ok (.iload 5, 2) := by decide +kernel
theorem dL_punches_100 : decode cL_punches 100 = .ok (.aload 4, 2) := by decide +kernel
theorem dL_punches_102 : decode cL_punches 102 = .ok (.iload 6, 2) := by decide +kernel
theorem dL_punches_104 : decode cL_punches 104 = .ok (.iaload, 1) := by decide +kernel
theorem dL_punches_105 : decode cL_punches 105 = .ok (.ifCond .le 7, 3) := by decide +kernel
theorem dL_punches_108 : decode cL_punches 108 = .ok (.iconst 1, 1) := by decide +kernel
theorem dL_punches_109 : decode cL_punches 109 = .ok (.goto 4, 3) := by decide +kernel
theorem dL_punches_112 : decode cL_punches 112 = .ok (.iconst 0, 1) := by decide +kernel
theorem dL_punches_113 : decode cL_punches 113 = .ok (.iadd, 1) := by decide +kernel
theorem dL_punches_114 : decode cL_punches 114 = .ok (.istore 5, 2) := by decide +kernel
theorem dL_punches_116 : decode cL_punches 116 = .ok (.iinc 6 1, 3) := by decide +kernel
theorem dL_punches_119 : decode cL_punches 119 = .ok (.goto (-47), 3) := by decide +kernel
theorem dL_punches_122 : decode cL_punches 122 = .ok (.iload_n 2, 1) := by decide +kernel
theorem dL_punches_123 : decode cL_punches 123 = .ok (.ifCond .le 8, 3) := by decide +kernel
theorem dL_punches_126 : decode cL_punches 126 = .ok (.iload 5, 2) := by decide +kernel
theorem dL_punches_128 : decode cL_punches 128 = .ok (.goto 4, 3) := by decide +kernel
theorem dL_punches_131 : decode cL_punches 131 = .ok (.iconst (-1), 1) := by decide +kernel
theorem dL_punches_132 : decode cL_punches 132 = .ok (.ireturn, 1) := by decide +kernel
theorem dL_isSame_0 : decode cL_isSame 0 = .ok (.iconst 0, 1) := by decide +kernel
theorem dL_isSame_1 : decode cL_isSame 1 = .ok (.istore_n 2, 1) := by decide +kernel
theorem dL_isSame_2 : decode cL_isSame 2 = .ok (.iload_n 2, 1) := by decide +kernel
theorem dL_isSame_3 : decode cL_isSame 3 = .ok (.bipush 64, 2) := by decide +kernel
theorem dL_isSame_5 : decode cL_isSame 5 = .ok (.if_icmp .ge 88, 3) := by decide +kernel
theorem dL_isSame_8 : decode cL_isSame 8 = .ok (.iload_n 2, 1) := by decide +kernel
theorem dL_isSame_9 : decode cL_isSame 9 = .ok (.bipush 8, 2) := by decide +kernel
theorem dL_isSame_11 : decode cL_isSame 11 = .ok (.irem, 1) := by decide +kernel
theorem dL_isSame_12 : decode cL_isSame 12 = .ok (.istore_n 3, 1) := by decide +kernel
theorem dL_isSame_13 : decode cL_isSame 13 = .ok (.iload_n 2, 1) := by decide +kernel
theorem dL_isSame_14 : decode cL_isSame 14 = .ok (.bipush 8, 2) := by decide +kernel
theorem dL_isSame_16 : decode cL_isSame 16 = .ok (.idiv, 1) := by decide +kernel
theorem dL_isSame_17 : decode cL_isSame 17 = .ok (.istore 4, 2) := by decide +kernel
theorem dL_isSame_19 : decode cL_isSame 19 = .ok (.iload_n 1, 1) := by decide +kernel
theorem dL_isSame_20 : decode cL_isSame 20 = .ok (.ifCond .ne 16, 3) := by decide +kernel
theorem dL_isSame_23 : decode cL_isSame 23 = .ok (.bipush 8, 2) := by decide +kernel
theorem dL_isSame_25 : decode cL_isSame 25 = .ok (.iload 4, 2) := by decide +kernel
theorem dL_isSame_27 : decode cL_isSame 27 = .ok (.imul, 1) := by decide +kernel
theorem dL_isSame_28 : decode cL_isSame 28 = .ok (.bipush 7, 2) := by decide +kernel
theorem dL_isSame_30 : decode cL_isSame 30 = .ok (.iadd, 1) := by decide +kernel
theorem dL_isSame_31 : decode cL_isSame 31 = .ok (.iload_n 3, 1) := by decide +kernel
theorem dL_isSame_32 : decode cL_isSame 32 = .ok (.isub, 1) := by decide +kernel
theorem dL_isSame_33 : decode cL_isSame 33 = .ok (.goto 40, 3) := by decide +kernel
theorem dL_isSame_36 : decode cL_isSame 36 = .ok (.iload_n 1, 1) := by decide +kernel
theorem dL_isSame_37 : decode cL_isSame 37 = .ok (.iconst 1, 1) := by decide +kernel
theorem dL_isSame_38 : decode cL_isSame 38 = .ok (.if_icmp .ne 16, 3) := by decide +kernel
theorem dL_isSame_41 : decode cL_isSame 41 = .ok (.bipush 8, 2) := by decide +kernel
theorem dL_isSame_43 : decode cL_isSame 43 = .ok (.bipush 7, 2) := by decide +kernel
theorem dL_isSame_45 : decode cL_isSame 45 = .ok (.iload 4, 2) := by decide +kernel
theorem dL_isSame_47 : decode cL_isSame 47 = .ok (.isub, 1) := by decide +kernel
theorem dL_isSame_48 : decode cL_isSame 48 = .ok (.imul, 1) := by decide +kernel
theorem dL_isSame_49 : decode cL_isSame 49 = .ok (.iload_n 3, 1) := by decide +kernel
theorem dL_isSame_50 : decode cL_isSame 50 = .ok (.iadd, 1) := by decide +kernel
theorem dL_isSame_51 : decode cL_isSame 51 = .ok (.goto 22, 3) := by decide +kernel
theorem dL_isSame_54 : decode cL_isSame 54 = .ok (.iload_n 1, 1) := by decide +kernel
theorem dL_isSame_55 : decode cL_isSame 55 = .ok (.iconst 2, 1) := by decide +kernel
theorem dL_isSame_56 : decode cL_isSame 56 = .ok (.if_icmp .ne 10, 3) := by decide +kernel
theorem dL_isSame_59 : decode cL_isSame 59 = .ok (.bipush 63, 2) := by decide +kernel
theorem dL_isSame_61 : decode cL_isSame 61 = .ok (.iload_n 2, 1) := by decide +kernel
theorem dL_isSame_62 : decode cL_isSame 62 = .ok (.isub, 1) := by decide +kernel
theorem dL_isSame_63 : decode cL_isSame 63 = .ok (.goto 10, 3) := by decide +kernel
theorem dL_isSame_66 : decode cL_isSame 66 = .ok (.bipush 8, 2) := by decide +kernel
theorem dL_isSame_68 : decode cL_isSame 68 = .ok (.iload_n 3, 1) := by decide +kernel
theorem dL_isSame_69 : decode cL_isSame 69 = .ok (.imul, 1) := by decide +kernel
theorem dL_isSame_70 : decode cL_isSame 70 = .ok (.iload 4, 2) := by decide +kernel
theorem dL_isSame_72 : decode cL_isSame 72 = .ok (.iadd, 1) := by decide +kernel
theorem dL_isSame_73 : decode cL_isSame 73 = .ok (.istore 5, 2) := by decide +kernel
theorem dL_isSame_75 : decode cL_isSame 75 = .ok (.aload_n 0, 1) := by decide +kernel
theorem dL_isSame_76 : decode cL_isSame 76 = .ok (.iload_n 2, 1) := by decide +kernel
theorem dL_isSame_77 : decode cL_isSame 77 = .ok (.iaload, 1) := by decide +kernel
theorem dL_isSame_78 : decode cL_isSame 78 = .ok (.aload_n 0, 1) := by decide +kernel
theorem dL_isSame_79 : decode cL_isSame 79 = .ok (.iload 5, 2) := by decide +kernel
theorem dL_isSame_81 : decode cL_isSame 81 = .ok (.iaload, 1) := by decide +kernel
theorem dL_isSame_82 : decode cL_isSame 82 = .ok (.if_icmp .eq 5, 3) := by decide +kernel
theorem dL_isSame_85 : decode cL_isSame 85 = .ok (.iconst 0, 1) := by decide +kernel
theorem dL_isSame_86 : decode cL_isSame 86 = .ok (.ireturn, 1) := by decide +kernel
theorem dL_isSame_87 : decode cL_isSame 87 = .ok (.iinc 2 1, 3) := by decide +kernel
theorem dL_isSame_90 : decode cL_isSame 90 = .ok (.goto (-88), 3) := by decide +kernel
theorem dL_isSame_93 : decode cL_isSame 93 = .ok (.iconst 1, 1) := by decide +kernel
theorem dL_isSame_94 : decode cL_isSame 94 = .ok (.ireturn, 1) := by decide +kernel
