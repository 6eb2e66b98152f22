theorem dL_law_0 : decode cL_law 0 = .ok (.new 31, 3) := by decide +kernel
theorem dL_law_3 : decode cL_law 3 = .ok (.dup, 1) := by decide +kernel
theorem dL_law_4 : decode cL_law 4 = .ok (.invokespecial 61, 3) := by decide +kernel
theorem dL_law_7 : decode cL_law 7 = .ok (.astore_n 1, 1) := by decide +kernel
theorem dL_law_8 : decode cL_law 8 = .ok (.bipush 7, 2) := by decide +kernel
theorem dL_law_10 : decode cL_law 10 = .ok (.newarray .int, 2) := by decide +kernel
theorem dL_law_12 : decode cL_law 12 = .ok (.astore_n 2, 1) := by decide +kernel
theorem dL_law_13 : decode cL_law 13 = .ok (.bipush 64, 2) := by decide +kernel
theorem dL_law_15 : decode cL_law 15 = .ok (.newarray .int, 2) := by decide +kernel
theorem dL_law_17 : decode cL_law 17 = .ok (.astore_n 3, 1) := by decide +kernel
theorem dL_law_18 : decode cL_law 18 = .ok (.bipush 64, 2) := by decide +kernel
theorem dL_law_20 : decode cL_law 20 = .ok (.newarray .int, 2) := by decide +kernel
theorem dL_law_22 : decode cL_law 22 = .ok (.astore 4, 2) := by decide +kernel
theorem dL_law_24 : decode cL_law 24 = .ok (.bipush 64, 2) := by decide +kernel
theorem dL_law_26 : decode cL_law 26 = .ok (.newarray .int, 2) := by decide +kernel
theorem dL_law_28 : decode cL_law 28 = .ok (.astore 5, 2) := by decide +kernel
theorem dL_law_30 : decode cL_law 30 = .ok (.bipush 8, 2) := by decide +kernel
theorem dL_law_32 : decode cL_law 32 = .ok (.newarray .int, 2) := by decide +kernel
theorem dL_law_34 : decode cL_law 34 = .ok (.astore 6, 2) := by decide +kernel
theorem dL_law_36 : decode cL_law 36 = .ok (.iconst 0, 1) := by decide +kernel
theorem dL_law_37 : decode cL_law 37 = .ok (.istore 7, 2) := by decide +kernel
theorem dL_law_39 : decode cL_law 39 = .ok (.iload 7, 2) := by decide +kernel
theorem dL_law_41 : decode cL_law 41 = .ok (.bipush 32, 2) := by decide +kernel
theorem dL_law_43 : decode cL_law 43 = .ok (.if_icmp .ge 1371, 3) := by decide +kernel
theorem dL_law_46 : decode cL_law 46 = .ok (.aload_n 0, 1) := by decide +kernel
theorem dL_law_47 : decode cL_law 47 = .ok (.iload 7, 2) := by decide +kernel
theorem dL_law_49 : decode cL_law 49 = .ok (.invokestatic 62, 3) := by decide +kernel
theorem dL_law_52 : decode cL_law 52 = .ok (.istore 8, 2) := by decide +kernel
theorem dL_law_54 : decode cL_law 54 = .ok (.iload 8, 2) := by decide +kernel
theorem dL_law_56 : decode cL_law 56 = .ok (.bipush 17, 2) := by decide +kernel
theorem dL_law_58 : decode cL_law 58 = .ok (.invokestatic 65, 3) := by decide +kernel
theorem dL_law_61 : decode cL_law 61 = .ok (.istore 9, 2) := by decide +kernel
theorem dL_law_63 : decode cL_law 63 = .ok (.aload_n 2, 1) := by decide +kernel
theorem dL_law_64 : decode cL_law 64 = .ok (.aload_n 2, 1) := by decide +kernel
theorem dL_law_65 : decode cL_law 65 = .ok (.bipush 6, 2) := by decide +kernel
theorem dL_law_67 : decode cL_law 67 = .ok (.iaload, 1) := by decide +kernel
theorem dL_law_68 : decode cL_law 68 = .ok (.invokestatic 10, 3) := by decide +kernel
theorem dL_law_71 : decode cL_law 71 = .ok (.istore 10, 2) := by decide +kernel
theorem dL_law_73 : decode cL_law 73 = .ok (.aload_n 2, 1) := by decide +kernel
theorem dL_law_74 : decode cL_law 74 = .ok (.aload_n 2, 1) := by decide +kernel
theorem dL_law_75 : decode cL_law 75 = .ok (.bipush 6, 2) := by decide +kernel
theorem dL_law_77 : decode cL_law 77 = .ok (.iaload, 1) := by decide +kernel
theorem dL_law_78 : decode cL_law 78 = .ok (.invokestatic 16, 3) := by decide +kernel
theorem dL_law_81 : decode cL_law 81 = .ok (.istore 11, 2) := by decide +kernel
theorem dL_law_83 : decode cL_law 83 = .ok (.aload_n 2, 1) := by decide +kernel
theorem dL_law_84 : decode cL_law 84 = .ok (.invokestatic 22, 3) := by decide +kernel
theorem dL_law_87 : decode cL_law 87 = .ok (.istore 12, 2) := by decide +kernel
theorem dL_law_89 : decode cL_law 89 = .ok (.iload 8, 2) := by decide +kernel
theorem dL_law_91 : decode cL_law 91 = .ok (.iconst 5, 1) := by decide +kernel
theorem dL_law_92 : decode cL_law 92 = .ok (.ishr, 1) := by decide +kernel
theorem dL_law_93 : decode cL_law 93 = .ok (.iload 10, 2) := by decide +kernel
theorem dL_law_95 : decode cL_law 95 = .ok (.invokestatic 65, 3) := by decide +kernel
theorem dL_law_98 : decode cL_law 98 = .ok (.istore 13, 2) := by decide +kernel
theorem dL_law_100 : decode cL_law 100 = .ok (.iload 8, 2) := by decide +kernel
theorem dL_law_102 : decode cL_law 102 = .ok (.bipush 8, 2) := by decide +kernel
theorem dL_law_104 : decode cL_law 104 = .ok (.ishr, 1) := by decide +kernel
theorem dL_law_105 : decode cL_law 105 = .ok (.iload 11, 2) := by decide +kernel
theorem dL_law_107 : decode cL_law 107 = .ok (.invokestatic 65, 3) := by decide +kernel
theorem dL_law_110 : decode cL_law 110 = .ok (.istore 14, 2) := by decide +kernel
theorem dL_law_112 : decode cL_law 112 = .ok (.iconst 1, 1) := by decide +kernel
theorem dL_law_113 : decode cL_law 113 = .ok (.istore 15, 2) := by decide +kernel
theorem dL_law_115 : decode cL_law 115 = .ok (.iload 9, 2) := by decide +kernel
theorem dL_law_117 : decode cL_law 117 = .ok (.iconst 4, 1) := by decide +kernel
theorem dL_law_118 : decode cL_law 118 = .ok (.if_icmp .ge 92, 3) := by decide +kernel
theorem dL_law_121 : decode cL_law 121 = .ok (.iload 8, 2) := by decide +kernel
theorem dL_law_123 : decode cL_law 123 = .ok (.bipush 11, 2) := by decide +kernel
theorem dL_law_125 : decode cL_law 125 = .ok (.ishr, 1) := by decide +kernel
theorem dL_law_126 : decode cL_law 126 = .ok (.iconst 4, 1) := by decide +kernel
theorem dL_law_127 : decode cL_law 127 = .ok (.invokestatic 65, 3) := by decide +kernel
theorem dL_law_130 : decode cL_law 130 = .ok (.istore 16, 2) := by decide +kernel
theorem dL_law_132 : decode cL_law 132 = .ok (.iload 16, 2) := by decide +kernel
theorem dL_law_134 : decode cL_law 134 = .ok (.iconst 2, 1) := by decide +kernel
theorem dL_law_135 : decode cL_law 135 = .ok (.if_icmp .ge 8, 3) := by decide +kernel
theorem dL_law_138 : decode cL_law 138 = .ok (.iload 10, 2) := by decide +kernel
theorem dL_law_140 : decode cL_law 140 = .ok (.goto 5, 3) := by decide +kernel
theorem dL_law_143 : decode cL_law 143 = .ok (.iload 11, 2) := by decide +kernel
theorem dL_law_145 : decode cL_law 145 = .ok (.iconst 1, 1) := by decide +kernel
theorem dL_law_146 : decode cL_law 146 = .ok (.if_icmp .le 7, 3) := by decide +kernel
theorem dL_law_149 : decode cL_law 149 = .ok (.iconst 1, 1) := by decide +kernel
theorem dL_law_150 : decode cL_law 150 = .ok (.goto 4, 3) := by decide +kernel
theorem dL_law_153 : decode cL_law 153 = .ok (.iconst 0, 1) := by decide +kernel
theorem dL_law_154 : decode cL_law 154 = .ok (.istore 17, 2) := by decide +kernel
theorem dL_law_156 : decode cL_law 156 = .ok (.iload 17, 2) := by decide +kernel
theorem dL_law_158 : decode cL_law 158 = .ok (.ifCond .eq 19, 3) := by decide +kernel
theorem dL_law_161 : decode cL_law 161 = .ok (.aload_n 2, 1) := by decide +kernel
theorem dL_law_162 : decode cL_law 162 = .ok (.aload_n 2, 1) := by decide +kernel
theorem dL_law_163 : decode cL_law 163 = .ok (.bipush 6, 2) := by decide +kernel
theorem dL_law_165 : decode cL_law 165 = .ok (.iaload, 1) := by decide +kernel
theorem dL_law_166 : decode cL_law 166 = .ok (.iload 16, 2) := by decide +kernel
theorem dL_law_168 : decode cL_law 168 = .ok (.iastore, 1) := by decide +kernel
theorem dL_law_169 : decode cL_law 169 = .ok (.aload_n 2, 1) := by decide +kernel
theorem dL_law_170 : decode cL_law 170 = .ok (.bipush 6, 2) := by decide +kernel
theorem dL_law_172 : decode cL_law 172 = .ok (.dup2, 1) := by decide +kernel
theorem dL_law_173 : decode cL_law 173 = .ok (.iaload, 1) := by decide +kernel
theorem dL_law_174 : decode cL_law 174 = .ok (.iconst 1, 1) := by decide +kernel
theorem dL_law_175 : decode cL_law 175 = .ok (.iadd, 1) := by decide +kernel
theorem dL_law_176 : decode cL_law 176 = .ok (.iastore, 1) := by decide +kernel
theorem dL_law_177 : decode cL_law 177 = .ok (.aload_n 1, 1) := by decide +kernel
theorem dL_law_178 : decode cL_law 178 = .ok (.iload 16, 2) := by decide +kernel
theorem dL_law_180 : decode cL_law 180 = .ok (.invokevirtual 68, 3) := by decide +kernel
theorem dL_law_183 : decode cL_law 183 = .ok (.iload 17, 2) := by decide +kernel
theorem dL_law_185 : decode cL_law 185 = .ok (.ifCond .eq 10, 3) := by decide +kernel
theorem dL_law_188 : decode cL_law 188 = .ok (.iconst 2, 1) := by decide +kernel
theorem dL_law_189 : decode cL_law 189 = .ok (.iload 12, 2) := by decide +kernel
theorem dL_law_191 : decode cL_law 191 = .ok (.imul, 1) := by decide +kernel
theorem dL_law_192 : decode cL_law 192 = .ok (.goto 5, 3) := by decide +kernel
theorem dL_law_195 : decode cL_law 195 = .ok (.bipush (-3), 2) := by decide +kernel
theorem dL_law_197 : decode cL_law 197 = .ok (.if_icmp .ne 7, 3) := by decide +kernel
theorem dL_law_200 : decode cL_law 200 = .ok (.iconst 1, 1) := by decide +kernel
theorem dL_law_201 : decode cL_law 201 = .ok (.goto 4, 3) := by decide +kernel
theorem dL_law_204 : decode cL_law 204 = .ok (.iconst 0, 1) := by decide +kernel
theorem dL_law_205 : decode cL_law 205 = .ok (.istore 15, 2) := by decide +kernel
theorem dL_law_207 : decode cL_law 207 = .ok (.goto 686, 3) := by decide +kernel
theorem dL_law_210 : decode cL_law 210 = .ok (.iload 9, 2) := by decide +kernel
theorem dL_law_212 : decode cL_law 212 = .ok (.bipush 6, 2) := by decide +kernel
theorem dL_law_214 : decode cL_law 214 = .ok (.if_icmp .ge 73, 3) := by decide +kernel
theorem dL_law_217 : decode cL_law 217 = .ok (.aload_n 2, 1) := by decide +kernel
theorem dL_law_218 : decode cL_law 218 = .ok (.bipush 6, 2) := by decide +kernel
theorem dL_law_220 : decode cL_law 220 = .ok (.iaload, 1) := by decide +kernel
theorem dL_law_221 : decode cL_law 221 = .ok (.ifCond .le 7, 3) := by decide +kernel
theorem dL_law_224 : decode cL_law 224 = .ok (.iconst 1, 1) := by decide +kernel
theorem dL_law_225 : decode cL_law 225 = .ok (.goto 4, 3) := by decide +kernel
theorem dL_law_228 : decode cL_law 228 = .ok (.iconst 0, 1) := by decide +kernel
theorem dL_law_229 : decode cL_law 229 = .ok (.istore 16, 2) := by decide +kernel
theorem dL_law_231 : decode cL_law 231 = .ok (.iload 16, 2) := by decide +kernel
theorem dL_law_233 : decode cL_law 233 = .ok (.ifCond .eq 14, 3) := by decide +kernel
theorem dL_law_236 : decode cL_law 236 = .ok (.aload_n 2, 1) := by decide +kernel
theorem dL_law_237 : decode cL_law 237 = .ok (.aload_n 2, 1) := by decide +kernel
theorem dL_law_238 : decode cL_law 238 = .ok (.bipush 6, 2) := by decide +kernel
theorem dL_law_240 : decode cL_law 240 = .ok (.iaload, 1) := by decide +kernel
theorem dL_law_241 : decode cL_law 241 = .ok (.iconst 1, 1) := by decide +kernel
theorem dL_law_242 : decode cL_law 242 = .ok (.isub, 1) := by decide +kernel
theorem dL_law_243 : decode cL_law 243 = .ok (.iaload, 1) := by decide +kernel
theorem dL_law_244 : decode cL_law 244 = .ok (.goto 5, 3) := by decide +kernel
theorem dL_law_247 : decode cL_law 247 = .ok (.bipush (-3), 2) := by decide +kernel
theorem dL_law_249 : decode cL_law 249 = .ok (.istore 17, 2) := by decide +kernel
theorem dL_law_251 : decode cL_law 251 = .ok (.aload_n 2, 1) := by decide +kernel
theorem dL_law_252 : decode cL_law 252 = .ok (.bipush 6, 2) := by decide +kernel
theorem dL_law_254 : decode cL_law 254 = .ok (.dup2, 1) := by decide +kernel
theorem dL_law_255 : decode cL_law 255 = .ok (.iaload, 1) := by decide +kernel
theorem dL_law_256 : decode cL_law 256 = .ok (.iload 16, 2) := by decide +kernel
theorem dL_law_258 : decode cL_law 258 = .ok (.ifCond .eq 7, 3) := by decide +kernel
theorem dL_law_261 : decode cL_law 261 = .ok (.iconst 1, 1) := by decide +kernel
theorem dL_law_262 : decode cL_law 262 = .ok (.goto 4, 3) := by decide +kernel
theorem dL_law_265 : decode cL_law 265 = .ok (.iconst 0, 1) := by decide +kernel
theorem dL_law_266 : decode cL_law 266 = .ok (.isub, 1) := by decide +kernel
theorem dL_law_267 : decode cL_law 267 = .ok (.iastore, 1) := by decide +kernel
theorem dL_law_268 : decode cL_law 268 = .ok (.aload_n 1, 1) := by decide +kernel
theorem dL_law_269 : decode cL_law 269 = .ok (.invokevirtual 71, 3) := by decide +kernel
theorem dL_law_272 : decode cL_law 272 = .ok (.iload 17, 2) := by decide +kernel
theorem dL_law_274 : decode cL_law 274 = .ok (.if_icmp .ne 7, 3) := by decide +kernel
theorem dL_law_277 : decode cL_law 277 = .ok (.iconst 1, 1) := by decide +kernel
theorem dL_law_278 : decode cL_law 278 = .ok (.goto 4, 3) := by decide +kernel
theorem dL_law_281 : decode cL_law 281 = .ok (.iconst 0, 1) := by decide +kernel
theorem dL_law_282 : decode cL_law 282 = .ok (.istore 15, 2) := by decide +kernel
theorem dL_law_284 : decode cL_law 284 = .ok (.goto 609, 3) := by decide +kernel
theorem dL_law_287 : decode cL_law 287 = .ok (.iload 9, 2) := by decide +kernel
theorem dL_law_289 : decode cL_law 289 = .ok (.bipush 6, 2) := by decide +kernel
theorem dL_law_291 : decode cL_law 291 = .ok (.if_icmp .ne 41, 3) := by decide +kernel
theorem dL_law_294 : decode cL_law 294 = .ok (.iload 8, 2) := by decide +kernel
theorem dL_law_296 : decode cL_law 296 = .ok (.bipush 11, 2) := by decide +kernel
theorem dL_law_298 : decode cL_law 298 = .ok (.ishr, 1) := by decide +kernel
theorem dL_law_299 : decode cL_law 299 = .ok (.iconst 2, 1) := by decide +kernel
theorem dL_law_300 : decode cL_law 300 = .ok (.invokestatic 65, 3) := by decide +kernel
theorem dL_law_303 : decode cL_law 303 = .ok (.ifCond .ne 29, 3) := by decide +kernel
theorem dL_law_306 : decode cL_law 306 = .ok (.aload_n 1, 1) := by decide +kernel
theorem dL_law_307 : decode cL_law 307 = .ok (.invokevirtual 75, 3) := by decide +kernel
theorem dL_law_310 : decode cL_law 310 = .ok (.aload_n 2, 1) := by decide +kernel
theorem dL_law_311 : decode cL_law 311 = .ok (.bipush 6, 2) := by decide +kernel
theorem dL_law_313 : decode cL_law 313 = .ok (.iaload, 1) := by decide +kernel
theorem dL_law_314 : decode cL_law 314 = .ok (.if_icmp .ne 7, 3) := by decide +kernel
theorem dL_law_317 : decode cL_law 317 = .ok (.iconst 1, 1) := by decide +kernel
theorem dL_law_318 : decode cL_law 318 = .ok (.goto 4, 3) := by decide +kernel
theorem dL_law_321 : decode cL_law 321 = .ok (.iconst 0, 1) := by decide +kernel
theorem dL_law_322 : decode cL_law 322 = .ok (.istore 15, 2) := by decide +kernel
theorem dL_law_324 : decode cL_law 324 = .ok (.aload_n 2, 1) := by decide +kernel
theorem dL_law_325 : decode cL_law 325 = .ok (.bipush 6, 2) := by decide +kernel
theorem dL_law_327 : decode cL_law 327 = .ok (.iconst 0, 1) := by decide +kernel
theorem dL_law_328 : decode cL_law 328 = .ok (.iastore, 1) := by decide +kernel
theorem dL_law_329 : decode cL_law 329 = .ok (.goto 564, 3) := by decide +kernel
theorem dL_law_332 : decode cL_law 332 = .ok (.iload 9, 2) := by decide +kernel
theorem dL_law_334 : decode cL_law 334 = .ok (.bipush 10, 2) := by decide +kernel
theorem dL_law_336 : decode cL_law 336 = .ok (.if_icmp .ge 136, 3) := by decide +kernel
theorem dL_law_339 : decode cL_law 339 = .ok (.iload 8, 2) := by decide +kernel
theorem dL_law_341 : decode cL_law 341 = .ok (.bipush 11, 2) := by decide +kernel
theorem dL_law_343 : decode cL_law 343 = .ok (.ishr, 1) := by decide +kernel
theorem dL_law_344 : decode cL_law 344 = .ok (.iconst 3, 1) := by decide +kernel
theorem dL_law_345 : decode cL_law 345 = .ok (.invokestatic 65, 3) := by decide +kernel
theorem dL_law_348 : decode cL_law 348 = .ok (.ifCond .ne 8, 3) := by decide +kernel
theorem dL_law_351 : decode cL_law 351 = .ok (.iload 12, 2) := by decide +kernel
theorem dL_law_353 : decode cL_law 353 = .ok (.goto 15, 3) := by decide +kernel
theorem dL_law_356 : decode cL_law 356 = .ok (.iconst 1, 1) := by decide +kernel
theorem dL_law_357 : decode cL_law 357 = .ok (.iload 8, 2) := by decide +kernel
theorem dL_law_359 : decode cL_law 359 = .ok (.bipush 13, 2) := by decide +kernel
theorem dL_law_361 : decode cL_law 361 = .ok (.ishr, 1) := by decide +kernel
theorem dL_law_362 : decode cL_law 362 = .ok (.iload 12, 2) := by decide +kernel
theorem dL_law_364 : decode cL_law 364 = .ok (.invokestatic 65, 3) := by decide +kernel
theorem dL_law_367 : decode cL_law 367 = .ok (.iadd, 1) := by decide +kernel
theorem dL_law_368 : decode cL_law 368 = .ok (.istore 16, 2) := by decide +kernel
theorem dL_law_370 : decode cL_law 370 = .ok (.iconst 0, 1) := by decide +kernel
theorem dL_law_371 : decode cL_law 371 = .ok (.istore 17, 2) := by decide +kernel
theorem dL_law_373 : decode cL_law 373 = .ok (.iconst 0, 1) := by decide +kernel
theorem dL_law_374 : decode cL_law 374 = .ok (.istore 18, 2) := by decide +kernel
theorem dL_law_376 : decode cL_law 376 = .ok (.iload 18, 2) := by decide +kernel
theorem dL_law_378 : decode cL_law 378 = .ok (.iload 16, 2) := by decide +kernel
theorem dL_law_380 : decode cL_law 380 = .ok (.if_icmp .ge 37, 3) := by decide +kernel
theorem dL_law_383 : decode cL_law 383 = .ok (.aload_n 2, 1) := by decide +kernel
theorem dL_law_384 : decode cL_law 384 = .ok (.iload 13, 2) := by decide +kernel
theorem dL_law_386 : decode cL_law 386 = .ok (.iload 14, 2) := by decide +kernel
theorem dL_law_388 : decode cL_law 388 = .ok (.iload 18, 2) := by decide +kernel
theorem dL_law_390 : decode cL_law 390 = .ok (.invokestatic 26, 3) := by decide +kernel
theorem dL_law_393 : decode cL_law 393 = .ok (.istore 19, 2) := by decide +kernel
theorem dL_law_395 : decode cL_law 395 = .ok (.iload 17, 2) := by decide +kernel
theorem dL_law_397 : decode cL_law 397 = .ok (.iconst 1, 1) := by decide +kernel
theorem dL_law_398 : decode cL_law 398 = .ok (.aload_n 3, 1) := by decide +kernel
theorem dL_law_399 : decode cL_law 399 = .ok (.iload 19, 2) := by decide +kernel
theorem dL_law_401 : decode cL_law 401 = .ok (.iaload, 1) := by decide +kernel
theorem dL_law_402 : decode cL_law 402 = .ok (.isub, 1) := by decide +kernel
theorem dL_law_403 : decode cL_law 403 = .ok (.iadd, 1) := by decide +kernel
theorem dL_law_404 : decode cL_law 404 = .ok (.istore 17, 2) := by decide +kernel
theorem dL_law_406 : decode cL_law 406 = .ok (.aload_n 3, 1) := by decide +kernel
theorem dL_law_407 : decode cL_law 407 = .ok (.iload 19, 2) := by decide +kernel
theorem dL_law_409 : decode cL_law 409 = .ok (.iconst 1, 1) := by decide +kernel
theorem dL_law_410 : decode cL_law 410 = .ok (.iastore, 1) := by decide +kernel
theorem dL_law_411 : decode cL_law 411 = .ok (.iinc 18 1, 3) := by decide +kernel
theorem dL_law_414 : decode cL_law 414 = .ok (.goto (-38), 3) := by decide +kernel
theorem dL_law_417 : decode cL_law 417 = .ok (.aload_n 1, 1) := by decide +kernel
theorem dL_law_418 : decode cL_law 418 = .ok (.iload 13, 2) := by decide +kernel
theorem dL_law_420 : decode cL_law 420 = .ok (.iload 14, 2) := by decide +kernel
theorem dL_law_422 : decode cL_law 422 = .ok (.iload 16, 2) := by decide +kernel
theorem dL_law_424 : decode cL_law 424 = .ok (.invokevirtual 78, 3) := by decide +kernel
theorem dL_law_427 : decode cL_law 427 = .ok (.iload 17, 2) := by decide +kernel
theorem dL_law_429 : decode cL_law 429 = .ok (.if_icmp .ne 37, 3) := by decide +kernel
theorem dL_law_432 : decode cL_law 432 = .ok (.aload_n 1, 1) := by decide +kernel
theorem dL_law_433 : decode cL_law 433 = .ok (.iload 13, 2) := by decide +kernel
theorem dL_law_435 : decode cL_law 435 = .ok (.iload 14, 2) := by decide +kernel
theorem dL_law_437 : decode cL_law 437 = .ok (.iload 12, 2) := by decide +kernel
theorem dL_law_439 : decode cL_law 439 = .ok (.iconst 1, 1) := by decide +kernel
theorem dL_law_440 : decode cL_law 440 = .ok (.iadd, 1) := by decide +kernel
theorem dL_law_441 : decode cL_law 441 = .ok (.invokevirtual 78, 3) := by decide +kernel
theorem dL_law_444 : decode cL_law 444 = .ok (.bipush (-2), 2) := by decide +kernel
theorem dL_law_446 : decode cL_law 446 = .ok (.if_icmp .ne 20, 3) := by decide +kernel
theorem dL_law_449 : decode cL_law 449 = .ok (.aload_n 1, 1) := by decide +kernel
theorem dL_law_450 : decode cL_law 450 = .ok (.iload 10, 2) := by decide +kernel
theorem dL_law_452 : decode cL_law 452 = .ok (.iload 14, 2) := by decide +kernel
theorem dL_law_454 : decode cL_law 454 = .ok (.iconst 1, 1) := by decide +kernel
theorem dL_law_455 : decode cL_law 455 = .ok (.invokevirtual 78, 3) := by decide +kernel
theorem dL_law_458 : decode cL_law 458 = .ok (.iconst (-1), 1) := by decide +kernel
theorem dL_law_459 : decode cL_law 459 = .ok (.if_icmp .ne 7, 3) := by decide +kernel
theorem dL_law_462 : decode cL_law 462 = .ok (.iconst 1, 1) := by decide +kernel
theorem dL_law_463 : decode cL_law 463 = .ok (.goto 4, 3) := by decide +kernel
theorem dL_law_466 : decode cL_law 466 = .ok (.iconst 0, 1) := by decide +kernel
theorem dL_law_467 : decode cL_law 467 = .ok (.istore 15, 2) := by decide +kernel
theorem dL_law_469 : decode cL_law 469 = .ok (.goto 424, 3) := by decide +kernel
theorem dL_law_472 : decode cL_law 472 = .ok (.iload 9, 2) := by decide +kernel
theorem dL_law_474 : decode cL_law 474 = .ok (.bipush 13, 2) := by decide +kernel
theorem dL_law_476 : decode cL_law 476 = .ok (.if_icmp .ge 115, 3) := by decide +kernel
theorem dL_law_479 : decode cL_law 479 = .ok (.iconst 1, 1) := by decide +kernel
theorem dL_law_480 : decode cL_law 480 = .ok (.iload 8, 2) := by decide +kernel
theorem dL_law_482 : decode cL_law 482 = .ok (.bipush 11, 2) := by decide +kernel
theorem dL_law_484 : decode cL_law 484 = .ok (.ishr, 1) := by decide +kernel
theorem dL_law_485 : decode cL_law 485 = .ok (.iconst 5, 1) := by decide +kernel
theorem dL_law_486 : decode cL_law 486 = .ok (.invokestatic 65, 3) := by decide +kernel
theorem dL_law_489 : decode cL_law 489 = .ok (.iadd, 1) := by decide +kernel
theorem dL_law_490 : decode cL_law 490 = .ok (.istore 16, 2) := by decide +kernel
theorem dL_law_492 : decode cL_law 492 = .ok (.aload_n 2, 1) := by decide +kernel
theorem dL_law_493 : decode cL_law 493 = .ok (.aload_n 3, 1) := by decide +kernel
theorem dL_law_494 : decode cL_law 494 = .ok (.iload 13, 2) := by decide +kernel
theorem dL_law_496 : decode cL_law 496 = .ok (.iload 14, 2) := by decide +kernel
theorem dL_law_498 : decode cL_law 498 = .ok (.invokestatic 82, 3) := by decide +kernel
theorem dL_law_501 : decode cL_law 501 = .ok (.istore 17, 2) := by decide +kernel
theorem dL_law_503 : decode cL_law 503 = .ok (.iload 17, 2) := by decide +kernel
theorem dL_law_505 : decode cL_law 505 = .ok (.iload 12, 2) := by decide +kernel
theorem dL_law_507 : decode cL_law 507 = .ok (.if_icmp .ne 8, 3) := by decide +kernel
theorem dL_law_510 : decode cL_law 510 = .ok (.bipush (-6), 2) := by decide +kernel
theorem dL_law_512 : decode cL_law 512 = .ok (.goto 13, 3) := by decide +kernel
theorem dL_law_515 : decode cL_law 515 = .ok (.aload_n 2, 1) := by decide +kernel
theorem dL_law_516 : decode cL_law 516 = .ok (.iload 13, 2) := by decide +kernel
theorem dL_law_518 : decode cL_law 518 = .ok (.iload 14, 2) := by decide +kernel
theorem dL_law_520 : decode cL_law 520 = .ok (.iload 17, 2) := by decide +kernel
theorem dL_law_522 : decode cL_law 522 = .ok (.invokestatic 26, 3) := by decide +kernel
theorem dL_law_525 : decode cL_law 525 = .ok (.istore 18, 2) := by decide +kernel
theorem dL_law_527 : decode cL_law 527 = .ok (.iload 18, 2) := by decide +kernel
theorem dL_law_529 : decode cL_law 529 = .ok (.ifCond .lt 25, 3) := by decide +kernel
theorem dL_law_532 : decode cL_law 532 = .ok (.aload_n 2, 1) := by decide +kernel
theorem dL_law_533 : decode cL_law 533 = .ok (.iload 18, 2) := by decide +kernel
theorem dL_law_535 : decode cL_law 535 = .ok (.invokestatic 19, 3) := by decide +kernel
theorem dL_law_538 : decode cL_law 538 = .ok (.sipush 4095, 3) := by decide +kernel
theorem dL_law_541 : decode cL_law 541 = .ok (.if_icmp .le 13, 3) := by decide +kernel
theorem dL_law_544 : decode cL_law 544 = .ok (.aload 5, 2) := by decide +kernel
theorem dL_law_546 : decode cL_law 546 = .ok (.iload 18, 2) := by decide +kernel
theorem dL_law_548 : decode cL_law 548 = .ok (.iload 16, 2) := by decide +kernel
theorem dL_law_550 : decode cL_law 550 = .ok (.iastore, 1) := by decide +kernel
theorem dL_law_551 : decode cL_law 551 = .ok (.goto 15, 3) := by decide +kernel
theorem dL_law_554 : decode cL_law 554 = .ok (.iload 18, 2) := by decide +kernel
theorem dL_law_556 : decode cL_law 556 = .ok (.ifCond .lt 10, 3) := by decide +kernel
theorem dL_law_559 : decode cL_law 559 = .ok (.aload 4, 2) := by decide +kernel
theorem dL_law_561 : decode cL_law 561 = .ok (.iload 18, 2) := by decide +kernel
theorem dL_law_563 : decode cL_law 563 = .ok (.iload 16, 2) := by decide +kernel
theorem dL_law_565 : decode cL_law 565 = .ok (.iastore, 1) := by decide +kernel
theorem dL_law_566 : decode cL_law 566 = .ok (.aload_n 1, 1) := by decide +kernel
theorem dL_law_567 : decode cL_law 567 = .ok (.iload 13, 2) := by decide +kernel
theorem dL_law_569 : decode cL_law 569 = .ok (.iload 14, 2) := by decide +kernel
theorem dL_law_571 : decode cL_law 571 = .ok (.iload 16, 2) := by decide +kernel
theorem dL_law_573 : decode cL_law 573 = .ok (.invokevirtual 86, 3) := by decide +kernel
theorem dL_law_576 : decode cL_law 576 = .ok (.iload 18, 2) := by decide +kernel
theorem dL_law_578 : decode cL_law 578 = .ok (.if_icmp .ne 7, 3) := by decide +kernel
theorem dL_law_581 : decode cL_law 581 = .ok (.iconst 1, 1) := by decide +kernel
theorem dL_law_582 : decode cL_law 582 = .ok (.goto 4, 3) := by decide +kernel
theorem dL_law_585 : decode cL_law 585 = .ok (.iconst 0, 1) := by decide +kernel
theorem dL_law_586 : decode cL_law 586 = .ok (.istore 15, 2) := by decide +kernel
theorem dL_law_588 : decode cL_law 588 = .ok (.goto 305, 3) := by decide +kernel
theorem dL_law_591 : decode cL_law 591 = .ok (.iload 9, 2) := by decide +kernel
theorem dL_law_593 : decode cL_law 593 = .ok (.bipush 15, 2) := by decide +kernel
theorem dL_law_595 : decode cL_law 595 = .ok (.if_icmp .ge 99, 3) := by decide +kernel
theorem dL_law_598 : decode cL_law 598 = .ok (.aload_n 2, 1) := by decide +kernel
theorem dL_law_599 : decode cL_law 599 = .ok (.iload 13, 2) := by decide +kernel
theorem dL_law_601 : decode cL_law 601 = .ok (.iload 14, 2) := by decide +kernel
theorem dL_law_603 : decode cL_law 603 = .ok (.iconst 0, 1) := by decide +kernel
theorem dL_law_604 : decode cL_law 604 = .ok (.invokestatic 26, 3) := by decide +kernel
theorem dL_law_607 : decode cL_law 607 = .ok (.istore 16, 2) := by decide +kernel
theorem dL_law_609 : decode cL_law 609 = .ok (.aload_n 1, 1) := by decide +kernel
theorem dL_law_610 : decode cL_law 610 = .ok (.iload 13, 2) := by decide +kernel
theorem dL_law_612 : decode cL_law 612 = .ok (.iload 14, 2) := by decide +kernel
theorem dL_law_614 : decode cL_law 614 = .ok (.invokevirtual 89, 3) := by decide +kernel
theorem dL_law_617 : decode cL_law 617 = .ok (.aload_n 3, 1) := by decide +kernel
theorem dL_law_618 : decode cL_law 618 = .ok (.iload 16, 2) := by decide +kernel
theorem dL_law_620 : decode cL_law 620 = .ok (.iaload, 1) := by decide +kernel
theorem dL_law_621 : decode cL_law 621 = .ok (.iconst 1, 1) := by decide +kernel
theorem dL_law_622 : decode cL_law 622 = .ok (.if_icmp .ne 8, 3) := by decide +kernel
theorem dL_law_625 : decode cL_law 625 = .ok (.iload 16, 2) := by decide +kernel
theorem dL_law_627 : decode cL_law 627 = .ok (.goto 5, 3) := by decide +kernel
theorem dL_law_630 : decode cL_law 630 = .ok (.bipush (-3), 2) := by decide +kernel
theorem dL_law_632 : decode cL_law 632 = .ok (.if_icmp .ne 7, 3) := by decide +kernel
theorem dL_law_635 : decode cL_law 635 = .ok (.iconst 1, 1) := by decide +kernel
theorem dL_law_636 : decode cL_law 636 = .ok (.goto 4, 3) := by decide +kernel
theorem dL_law_639 : decode cL_law 639 = .ok (.iconst 0, 1) := by decide +kernel
theorem dL_law_640 : decode cL_law 640 = .ok (.istore 15, 2) := by decide +kernel
theorem dL_law_642 : decode cL_law 642 = .ok (.aload 4, 2) := by decide +kernel
theorem dL_law_644 : decode cL_law 644 = .ok (.iload 16, 2) := by decide +kernel
theorem dL_law_646 : decode cL_law 646 = .ok (.aload_n 3, 1) := by decide +kernel
theorem dL_law_647 : decode cL_law 647 = .ok (.iload 16, 2) := by decide +kernel
theorem dL_law_649 : decode cL_law 649 = .ok (.iaload, 1) := by decide +kernel
theorem dL_law_650 : decode cL_law 650 = .ok (.iconst 1, 1) := by decide +kernel
theorem dL_law_651 : decode cL_law 651 = .ok (.if_icmp .ne 7, 3) := by decide +kernel
theorem dL_law_654 : decode cL_law 654 = .ok (.iconst 0, 1) := by decide +kernel
theorem dL_law_655 : decode cL_law 655 = .ok (.goto 8, 3) := by decide +kernel
theorem dL_law_658 : decode cL_law 658 = .ok (.aload 4, 2) := by decide +kernel
theorem dL_law_660 : decode cL_law 660 = .ok (.iload 16, 2) := by decide +kernel
theorem dL_law_662 : decode cL_law 662 = .ok (.iaload, 1) := by decide +kernel
theorem dL_law_663 : decode cL_law 663 = .ok (.iastore, 1) := by decide +kernel
theorem dL_law_664 : decode cL_law 664 = .ok (.aload 5, 2) := by decide +kernel
theorem dL_law_666 : decode cL_law 666 = .ok (.iload 16, 2) := by decide +kernel
theorem dL_law_668 : decode cL_law 668 = .ok (.aload_n 3, 1) := by decide +kernel
theorem dL_law_669 : decode cL_law 669 = .ok (.iload 16, 2) := by decide +kernel
theorem dL_law_671 : decode cL_law 671 = .ok (.iaload, 1) := by decide +kernel
theorem dL_law_672 : decode cL_law 672 = .ok (.iconst 1, 1) := by decide +kernel
theorem dL_law_673 : decode cL_law 673 = .ok (.if_icmp .ne 7, 3) := by decide +kernel
theorem dL_law_676 : decode cL_law 676 = .ok (.iconst 0, 1) := by decide +kernel
theorem dL_law_677 : decode cL_law 677 = .ok (.goto 8, 3) := by decide +kernel
theorem dL_law_680 : decode cL_law 680 = .ok (.aload 5, 2) := by decide +kernel
theorem dL_law_682 : decode cL_law 682 = .ok (.iload 16, 2) := by decide +kernel
theorem dL_law_684 : decode cL_law 684 = .ok (.iaload, 1) := by decide +kernel
theorem dL_law_685 : decode cL_law 685 = .ok (.iastore, 1) := by decide +kernel
theorem dL_law_686 : decode cL_law 686 = .ok (.aload_n 3, 1) := by decide +kernel
theorem dL_law_687 : decode cL_law 687 = .ok (.iload 16, 2) := by decide +kernel
theorem dL_law_689 : decode cL_law 689 = .ok (.iconst 0, 1) := by decide +kernel
theorem dL_law_690 : decode cL_law 690 = .ok (.iastore, 1) := by decide +kernel
theorem dL_law_691 : decode cL_law 691 = .ok (.goto 202, 3) := by decide +kernel
theorem dL_law_694 : decode cL_law 694 = .ok (.iload 9, 2) := by decide +kernel
theorem dL_law_696 : decode cL_law 696 = .ok (.bipush 15, 2) := by decide +kernel
