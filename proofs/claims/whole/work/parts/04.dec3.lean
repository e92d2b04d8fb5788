theorem dX12_init_0 : decode cX12_init 0 = .ok (.aload_n 0, 1) := by decide +kernel
theorem dX12_init_1 : decode cX12_init 1 = .ok (.invokespecial 3, 3) := by decide +kernel
theorem dX12_init_4 : decode cX12_init 4 = .ok (.aload_n 0, 1) := by decide +kernel
theorem dX12_init_5 : decode cX12_init 5 = .ok (.bipush 11, 2) := by decide +kernel
theorem dX12_init_7 : decode cX12_init 7 = .ok (.newarray .int, 2) := by decide +kernel
theorem dX12_init_9 : decode cX12_init 9 = .ok (.dup, 1) := by decide +kernel
theorem dX12_init_10 : decode cX12_init 10 = .ok (.iconst 0, 1) := by decide +kernel
theorem dX12_init_11 : decode cX12_init 11 = .ok (.iconst 0, 1) := by decide +kernel
theorem dX12_init_12 : decode cX12_init 12 = .ok (.iastore, 1) := by decide +kernel
theorem dX12_init_13 : decode cX12_init 13 = .ok (.dup, 1) := by decide +kernel
theorem dX12_init_14 : decode cX12_init 14 = .ok (.iconst 1, 1) := by decide +kernel
theorem dX12_init_15 : decode cX12_init 15 = .ok (.iconst 0, 1) := by decide +kernel
theorem dX12_init_16 : decode cX12_init 16 = .ok (.iastore, 1) := by decide +kernel
theorem dX12_init_17 : decode cX12_init 17 = .ok (.dup, 1) := by decide +kernel
theorem dX12_init_18 : decode cX12_init 18 = .ok (.iconst 2, 1) := by decide +kernel
theorem dX12_init_19 : decode cX12_init 19 = .ok (.iconst 0, 1) := by decide +kernel
theorem dX12_init_20 : decode cX12_init 20 = .ok (.iastore, 1) := by decide +kernel
theorem dX12_init_21 : decode cX12_init 21 = .ok (.dup, 1) := by decide +kernel
theorem dX12_init_22 : decode cX12_init 22 = .ok (.iconst 3, 1) := by decide +kernel
theorem dX12_init_23 : decode cX12_init 23 = .ok (.iconst 0, 1) := by decide +kernel
theorem dX12_init_24 : decode cX12_init 24 = .ok (.iastore, 1) := by decide +kernel
theorem dX12_init_25 : decode cX12_init 25 = .ok (.dup, 1) := by decide +kernel
theorem dX12_init_26 : decode cX12_init 26 = .ok (.iconst 4, 1) := by decide +kernel
theorem dX12_init_27 : decode cX12_init 27 = .ok (.iconst 0, 1) := by decide +kernel
theorem dX12_init_28 : decode cX12_init 28 = .ok (.iastore, 1) := by decide +kernel
theorem dX12_init_29 : decode cX12_init 29 = .ok (.dup, 1) := by decide +kernel
theorem dX12_init_30 : decode cX12_init 30 = .ok (.iconst 5, 1) := by decide +kernel
theorem dX12_init_31 : decode cX12_init 31 = .ok (.iconst 0, 1) := by decide +kernel
theorem dX12_init_32 : decode cX12_init 32 = .ok (.iastore, 1) := by decide +kernel
theorem dX12_init_33 : decode cX12_init 33 = .ok (.dup, 1) := by decide +kernel
theorem dX12_init_34 : decode cX12_init 34 = .ok (.bipush 6, 2) := by decide +kernel
theorem dX12_init_36 : decode cX12_init 36 = .ok (.iconst 0, 1) := by decide +kernel
theorem dX12_init_37 : decode cX12_init 37 = .ok (.iastore, 1) := by decide +kernel
theorem dX12_init_38 : decode cX12_init 38 = .ok (.dup, 1) := by decide +kernel
theorem dX12_init_39 : decode cX12_init 39 = .ok (.bipush 7, 2) := by decide +kernel
theorem dX12_init_41 : decode cX12_init 41 = .ok (.iconst 0, 1) := by decide +kernel
theorem dX12_init_42 : decode cX12_init 42 = .ok (.iastore, 1) := by decide +kernel
theorem dX12_init_43 : decode cX12_init 43 = .ok (.dup, 1) := by decide +kernel
theorem dX12_init_44 : decode cX12_init 44 = .ok (.bipush 8, 2) := by decide +kernel
theorem dX12_init_46 : decode cX12_init 46 = .ok (.iconst 0, 1) := by decide +kernel
theorem dX12_init_47 : decode cX12_init 47 = .ok (.iastore, 1) := by decide +kernel
theorem dX12_init_48 : decode cX12_init 48 = .ok (.dup, 1) := by decide +kernel
theorem dX12_init_49 : decode cX12_init 49 = .ok (.bipush 9, 2) := by decide +kernel
theorem dX12_init_51 : decode cX12_init 51 = .ok (.iconst 0, 1) := by decide +kernel
theorem dX12_init_52 : decode cX12_init 52 = .ok (.iastore, 1) := by decide +kernel
theorem dX12_init_53 : decode cX12_init 53 = .ok (.dup, 1) := by decide +kernel
theorem dX12_init_54 : decode cX12_init 54 = .ok (.bipush 10, 2) := by decide +kernel
theorem dX12_init_56 : decode cX12_init 56 = .ok (.iconst (-1), 1) := by decide +kernel
theorem dX12_init_57 : decode cX12_init 57 = .ok (.iastore, 1) := by decide +kernel
theorem dX12_init_58 : decode cX12_init 58 = .ok (.putfield 9, 3) := by decide +kernel
theorem dX12_init_61 : decode cX12_init 61 = .ok (.aload_n 0, 1) := by decide +kernel
theorem dX12_init_62 : decode cX12_init 62 = .ok (.bipush 6, 2) := by decide +kernel
theorem dX12_init_64 : decode cX12_init 64 = .ok (.newarray .int, 2) := by decide +kernel
theorem dX12_init_66 : decode cX12_init 66 = .ok (.putfield 13, 3) := by decide +kernel
theorem dX12_init_69 : decode cX12_init 69 = .ok (.aload_n 0, 1) := by decide +kernel
theorem dX12_init_70 : decode cX12_init 70 = .ok (.bipush 6, 2) := by decide +kernel
theorem dX12_init_72 : decode cX12_init 72 = .ok (.newarray .int, 2) := by decide +kernel
theorem dX12_init_74 : decode cX12_init 74 = .ok (.putfield 16, 3) := by decide +kernel
theorem dX12_init_77 : decode cX12_init 77 = .ok (.aload_n 0, 1) := by decide +kernel
theorem dX12_init_78 : decode cX12_init 78 = .ok (.bipush 36, 2) := by decide +kernel
theorem dX12_init_80 : decode cX12_init 80 = .ok (.newarray .int, 2) := by decide +kernel
theorem dX12_init_82 : decode cX12_init 82 = .ok (.putfield 19, 3) := by decide +kernel
theorem dX12_init_85 : decode cX12_init 85 = .ok (.aload_n 0, 1) := by decide +kernel
theorem dX12_init_86 : decode cX12_init 86 = .ok (.bipush 12, 2) := by decide +kernel
theorem dX12_init_88 : decode cX12_init 88 = .ok (.newarray .int, 2) := by decide +kernel
theorem dX12_init_90 : decode cX12_init 90 = .ok (.putfield 22, 3) := by decide +kernel
theorem dX12_init_93 : decode cX12_init 93 = .ok (.aload_n 0, 1) := by decide +kernel
theorem dX12_init_94 : decode cX12_init 94 = .ok (.bipush 10, 2) := by decide +kernel
theorem dX12_init_96 : decode cX12_init 96 = .ok (.newarray .int, 2) := by decide +kernel
theorem dX12_init_98 : decode cX12_init 98 = .ok (.putfield 25, 3) := by decide +kernel
theorem dX12_init_101 : decode cX12_init 101 = .ok (.aload_n 0, 1) := by decide +kernel
theorem dX12_init_102 : decode cX12_init 102 = .ok (.bipush 10, 2) := by decide +kernel
theorem dX12_init_104 : decode cX12_init 104 = .ok (.newarray .int, 2) := by decide +kernel
theorem dX12_init_106 : decode cX12_init 106 = .ok (.putfield 28, 3) := by decide +kernel
theorem dX12_init_109 : decode cX12_init 109 = .ok (.aload_n 0, 1) := by decide +kernel
theorem dX12_init_110 : decode cX12_init 110 = .ok (.bipush 10, 2) := by decide +kernel
theorem dX12_init_112 : decode cX12_init 112 = .ok (.newarray .int, 2) := by decide +kernel
theorem dX12_init_114 : decode cX12_init 114 = .ok (.putfield 31, 3) := by decide +kernel
theorem dX12_init_117 : decode cX12_init 117 = .ok (.aload_n 0, 1) := by decide +kernel
theorem dX12_init_118 : decode cX12_init 118 = .ok (.bipush 6, 2) := by decide +kernel
theorem dX12_init_120 : decode cX12_init 120 = .ok (.newarray .int, 2) := by decide +kernel
theorem dX12_init_122 : decode cX12_init 122 = .ok (.putfield 34, 3) := by decide +kernel
theorem dX12_init_125 : decode cX12_init 125 = .ok (.aload_n 0, 1) := by decide +kernel
theorem dX12_init_126 : decode cX12_init 126 = .ok (.bipush 6, 2) := by decide +kernel
theorem dX12_init_128 : decode cX12_init 128 = .ok (.newarray .int, 2) := by decide +kernel
theorem dX12_init_130 : decode cX12_init 130 = .ok (.putfield 37, 3) := by decide +kernel
theorem dX12_init_133 : decode cX12_init 133 = .ok (.aload_n 0, 1) := by decide +kernel
theorem dX12_init_134 : decode cX12_init 134 = .ok (.bipush 36, 2) := by decide +kernel
theorem dX12_init_136 : decode cX12_init 136 = .ok (.newarray .int, 2) := by decide +kernel
theorem dX12_init_138 : decode cX12_init 138 = .ok (.putfield 40, 3) := by decide +kernel
theorem dX12_init_141 : decode cX12_init 141 = .ok (.aload_n 0, 1) := by decide +kernel
theorem dX12_init_142 : decode cX12_init 142 = .ok (.iconst 5, 1) := by decide +kernel
theorem dX12_init_143 : decode cX12_init 143 = .ok (.newarray .int, 2) := by decide +kernel
theorem dX12_init_145 : decode cX12_init 145 = .ok (.putfield 43, 3) := by decide +kernel
theorem dX12_init_148 : decode cX12_init 148 = .ok (.aload_n 0, 1) := by decide +kernel
theorem dX12_init_149 : decode cX12_init 149 = .ok (.bipush 6, 2) := by decide +kernel
theorem dX12_init_151 : decode cX12_init 151 = .ok (.newarray .int, 2) := by decide +kernel
theorem dX12_init_153 : decode cX12_init 153 = .ok (.putfield 46, 3) := by decide +kernel
theorem dX12_init_156 : decode cX12_init 156 = .ok (.aload_n 0, 1) := by decide +kernel
theorem dX12_init_157 : decode cX12_init 157 = .ok (.bipush 6, 2) := by decide +kernel
theorem dX12_init_159 : decode cX12_init 159 = .ok (.newarray .int, 2) := by decide +kernel
theorem dX12_init_161 : decode cX12_init 161 = .ok (.putfield 49, 3) := by decide +kernel
theorem dX12_init_164 : decode cX12_init 164 = .ok (.aload_n 0, 1) := by decide +kernel
theorem dX12_init_165 : decode cX12_init 165 = .ok (.bipush 36, 2) := by decide +kernel
theorem dX12_init_167 : decode cX12_init 167 = .ok (.newarray .int, 2) := by decide +kernel
theorem dX12_init_169 : decode cX12_init 169 = .ok (.putfield 52, 3) := by decide +kernel
theorem dX12_init_172 : decode cX12_init 172 = .ok (.aload_n 0, 1) := by decide +kernel
theorem dX12_init_173 : decode cX12_init 173 = .ok (.bipush 12, 2) := by decide +kernel
theorem dX12_init_175 : decode cX12_init 175 = .ok (.newarray .int, 2) := by decide +kernel
theorem dX12_init_177 : decode cX12_init 177 = .ok (.putfield 55, 3) := by decide +kernel
theorem dX12_init_180 : decode cX12_init 180 = .ok (.aload_n 0, 1) := by decide +kernel
theorem dX12_init_181 : decode cX12_init 181 = .ok (.bipush 12, 2) := by decide +kernel
theorem dX12_init_183 : decode cX12_init 183 = .ok (.putfield 58, 3) := by decide +kernel
theorem dX12_init_186 : decode cX12_init 186 = .ok (.aload_n 0, 1) := by decide +kernel
theorem dX12_init_187 : decode cX12_init 187 = .ok (.sipush 400, 3) := by decide +kernel
theorem dX12_init_190 : decode cX12_init 190 = .ok (.newarray .byte, 2) := by decide +kernel
theorem dX12_init_192 : decode cX12_init 192 = .ok (.putfield 62, 3) := by decide +kernel
theorem dX12_init_195 : decode cX12_init 195 = .ok (.aload_n 0, 1) := by decide +kernel
theorem dX12_init_196 : decode cX12_init 196 = .ok (.sipush 1800, 3) := by decide +kernel
theorem dX12_init_199 : decode cX12_init 199 = .ok (.newarray .int, 2) := by decide +kernel
theorem dX12_init_201 : decode cX12_init 201 = .ok (.putfield 66, 3) := by decide +kernel
theorem dX12_init_204 : decode cX12_init 204 = .ok (.aload_n 0, 1) := by decide +kernel
theorem dX12_init_205 : decode cX12_init 205 = .ok (.sipush 1800, 3) := by decide +kernel
theorem dX12_init_208 : decode cX12_init 208 = .ok (.newarray .int, 2) := by decide +kernel
theorem dX12_init_210 : decode cX12_init 210 = .ok (.putfield 69, 3) := by decide +kernel
theorem dX12_init_213 : decode cX12_init 213 = .ok (.aload_n 0, 1) := by decide +kernel
theorem dX12_init_214 : decode cX12_init 214 = .ok (.bipush 6, 2) := by decide +kernel
theorem dX12_init_216 : decode cX12_init 216 = .ok (.newarray .int, 2) := by decide +kernel
theorem dX12_init_218 : decode cX12_init 218 = .ok (.putfield 72, 3) := by decide +kernel
theorem dX12_init_221 : decode cX12_init 221 = .ok (.aload_n 0, 1) := by decide +kernel
theorem dX12_init_222 : decode cX12_init 222 = .ok (.bipush 72, 2) := by decide +kernel
theorem dX12_init_224 : decode cX12_init 224 = .ok (.newarray .int, 2) := by decide +kernel
theorem dX12_init_226 : decode cX12_init 226 = .ok (.putfield 75, 3) := by decide +kernel
theorem dX12_init_229 : decode cX12_init 229 = .ok (.aload_n 0, 1) := by decide +kernel
theorem dX12_init_230 : decode cX12_init 230 = .ok (.bipush 72, 2) := by decide +kernel
theorem dX12_init_232 : decode cX12_init 232 = .ok (.newarray .int, 2) := by decide +kernel
theorem dX12_init_234 : decode cX12_init 234 = .ok (.putfield 78, 3) := by decide +kernel
theorem dX12_init_237 : decode cX12_init 237 = .ok (.aload_n 0, 1) := by decide +kernel
theorem dX12_init_238 : decode cX12_init 238 = .ok (.bipush 72, 2) := by decide +kernel
theorem dX12_init_240 : decode cX12_init 240 = .ok (.newarray .int, 2) := by decide +kernel
theorem dX12_init_242 : decode cX12_init 242 = .ok (.putfield 81, 3) := by decide +kernel
theorem dX12_init_245 : decode cX12_init 245 = .ok (.aload_n 0, 1) := by decide +kernel
theorem dX12_init_246 : decode cX12_init 246 = .ok (.sipush 402, 3) := by decide +kernel
theorem dX12_init_249 : decode cX12_init 249 = .ok (.newarray .int, 2) := by decide +kernel
theorem dX12_init_251 : decode cX12_init 251 = .ok (.putfield 84, 3) := by decide +kernel
theorem dX12_init_254 : decode cX12_init 254 = .ok (.aload_n 0, 1) := by decide +kernel
theorem dX12_init_255 : decode cX12_init 255 = .ok (.bipush 12, 2) := by decide +kernel
theorem dX12_init_257 : decode cX12_init 257 = .ok (.newarray .long, 2) := by decide +kernel
theorem dX12_init_259 : decode cX12_init 259 = .ok (.putfield 87, 3) := by decide +kernel
theorem dX12_init_262 : decode cX12_init 262 = .ok (.aload_n 0, 1) := by decide +kernel
theorem dX12_init_263 : decode cX12_init 263 = .ok (.sipush 300, 3) := by decide +kernel
theorem dX12_init_266 : decode cX12_init 266 = .ok (.newarray .long, 2) := by decide +kernel
theorem dX12_init_268 : decode cX12_init 268 = .ok (.putfield 91, 3) := by decide +kernel
theorem dX12_init_271 : decode cX12_init 271 = .ok (.aload_n 0, 1) := by decide +kernel
theorem dX12_init_272 : decode cX12_init 272 = .ok (.iconst (-1), 1) := by decide +kernel
theorem dX12_init_273 : decode cX12_init 273 = .ok (.putfield 94, 3) := by decide +kernel
theorem dX12_init_276 : decode cX12_init 276 = .ok (.aload_n 0, 1) := by decide +kernel
theorem dX12_init_277 : decode cX12_init 277 = .ok (.bipush (-5), 2) := by decide +kernel
theorem dX12_init_279 : decode cX12_init 279 = .ok (.putfield 97, 3) := by decide +kernel
theorem dX12_init_282 : decode cX12_init 282 = .ok (.aload_n 0, 1) := by decide +kernel
theorem dX12_init_283 : decode cX12_init 283 = .ok (.bipush 6, 2) := by decide +kernel
theorem dX12_init_285 : decode cX12_init 285 = .ok (.newarray .int, 2) := by decide +kernel
theorem dX12_init_287 : decode cX12_init 287 = .ok (.putfield 100, 3) := by decide +kernel
theorem dX12_init_290 : decode cX12_init 290 = .ok (.aload_n 0, 1) := by decide +kernel
theorem dX12_init_291 : decode cX12_init 291 = .ok (.sipush 1020, 3) := by decide +kernel
theorem dX12_init_294 : decode cX12_init 294 = .ok (.newarray .int, 2) := by decide +kernel
theorem dX12_init_296 : decode cX12_init 296 = .ok (.putfield 103, 3) := by decide +kernel
theorem dX12_init_299 : decode cX12_init 299 = .ok (.aload_n 0, 1) := by decide +kernel
theorem dX12_init_300 : decode cX12_init 300 = .ok (.iconst 1, 1) := by decide +kernel
theorem dX12_init_301 : decode cX12_init 301 = .ok (.newarray .int, 2) := by decide +kernel
theorem dX12_init_303 : decode cX12_init 303 = .ok (.putfield 106, 3) := by decide +kernel
theorem dX12_init_306 : decode cX12_init 306 = .ok (.aload_n 0, 1) := by decide +kernel
theorem dX12_init_307 : decode cX12_init 307 = .ok (.bipush 6, 2) := by decide +kernel
theorem dX12_init_309 : decode cX12_init 309 = .ok (.newarray .int, 2) := by decide +kernel
theorem dX12_init_311 : decode cX12_init 311 = .ok (.putfield 109, 3) := by decide +kernel
theorem dX12_init_314 : decode cX12_init 314 = .ok (.aload_n 0, 1) := by decide +kernel
theorem dX12_init_315 : decode cX12_init 315 = .ok (.bipush 36, 2) := by decide +kernel
theorem dX12_init_317 : decode cX12_init 317 = .ok (.newarray .int, 2) := by decide +kernel
theorem dX12_init_319 : decode cX12_init 319 = .ok (.putfield 112, 3) := by decide +kernel
theorem dX12_init_322 : decode cX12_init 322 = .ok (.aload_n 0, 1) := by decide +kernel
theorem dX12_init_323 : decode cX12_init 323 = .ok (.iconst 3, 1) := by decide +kernel
theorem dX12_init_324 : decode cX12_init 324 = .ok (.newarray .int, 2) := by decide +kernel
theorem dX12_init_326 : decode cX12_init 326 = .ok (.putfield 115, 3) := by decide +kernel
theorem dX12_init_329 : decode cX12_init 329 = .ok (.aload_n 0, 1) := by decide +kernel
theorem dX12_init_330 : decode cX12_init 330 = .ok (.iconst 3, 1) := by decide +kernel
theorem dX12_init_331 : decode cX12_init 331 = .ok (.newarray .int, 2) := by decide +kernel
theorem dX12_init_333 : decode cX12_init 333 = .ok (.putfield 118, 3) := by decide +kernel
theorem dX12_init_336 : decode cX12_init 336 = .ok (.aload_n 0, 1) := by decide +kernel
theorem dX12_init_337 : decode cX12_init 337 = .ok (.bipush 25, 2) := by decide +kernel
theorem dX12_init_339 : decode cX12_init 339 = .ok (.newarray .int, 2) := by decide +kernel
theorem dX12_init_341 : decode cX12_init 341 = .ok (.putfield 121, 3) := by decide +kernel
theorem dX12_init_344 : decode cX12_init 344 = .ok (.aload_n 0, 1) := by decide +kernel
theorem dX12_init_345 : decode cX12_init 345 = .ok (.bipush 25, 2) := by decide +kernel
theorem dX12_init_347 : decode cX12_init 347 = .ok (.newarray .int, 2) := by decide +kernel
theorem dX12_init_349 : decode cX12_init 349 = .ok (.putfield 124, 3) := by decide +kernel
theorem dX12_init_352 : decode cX12_init 352 = .ok (.aload_n 0, 1) := by decide +kernel
theorem dX12_init_353 : decode cX12_init 353 = .ok (.sipush 366, 3) := by decide +kernel
theorem dX12_init_356 : decode cX12_init 356 = .ok (.newarray .int, 2) := by decide +kernel
theorem dX12_init_358 : decode cX12_init 358 = .ok (.putfield 127, 3) := by decide +kernel
theorem dX12_init_361 : decode cX12_init 361 = .ok (.aload_n 0, 1) := by decide +kernel
theorem dX12_init_362 : decode cX12_init 362 = .ok (.bipush 42, 2) := by decide +kernel
theorem dX12_init_364 : decode cX12_init 364 = .ok (.newarray .int, 2) := by decide +kernel
theorem dX12_init_366 : decode cX12_init 366 = .ok (.putfield 130, 3) := by decide +kernel
theorem dX12_init_369 : decode cX12_init 369 = .ok (.aload_n 0, 1) := by decide +kernel
theorem dX12_init_370 : decode cX12_init 370 = .ok (.sipush 6500, 3) := by decide +kernel
theorem dX12_init_373 : decode cX12_init 373 = .ok (.newarray .int, 2) := by decide +kernel
theorem dX12_init_375 : decode cX12_init 375 = .ok (.putfield 133, 3) := by decide +kernel
theorem dX12_init_378 : decode cX12_init 378 = .ok (.aload_n 0, 1) := by decide +kernel
theorem dX12_init_379 : decode cX12_init 379 = .ok (.iconst 4, 1) := by decide +kernel
theorem dX12_init_380 : decode cX12_init 380 = .ok (.newarray .boolean, 2) := by decide +kernel
theorem dX12_init_382 : decode cX12_init 382 = .ok (.putfield 136, 3) := by decide +kernel
theorem dX12_init_385 : decode cX12_init 385 = .ok (.return_, 1) := by decide +kernel
theorem dX12_in_0 : decode cX12_in 0 = .ok (.lload_n 0, 1) := by decide +kernel
theorem dX12_in_1 : decode cX12_in 1 = .ok (.lload_n 2, 1) := by decide +kernel
theorem dX12_in_2 : decode cX12_in 2 = .ok (.lcmp, 1) := by decide +kernel
theorem dX12_in_3 : decode cX12_in 3 = .ok (.ifCond .lt 14, 3) := by decide +kernel
theorem dX12_in_6 : decode cX12_in 6 = .ok (.lload_n 0, 1) := by decide +kernel
theorem dX12_in_7 : decode cX12_in 7 = .ok (.lload 4, 2) := by decide +kernel
theorem dX12_in_9 : decode cX12_in 9 = .ok (.lcmp, 1) := by decide +kernel
theorem dX12_in_10 : decode cX12_in 10 = .ok (.ifCond .gt 7, 3) := by decide +kernel
theorem dX12_in_13 : decode cX12_in 13 = .ok (.iconst 1, 1) := by decide +kernel
theorem dX12_in_14 : decode cX12_in 14 = .ok (.goto 4, 3) := by decide +kernel
theorem dX12_in_17 : decode cX12_in 17 = .ok (.iconst 0, 1) := by decide +kernel
theorem dX12_in_18 : decode cX12_in 18 = .ok (.ireturn, 1) := by decide +kernel
theorem dX12_bits_0 : decode cX12_bits 0 = .ok (.iconst 0, 1) := by decide +kernel
theorem dX12_bits_1 : decode cX12_bits 1 = .ok (.istore_n 1, 1) := by decide +kernel
theorem dX12_bits_2 : decode cX12_bits 2 = .ok (.iconst 0, 1) := by decide +kernel
theorem dX12_bits_3 : decode cX12_bits 3 = .ok (.istore_n 2, 1) := by decide +kernel
theorem dX12_bits_4 : decode cX12_bits 4 = .ok (.iload_n 2, 1) := by decide +kernel
theorem dX12_bits_5 : decode cX12_bits 5 = .ok (.bipush 16, 2) := by decide +kernel
theorem dX12_bits_7 : decode cX12_bits 7 = .ok (.if_icmp .ge 17, 3) := by decide +kernel
theorem dX12_bits_10 : decode cX12_bits 10 = .ok (.iload_n 1, 1) := by decide +kernel
theorem dX12_bits_11 : decode cX12_bits 11 = .ok (.iload_n 0, 1) := by decide +kernel
theorem dX12_bits_12 : decode cX12_bits 12 = .ok (.iload_n 2, 1) := by decide +kernel
theorem dX12_bits_13 : decode cX12_bits 13 = .ok (.ishr, 1) := by decide +kernel
theorem dX12_bits_14 : decode cX12_bits 14 = .ok (.iconst 1, 1) := by decide +kernel
theorem dX12_bits_15 : decode cX12_bits 15 = .ok (.iand, 1) := by decide +kernel
theorem dX12_bits_16 : decode cX12_bits 16 = .ok (.iadd, 1) := by decide +kernel
theorem dX12_bits_17 : decode cX12_bits 17 = .ok (.istore_n 1, 1) := by decide +kernel
theorem dX12_bits_18 : decode cX12_bits 18 = .ok (.iinc 2 1, 3) := by decide +kernel
theorem dX12_bits_21 : decode cX12_bits 21 = .ok (.goto (-17), 3) := by decide +kernel
theorem dX12_bits_24 : decode cX12_bits 24 = .ok (.iload_n 1, 1) := by decide +kernel
theorem dX12_bits_25 : decode cX12_bits 25 = .ok (.ireturn, 1) := by decide +kernel
theorem dX12_has_0 : decode cX12_has 0 = .ok (.iload_n 0, 1) := by decide +kernel
theorem dX12_has_1 : decode cX12_has 1 = .ok (.iload_n 1, 1) := by decide +kernel
theorem dX12_has_2 : decode cX12_has 2 = .ok (.ishr, 1) := by decide +kernel
theorem dX12_has_3 : decode cX12_has 3 = .ok (.iconst 1, 1) := by decide +kernel
theorem dX12_has_4 : decode cX12_has 4 = .ok (.iand, 1) := by decide +kernel
theorem dX12_has_5 : decode cX12_has 5 = .ok (.iconst 1, 1) := by decide +kernel
theorem dX12_has_6 : decode cX12_has 6 = .ok (.if_icmp .ne 7, 3) := by decide +kernel
theorem dX12_has_9 : decode cX12_has 9 = .ok (.iconst 1, 1) := by decide +kernel
theorem dX12_has_10 : decode cX12_has 10 = .ok (.goto 4, 3) := by decide +kernel
theorem dX12_has_13 : decode cX12_has 13 = .ok (.iconst 0, 1) := by decide +kernel
theorem dX12_has_14 : decode cX12_has 14 = .ok (.ireturn, 1) := by decide +kernel
theorem dX12_isTown_0 : decode cX12_isTown 0 = .ok (.aload_n 0, 1) := by decide +kernel
theorem dX12_isTown_1 : decode cX12_isTown 1 = .ok (.getfield 9, 3) := by decide +kernel
theorem dX12_isTown_4 : decode cX12_isTown 4 = .ok (.iconst 0, 1) := by decide +kernel
theorem dX12_isTown_5 : decode cX12_isTown 5 = .ok (.iaload, 1) := by decide +kernel
theorem dX12_isTown_6 : decode cX12_isTown 6 = .ok (.ifCond .le 7, 3) := by decide +kernel
theorem dX12_isTown_9 : decode cX12_isTown 9 = .ok (.iconst 1, 1) := by decide +kernel
theorem dX12_isTown_10 : decode cX12_isTown 10 = .ok (.goto 4, 3) := by decide +kernel
theorem dX12_isTown_13 : decode cX12_isTown 13 = .ok (.iconst 0, 1) := by decide +kernel
theorem dX12_isTown_14 : decode cX12_isTown 14 = .ok (.ireturn, 1) := by decide +kernel
theorem dX12_isHouse_0 : decode cX12_isHouse 0 = .ok (.iload_n 1, 1) := by decide +kernel
theorem dX12_isHouse_1 : decode cX12_isHouse 1 = .ok (.i2l, 1) := by decide +kernel
theorem dX12_isHouse_2 : decode cX12_isHouse 2 = .ok (.lconst 0, 1) := by decide +kernel
theorem dX12_isHouse_3 : decode cX12_isHouse 3 = .ok (.aload_n 0, 1) := by decide +kernel
theorem dX12_isHouse_4 : decode cX12_isHouse 4 = .ok (.getfield 9, 3) := by decide +kernel
theorem dX12_isHouse_7 : decode cX12_isHouse 7 = .ok (.iconst 4, 1) := by decide +kernel
theorem dX12_isHouse_8 : decode cX12_isHouse 8 = .ok (.iaload, 1) := by decide +kernel
theorem dX12_isHouse_9 : decode cX12_isHouse 9 = .ok (.iconst 1, 1) := by decide +kernel
theorem dX12_isHouse_10 : decode cX12_isHouse 10 = .ok (.isub, 1) := by decide +kernel
theorem dX12_isHouse_11 : decode cX12_isHouse 11 = .ok (.i2l, 1) := by decide +kernel
theorem dX12_isHouse_12 : decode cX12_isHouse 12 = .ok (.invokestatic 143, 3) := by decide +kernel
theorem dX12_isHouse_15 : decode cX12_isHouse 15 = .ok (.ireturn, 1) := by decide +kernel
theorem dX12_areTwo_0 : decode cX12_areTwo 0 = .ok (.aload_n 0, 1) := by decide +kernel
theorem dX12_areTwo_1 : decode cX12_areTwo 1 = .ok (.iload_n 1, 1) := by decide +kernel
theorem dX12_areTwo_2 : decode cX12_areTwo 2 = .ok (.invokevirtual 147, 3) := by decide +kernel
theorem dX12_areTwo_5 : decode cX12_areTwo 5 = .ok (.ifCond .eq 20, 3) := by decide +kernel
theorem dX12_areTwo_8 : decode cX12_areTwo 8 = .ok (.aload_n 0, 1) := by decide +kernel
theorem dX12_areTwo_9 : decode cX12_areTwo 9 = .ok (.iload_n 2, 1) := by decide +kernel
theorem dX12_areTwo_10 : decode cX12_areTwo 10 = .ok (.invokevirtual 147, 3) := by decide +kernel
theorem dX12_areTwo_13 : decode cX12_areTwo 13 = .ok (.ifCond .eq 12, 3) := by decide +kernel
theorem dX12_areTwo_16 : decode cX12_areTwo 16 = .ok (.iload_n 1, 1) := by decide +kernel
theorem dX12_areTwo_17 : decode cX12_areTwo 17 = .ok (.iload_n 2, 1) := by decide +kernel
theorem dX12_areTwo_18 : decode cX12_areTwo 18 = .ok (.if_icmp .eq 7, 3) := by decide +kernel
theorem dX12_areTwo_21 : decode cX12_areTwo 21 = .ok (.iconst 1, 1) := by decide +kernel
theorem dX12_areTwo_22 : decode cX12_areTwo 22 = .ok (.goto 4, 3) := by decide +kernel
theorem dX12_areTwo_25 : decode cX12_areTwo 25 = .ok (.iconst 0, 1) := by decide +kernel
theorem dX12_areTwo_26 : decode cX12_areTwo 26 = .ok (.ireturn, 1) := by decide +kernel
theorem dX12_feed_0 : decode cX12_feed 0 = .ok (.aload_n 0, 1) := by decide +kernel
theorem dX12_feed_1 : decode cX12_feed 1 = .ok (.getfield 151, 3) := by decide +kernel
theorem dX12_feed_4 : decode cX12_feed 4 = .ok (.bipush 20, 2) := by decide +kernel
theorem dX12_feed_6 : decode cX12_feed 6 = .ok (.iadd, 1) := by decide +kernel
theorem dX12_feed_7 : decode cX12_feed 7 = .ok (.sipush 400, 3) := by decide +kernel
theorem dX12_feed_10 : decode cX12_feed 10 = .ok (.if_icmp .le 5, 3) := by decide +kernel
theorem dX12_feed_13 : decode cX12_feed 13 = .ok (.iconst (-1), 1) := by decide +kernel
theorem dX12_feed_14 : decode cX12_feed 14 = .ok (.ireturn, 1) := by decide +kernel
theorem dX12_feed_15 : decode cX12_feed 15 = .ok (.aload_n 0, 1) := by decide +kernel
theorem dX12_feed_16 : decode cX12_feed 16 = .ok (.iload_n 1, 1) := by decide +kernel
theorem dX12_feed_17 : decode cX12_feed 17 = .ok (.invokevirtual 154, 3) := by decide +kernel
theorem dX12_feed_20 : decode cX12_feed 20 = .ok (.aload_n 0, 1) := by decide +kernel
theorem dX12_feed_21 : decode cX12_feed 21 = .ok (.iload_n 2, 1) := by decide +kernel
theorem dX12_feed_22 : decode cX12_feed 22 = .ok (.invokevirtual 154, 3) := by decide +kernel
theorem dX12_feed_25 : decode cX12_feed 25 = .ok (.aload_n 0, 1) := by decide +kernel
theorem dX12_feed_26 : decode cX12_feed 26 = .ok (.iload_n 3, 1) := by decide +kernel
theorem dX12_feed_27 : decode cX12_feed 27 = .ok (.invokevirtual 154, 3) := by decide +kernel
theorem dX12_feed_30 : decode cX12_feed 30 = .ok (.aload_n 0, 1) := by decide +kernel
theorem dX12_feed_31 : decode cX12_feed 31 = .ok (.iload 4, 2) := by decide +kernel
theorem dX12_feed_33 : decode cX12_feed 33 = .ok (.invokevirtual 154, 3) := by decide +kernel
theorem dX12_feed_36 : decode cX12_feed 36 = .ok (.aload_n 0, 1) := by decide +kernel
theorem dX12_feed_37 : decode cX12_feed 37 = .ok (.iload 5, 2) := by decide +kernel
theorem dX12_feed_39 : decode cX12_feed 39 = .ok (.invokevirtual 154, 3) := by decide +kernel
theorem dX12_feed_42 : decode cX12_feed 42 = .ok (.aload_n 0, 1) := by decide +kernel
theorem dX12_feed_43 : decode cX12_feed 43 = .ok (.getfield 151, 3) := by decide +kernel
theorem dX12_feed_46 : decode cX12_feed 46 = .ok (.ireturn, 1) := by decide +kernel
theorem dX12_put_0 : decode cX12_put 0 = .ok (.bipush 24, 2) := by decide +kernel
theorem dX12_put_2 : decode cX12_put 2 = .ok (.istore_n 2, 1) := by decide +kernel
theorem dX12_put_3 : decode cX12_put 3 = .ok (.iload_n 2, 1) := by decide +kernel
theorem dX12_put_4 : decode cX12_put 4 = .ok (.ifCond .lt 32, 3) := by decide +kernel
theorem dX12_put_7 : decode cX12_put 7 = .ok (.aload_n 0, 1) := by decide +kernel
theorem dX12_put_8 : decode cX12_put 8 = .ok (.getfield 62, 3) := by decide +kernel
theorem dX12_put_11 : decode cX12_put 11 = .ok (.aload_n 0, 1) := by decide +kernel
theorem dX12_put_12 : decode cX12_put 12 = .ok (.getfield 151, 3) := by decide +kernel
theorem dX12_put_15 : decode cX12_put 15 = .ok (.iload_n 1, 1) := by decide +kernel
theorem dX12_put_16 : decode cX12_put 16 = .ok (.iload_n 2, 1) := by decide +kernel
theorem dX12_put_17 : decode cX12_put 17 = .ok (.ishr, 1) := by decide +kernel
theorem dX12_put_18 : decode cX12_put 18 = .ok (.i2b, 1) := by decide +kernel
theorem dX12_put_19 : decode cX12_put 19 = .ok (.bastore, 1) := by decide +kernel
theorem dX12_put_20 : decode cX12_put 20 = .ok (.aload_n 0, 1) := by decide +kernel
theorem dX12_put_21 : decode cX12_put 21 = .ok (.dup, 1) := by decide +kernel
theorem dX12_put_22 : decode cX12_put 22 = .ok (.getfield 151, 3) := by decide +kernel
theorem dX12_put_25 : decode cX12_put 25 = .ok (.iconst 1, 1) := by decide +kernel
theorem dX12_put_26 : decode cX12_put 26 = .ok (.iadd, 1) := by decide +kernel
theorem dX12_put_27 : decode cX12_put 27 = .ok (.putfield 151, 3) := by decide +kernel
theorem dX12_put_30 : decode cX12_put 30 = .ok (.iinc 2 (-8), 3) := by decide +kernel
theorem dX12_put_33 : decode cX12_put 33 = .ok (.goto (-30), 3) := by decide +kernel
theorem dX12_put_36 : decode cX12_put 36 = .ok (.return_, 1) := by decide +kernel
theorem dX12_end_0 : decode cX12_end 0 = .ok (.iload_n 1, 1) := by decide +kernel
theorem dX12_end_1 : decode cX12_end 1 = .ok (.ifCond .lt 11, 3) := by decide +kernel
theorem dX12_end_4 : decode cX12_end 4 = .ok (.iload_n 1, 1) := by decide +kernel
theorem dX12_end_5 : decode cX12_end 5 = .ok (.aload_n 0, 1) := by decide +kernel
theorem dX12_end_6 : decode cX12_end 6 = .ok (.getfield 151, 3) := by decide +kernel
theorem dX12_end_9 : decode cX12_end 9 = .ok (.if_icmp .le 5, 3) := by decide +kernel
theorem dX12_end_12 : decode cX12_end 12 = .ok (.iconst (-1), 1) := by decide +kernel
theorem dX12_end_13 : decode cX12_end 13 = .ok (.ireturn, 1) := by decide +kernel
theorem dX12_end_14 : decode cX12_end 14 = .ok (.aload_n 0, 1) := by decide +kernel
theorem dX12_end_15 : decode cX12_end 15 = .ok (.iload_n 1, 1) := by decide +kernel
theorem dX12_end_16 : decode cX12_end 16 = .ok (.putfield 151, 3) := by decide +kernel
theorem dX12_end_19 : decode cX12_end 19 = .ok (.iload_n 1, 1) := by decide +kernel
theorem dX12_end_20 : decode cX12_end 20 = .ok (.ireturn, 1) := by decide +kernel
theorem dX12_wordOf_0 : decode cX12_wordOf 0 = .ok (.iload_n 0, 1) := by decide +kernel
theorem dX12_wordOf_1 : decode cX12_wordOf 1 = .ok (.tableswitch 92 0 10 #[59, 62, 65, 68, 71, 74, 77, 80, 83, 86, 89], 59) := by decide +kernel
theorem dX12_wordOf_60 : decode cX12_wordOf 60 = .ok (.ldc 158, 2) := by decide +kernel
theorem dX12_wordOf_62 : decode cX12_wordOf 62 = .ok (.areturn, 1) := by decide +kernel
theorem dX12_wordOf_63 : decode cX12_wordOf 63 = .ok (.ldc 160, 2) := by decide +kernel
theorem dX12_wordOf_65 : decode cX12_wordOf 65 = .ok (.areturn, 1) := by decide +kernel
theorem dX12_wordOf_66 : decode cX12_wordOf 66 = .ok (.ldc 162, 2) := by decide +kernel
theorem dX12_wordOf_68 : decode cX12_wordOf 68 = .ok (.areturn, 1) := by decide +kernel
theorem dX12_wordOf_69 : decode cX12_wordOf 69 = .ok (.ldc 163, 2) := by decide +kernel
theorem dX12_wordOf_71 : decode cX12_wordOf 71 = .ok (.areturn, 1) := by decide +kernel
theorem dX12_wordOf_72 : decode cX12_wordOf 72 = .ok (.ldc 164, 2) := by decide +kernel
theorem dX12_wordOf_74 : decode cX12_wordOf 74 = .ok (.areturn, 1) := by decide +kernel
theorem dX12_wordOf_75 : decode cX12_wordOf 75 = .ok (.ldc 166, 2) := by decide +kernel
theorem dX12_wordOf_77 : decode cX12_wordOf 77 = .ok (.areturn, 1) := by decide +kernel
theorem dX12_wordOf_78 : decode cX12_wordOf 78 = .ok (.ldc 168, 2) := by decide +kernel
theorem dX12_wordOf_80 : decode cX12_wordOf 80 = .ok (.areturn, 1) := by decide +kernel
theorem dX12_wordOf_81 : decode cX12_wordOf 81 = .ok (.ldc 170, 2) := by decide +kernel
theorem dX12_wordOf_83 : decode cX12_wordOf 83 = .ok (.areturn, 1) := by decide +kernel
theorem dX12_wordOf_84 : decode cX12_wordOf 84 = .ok (.ldc 172, 2) := by decide +kernel
theorem dX12_wordOf_86 : decode cX12_wordOf 86 = .ok (.areturn, 1) := by decide +kernel
theorem dX12_wordOf_87 : decode cX12_wordOf 87 = .ok (.ldc 174, 2) := by decide +kernel
theorem dX12_wordOf_89 : decode cX12_wordOf 89 = .ok (.areturn, 1) := by decide +kernel
theorem dX12_wordOf_90 : decode cX12_wordOf 90 = .ok (.ldc 176, 2) := by decide +kernel
theorem dX12_wordOf_92 : decode cX12_wordOf 92 = .ok (.areturn, 1) := by decide +kernel
theorem dX12_wordOf_93 : decode cX12_wordOf 93 = .ok (.ldc 178, 2) := by decide +kernel
theorem dX12_wordOf_95 : decode cX12_wordOf 95 = .ok (.areturn, 1) := by decide +kernel
theorem dX12_fails_0 : decode cX12_fails 0 = .ok (.aload_n 0, 1) := by decide +kernel
theorem dX12_fails_1 : decode cX12_fails 1 = .ok (.aload_n 0, 1) := by decide +kernel
theorem dX12_fails_2 : decode cX12_fails 2 = .ok (.getfield 180, 3) := by decide +kernel
theorem dX12_fails_5 : decode cX12_fails 5 = .ok (.ifCond .ne 14, 3) := by decide +kernel
theorem dX12_fails_8 : decode cX12_fails 8 = .ok (.iconst 1, 1) := by decide +kernel
theorem dX12_fails_9 : decode cX12_fails 9 = .ok (.bipush 8, 2) := by decide +kernel
theorem dX12_fails_11 : decode cX12_fails 11 = .ok (.iload_n 2, 1) := by decide +kernel
theorem dX12_fails_12 : decode cX12_fails 12 = .ok (.imul, 1) := by decide +kernel
theorem dX12_fails_13 : decode cX12_fails 13 = .ok (.iadd, 1) := by decide +kernel
theorem dX12_fails_14 : decode cX12_fails 14 = .ok (.iload_n 1, 1) := by decide +kernel
theorem dX12_fails_15 : decode cX12_fails 15 = .ok (.iadd, 1) := by decide +kernel
theorem dX12_fails_16 : decode cX12_fails 16 = .ok (.goto 7, 3) := by decide +kernel
theorem dX12_fails_19 : decode cX12_fails 19 = .ok (.aload_n 0, 1) := by decide +kernel
theorem dX12_fails_20 : decode cX12_fails 20 = .ok (.getfield 180, 3) := by decide +kernel
theorem dX12_fails_23 : decode cX12_fails 23 = .ok (.putfield 180, 3) := by decide +kernel
theorem dX12_fails_26 : decode cX12_fails 26 = .ok (.return_, 1) := by decide +kernel
theorem dX12_sign_0 : decode cX12_sign 0 = .ok (.aload_n 0, 1) := by decide +kernel
theorem dX12_sign_1 : decode cX12_sign 1 = .ok (.getfield 183, 3) := by decide +kernel
theorem dX12_sign_4 : decode cX12_sign 4 = .ok (.aload_n 0, 1) := by decide +kernel
theorem dX12_sign_5 : decode cX12_sign 5 = .ok (.getfield 151, 3) := by decide +kernel
theorem dX12_sign_8 : decode cX12_sign 8 = .ok (.if_icmp .ge 19, 3) := by decide +kernel
theorem dX12_sign_11 : decode cX12_sign 11 = .ok (.aload_n 0, 1) := by decide +kernel
theorem dX12_sign_12 : decode cX12_sign 12 = .ok (.getfield 62, 3) := by decide +kernel
theorem dX12_sign_15 : decode cX12_sign 15 = .ok (.aload_n 0, 1) := by decide +kernel
theorem dX12_sign_16 : decode cX12_sign 16 = .ok (.getfield 183, 3) := by decide +kernel
theorem dX12_sign_19 : decode cX12_sign 19 = .ok (.baload, 1) := by decide +kernel
theorem dX12_sign_20 : decode cX12_sign 20 = .ok (.sipush 255, 3) := by decide +kernel
theorem dX12_sign_23 : decode cX12_sign 23 = .ok (.iand, 1) := by decide +kernel
theorem dX12_sign_24 : decode cX12_sign 24 = .ok (.goto 4, 3) := by decide +kernel
theorem dX12_sign_27 : decode cX12_sign 27 = .ok (.iconst (-1), 1) := by decide +kernel
theorem dX12_sign_28 : decode cX12_sign 28 = .ok (.ireturn, 1) := by decide +kernel
theorem dX12_blanks_0 : decode cX12_blanks 0 = .ok (.aload_n 0, 1) := by decide +kernel
theorem dX12_blanks_1 : decode cX12_blanks 1 = .ok (.invokevirtual 186, 3) := by decide +kernel
theorem dX12_blanks_4 : decode cX12_blanks 4 = .ok (.bipush 32, 2) := by decide +kernel
theorem dX12_blanks_6 : decode cX12_blanks 6 = .ok (.if_icmp .ne 16, 3) := by decide +kernel
theorem dX12_blanks_9 : decode cX12_blanks 9 = .ok (.aload_n 0, 1) := by decide +kernel
theorem dX12_blanks_10 : decode cX12_blanks 10 = .ok (.dup, 1) := by decide +kernel
theorem dX12_blanks_11 : decode cX12_blanks 11 = .ok (.getfield 183, 3) := by decide +kernel
theorem dX12_blanks_14 : decode cX12_blanks 14 = .ok (.iconst 1, 1) := by decide +kernel
theorem dX12_blanks_15 : decode cX12_blanks 15 = .ok (.iadd, 1) := by decide +kernel
theorem dX12_blanks_16 : decode cX12_blanks 16 = .ok (.putfield 183, 3) := by decide +kernel
theorem dX12_blanks_19 : decode cX12_blanks 19 = .ok (.goto (-19), 3) := by decide +kernel
theorem dX12_blanks_22 : decode cX12_blanks 22 = .ok (.return_, 1) := by decide +kernel
theorem dX12_isDigit_0 : decode cX12_isDigit 0 = .ok (.aload_n 0, 1) := by decide +kernel
theorem dX12_isDigit_1 : decode cX12_isDigit 1 = .ok (.invokevirtual 186, 3) := by decide +kernel
theorem dX12_isDigit_4 : decode cX12_isDigit 4 = .ok (.i2l, 1) := by decide +kernel
theorem dX12_isDigit_5 : decode cX12_isDigit 5 = .ok (.ldc2_w 190, 3) := by decide +kernel
theorem dX12_isDigit_8 : decode cX12_isDigit 8 = .ok (.ldc2_w 192, 3) := by decide +kernel
theorem dX12_isDigit_11 : decode cX12_isDigit 11 = .ok (.invokestatic 143, 3) := by decide +kernel
theorem dX12_isDigit_14 : decode cX12_isDigit 14 = .ok (.ireturn, 1) := by decide +kernel
theorem dX12_isWordAt_0 : decode cX12_isWordAt 0 = .ok (.aload_n 0, 1) := by decide +kernel
theorem dX12_isWordAt_1 : decode cX12_isWordAt 1 = .ok (.getfield 183, 3) := by decide +kernel
theorem dX12_isWordAt_4 : decode cX12_isWordAt 4 = .ok (.istore_n 2, 1) := by decide +kernel
theorem dX12_isWordAt_5 : decode cX12_isWordAt 5 = .ok (.iload_n 2, 1) := by decide +kernel
theorem dX12_isWordAt_6 : decode cX12_isWordAt 6 = .ok (.aload_n 0, 1) := by decide +kernel
theorem dX12_isWordAt_7 : decode cX12_isWordAt 7 = .ok (.getfield 151, 3) := by decide +kernel
theorem dX12_isWordAt_10 : decode cX12_isWordAt 10 = .ok (.if_icmp .ge 31, 3) := by decide +kernel
theorem dX12_isWordAt_13 : decode cX12_isWordAt 13 = .ok (.aload_n 0, 1) := by decide +kernel
theorem dX12_isWordAt_14 : decode cX12_isWordAt 14 = .ok (.getfield 62, 3) := by decide +kernel
theorem dX12_isWordAt_17 : decode cX12_isWordAt 17 = .ok (.iload_n 2, 1) := by decide +kernel
theorem dX12_isWordAt_18 : decode cX12_isWordAt 18 = .ok (.baload, 1) := by decide +kernel
theorem dX12_isWordAt_19 : decode cX12_isWordAt 19 = .ok (.bipush 97, 2) := by decide +kernel
theorem dX12_isWordAt_21 : decode cX12_isWordAt 21 = .ok (.if_icmp .lt 20, 3) := by decide +kernel
theorem dX12_isWordAt_24 : decode cX12_isWordAt 24 = .ok (.aload_n 0, 1) := by decide +kernel
theorem dX12_isWordAt_25 : decode cX12_isWordAt 25 = .ok (.getfield 62, 3) := by decide +kernel
theorem dX12_isWordAt_28 : decode cX12_isWordAt 28 = .ok (.iload_n 2, 1) := by decide +kernel
theorem dX12_isWordAt_29 : decode cX12_isWordAt 29 = .ok (.baload, 1) := by decide +kernel
theorem dX12_isWordAt_30 : decode cX12_isWordAt 30 = .ok (.bipush 122, 2) := by decide +kernel
theorem dX12_isWordAt_32 : decode cX12_isWordAt 32 = .ok (.if_icmp .gt 9, 3) := by decide +kernel
theorem dX12_isWordAt_35 : decode cX12_isWordAt 35 = .ok (.iinc 2 1, 3) := by decide +kernel
theorem dX12_isWordAt_38 : decode cX12_isWordAt 38 = .ok (.goto (-33), 3) := by decide +kernel
theorem dX12_isWordAt_41 : decode cX12_isWordAt 41 = .ok (.iload_n 2, 1) := by decide +kernel
theorem dX12_isWordAt_42 : decode cX12_isWordAt 42 = .ok (.aload_n 0, 1) := by decide +kernel
theorem dX12_isWordAt_43 : decode cX12_isWordAt 43 = .ok (.getfield 183, 3) := by decide +kernel
theorem dX12_isWordAt_46 : decode cX12_isWordAt 46 = .ok (.isub, 1) := by decide +kernel
theorem dX12_isWordAt_47 : decode cX12_isWordAt 47 = .ok (.aload_n 1, 1) := by decide +kernel
theorem dX12_isWordAt_48 : decode cX12_isWordAt 48 = .ok (.invokevirtual 194, 3) := by decide +kernel
theorem dX12_isWordAt_51 : decode cX12_isWordAt 51 = .ok (.if_icmp .ne 7, 3) := by decide +kernel
theorem dX12_isWordAt_54 : decode cX12_isWordAt 54 = .ok (.iconst 1, 1) := by decide +kernel
theorem dX12_isWordAt_55 : decode cX12_isWordAt 55 = .ok (.goto 4, 3) := by decide +kernel
theorem dX12_isWordAt_58 : decode cX12_isWordAt 58 = .ok (.iconst 0, 1) := by decide +kernel
theorem dX12_isWordAt_59 : decode cX12_isWordAt 59 = .ok (.istore_n 3, 1) := by decide +kernel
theorem dX12_isWordAt_60 : decode cX12_isWordAt 60 = .ok (.iconst 0, 1) := by decide +kernel
theorem dX12_isWordAt_61 : decode cX12_isWordAt 61 = .ok (.istore 4, 2) := by decide +kernel
theorem dX12_isWordAt_63 : decode cX12_isWordAt 63 = .ok (.iload 4, 2) := by decide +kernel
theorem dX12_isWordAt_65 : decode cX12_isWordAt 65 = .ok (.aload_n 1, 1) := by decide +kernel
theorem dX12_isWordAt_66 : decode cX12_isWordAt 66 = .ok (.invokevirtual 194, 3) := by decide +kernel
theorem dX12_isWordAt_69 : decode cX12_isWordAt 69 = .ok (.if_icmp .ge 40, 3) := by decide +kernel
theorem dX12_isWordAt_72 : decode cX12_isWordAt 72 = .ok (.iload_n 3, 1) := by decide +kernel
theorem dX12_isWordAt_73 : decode cX12_isWordAt 73 = .ok (.ifCond .eq 36, 3) := by decide +kernel
theorem dX12_isWordAt_76 : decode cX12_isWordAt 76 = .ok (.aload_n 0, 1) := by decide +kernel
theorem dX12_isWordAt_77 : decode cX12_isWordAt 77 = .ok (.getfield 62, 3) := by decide +kernel
theorem dX12_isWordAt_80 : decode cX12_isWordAt 80 = .ok (.aload_n 0, 1) := by decide +kernel
theorem dX12_isWordAt_81 : decode cX12_isWordAt 81 = .ok (.getfield 183, 3) := by decide +kernel
theorem dX12_isWordAt_84 : decode cX12_isWordAt 84 = .ok (.iload 4, 2) := by decide +kernel
theorem dX12_isWordAt_86 : decode cX12_isWordAt 86 = .ok (.iadd, 1) := by decide +kernel
theorem dX12_isWordAt_87 : decode cX12_isWordAt 87 = .ok (.baload, 1) := by decide +kernel
theorem dX12_isWordAt_88 : decode cX12_isWordAt 88 = .ok (.aload_n 1, 1) := by decide +kernel
theorem dX12_isWordAt_89 : decode cX12_isWordAt 89 = .ok (.iload 4, 2) := by decide +kernel
theorem dX12_isWordAt_91 : decode cX12_isWordAt 91 = .ok (.invokevirtual 199, 3) := by decide +kernel
theorem dX12_isWordAt_94 : decode cX12_isWordAt 94 = .ok (.if_icmp .ne 7, 3) := by decide +kernel
theorem dX12_isWordAt_97 : decode cX12_isWordAt 97 = .ok (.iconst 1, 1) := by decide +kernel
theorem dX12_isWordAt_98 : decode cX12_isWordAt 98 = .ok (.goto 4, 3) := by decide +kernel
theorem dX12_isWordAt_101 : decode cX12_isWordAt 101 = .ok (.iconst 0, 1) := by decide +kernel
theorem dX12_isWordAt_102 : decode cX12_isWordAt 102 = .ok (.istore_n 3, 1) := by decide +kernel
theorem dX12_isWordAt_103 : decode cX12_isWordAt 103 = .ok (.iinc 4 1, 3) := by decide +kernel
theorem dX12_isWordAt_106 : decode cX12_isWordAt 106 = .ok (.goto (-43), 3) := by decide +kernel
theorem dX12_isWordAt_109 : decode cX12_isWordAt 109 = .ok (.iload_n 3, 1) := by decide +kernel
theorem dX12_isWordAt_110 : decode cX12_isWordAt 110 = .ok (.ireturn, 1) := by decide +kernel
theorem dX12_takes_0 : decode cX12_takes 0 = .ok (.aload_n 0, 1) := by decide +kernel
theorem dX12_takes_1 : decode cX12_takes 1 = .ok (.invokevirtual 203, 3) := by decide +kernel
theorem dX12_takes_4 : decode cX12_takes 4 = .ok (.aload_n 0, 1) := by decide +kernel
theorem dX12_takes_5 : decode cX12_takes 5 = .ok (.aload_n 1, 1) := by decide +kernel
theorem dX12_takes_6 : decode cX12_takes 6 = .ok (.invokevirtual 206, 3) := by decide +kernel
theorem dX12_takes_9 : decode cX12_takes 9 = .ok (.istore_n 2, 1) := by decide +kernel
theorem dX12_takes_10 : decode cX12_takes 10 = .ok (.aload_n 0, 1) := by decide +kernel
theorem dX12_takes_11 : decode cX12_takes 11 = .ok (.dup, 1) := by decide +kernel
theorem dX12_takes_12 : decode cX12_takes 12 = .ok (.getfield 183, 3) := by decide +kernel
theorem dX12_takes_15 : decode cX12_takes 15 = .ok (.iload_n 2, 1) := by decide +kernel
theorem dX12_takes_16 : decode cX12_takes 16 = .ok (.ifCond .eq 10, 3) := by decide +kernel
theorem dX12_takes_19 : decode cX12_takes 19 = .ok (.aload_n 1, 1) := by decide +kernel
theorem dX12_takes_20 : decode cX12_takes 20 = .ok (.invokevirtual 194, 3) := by decide +kernel
theorem dX12_takes_23 : decode cX12_takes 23 = .ok (.goto 4, 3) := by decide +kernel
theorem dX12_takes_26 : decode cX12_takes 26 = .ok (.iconst 0, 1) := by decide +kernel
theorem dX12_takes_27 : decode cX12_takes 27 = .ok (.iadd, 1) := by decide +kernel
theorem dX12_takes_28 : decode cX12_takes 28 = .ok (.putfield 183, 3) := by decide +kernel
theorem dX12_takes_31 : decode cX12_takes 31 = .ok (.iload_n 2, 1) := by decide +kernel
theorem dX12_takes_32 : decode cX12_takes 32 = .ok (.ireturn, 1) := by decide +kernel
theorem dX12_entry_0 : decode cX12_entry 0 = .ok (.aload_n 0, 1) := by decide +kernel
theorem dX12_entry_1 : decode cX12_entry 1 = .ok (.getfield 180, 3) := by decide +kernel
theorem dX12_entry_4 : decode cX12_entry 4 = .ok (.ifCond .ne 51, 3) := by decide +kernel
theorem dX12_entry_7 : decode cX12_entry 7 = .ok (.aload_n 0, 1) := by decide +kernel
theorem dX12_entry_8 : decode cX12_entry 8 = .ok (.getfield 66, 3) := by decide +kernel
theorem dX12_entry_11 : decode cX12_entry 11 = .ok (.sipush 300, 3) := by decide +kernel
theorem dX12_entry_14 : decode cX12_entry 14 = .ok (.aload_n 0, 1) := by decide +kernel
theorem dX12_entry_15 : decode cX12_entry 15 = .ok (.getfield 210, 3) := by decide +kernel
theorem dX12_entry_18 : decode cX12_entry 18 = .ok (.imul, 1) := by decide +kernel
theorem dX12_entry_19 : decode cX12_entry 19 = .ok (.aload_n 0, 1) := by decide +kernel
theorem dX12_entry_20 : decode cX12_entry 20 = .ok (.getfield 213, 3) := by decide +kernel
theorem dX12_entry_23 : decode cX12_entry 23 = .ok (.iadd, 1) := by decide +kernel
theorem dX12_entry_24 : decode cX12_entry 24 = .ok (.iload_n 1, 1) := by decide +kernel
theorem dX12_entry_25 : decode cX12_entry 25 = .ok (.iastore, 1) := by decide +kernel
theorem dX12_entry_26 : decode cX12_entry 26 = .ok (.aload_n 0, 1) := by decide +kernel
theorem dX12_entry_27 : decode cX12_entry 27 = .ok (.getfield 69, 3) := by decide +kernel
theorem dX12_entry_30 : decode cX12_entry 30 = .ok (.sipush 300, 3) := by decide +kernel
theorem dX12_entry_33 : decode cX12_entry 33 = .ok (.aload_n 0, 1) := by decide +kernel
theorem dX12_entry_34 : decode cX12_entry 34 = .ok (.getfield 210, 3) := by decide +kernel
theorem dX12_entry_37 : decode cX12_entry 37 = .ok (.imul, 1) := by decide +kernel
theorem dX12_entry_38 : decode cX12_entry 38 = .ok (.aload_n 0, 1) := by decide +kernel
theorem dX12_entry_39 : decode cX12_entry 39 = .ok (.getfield 213, 3) := by decide +kernel
theorem dX12_entry_42 : decode cX12_entry 42 = .ok (.iadd, 1) := by decide +kernel
theorem dX12_entry_43 : decode cX12_entry 43 = .ok (.iload_n 2, 1) := by decide +kernel
theorem dX12_entry_44 : decode cX12_entry 44 = .ok (.iastore, 1) := by decide +kernel
theorem dX12_entry_45 : decode cX12_entry 45 = .ok (.aload_n 0, 1) := by decide +kernel
theorem dX12_entry_46 : decode cX12_entry 46 = .ok (.dup, 1) := by decide +kernel
theorem dX12_entry_47 : decode cX12_entry 47 = .ok (.getfield 213, 3) := by decide +kernel
theorem dX12_entry_50 : decode cX12_entry 50 = .ok (.iconst 1, 1) := by decide +kernel
theorem dX12_entry_51 : decode cX12_entry 51 = .ok (.iadd, 1) := by decide +kernel
theorem dX12_entry_52 : decode cX12_entry 52 = .ok (.putfield 213, 3) := by decide +kernel
theorem dX12_entry_55 : decode cX12_entry 55 = .ok (.return_, 1) := by decide +kernel
theorem dX12_isCounted_0 : decode cX12_isCounted 0 = .ok (.aload_n 0, 1) := by decide +kernel
theorem dX12_isCounted_1 : decode cX12_isCounted 1 = .ok (.getfield 216, 3) := by decide +kernel
theorem dX12_isCounted_4 : decode cX12_isCounted 4 = .ok (.bipush 60, 2) := by decide +kernel
theorem dX12_isCounted_6 : decode cX12_isCounted 6 = .ok (.if_icmp .ne 9, 3) := by decide +kernel
theorem dX12_isCounted_9 : decode cX12_isCounted 9 = .ok (.aload_n 0, 1) := by decide +kernel
theorem dX12_isCounted_10 : decode cX12_isCounted 10 = .ok (.iconst 3, 1) := by decide +kernel
theorem dX12_isCounted_11 : decode cX12_isCounted 11 = .ok (.iload_n 1, 1) := by decide +kernel
theorem dX12_isCounted_12 : decode cX12_isCounted 12 = .ok (.invokevirtual 219, 3) := by decide +kernel
theorem dX12_isCounted_15 : decode cX12_isCounted 15 = .ok (.aload_n 0, 1) := by decide +kernel
theorem dX12_isCounted_16 : decode cX12_isCounted 16 = .ok (.dup, 1) := by decide +kernel
theorem dX12_isCounted_17 : decode cX12_isCounted 17 = .ok (.getfield 216, 3) := by decide +kernel
theorem dX12_isCounted_20 : decode cX12_isCounted 20 = .ok (.iconst 1, 1) := by decide +kernel
theorem dX12_isCounted_21 : decode cX12_isCounted 21 = .ok (.iadd, 1) := by decide +kernel
theorem dX12_isCounted_22 : decode cX12_isCounted 22 = .ok (.putfield 216, 3) := by decide +kernel
theorem dX12_isCounted_25 : decode cX12_isCounted 25 = .ok (.return_, 1) := by decide +kernel
theorem dX12_digits_0 : decode cX12_digits 0 = .ok (.aload_n 0, 1) := by decide +kernel
theorem dX12_digits_1 : decode cX12_digits 1 = .ok (.invokevirtual 223, 3) := by decide +kernel
theorem dX12_digits_4 : decode cX12_digits 4 = .ok (.ifCond .ne 14, 3) := by decide +kernel
theorem dX12_digits_7 : decode cX12_digits 7 = .ok (.aload_n 0, 1) := by decide +kernel
theorem dX12_digits_8 : decode cX12_digits 8 = .ok (.iconst 0, 1) := by decide +kernel
theorem dX12_digits_9 : decode cX12_digits 9 = .ok (.aload_n 0, 1) := by decide +kernel
theorem dX12_digits_10 : decode cX12_digits 10 = .ok (.getfield 183, 3) := by decide +kernel
theorem dX12_digits_13 : decode cX12_digits 13 = .ok (.invokevirtual 219, 3) := by decide +kernel
theorem dX12_digits_16 : decode cX12_digits 16 = .ok (.iconst 0, 1) := by decide +kernel
theorem dX12_digits_17 : decode cX12_digits 17 = .ok (.ireturn, 1) := by decide +kernel
theorem dX12_digits_18 : decode cX12_digits 18 = .ok (.aload_n 0, 1) := by decide +kernel
theorem dX12_digits_19 : decode cX12_digits 19 = .ok (.getfield 183, 3) := by decide +kernel
theorem dX12_digits_22 : decode cX12_digits 22 = .ok (.istore_n 2, 1) := by decide +kernel
theorem dX12_digits_23 : decode cX12_digits 23 = .ok (.iconst 0, 1) := by decide +kernel
theorem dX12_digits_24 : decode cX12_digits 24 = .ok (.istore_n 3, 1) := by decide +kernel
theorem dX12_digits_25 : decode cX12_digits 25 = .ok (.aload_n 0, 1) := by decide +kernel
theorem dX12_digits_26 : decode cX12_digits 26 = .ok (.invokevirtual 223, 3) := by decide +kernel
theorem dX12_digits_29 : decode cX12_digits 29 = .ok (.ifCond .eq 43, 3) := by decide +kernel
theorem dX12_digits_32 : decode cX12_digits 32 = .ok (.aload_n 0, 1) := by decide +kernel
theorem dX12_digits_33 : decode cX12_digits 33 = .ok (.getfield 183, 3) := by decide +kernel
theorem dX12_digits_36 : decode cX12_digits 36 = .ok (.iload_n 2, 1) := by decide +kernel
theorem dX12_digits_37 : decode cX12_digits 37 = .ok (.isub, 1) := by decide +kernel
theorem dX12_digits_38 : decode cX12_digits 38 = .ok (.iconst 5, 1) := by decide +kernel
theorem dX12_digits_39 : decode cX12_digits 39 = .ok (.if_icmp .ge 18, 3) := by decide +kernel
theorem dX12_digits_42 : decode cX12_digits 42 = .ok (.bipush 10, 2) := by decide +kernel
theorem dX12_digits_44 : decode cX12_digits 44 = .ok (.iload_n 3, 1) := by decide +kernel
theorem dX12_digits_45 : decode cX12_digits 45 = .ok (.imul, 1) := by decide +kernel
theorem dX12_digits_46 : decode cX12_digits 46 = .ok (.aload_n 0, 1) := by decide +kernel
theorem dX12_digits_47 : decode cX12_digits 47 = .ok (.invokevirtual 186, 3) := by decide +kernel
theorem dX12_digits_50 : decode cX12_digits 50 = .ok (.iadd, 1) := by decide +kernel
theorem dX12_digits_51 : decode cX12_digits 51 = .ok (.bipush 48, 2) := by decide +kernel
theorem dX12_digits_53 : decode cX12_digits 53 = .ok (.isub, 1) := by decide +kernel
theorem dX12_digits_54 : decode cX12_digits 54 = .ok (.goto 4, 3) := by decide +kernel
theorem dX12_digits_57 : decode cX12_digits 57 = .ok (.iload_n 3, 1) := by decide +kernel
theorem dX12_digits_58 : decode cX12_digits 58 = .ok (.istore_n 3, 1) := by decide +kernel
theorem dX12_digits_59 : decode cX12_digits 59 = .ok (.aload_n 0, 1) := by decide +kernel
theorem dX12_digits_60 : decode cX12_digits 60 = .ok (.dup, 1) := by decide +kernel
theorem dX12_digits_61 : decode cX12_digits 61 = .ok (.getfield 183, 3) := by decide +kernel
theorem dX12_digits_64 : decode cX12_digits 64 = .ok (.iconst 1, 1) := by decide +kernel
theorem dX12_digits_65 : decode cX12_digits 65 = .ok (.iadd, 1) := by decide +kernel
theorem dX12_digits_66 : decode cX12_digits 66 = .ok (.putfield 183, 3) := by decide +kernel
theorem dX12_digits_69 : decode cX12_digits 69 = .ok (.goto (-44), 3) := by decide +kernel
theorem dX12_digits_72 : decode cX12_digits 72 = .ok (.aload_n 0, 1) := by decide +kernel
theorem dX12_digits_73 : decode cX12_digits 73 = .ok (.getfield 183, 3) := by decide +kernel
theorem dX12_digits_76 : decode cX12_digits 76 = .ok (.iload_n 2, 1) := by decide +kernel
theorem dX12_digits_77 : decode cX12_digits 77 = .ok (.isub, 1) := by decide +kernel
theorem dX12_digits_78 : decode cX12_digits 78 = .ok (.iconst 5, 1) := by decide +kernel
theorem dX12_digits_79 : decode cX12_digits 79 = .ok (.if_icmp .gt 8, 3) := by decide +kernel
theorem dX12_digits_82 : decode cX12_digits 82 = .ok (.iload_n 3, 1) := by decide +kernel
theorem dX12_digits_83 : decode cX12_digits 83 = .ok (.iload_n 1, 1) := by decide +kernel
theorem dX12_digits_84 : decode cX12_digits 84 = .ok (.if_icmp .le 9, 3) := by decide +kernel
theorem dX12_digits_87 : decode cX12_digits 87 = .ok (.aload_n 0, 1) := by decide +kernel
theorem dX12_digits_88 : decode cX12_digits 88 = .ok (.iconst 1, 1) := by decide +kernel
theorem dX12_digits_89 : decode cX12_digits 89 = .ok (.iload_n 2, 1) := by decide +kernel
theorem dX12_digits_90 : decode cX12_digits 90 = .ok (.invokevirtual 219, 3) := by decide +kernel
theorem dX12_digits_93 : decode cX12_digits 93 = .ok (.iload_n 3, 1) := by decide +kernel
theorem dX12_digits_94 : decode cX12_digits 94 = .ok (.ireturn, 1) := by decide +kernel
theorem dX12_value_0 : decode cX12_value 0 = .ok (.aload_n 0, 1) := by decide +kernel
theorem dX12_value_1 : decode cX12_value 1 = .ok (.invokevirtual 203, 3) := by decide +kernel
theorem dX12_value_4 : decode cX12_value 4 = .ok (.aload_n 0, 1) := by decide +kernel
theorem dX12_value_5 : decode cX12_value 5 = .ok (.getfield 183, 3) := by decide +kernel
theorem dX12_value_8 : decode cX12_value 8 = .ok (.istore_n 1, 1) := by decide +kernel
theorem dX12_value_9 : decode cX12_value 9 = .ok (.aload_n 0, 1) := by decide +kernel
theorem dX12_value_10 : decode cX12_value 10 = .ok (.invokevirtual 223, 3) := by decide +kernel
theorem dX12_value_13 : decode cX12_value 13 = .ok (.ifCond .eq 22, 3) := by decide +kernel
theorem dX12_value_16 : decode cX12_value 16 = .ok (.aload_n 0, 1) := by decide +kernel
theorem dX12_value_17 : decode cX12_value 17 = .ok (.ldc 227, 2) := by decide +kernel
theorem dX12_value_19 : decode cX12_value 19 = .ok (.invokevirtual 228, 3) := by decide +kernel
theorem dX12_value_22 : decode cX12_value 22 = .ok (.istore_n 2, 1) := by decide +kernel
theorem dX12_value_23 : decode cX12_value 23 = .ok (.aload_n 0, 1) := by decide +kernel
theorem dX12_value_24 : decode cX12_value 24 = .ok (.iload_n 1, 1) := by decide +kernel
theorem dX12_value_25 : decode cX12_value 25 = .ok (.invokevirtual 232, 3) := by decide +kernel
theorem dX12_value_28 : decode cX12_value 28 = .ok (.aload_n 0, 1) := by decide +kernel
theorem dX12_value_29 : decode cX12_value 29 = .ok (.iconst 0, 1) := by decide +kernel
theorem dX12_value_30 : decode cX12_value 30 = .ok (.iload_n 2, 1) := by decide +kernel
theorem dX12_value_31 : decode cX12_value 31 = .ok (.invokevirtual 235, 3) := by decide +kernel
theorem dX12_value_34 : decode cX12_value 34 = .ok (.return_, 1) := by decide +kernel
theorem dX12_value_35 : decode cX12_value 35 = .ok (.iconst 0, 1) := by decide +kernel
theorem dX12_value_36 : decode cX12_value 36 = .ok (.istore_n 2, 1) := by decide +kernel
theorem dX12_value_37 : decode cX12_value 37 = .ok (.iload_n 2, 1) := by decide +kernel
theorem dX12_value_38 : decode cX12_value 38 = .ok (.aload_n 0, 1) := by decide +kernel
theorem dX12_value_39 : decode cX12_value 39 = .ok (.getfield 58, 3) := by decide +kernel
theorem dX12_value_42 : decode cX12_value 42 = .ok (.if_icmp .ge 20, 3) := by decide +kernel
theorem dX12_value_45 : decode cX12_value 45 = .ok (.aload_n 0, 1) := by decide +kernel
theorem dX12_value_46 : decode cX12_value 46 = .ok (.iload_n 2, 1) := by decide +kernel
theorem dX12_value_47 : decode cX12_value 47 = .ok (.invokestatic 238, 3) := by decide +kernel
theorem dX12_value_50 : decode cX12_value 50 = .ok (.invokevirtual 206, 3) := by decide +kernel
theorem dX12_value_53 : decode cX12_value 53 = .ok (.ifCond .ne 9, 3) := by decide +kernel
theorem dX12_value_56 : decode cX12_value 56 = .ok (.iinc 2 1, 3) := by decide +kernel
theorem dX12_value_59 : decode cX12_value 59 = .ok (.goto (-22), 3) := by decide +kernel
theorem dX12_value_62 : decode cX12_value 62 = .ok (.iload_n 2, 1) := by decide +kernel
theorem dX12_value_63 : decode cX12_value 63 = .ok (.aload_n 0, 1) := by decide +kernel
theorem dX12_value_64 : decode cX12_value 64 = .ok (.getfield 58, 3) := by decide +kernel
theorem dX12_value_67 : decode cX12_value 67 = .ok (.if_icmp .ne 10, 3) := by decide +kernel
theorem dX12_value_70 : decode cX12_value 70 = .ok (.aload_n 0, 1) := by decide +kernel
theorem dX12_value_71 : decode cX12_value 71 = .ok (.iconst 0, 1) := by decide +kernel
theorem dX12_value_72 : decode cX12_value 72 = .ok (.iload_n 1, 1) := by decide +kernel
theorem dX12_value_73 : decode cX12_value 73 = .ok (.invokevirtual 219, 3) := by decide +kernel
theorem dX12_value_76 : decode cX12_value 76 = .ok (.return_, 1) := by decide +kernel
theorem dX12_value_77 : decode cX12_value 77 = .ok (.aload_n 0, 1) := by decide +kernel
theorem dX12_value_78 : decode cX12_value 78 = .ok (.iload_n 1, 1) := by decide +kernel
theorem dX12_value_79 : decode cX12_value 79 = .ok (.invokevirtual 232, 3) := by decide +kernel
theorem dX12_value_82 : decode cX12_value 82 = .ok (.aload_n 0, 1) := by decide +kernel
theorem dX12_value_83 : decode cX12_value 83 = .ok (.dup, 1) := by decide +kernel
theorem dX12_value_84 : decode cX12_value 84 = .ok (.getfield 183, 3) := by decide +kernel
theorem dX12_value_87 : decode cX12_value 87 = .ok (.iload_n 2, 1) := by decide +kernel
theorem dX12_value_88 : decode cX12_value 88 = .ok (.invokestatic 238, 3) := by decide +kernel
theorem dX12_value_91 : decode cX12_value 91 = .ok (.invokevirtual 194, 3) := by decide +kernel
theorem dX12_value_94 : decode cX12_value 94 = .ok (.iadd, 1) := by decide +kernel
theorem dX12_value_95 : decode cX12_value 95 = .ok (.putfield 183, 3) := by decide +kernel
theorem dX12_value_98 : decode cX12_value 98 = .ok (.aload_n 0, 1) := by decide +kernel
theorem dX12_value_99 : decode cX12_value 99 = .ok (.iconst 1, 1) := by decide +kernel
theorem dX12_value_100 : decode cX12_value 100 = .ok (.iload_n 2, 1) := by decide +kernel
theorem dX12_value_101 : decode cX12_value 101 = .ok (.invokevirtual 235, 3) := by decide +kernel
theorem dX12_value_104 : decode cX12_value 104 = .ok (.return_, 1) := by decide +kernel
theorem dX12_term_0 : decode cX12_term 0 = .ok (.aload_n 0, 1) := by decide +kernel
theorem dX12_term_1 : decode cX12_term 1 = .ok (.invokevirtual 242, 3) := by decide +kernel
theorem dX12_term_4 : decode cX12_term 4 = .ok (.aload_n 0, 1) := by decide +kernel
theorem dX12_term_5 : decode cX12_term 5 = .ok (.invokevirtual 203, 3) := by decide +kernel
theorem dX12_term_8 : decode cX12_term 8 = .ok (.aload_n 0, 1) := by decide +kernel
theorem dX12_term_9 : decode cX12_term 9 = .ok (.getfield 180, 3) := by decide +kernel
theorem dX12_term_12 : decode cX12_term 12 = .ok (.ifCond .ne 88, 3) := by decide +kernel
theorem dX12_term_15 : decode cX12_term 15 = .ok (.aload_n 0, 1) := by decide +kernel
theorem dX12_term_16 : decode cX12_term 16 = .ok (.invokevirtual 186, 3) := by decide +kernel
theorem dX12_term_19 : decode cX12_term 19 = .ok (.bipush 42, 2) := by decide +kernel
theorem dX12_term_21 : decode cX12_term 21 = .ok (.if_icmp .eq 21, 3) := by decide +kernel
theorem dX12_term_24 : decode cX12_term 24 = .ok (.aload_n 0, 1) := by decide +kernel
theorem dX12_term_25 : decode cX12_term 25 = .ok (.invokevirtual 186, 3) := by decide +kernel
theorem dX12_term_28 : decode cX12_term 28 = .ok (.bipush 47, 2) := by decide +kernel
theorem dX12_term_30 : decode cX12_term 30 = .ok (.if_icmp .eq 12, 3) := by decide +kernel
theorem dX12_term_33 : decode cX12_term 33 = .ok (.aload_n 0, 1) := by decide +kernel
theorem dX12_term_34 : decode cX12_term 34 = .ok (.invokevirtual 186, 3) := by decide +kernel
theorem dX12_term_37 : decode cX12_term 37 = .ok (.bipush 37, 2) := by decide +kernel
theorem dX12_term_39 : decode cX12_term 39 = .ok (.if_icmp .ne 61, 3) := by decide +kernel
theorem dX12_term_42 : decode cX12_term 42 = .ok (.aload_n 0, 1) := by decide +kernel
theorem dX12_term_43 : decode cX12_term 43 = .ok (.invokevirtual 186, 3) := by decide +kernel
theorem dX12_term_46 : decode cX12_term 46 = .ok (.bipush 42, 2) := by decide +kernel
theorem dX12_term_48 : decode cX12_term 48 = .ok (.if_icmp .ne 8, 3) := by decide +kernel
theorem dX12_term_51 : decode cX12_term 51 = .ok (.bipush 13, 2) := by decide +kernel
theorem dX12_term_53 : decode cX12_term 53 = .ok (.goto 19, 3) := by decide +kernel
theorem dX12_term_56 : decode cX12_term 56 = .ok (.aload_n 0, 1) := by decide +kernel
theorem dX12_term_57 : decode cX12_term 57 = .ok (.invokevirtual 186, 3) := by decide +kernel
theorem dX12_term_60 : decode cX12_term 60 = .ok (.bipush 47, 2) := by decide +kernel
theorem dX12_term_62 : decode cX12_term 62 = .ok (.if_icmp .ne 8, 3) := by decide +kernel
theorem dX12_term_65 : decode cX12_term 65 = .ok (.bipush 14, 2) := by decide +kernel
theorem dX12_term_67 : decode cX12_term 67 = .ok (.goto 5, 3) := by decide +kernel
theorem dX12_term_70 : decode cX12_term 70 = .ok (.bipush 15, 2) := by decide +kernel
theorem dX12_term_72 : decode cX12_term 72 = .ok (.istore_n 1, 1) := by decide +kernel
theorem dX12_term_73 : decode cX12_term 73 = .ok (.aload_n 0, 1) := by decide +kernel
theorem dX12_term_74 : decode cX12_term 74 = .ok (.dup, 1) := by decide +kernel
theorem dX12_term_75 : decode cX12_term 75 = .ok (.getfield 183, 3) := by decide +kernel
theorem dX12_term_78 : decode cX12_term 78 = .ok (.iconst 1, 1) := by decide +kernel
theorem dX12_term_79 : decode cX12_term 79 = .ok (.iadd, 1) := by decide +kernel
theorem dX12_term_80 : decode cX12_term 80 = .ok (.putfield 183, 3) := by decide +kernel
theorem dX12_term_83 : decode cX12_term 83 = .ok (.aload_n 0, 1) := by decide +kernel
theorem dX12_term_84 : decode cX12_term 84 = .ok (.invokevirtual 242, 3) := by decide +kernel
theorem dX12_term_87 : decode cX12_term 87 = .ok (.aload_n 0, 1) := by decide +kernel
theorem dX12_term_88 : decode cX12_term 88 = .ok (.iload_n 1, 1) := by decide +kernel
theorem dX12_term_89 : decode cX12_term 89 = .ok (.iconst 0, 1) := by decide +kernel
theorem dX12_term_90 : decode cX12_term 90 = .ok (.invokevirtual 235, 3) := by decide +kernel
theorem dX12_term_93 : decode cX12_term 93 = .ok (.aload_n 0, 1) := by decide +kernel
theorem dX12_term_94 : decode cX12_term 94 = .ok (.invokevirtual 203, 3) := by decide +kernel
theorem dX12_term_97 : decode cX12_term 97 = .ok (.goto (-89), 3) := by decide +kernel
theorem dX12_term_100 : decode cX12_term 100 = .ok (.return_, 1) := by decide +kernel
theorem dX12_sum_0 : decode cX12_sum 0 = .ok (.aload_n 0, 1) := by decide +kernel
theorem dX12_sum_1 : decode cX12_sum 1 = .ok (.invokevirtual 245, 3) := by decide +kernel
theorem dX12_sum_4 : decode cX12_sum 4 = .ok (.aload_n 0, 1) := by decide +kernel
theorem dX12_sum_5 : decode cX12_sum 5 = .ok (.getfield 180, 3) := by decide +kernel
theorem dX12_sum_8 : decode cX12_sum 8 = .ok (.ifCond .ne 59, 3) := by decide +kernel
theorem dX12_sum_11 : decode cX12_sum 11 = .ok (.aload_n 0, 1) := by decide +kernel
theorem dX12_sum_12 : decode cX12_sum 12 = .ok (.invokevirtual 186, 3) := by decide +kernel
theorem dX12_sum_15 : decode cX12_sum 15 = .ok (.bipush 43, 2) := by decide +kernel
theorem dX12_sum_17 : decode cX12_sum 17 = .ok (.if_icmp .eq 12, 3) := by decide +kernel
theorem dX12_sum_20 : decode cX12_sum 20 = .ok (.aload_n 0, 1) := by decide +kernel
theorem dX12_sum_21 : decode cX12_sum 21 = .ok (.invokevirtual 186, 3) := by decide +kernel
theorem dX12_sum_24 : decode cX12_sum 24 = .ok (.bipush 45, 2) := by decide +kernel
theorem dX12_sum_26 : decode cX12_sum 26 = .ok (.if_icmp .ne 41, 3) := by decide +kernel
theorem dX12_sum_29 : decode cX12_sum 29 = .ok (.aload_n 0, 1) := by decide +kernel
theorem dX12_sum_30 : decode cX12_sum 30 = .ok (.invokevirtual 186, 3) := by decide +kernel
theorem dX12_sum_33 : decode cX12_sum 33 = .ok (.bipush 43, 2) := by decide +kernel
theorem dX12_sum_35 : decode cX12_sum 35 = .ok (.if_icmp .ne 7, 3) := by decide +kernel
theorem dX12_sum_38 : decode cX12_sum 38 = .ok (.iconst 2, 1) := by decide +kernel
theorem dX12_sum_39 : decode cX12_sum 39 = .ok (.goto 4, 3) := by decide +kernel
theorem dX12_sum_42 : decode cX12_sum 42 = .ok (.iconst 3, 1) := by decide +kernel
theorem dX12_sum_43 : decode cX12_sum 43 = .ok (.istore_n 1, 1) := by decide +kernel
theorem dX12_sum_44 : decode cX12_sum 44 = .ok (.aload_n 0, 1) := by decide +kernel
theorem dX12_sum_45 : decode cX12_sum 45 = .ok (.dup, 1) := by decide +kernel
theorem dX12_sum_46 : decode cX12_sum 46 = .ok (.getfield 183, 3) := by decide +kernel
theorem dX12_sum_49 : decode cX12_sum 49 = .ok (.iconst 1, 1) := by decide +kernel
theorem dX12_sum_50 : decode cX12_sum 50 = .ok (.iadd, 1) := by decide +kernel
theorem dX12_sum_51 : decode cX12_sum 51 = .ok (.putfield 183, 3) := by decide +kernel
theorem dX12_sum_54 : decode cX12_sum 54 = .ok (.aload_n 0, 1) := by decide +kernel
theorem dX12_sum_55 : decode cX12_sum 55 = .ok (.invokevirtual 245, 3) := by decide +kernel
theorem dX12_sum_58 : decode cX12_sum 58 = .ok (.aload_n 0, 1) := by decide +kernel
theorem dX12_sum_59 : decode cX12_sum 59 = .ok (.iload_n 1, 1) := by decide +kernel
theorem dX12_sum_60 : decode cX12_sum 60 = .ok (.iconst 0, 1) := by decide +kernel
theorem dX12_sum_61 : decode cX12_sum 61 = .ok (.invokevirtual 235, 3) := by decide +kernel
theorem dX12_sum_64 : decode cX12_sum 64 = .ok (.goto (-60), 3) := by decide +kernel
theorem dX12_sum_67 : decode cX12_sum 67 = .ok (.return_, 1) := by decide +kernel
theorem dX12_compared_0 : decode cX12_compared 0 = .ok (.aload_n 0, 1) := by decide +kernel
theorem dX12_compared_1 : decode cX12_compared 1 = .ok (.invokevirtual 248, 3) := by decide +kernel
theorem dX12_compared_4 : decode cX12_compared 4 = .ok (.aload_n 0, 1) := by decide +kernel
theorem dX12_compared_5 : decode cX12_compared 5 = .ok (.invokevirtual 186, 3) := by decide +kernel
theorem dX12_compared_8 : decode cX12_compared 8 = .ok (.istore_n 1, 1) := by decide +kernel
theorem dX12_compared_9 : decode cX12_compared 9 = .ok (.iload_n 1, 1) := by decide +kernel
theorem dX12_compared_10 : decode cX12_compared 10 = .ok (.bipush 60, 2) := by decide +kernel
theorem dX12_compared_12 : decode cX12_compared 12 = .ok (.if_icmp .eq 25, 3) := by decide +kernel
theorem dX12_compared_15 : decode cX12_compared 15 = .ok (.iload_n 1, 1) := by decide +kernel
theorem dX12_compared_16 : decode cX12_compared 16 = .ok (.bipush 61, 2) := by decide +kernel
theorem dX12_compared_18 : decode cX12_compared 18 = .ok (.if_icmp .eq 19, 3) := by decide +kernel
theorem dX12_compared_21 : decode cX12_compared 21 = .ok (.iload_n 1, 1) := by decide +kernel
theorem dX12_compared_22 : decode cX12_compared 22 = .ok (.bipush 62, 2) := by decide +kernel
theorem dX12_compared_24 : decode cX12_compared 24 = .ok (.if_icmp .eq 13, 3) := by decide +kernel
theorem dX12_compared_27 : decode cX12_compared 27 = .ok (.aload_n 0, 1) := by decide +kernel
theorem dX12_compared_28 : decode cX12_compared 28 = .ok (.iconst 0, 1) := by decide +kernel
theorem dX12_compared_29 : decode cX12_compared 29 = .ok (.aload_n 0, 1) := by decide +kernel
theorem dX12_compared_30 : decode cX12_compared 30 = .ok (.getfield 183, 3) := by decide +kernel
theorem dX12_compared_33 : decode cX12_compared 33 = .ok (.invokevirtual 219, 3) := by decide +kernel
theorem dX12_compared_36 : decode cX12_compared 36 = .ok (.return_, 1) := by decide +kernel
theorem dX12_compared_37 : decode cX12_compared 37 = .ok (.aload_n 0, 1) := by decide +kernel
theorem dX12_compared_38 : decode cX12_compared 38 = .ok (.aload_n 0, 1) := by decide +kernel
theorem dX12_compared_39 : decode cX12_compared 39 = .ok (.getfield 183, 3) := by decide +kernel
theorem dX12_compared_42 : decode cX12_compared 42 = .ok (.invokevirtual 232, 3) := by decide +kernel
theorem dX12_compared_45 : decode cX12_compared 45 = .ok (.aload_n 0, 1) := by decide +kernel
theorem dX12_compared_46 : decode cX12_compared 46 = .ok (.dup, 1) := by decide +kernel
theorem dX12_compared_47 : decode cX12_compared 47 = .ok (.getfield 183, 3) := by decide +kernel
theorem dX12_compared_50 : decode cX12_compared 50 = .ok (.iconst 1, 1) := by decide +kernel
theorem dX12_compared_51 : decode cX12_compared 51 = .ok (.iadd, 1) := by decide +kernel
theorem dX12_compared_52 : decode cX12_compared 52 = .ok (.putfield 183, 3) := by decide +kernel
theorem dX12_compared_55 : decode cX12_compared 55 = .ok (.iload_n 1, 1) := by decide +kernel
theorem dX12_compared_56 : decode cX12_compared 56 = .ok (.bipush 61, 2) := by decide +kernel
theorem dX12_compared_58 : decode cX12_compared 58 = .ok (.if_icmp .eq 16, 3) := by decide +kernel
theorem dX12_compared_61 : decode cX12_compared 61 = .ok (.aload_n 0, 1) := by decide +kernel
theorem dX12_compared_62 : decode cX12_compared 62 = .ok (.invokevirtual 186, 3) := by decide +kernel
theorem dX12_compared_65 : decode cX12_compared 65 = .ok (.bipush 61, 2) := by decide +kernel
theorem dX12_compared_67 : decode cX12_compared 67 = .ok (.if_icmp .ne 7, 3) := by decide +kernel
theorem dX12_compared_70 : decode cX12_compared 70 = .ok (.iconst 1, 1) := by decide +kernel
theorem dX12_compared_71 : decode cX12_compared 71 = .ok (.goto 4, 3) := by decide +kernel
theorem dX12_compared_74 : decode cX12_compared 74 = .ok (.iconst 0, 1) := by decide +kernel
theorem dX12_compared_75 : decode cX12_compared 75 = .ok (.istore_n 2, 1) := by decide +kernel
theorem dX12_compared_76 : decode cX12_compared 76 = .ok (.aload_n 0, 1) := by decide +kernel
theorem dX12_compared_77 : decode cX12_compared 77 = .ok (.dup, 1) := by decide +kernel
theorem dX12_compared_78 : decode cX12_compared 78 = .ok (.getfield 183, 3) := by decide +kernel
theorem dX12_compared_81 : decode cX12_compared 81 = .ok (.iload_n 2, 1) := by decide +kernel
theorem dX12_compared_82 : decode cX12_compared 82 = .ok (.ifCond .eq 7, 3) := by decide +kernel
theorem dX12_compared_85 : decode cX12_compared 85 = .ok (.iconst 1, 1) := by decide +kernel
theorem dX12_compared_86 : decode cX12_compared 86 = .ok (.goto 4, 3) := by decide +kernel
theorem dX12_compared_89 : decode cX12_compared 89 = .ok (.iconst 0, 1) := by decide +kernel
theorem dX12_compared_90 : decode cX12_compared 90 = .ok (.iadd, 1) := by decide +kernel
theorem dX12_compared_91 : decode cX12_compared 91 = .ok (.putfield 183, 3) := by decide +kernel
theorem dX12_compared_94 : decode cX12_compared 94 = .ok (.aload_n 0, 1) := by decide +kernel
theorem dX12_compared_95 : decode cX12_compared 95 = .ok (.invokevirtual 248, 3) := by decide +kernel
theorem dX12_compared_98 : decode cX12_compared 98 = .ok (.aload_n 0, 1) := by decide +kernel
theorem dX12_compared_99 : decode cX12_compared 99 = .ok (.iload_n 1, 1) := by decide +kernel
theorem dX12_compared_100 : decode cX12_compared 100 = .ok (.bipush 61, 2) := by decide +kernel
theorem dX12_compared_102 : decode cX12_compared 102 = .ok (.if_icmp .ne 8, 3) := by decide +kernel
theorem dX12_compared_105 : decode cX12_compared 105 = .ok (.bipush 6, 2) := by decide +kernel
theorem dX12_compared_107 : decode cX12_compared 107 = .ok (.goto 32, 3) := by decide +kernel
theorem dX12_compared_110 : decode cX12_compared 110 = .ok (.iload_n 1, 1) := by decide +kernel
theorem dX12_compared_111 : decode cX12_compared 111 = .ok (.bipush 60, 2) := by decide +kernel
theorem dX12_compared_113 : decode cX12_compared 113 = .ok (.if_icmp .ne 15, 3) := by decide +kernel
theorem dX12_compared_116 : decode cX12_compared 116 = .ok (.iload_n 2, 1) := by decide +kernel
theorem dX12_compared_117 : decode cX12_compared 117 = .ok (.ifCond .eq 7, 3) := by decide +kernel
theorem dX12_compared_120 : decode cX12_compared 120 = .ok (.iconst 5, 1) := by decide +kernel
theorem dX12_compared_121 : decode cX12_compared 121 = .ok (.goto 18, 3) := by decide +kernel
theorem dX12_compared_124 : decode cX12_compared 124 = .ok (.iconst 4, 1) := by decide +kernel
theorem dX12_compared_125 : decode cX12_compared 125 = .ok (.goto 14, 3) := by decide +kernel
theorem dX12_compared_128 : decode cX12_compared 128 = .ok (.iload_n 2, 1) := by decide +kernel
theorem dX12_compared_129 : decode cX12_compared 129 = .ok (.ifCond .eq 8, 3) := by decide +kernel
theorem dX12_compared_132 : decode cX12_compared 132 = .ok (.bipush 7, 2) := by decide +kernel
theorem dX12_compared_134 : decode cX12_compared 134 = .ok (.goto 5, 3) := by decide +kernel
theorem dX12_compared_137 : decode cX12_compared 137 = .ok (.bipush 8, 2) := by decide +kernel
theorem dX12_compared_139 : decode cX12_compared 139 = .ok (.iconst 0, 1) := by decide +kernel
theorem dX12_compared_140 : decode cX12_compared 140 = .ok (.invokevirtual 235, 3) := by decide +kernel
theorem dX12_compared_143 : decode cX12_compared 143 = .ok (.return_, 1) := by decide +kernel
theorem dX12_top_0 : decode cX12_top 0 = .ok (.aload_n 0, 1) := by decide +kernel
theorem dX12_top_1 : decode cX12_top 1 = .ok (.getfield 251, 3) := by decide +kernel
theorem dX12_top_4 : decode cX12_top 4 = .ok (.ifCond .ne 7, 3) := by decide +kernel
theorem dX12_top_7 : decode cX12_top 7 = .ok (.iconst (-1), 1) := by decide +kernel
theorem dX12_top_8 : decode cX12_top 8 = .ok (.goto 14, 3) := by decide +kernel
theorem dX12_top_11 : decode cX12_top 11 = .ok (.aload_n 0, 1) := by decide +kernel
theorem dX12_top_12 : decode cX12_top 12 = .ok (.getfield 84, 3) := by decide +kernel
theorem dX12_top_15 : decode cX12_top 15 = .ok (.aload_n 0, 1) := by decide +kernel
theorem dX12_top_16 : decode cX12_top 16 = .ok (.getfield 251, 3) := by decide +kernel
theorem dX12_top_19 : decode cX12_top 19 = .ok (.iconst 1, 1) := by decide +kernel
theorem dX12_top_20 : decode cX12_top 20 = .ok (.isub, 1) := by decide +kernel
theorem dX12_top_21 : decode cX12_top 21 = .ok (.iaload, 1) := by decide +kernel
theorem dX12_top_22 : decode cX12_top 22 = .ok (.ireturn, 1) := by decide +kernel
theorem dX12_opens_0 : decode cX12_opens 0 = .ok (.iload_n 1, 1) := by decide +kernel
theorem dX12_opens_1 : decode cX12_opens 1 = .ok (.bipush 9, 2) := by decide +kernel
theorem dX12_opens_3 : decode cX12_opens 3 = .ok (.if_icmp .eq 9, 3) := by decide +kernel
theorem dX12_opens_6 : decode cX12_opens 6 = .ok (.iload_n 1, 1) := by decide +kernel
theorem dX12_opens_7 : decode cX12_opens 7 = .ok (.bipush 12, 2) := by decide +kernel
theorem dX12_opens_9 : decode cX12_opens 9 = .ok (.if_icmp .ne 31, 3) := by decide +kernel
theorem dX12_opens_12 : decode cX12_opens 12 = .ok (.aload_n 0, 1) := by decide +kernel
theorem dX12_opens_13 : decode cX12_opens 13 = .ok (.getfield 254, 3) := by decide +kernel
theorem dX12_opens_16 : decode cX12_opens 16 = .ok (.bipush 10, 2) := by decide +kernel
theorem dX12_opens_18 : decode cX12_opens 18 = .ok (.if_icmp .ne 12, 3) := by decide +kernel
theorem dX12_opens_21 : decode cX12_opens 21 = .ok (.aload_n 0, 1) := by decide +kernel
theorem dX12_opens_22 : decode cX12_opens 22 = .ok (.iconst 2, 1) := by decide +kernel
theorem dX12_opens_23 : decode cX12_opens 23 = .ok (.aload_n 0, 1) := by decide +kernel
theorem dX12_opens_24 : decode cX12_opens 24 = .ok (.getfield 183, 3) := by decide +kernel
theorem dX12_opens_27 : decode cX12_opens 27 = .ok (.invokevirtual 219, 3) := by decide +kernel
theorem dX12_opens_30 : decode cX12_opens 30 = .ok (.aload_n 0, 1) := by decide +kernel
theorem dX12_opens_31 : decode cX12_opens 31 = .ok (.dup, 1) := by decide +kernel
theorem dX12_opens_32 : decode cX12_opens 32 = .ok (.getfield 254, 3) := by decide +kernel
theorem dX12_opens_35 : decode cX12_opens 35 = .ok (.iconst 1, 1) := by decide +kernel
theorem dX12_opens_36 : decode cX12_opens 36 = .ok (.iadd, 1) := by decide +kernel
theorem dX12_opens_37 : decode cX12_opens 37 = .ok (.putfield 254, 3) := by decide +kernel
theorem dX12_opens_40 : decode cX12_opens 40 = .ok (.aload_n 0, 1) := by decide +kernel
theorem dX12_opens_41 : decode cX12_opens 41 = .ok (.getfield 84, 3) := by decide +kernel
theorem dX12_opens_44 : decode cX12_opens 44 = .ok (.aload_n 0, 1) := by decide +kernel
theorem dX12_opens_45 : decode cX12_opens 45 = .ok (.getfield 251, 3) := by decide +kernel
theorem dX12_opens_48 : decode cX12_opens 48 = .ok (.iload_n 1, 1) := by decide +kernel
theorem dX12_opens_49 : decode cX12_opens 49 = .ok (.iastore, 1) := by decide +kernel
theorem dX12_opens_50 : decode cX12_opens 50 = .ok (.aload_n 0, 1) := by decide +kernel
theorem dX12_opens_51 : decode cX12_opens 51 = .ok (.dup, 1) := by decide +kernel
theorem dX12_opens_52 : decode cX12_opens 52 = .ok (.getfield 251, 3) := by decide +kernel
theorem dX12_opens_55 : decode cX12_opens 55 = .ok (.iconst 1, 1) := by decide +kernel
theorem dX12_opens_56 : decode cX12_opens 56 = .ok (.iadd, 1) := by decide +kernel
theorem dX12_opens_57 : decode cX12_opens 57 = .ok (.putfield 251, 3) := by decide +kernel
theorem dX12_opens_60 : decode cX12_opens 60 = .ok (.return_, 1) := by decide +kernel
theorem dX12_answers_0 : decode cX12_answers 0 = .ok (.aload_n 0, 1) := by decide +kernel
theorem dX12_answers_1 : decode cX12_answers 1 = .ok (.invokevirtual 257, 3) := by decide +kernel
theorem dX12_answers_4 : decode cX12_answers 4 = .ok (.iload_n 1, 1) := by decide +kernel
theorem dX12_answers_5 : decode cX12_answers 5 = .ok (.if_icmp .ne 49, 3) := by decide +kernel
theorem dX12_answers_8 : decode cX12_answers 8 = .ok (.aload_n 0, 1) := by decide +kernel
theorem dX12_answers_9 : decode cX12_answers 9 = .ok (.getfield 180, 3) := by decide +kernel
theorem dX12_answers_12 : decode cX12_answers 12 = .ok (.ifCond .ne 42, 3) := by decide +kernel
theorem dX12_answers_15 : decode cX12_answers 15 = .ok (.aload_n 0, 1) := by decide +kernel
theorem dX12_answers_16 : decode cX12_answers 16 = .ok (.iload_n 1, 1) := by decide +kernel
theorem dX12_answers_17 : decode cX12_answers 17 = .ok (.iconst 0, 1) := by decide +kernel
theorem dX12_answers_18 : decode cX12_answers 18 = .ok (.invokevirtual 235, 3) := by decide +kernel
theorem dX12_answers_21 : decode cX12_answers 21 = .ok (.aload_n 0, 1) := by decide +kernel
theorem dX12_answers_22 : decode cX12_answers 22 = .ok (.dup, 1) := by decide +kernel
theorem dX12_answers_23 : decode cX12_answers 23 = .ok (.getfield 251, 3) := by decide +kernel
theorem dX12_answers_26 : decode cX12_answers 26 = .ok (.iconst 1, 1) := by decide +kernel
theorem dX12_answers_27 : decode cX12_answers 27 = .ok (.isub, 1) := by decide +kernel
theorem dX12_answers_28 : decode cX12_answers 28 = .ok (.putfield 251, 3) := by decide +kernel
theorem dX12_answers_31 : decode cX12_answers 31 = .ok (.aload_n 0, 1) := by decide +kernel
theorem dX12_answers_32 : decode cX12_answers 32 = .ok (.dup, 1) := by decide +kernel
theorem dX12_answers_33 : decode cX12_answers 33 = .ok (.getfield 254, 3) := by decide +kernel
theorem dX12_answers_36 : decode cX12_answers 36 = .ok (.iload_n 1, 1) := by decide +kernel
theorem dX12_answers_37 : decode cX12_answers 37 = .ok (.bipush 9, 2) := by decide +kernel
theorem dX12_answers_39 : decode cX12_answers 39 = .ok (.if_icmp .ne 7, 3) := by decide +kernel
theorem dX12_answers_42 : decode cX12_answers 42 = .ok (.iconst 1, 1) := by decide +kernel
theorem dX12_answers_43 : decode cX12_answers 43 = .ok (.goto 4, 3) := by decide +kernel
theorem dX12_answers_46 : decode cX12_answers 46 = .ok (.iconst 0, 1) := by decide +kernel
theorem dX12_answers_47 : decode cX12_answers 47 = .ok (.isub, 1) := by decide +kernel
theorem dX12_answers_48 : decode cX12_answers 48 = .ok (.putfield 254, 3) := by decide +kernel
theorem dX12_answers_51 : decode cX12_answers 51 = .ok (.goto (-51), 3) := by decide +kernel
theorem dX12_answers_54 : decode cX12_answers 54 = .ok (.return_, 1) := by decide +kernel
theorem dX12_fact_0 : decode cX12_fact 0 = .ok (.aload_n 0, 1) := by decide +kernel
theorem dX12_fact_1 : decode cX12_fact 1 = .ok (.invokevirtual 203, 3) := by decide +kernel
theorem dX12_fact_4 : decode cX12_fact 4 = .ok (.aload_n 0, 1) := by decide +kernel
theorem dX12_fact_5 : decode cX12_fact 5 = .ok (.ldc_w 260, 3) := by decide +kernel
theorem dX12_fact_8 : decode cX12_fact 8 = .ok (.invokevirtual 206, 3) := by decide +kernel
theorem dX12_fact_11 : decode cX12_fact 11 = .ok (.ifCond .eq 21, 3) := by decide +kernel
theorem dX12_fact_14 : decode cX12_fact 14 = .ok (.aload_n 0, 1) := by decide +kernel
theorem dX12_fact_15 : decode cX12_fact 15 = .ok (.bipush 9, 2) := by decide +kernel
theorem dX12_fact_17 : decode cX12_fact 17 = .ok (.invokevirtual 262, 3) := by decide +kernel
theorem dX12_fact_20 : decode cX12_fact 20 = .ok (.aload_n 0, 1) := by decide +kernel
theorem dX12_fact_21 : decode cX12_fact 21 = .ok (.dup, 1) := by decide +kernel
theorem dX12_fact_22 : decode cX12_fact 22 = .ok (.getfield 183, 3) := by decide +kernel
theorem dX12_fact_25 : decode cX12_fact 25 = .ok (.iconst 3, 1) := by decide +kernel
theorem dX12_fact_26 : decode cX12_fact 26 = .ok (.iadd, 1) := by decide +kernel
theorem dX12_fact_27 : decode cX12_fact 27 = .ok (.putfield 183, 3) := by decide +kernel
theorem dX12_fact_30 : decode cX12_fact 30 = .ok (.iconst 0, 1) := by decide +kernel
theorem dX12_fact_31 : decode cX12_fact 31 = .ok (.ireturn, 1) := by decide +kernel
theorem dX12_fact_32 : decode cX12_fact 32 = .ok (.aload_n 0, 1) := by decide +kernel
theorem dX12_fact_33 : decode cX12_fact 33 = .ok (.invokevirtual 186, 3) := by decide +kernel
theorem dX12_fact_36 : decode cX12_fact 36 = .ok (.bipush 91, 2) := by decide +kernel
theorem dX12_fact_38 : decode cX12_fact 38 = .ok (.if_icmp .ne 21, 3) := by decide +kernel
theorem dX12_fact_41 : decode cX12_fact 41 = .ok (.aload_n 0, 1) := by decide +kernel
theorem dX12_fact_42 : decode cX12_fact 42 = .ok (.bipush 12, 2) := by decide +kernel
theorem dX12_fact_44 : decode cX12_fact 44 = .ok (.invokevirtual 262, 3) := by decide +kernel
theorem dX12_fact_47 : decode cX12_fact 47 = .ok (.aload_n 0, 1) := by decide +kernel
theorem dX12_fact_48 : decode cX12_fact 48 = .ok (.dup, 1) := by decide +kernel
theorem dX12_fact_49 : decode cX12_fact 49 = .ok (.getfield 183, 3) := by decide +kernel
theorem dX12_fact_52 : decode cX12_fact 52 = .ok (.iconst 1, 1) := by decide +kernel
theorem dX12_fact_53 : decode cX12_fact 53 = .ok (.iadd, 1) := by decide +kernel
theorem dX12_fact_54 : decode cX12_fact 54 = .ok (.putfield 183, 3) := by decide +kernel
theorem dX12_fact_57 : decode cX12_fact 57 = .ok (.iconst 0, 1) := by decide +kernel
theorem dX12_fact_58 : decode cX12_fact 58 = .ok (.ireturn, 1) := by decide +kernel
theorem dX12_fact_59 : decode cX12_fact 59 = .ok (.aload_n 0, 1) := by decide +kernel
theorem dX12_fact_60 : decode cX12_fact 60 = .ok (.invokevirtual 265, 3) := by decide +kernel
theorem dX12_fact_63 : decode cX12_fact 63 = .ok (.iconst 1, 1) := by decide +kernel
theorem dX12_fact_64 : decode cX12_fact 64 = .ok (.ireturn, 1) := by decide +kernel
theorem dX12_test_0 : decode cX12_test 0 = .ok (.aload_n 0, 1) := by decide +kernel
theorem dX12_test_1 : decode cX12_test 1 = .ok (.iconst 0, 1) := by decide +kernel
theorem dX12_test_2 : decode cX12_test 2 = .ok (.putfield 251, 3) := by decide +kernel
theorem dX12_test_5 : decode cX12_test 5 = .ok (.iconst 1, 1) := by decide +kernel
theorem dX12_test_6 : decode cX12_test 6 = .ok (.istore_n 1, 1) := by decide +kernel
theorem dX12_test_7 : decode cX12_test 7 = .ok (.iconst 1, 1) := by decide +kernel
theorem dX12_test_8 : decode cX12_test 8 = .ok (.istore_n 2, 1) := by decide +kernel
theorem dX12_test_9 : decode cX12_test 9 = .ok (.iload_n 2, 1) := by decide +kernel
theorem dX12_test_10 : decode cX12_test 10 = .ok (.ifCond .eq 192, 3) := by decide +kernel
theorem dX12_test_13 : decode cX12_test 13 = .ok (.aload_n 0, 1) := by decide +kernel
theorem dX12_test_14 : decode cX12_test 14 = .ok (.getfield 180, 3) := by decide +kernel
theorem dX12_test_17 : decode cX12_test 17 = .ok (.ifCond .ne 185, 3) := by decide +kernel
theorem dX12_test_20 : decode cX12_test 20 = .ok (.iload_n 1, 1) := by decide +kernel
theorem dX12_test_21 : decode cX12_test 21 = .ok (.ifCond .eq 19, 3) := by decide +kernel
theorem dX12_test_24 : decode cX12_test 24 = .ok (.aload_n 0, 1) := by decide +kernel
theorem dX12_test_25 : decode cX12_test 25 = .ok (.invokevirtual 268, 3) := by decide +kernel
theorem dX12_test_28 : decode cX12_test 28 = .ok (.ifCond .ne 7, 3) := by decide +kernel
theorem dX12_test_31 : decode cX12_test 31 = .ok (.iconst 1, 1) := by decide +kernel
theorem dX12_test_32 : decode cX12_test 32 = .ok (.goto 4, 3) := by decide +kernel
theorem dX12_test_35 : decode cX12_test 35 = .ok (.iconst 0, 1) := by decide +kernel
theorem dX12_test_36 : decode cX12_test 36 = .ok (.istore_n 1, 1) := by decide +kernel
theorem dX12_test_37 : decode cX12_test 37 = .ok (.goto (-28), 3) := by decide +kernel
theorem dX12_test_40 : decode cX12_test 40 = .ok (.aload_n 0, 1) := by decide +kernel
theorem dX12_test_41 : decode cX12_test 41 = .ok (.bipush 9, 2) := by decide +kernel
theorem dX12_test_43 : decode cX12_test 43 = .ok (.invokevirtual 271, 3) := by decide +kernel
theorem dX12_test_46 : decode cX12_test 46 = .ok (.aload_n 0, 1) := by decide +kernel
theorem dX12_test_47 : decode cX12_test 47 = .ok (.invokevirtual 203, 3) := by decide +kernel
theorem dX12_test_50 : decode cX12_test 50 = .ok (.aload_n 0, 1) := by decide +kernel
theorem dX12_test_51 : decode cX12_test 51 = .ok (.ldc_w 274, 3) := by decide +kernel
theorem dX12_test_54 : decode cX12_test 54 = .ok (.invokevirtual 206, 3) := by decide +kernel
theorem dX12_test_57 : decode cX12_test 57 = .ok (.istore_n 3, 1) := by decide +kernel
theorem dX12_test_58 : decode cX12_test 58 = .ok (.aload_n 0, 1) := by decide +kernel
theorem dX12_test_59 : decode cX12_test 59 = .ok (.ldc_w 276, 3) := by decide +kernel
theorem dX12_test_62 : decode cX12_test 62 = .ok (.invokevirtual 206, 3) := by decide +kernel
theorem dX12_test_65 : decode cX12_test 65 = .ok (.istore 4, 2) := by decide +kernel
theorem dX12_test_67 : decode cX12_test 67 = .ok (.aload_n 0, 1) := by decide +kernel
theorem dX12_test_68 : decode cX12_test 68 = .ok (.bipush 10, 2) := by decide +kernel
theorem dX12_test_70 : decode cX12_test 70 = .ok (.invokevirtual 271, 3) := by decide +kernel
theorem dX12_test_73 : decode cX12_test 73 = .ok (.iload_n 3, 1) := by decide +kernel
theorem dX12_test_74 : decode cX12_test 74 = .ok (.ifCond .ne 8, 3) := by decide +kernel
theorem dX12_test_77 : decode cX12_test 77 = .ok (.iload 4, 2) := by decide +kernel
theorem dX12_test_79 : decode cX12_test 79 = .ok (.ifCond .eq 52, 3) := by decide +kernel
theorem dX12_test_82 : decode cX12_test 82 = .ok (.iload 4, 2) := by decide +kernel
theorem dX12_test_84 : decode cX12_test 84 = .ok (.ifCond .eq 9, 3) := by decide +kernel
theorem dX12_test_87 : decode cX12_test 87 = .ok (.aload_n 0, 1) := by decide +kernel
theorem dX12_test_88 : decode cX12_test 88 = .ok (.bipush 11, 2) := by decide +kernel
theorem dX12_test_90 : decode cX12_test 90 = .ok (.invokevirtual 271, 3) := by decide +kernel
theorem dX12_test_93 : decode cX12_test 93 = .ok (.aload_n 0, 1) := by decide +kernel
theorem dX12_test_94 : decode cX12_test 94 = .ok (.iload_n 3, 1) := by decide +kernel
theorem dX12_test_95 : decode cX12_test 95 = .ok (.ifCond .eq 8, 3) := by decide +kernel
theorem dX12_test_98 : decode cX12_test 98 = .ok (.bipush 10, 2) := by decide +kernel
theorem dX12_test_100 : decode cX12_test 100 = .ok (.goto 5, 3) := by decide +kernel
theorem dX12_test_103 : decode cX12_test 103 = .ok (.bipush 11, 2) := by decide +kernel
theorem dX12_test_105 : decode cX12_test 105 = .ok (.invokevirtual 262, 3) := by decide +kernel
theorem dX12_test_108 : decode cX12_test 108 = .ok (.aload_n 0, 1) := by decide +kernel
theorem dX12_test_109 : decode cX12_test 109 = .ok (.dup, 1) := by decide +kernel
theorem dX12_test_110 : decode cX12_test 110 = .ok (.getfield 183, 3) := by decide +kernel
theorem dX12_test_113 : decode cX12_test 113 = .ok (.iload_n 3, 1) := by decide +kernel
theorem dX12_test_114 : decode cX12_test 114 = .ok (.ifCond .eq 7, 3) := by decide +kernel
theorem dX12_test_117 : decode cX12_test 117 = .ok (.iconst 3, 1) := by decide +kernel
theorem dX12_test_118 : decode cX12_test 118 = .ok (.goto 4, 3) := by decide +kernel
theorem dX12_test_121 : decode cX12_test 121 = .ok (.iconst 2, 1) := by decide +kernel
theorem dX12_test_122 : decode cX12_test 122 = .ok (.iadd, 1) := by decide +kernel
theorem dX12_test_123 : decode cX12_test 123 = .ok (.putfield 183, 3) := by decide +kernel
theorem dX12_test_126 : decode cX12_test 126 = .ok (.iconst 1, 1) := by decide +kernel
theorem dX12_test_127 : decode cX12_test 127 = .ok (.istore_n 1, 1) := by decide +kernel
theorem dX12_test_128 : decode cX12_test 128 = .ok (.goto 71, 3) := by decide +kernel
theorem dX12_test_131 : decode cX12_test 131 = .ok (.aload_n 0, 1) := by decide +kernel
theorem dX12_test_132 : decode cX12_test 132 = .ok (.bipush 11, 2) := by decide +kernel
theorem dX12_test_134 : decode cX12_test 134 = .ok (.invokevirtual 271, 3) := by decide +kernel
theorem dX12_test_137 : decode cX12_test 137 = .ok (.aload_n 0, 1) := by decide +kernel
theorem dX12_test_138 : decode cX12_test 138 = .ok (.invokevirtual 257, 3) := by decide +kernel
theorem dX12_test_141 : decode cX12_test 141 = .ok (.bipush 12, 2) := by decide +kernel
theorem dX12_test_143 : decode cX12_test 143 = .ok (.if_icmp .ne 54, 3) := by decide +kernel
theorem dX12_test_146 : decode cX12_test 146 = .ok (.aload_n 0, 1) := by decide +kernel
theorem dX12_test_147 : decode cX12_test 147 = .ok (.invokevirtual 186, 3) := by decide +kernel
theorem dX12_test_150 : decode cX12_test 150 = .ok (.bipush 93, 2) := by decide +kernel
theorem dX12_test_152 : decode cX12_test 152 = .ok (.if_icmp .eq 12, 3) := by decide +kernel
theorem dX12_test_155 : decode cX12_test 155 = .ok (.aload_n 0, 1) := by decide +kernel
theorem dX12_test_156 : decode cX12_test 156 = .ok (.iconst 0, 1) := by decide +kernel
theorem dX12_test_157 : decode cX12_test 157 = .ok (.aload_n 0, 1) := by decide +kernel
theorem dX12_test_158 : decode cX12_test 158 = .ok (.getfield 183, 3) := by decide +kernel
theorem dX12_test_161 : decode cX12_test 161 = .ok (.invokevirtual 219, 3) := by decide +kernel
theorem dX12_test_164 : decode cX12_test 164 = .ok (.aload_n 0, 1) := by decide +kernel
theorem dX12_test_165 : decode cX12_test 165 = .ok (.dup, 1) := by decide +kernel
theorem dX12_test_166 : decode cX12_test 166 = .ok (.getfield 183, 3) := by decide +kernel
theorem dX12_test_169 : decode cX12_test 169 = .ok (.iconst 1, 1) := by decide +kernel
theorem dX12_test_170 : decode cX12_test 170 = .ok (.iadd, 1) := by decide +kernel
theorem dX12_test_171 : decode cX12_test 171 = .ok (.putfield 183, 3) := by decide +kernel
theorem dX12_test_174 : decode cX12_test 174 = .ok (.aload_n 0, 1) := by decide +kernel
theorem dX12_test_175 : decode cX12_test 175 = .ok (.dup, 1) := by decide +kernel
theorem dX12_test_176 : decode cX12_test 176 = .ok (.getfield 251, 3) := by decide +kernel
theorem dX12_test_179 : decode cX12_test 179 = .ok (.iconst 1, 1) := by decide +kernel
theorem dX12_test_180 : decode cX12_test 180 = .ok (.isub, 1) := by decide +kernel
theorem dX12_test_181 : decode cX12_test 181 = .ok (.putfield 251, 3) := by decide +kernel
theorem dX12_test_184 : decode cX12_test 184 = .ok (.aload_n 0, 1) := by decide +kernel
theorem dX12_test_185 : decode cX12_test 185 = .ok (.dup, 1) := by decide +kernel
theorem dX12_test_186 : decode cX12_test 186 = .ok (.getfield 254, 3) := by decide +kernel
theorem dX12_test_189 : decode cX12_test 189 = .ok (.iconst 1, 1) := by decide +kernel
theorem dX12_test_190 : decode cX12_test 190 = .ok (.isub, 1) := by decide +kernel
theorem dX12_test_191 : decode cX12_test 191 = .ok (.putfield 254, 3) := by decide +kernel
theorem dX12_test_194 : decode cX12_test 194 = .ok (.goto 5, 3) := by decide +kernel
theorem dX12_test_197 : decode cX12_test 197 = .ok (.iconst 0, 1) := by decide +kernel
theorem dX12_test_198 : decode cX12_test 198 = .ok (.istore_n 2, 1) := by decide +kernel
theorem dX12_test_199 : decode cX12_test 199 = .ok (.goto (-190), 3) := by decide +kernel
theorem dX12_test_202 : decode cX12_test 202 = .ok (.return_, 1) := by decide +kernel
theorem dX12_amount_0 : decode cX12_amount 0 = .ok (.aload_n 0, 1) := by decide +kernel
theorem dX12_amount_1 : decode cX12_amount 1 = .ok (.invokevirtual 203, 3) := by decide +kernel
theorem dX12_amount_4 : decode cX12_amount 4 = .ok (.aload_n 0, 1) := by decide +kernel
theorem dX12_amount_5 : decode cX12_amount 5 = .ok (.getfield 183, 3) := by decide +kernel
theorem dX12_amount_8 : decode cX12_amount 8 = .ok (.istore_n 3, 1) := by decide +kernel
theorem dX12_amount_9 : decode cX12_amount 9 = .ok (.aload_n 0, 1) := by decide +kernel
theorem dX12_amount_10 : decode cX12_amount 10 = .ok (.getfield 180, 3) := by decide +kernel
theorem dX12_amount_13 : decode cX12_amount 13 = .ok (.ifCond .ne 12, 3) := by decide +kernel
theorem dX12_amount_16 : decode cX12_amount 16 = .ok (.aload_n 0, 1) := by decide +kernel
theorem dX12_amount_17 : decode cX12_amount 17 = .ok (.ldc 227, 2) := by decide +kernel
theorem dX12_amount_19 : decode cX12_amount 19 = .ok (.invokevirtual 228, 3) := by decide +kernel
theorem dX12_amount_22 : decode cX12_amount 22 = .ok (.goto 4, 3) := by decide +kernel
theorem dX12_amount_25 : decode cX12_amount 25 = .ok (.iconst 0, 1) := by decide +kernel
theorem dX12_amount_26 : decode cX12_amount 26 = .ok (.istore 4, 2) := by decide +kernel
theorem dX12_amount_28 : decode cX12_amount 28 = .ok (.aload_n 0, 1) := by decide +kernel
theorem dX12_amount_29 : decode cX12_amount 29 = .ok (.getfield 180, 3) := by decide +kernel
theorem dX12_amount_32 : decode cX12_amount 32 = .ok (.ifCond .ne 22, 3) := by decide +kernel
theorem dX12_amount_35 : decode cX12_amount 35 = .ok (.iload 4, 2) := by decide +kernel
theorem dX12_amount_37 : decode cX12_amount 37 = .ok (.i2l, 1) := by decide +kernel
theorem dX12_amount_38 : decode cX12_amount 38 = .ok (.iload_n 1, 1) := by decide +kernel
theorem dX12_amount_39 : decode cX12_amount 39 = .ok (.i2l, 1) := by decide +kernel
theorem dX12_amount_40 : decode cX12_amount 40 = .ok (.iload_n 2, 1) := by decide +kernel
theorem dX12_amount_41 : decode cX12_amount 41 = .ok (.i2l, 1) := by decide +kernel
theorem dX12_amount_42 : decode cX12_amount 42 = .ok (.invokestatic 143, 3) := by decide +kernel
theorem dX12_amount_45 : decode cX12_amount 45 = .ok (.ifCond .ne 9, 3) := by decide +kernel
theorem dX12_amount_48 : decode cX12_amount 48 = .ok (.aload_n 0, 1) := by decide +kernel
theorem dX12_amount_49 : decode cX12_amount 49 = .ok (.iconst 1, 1) := by decide +kernel
theorem dX12_amount_50 : decode cX12_amount 50 = .ok (.iload_n 3, 1) := by decide +kernel
theorem dX12_amount_51 : decode cX12_amount 51 = .ok (.invokevirtual 219, 3) := by decide +kernel
theorem dX12_amount_54 : decode cX12_amount 54 = .ok (.iload 4, 2) := by decide +kernel
theorem dX12_amount_56 : decode cX12_amount 56 = .ok (.ireturn, 1) := by decide +kernel
theorem dX12_townWord_0 : decode cX12_townWord 0 = .ok (.iload_n 0, 1) := by decide +kernel
theorem dX12_townWord_1 : decode cX12_townWord 1 = .ok (.tableswitch 46 0 3 #[31, 35, 38, 42], 31) := by decide +kernel
theorem dX12_townWord_32 : decode cX12_townWord 32 = .ok (.ldc_w 278, 3) := by decide +kernel
theorem dX12_townWord_35 : decode cX12_townWord 35 = .ok (.areturn, 1) := by decide +kernel
theorem dX12_townWord_36 : decode cX12_townWord 36 = .ok (.ldc 172, 2) := by decide +kernel
theorem dX12_townWord_38 : decode cX12_townWord 38 = .ok (.areturn, 1) := by decide +kernel
theorem dX12_townWord_39 : decode cX12_townWord 39 = .ok (.ldc_w 280, 3) := by decide +kernel
theorem dX12_townWord_42 : decode cX12_townWord 42 = .ok (.areturn, 1) := by decide +kernel
theorem dX12_townWord_43 : decode cX12_townWord 43 = .ok (.ldc_w 282, 3) := by decide +kernel
theorem dX12_townWord_46 : decode cX12_townWord 46 = .ok (.areturn, 1) := by decide +kernel
theorem dX12_townWord_47 : decode cX12_townWord 47 = .ok (.ldc 168, 2) := by decide +kernel
theorem dX12_townWord_49 : decode cX12_townWord 49 = .ok (.areturn, 1) := by decide +kernel
theorem dX12_joinPart_0 : decode cX12_joinPart 0 = .ok (.aload_n 0, 1) := by decide +kernel
theorem dX12_joinPart_1 : decode cX12_joinPart 1 = .ok (.iconst 0, 1) := by decide +kernel
theorem dX12_joinPart_2 : decode cX12_joinPart 2 = .ok (.aload_n 0, 1) := by decide +kernel
theorem dX12_joinPart_3 : decode cX12_joinPart 3 = .ok (.getfield 43, 3) := by decide +kernel
theorem dX12_joinPart_6 : decode cX12_joinPart 6 = .ok (.iconst 4, 1) := by decide +kernel
theorem dX12_joinPart_7 : decode cX12_joinPart 7 = .ok (.iaload, 1) := by decide +kernel
theorem dX12_joinPart_8 : decode cX12_joinPart 8 = .ok (.iconst 1, 1) := by decide +kernel
theorem dX12_joinPart_9 : decode cX12_joinPart 9 = .ok (.isub, 1) := by decide +kernel
theorem dX12_joinPart_10 : decode cX12_joinPart 10 = .ok (.invokevirtual 284, 3) := by decide +kernel
theorem dX12_joinPart_13 : decode cX12_joinPart 13 = .ok (.istore_n 1, 1) := by decide +kernel
theorem dX12_joinPart_14 : decode cX12_joinPart 14 = .ok (.aload_n 0, 1) := by decide +kernel
theorem dX12_joinPart_15 : decode cX12_joinPart 15 = .ok (.invokevirtual 203, 3) := by decide +kernel
theorem dX12_joinPart_18 : decode cX12_joinPart 18 = .ok (.aload_n 0, 1) := by decide +kernel
theorem dX12_joinPart_19 : decode cX12_joinPart 19 = .ok (.getfield 183, 3) := by decide +kernel
theorem dX12_joinPart_22 : decode cX12_joinPart 22 = .ok (.istore_n 2, 1) := by decide +kernel
theorem dX12_joinPart_23 : decode cX12_joinPart 23 = .ok (.aload_n 0, 1) := by decide +kernel
theorem dX12_joinPart_24 : decode cX12_joinPart 24 = .ok (.iconst 0, 1) := by decide +kernel
theorem dX12_joinPart_25 : decode cX12_joinPart 25 = .ok (.aload_n 0, 1) := by decide +kernel
theorem dX12_joinPart_26 : decode cX12_joinPart 26 = .ok (.getfield 43, 3) := by decide +kernel
theorem dX12_joinPart_29 : decode cX12_joinPart 29 = .ok (.iconst 4, 1) := by decide +kernel
theorem dX12_joinPart_30 : decode cX12_joinPart 30 = .ok (.iaload, 1) := by decide +kernel
theorem dX12_joinPart_31 : decode cX12_joinPart 31 = .ok (.iconst 1, 1) := by decide +kernel
theorem dX12_joinPart_32 : decode cX12_joinPart 32 = .ok (.isub, 1) := by decide +kernel
theorem dX12_joinPart_33 : decode cX12_joinPart 33 = .ok (.invokevirtual 284, 3) := by decide +kernel
theorem dX12_joinPart_36 : decode cX12_joinPart 36 = .ok (.istore_n 3, 1) := by decide +kernel
theorem dX12_joinPart_37 : decode cX12_joinPart 37 = .ok (.aload_n 0, 1) := by decide +kernel
theorem dX12_joinPart_38 : decode cX12_joinPart 38 = .ok (.getfield 180, 3) := by decide +kernel
theorem dX12_joinPart_41 : decode cX12_joinPart 41 = .ok (.ifCond .ne 14, 3) := by decide +kernel
theorem dX12_joinPart_44 : decode cX12_joinPart 44 = .ok (.iload_n 1, 1) := by decide +kernel
theorem dX12_joinPart_45 : decode cX12_joinPart 45 = .ok (.iload_n 3, 1) := by decide +kernel
theorem dX12_joinPart_46 : decode cX12_joinPart 46 = .ok (.if_icmp .ne 9, 3) := by decide +kernel
theorem dX12_joinPart_49 : decode cX12_joinPart 49 = .ok (.aload_n 0, 1) := by decide +kernel
theorem dX12_joinPart_50 : decode cX12_joinPart 50 = .ok (.iconst 1, 1) := by decide +kernel
theorem dX12_joinPart_51 : decode cX12_joinPart 51 = .ok (.iload_n 2, 1) := by decide +kernel
theorem dX12_joinPart_52 : decode cX12_joinPart 52 = .ok (.invokevirtual 219, 3) := by decide +kernel
theorem dX12_joinPart_55 : decode cX12_joinPart 55 = .ok (.aload_n 0, 1) := by decide +kernel
theorem dX12_joinPart_56 : decode cX12_joinPart 56 = .ok (.iconst 1, 1) := by decide +kernel
theorem dX12_joinPart_57 : decode cX12_joinPart 57 = .ok (.bipush 9, 2) := by decide +kernel
theorem dX12_joinPart_59 : decode cX12_joinPart 59 = .ok (.invokevirtual 284, 3) := by decide +kernel
theorem dX12_joinPart_62 : decode cX12_joinPart 62 = .ok (.istore 4, 2) := by decide +kernel
theorem dX12_joinPart_64 : decode cX12_joinPart 64 = .ok (.aload_n 0, 1) := by decide +kernel
theorem dX12_joinPart_65 : decode cX12_joinPart 65 = .ok (.getfield 180, 3) := by decide +kernel
theorem dX12_joinPart_68 : decode cX12_joinPart 68 = .ok (.ifCond .ne 29, 3) := by decide +kernel
theorem dX12_joinPart_71 : decode cX12_joinPart 71 = .ok (.aload_n 0, 1) := by decide +kernel
theorem dX12_joinPart_72 : decode cX12_joinPart 72 = .ok (.getfield 52, 3) := by decide +kernel
theorem dX12_joinPart_75 : decode cX12_joinPart 75 = .ok (.bipush 6, 2) := by decide +kernel
theorem dX12_joinPart_77 : decode cX12_joinPart 77 = .ok (.iload_n 1, 1) := by decide +kernel
theorem dX12_joinPart_78 : decode cX12_joinPart 78 = .ok (.imul, 1) := by decide +kernel
theorem dX12_joinPart_79 : decode cX12_joinPart 79 = .ok (.iload_n 3, 1) := by decide +kernel
theorem dX12_joinPart_80 : decode cX12_joinPart 80 = .ok (.iadd, 1) := by decide +kernel
theorem dX12_joinPart_81 : decode cX12_joinPart 81 = .ok (.iload 4, 2) := by decide +kernel
theorem dX12_joinPart_83 : decode cX12_joinPart 83 = .ok (.iastore, 1) := by decide +kernel
theorem dX12_joinPart_84 : decode cX12_joinPart 84 = .ok (.aload_n 0, 1) := by decide +kernel
theorem dX12_joinPart_85 : decode cX12_joinPart 85 = .ok (.getfield 52, 3) := by decide +kernel
theorem dX12_joinPart_88 : decode cX12_joinPart 88 = .ok (.bipush 6, 2) := by decide +kernel
theorem dX12_joinPart_90 : decode cX12_joinPart 90 = .ok (.iload_n 3, 1) := by decide +kernel
theorem dX12_joinPart_91 : decode cX12_joinPart 91 = .ok (.imul, 1) := by decide +kernel
theorem dX12_joinPart_92 : decode cX12_joinPart 92 = .ok (.iload_n 1, 1) := by decide +kernel
theorem dX12_joinPart_93 : decode cX12_joinPart 93 = .ok (.iadd, 1) := by decide +kernel
theorem dX12_joinPart_94 : decode cX12_joinPart 94 = .ok (.iload 4, 2) := by decide +kernel
theorem dX12_joinPart_96 : decode cX12_joinPart 96 = .ok (.iastore, 1) := by decide +kernel
theorem dX12_joinPart_97 : decode cX12_joinPart 97 = .ok (.return_, 1) := by decide +kernel
theorem dX12_townPart_0 : decode cX12_townPart 0 = .ok (.iload_n 1, 1) := by decide +kernel
theorem dX12_townPart_1 : decode cX12_townPart 1 = .ok (.tableswitch 148 0 3 #[31, 73, 104, 141], 31) := by decide +kernel
theorem dX12_townPart_32 : decode cX12_townPart 32 = .ok (.aload_n 0, 1) := by decide +kernel
theorem dX12_townPart_33 : decode cX12_townPart 33 = .ok (.getfield 43, 3) := by decide +kernel
theorem dX12_townPart_36 : decode cX12_townPart 36 = .ok (.iconst 0, 1) := by decide +kernel
theorem dX12_townPart_37 : decode cX12_townPart 37 = .ok (.aload_n 0, 1) := by decide +kernel
theorem dX12_townPart_38 : decode cX12_townPart 38 = .ok (.iconst 5, 1) := by decide +kernel
theorem dX12_townPart_39 : decode cX12_townPart 39 = .ok (.bipush 60, 2) := by decide +kernel
theorem dX12_townPart_41 : decode cX12_townPart 41 = .ok (.invokevirtual 284, 3) := by decide +kernel
theorem dX12_townPart_44 : decode cX12_townPart 44 = .ok (.iastore, 1) := by decide +kernel
theorem dX12_townPart_45 : decode cX12_townPart 45 = .ok (.aload_n 0, 1) := by decide +kernel
theorem dX12_townPart_46 : decode cX12_townPart 46 = .ok (.getfield 43, 3) := by decide +kernel
theorem dX12_townPart_49 : decode cX12_townPart 49 = .ok (.iconst 1, 1) := by decide +kernel
theorem dX12_townPart_50 : decode cX12_townPart 50 = .ok (.aload_n 0, 1) := by decide +kernel
theorem dX12_townPart_51 : decode cX12_townPart 51 = .ok (.iconst 0, 1) := by decide +kernel
theorem dX12_townPart_52 : decode cX12_townPart 52 = .ok (.bipush 99, 2) := by decide +kernel
theorem dX12_townPart_54 : decode cX12_townPart 54 = .ok (.invokevirtual 284, 3) := by decide +kernel
theorem dX12_townPart_57 : decode cX12_townPart 57 = .ok (.iastore, 1) := by decide +kernel
theorem dX12_townPart_58 : decode cX12_townPart 58 = .ok (.aload_n 0, 1) := by decide +kernel
theorem dX12_townPart_59 : decode cX12_townPart 59 = .ok (.getfield 43, 3) := by decide +kernel
theorem dX12_townPart_62 : decode cX12_townPart 62 = .ok (.iconst 2, 1) := by decide +kernel
theorem dX12_townPart_63 : decode cX12_townPart 63 = .ok (.aload_n 0, 1) := by decide +kernel
theorem dX12_townPart_64 : decode cX12_townPart 64 = .ok (.iconst 0, 1) := by decide +kernel
theorem dX12_townPart_65 : decode cX12_townPart 65 = .ok (.bipush 9, 2) := by decide +kernel
theorem dX12_townPart_67 : decode cX12_townPart 67 = .ok (.invokevirtual 284, 3) := by decide +kernel
theorem dX12_townPart_70 : decode cX12_townPart 70 = .ok (.iastore, 1) := by decide +kernel
theorem dX12_townPart_71 : decode cX12_townPart 71 = .ok (.goto 114, 3) := by decide +kernel
theorem dX12_townPart_74 : decode cX12_townPart 74 = .ok (.aload_n 0, 1) := by decide +kernel
theorem dX12_townPart_75 : decode cX12_townPart 75 = .ok (.getfield 55, 3) := by decide +kernel
theorem dX12_townPart_78 : decode cX12_townPart 78 = .ok (.aload_n 0, 1) := by decide +kernel
theorem dX12_townPart_79 : decode cX12_townPart 79 = .ok (.getfield 43, 3) := by decide +kernel
theorem dX12_townPart_82 : decode cX12_townPart 82 = .ok (.iconst 3, 1) := by decide +kernel
theorem dX12_townPart_83 : decode cX12_townPart 83 = .ok (.iaload, 1) := by decide +kernel
theorem dX12_townPart_84 : decode cX12_townPart 84 = .ok (.aload_n 0, 1) := by decide +kernel
theorem dX12_townPart_85 : decode cX12_townPart 85 = .ok (.iconst 0, 1) := by decide +kernel
theorem dX12_townPart_86 : decode cX12_townPart 86 = .ok (.bipush 9, 2) := by decide +kernel
theorem dX12_townPart_88 : decode cX12_townPart 88 = .ok (.invokevirtual 284, 3) := by decide +kernel
theorem dX12_townPart_91 : decode cX12_townPart 91 = .ok (.iastore, 1) := by decide +kernel
theorem dX12_townPart_92 : decode cX12_townPart 92 = .ok (.aload_n 0, 1) := by decide +kernel
theorem dX12_townPart_93 : decode cX12_townPart 93 = .ok (.getfield 43, 3) := by decide +kernel
theorem dX12_townPart_96 : decode cX12_townPart 96 = .ok (.iconst 3, 1) := by decide +kernel
theorem dX12_townPart_97 : decode cX12_townPart 97 = .ok (.dup2, 1) := by decide +kernel
theorem dX12_townPart_98 : decode cX12_townPart 98 = .ok (.iaload, 1) := by decide +kernel
theorem dX12_townPart_99 : decode cX12_townPart 99 = .ok (.iconst 1, 1) := by decide +kernel
theorem dX12_townPart_100 : decode cX12_townPart 100 = .ok (.iadd, 1) := by decide +kernel
theorem dX12_townPart_101 : decode cX12_townPart 101 = .ok (.iastore, 1) := by decide +kernel
theorem dX12_townPart_102 : decode cX12_townPart 102 = .ok (.goto 83, 3) := by decide +kernel
theorem dX12_townPart_105 : decode cX12_townPart 105 = .ok (.aload_n 0, 1) := by decide +kernel
theorem dX12_townPart_106 : decode cX12_townPart 106 = .ok (.getfield 46, 3) := by decide +kernel
theorem dX12_townPart_109 : decode cX12_townPart 109 = .ok (.aload_n 0, 1) := by decide +kernel
theorem dX12_townPart_110 : decode cX12_townPart 110 = .ok (.getfield 43, 3) := by decide +kernel
theorem dX12_townPart_113 : decode cX12_townPart 113 = .ok (.iconst 4, 1) := by decide +kernel
theorem dX12_townPart_114 : decode cX12_townPart 114 = .ok (.iaload, 1) := by decide +kernel
theorem dX12_townPart_115 : decode cX12_townPart 115 = .ok (.aload_n 0, 1) := by decide +kernel
theorem dX12_townPart_116 : decode cX12_townPart 116 = .ok (.iconst 0, 1) := by decide +kernel
theorem dX12_townPart_117 : decode cX12_townPart 117 = .ok (.aload_n 0, 1) := by decide +kernel
theorem dX12_townPart_118 : decode cX12_townPart 118 = .ok (.getfield 43, 3) := by decide +kernel
theorem dX12_townPart_121 : decode cX12_townPart 121 = .ok (.iconst 0, 1) := by decide +kernel
theorem dX12_townPart_122 : decode cX12_townPart 122 = .ok (.iaload, 1) := by decide +kernel
theorem dX12_townPart_123 : decode cX12_townPart 123 = .ok (.iconst 1, 1) := by decide +kernel
theorem dX12_townPart_124 : decode cX12_townPart 124 = .ok (.isub, 1) := by decide +kernel
theorem dX12_townPart_125 : decode cX12_townPart 125 = .ok (.invokevirtual 284, 3) := by decide +kernel
theorem dX12_townPart_128 : decode cX12_townPart 128 = .ok (.iastore, 1) := by decide +kernel
theorem dX12_townPart_129 : decode cX12_townPart 129 = .ok (.aload_n 0, 1) := by decide +kernel
theorem dX12_townPart_130 : decode cX12_townPart 130 = .ok (.getfield 43, 3) := by decide +kernel
theorem dX12_townPart_133 : decode cX12_townPart 133 = .ok (.iconst 4, 1) := by decide +kernel
theorem dX12_townPart_134 : decode cX12_townPart 134 = .ok (.dup2, 1) := by decide +kernel
theorem dX12_townPart_135 : decode cX12_townPart 135 = .ok (.iaload, 1) := by decide +kernel
theorem dX12_townPart_136 : decode cX12_townPart 136 = .ok (.iconst 1, 1) := by decide +kernel
theorem dX12_townPart_137 : decode cX12_townPart 137 = .ok (.iadd, 1) := by decide +kernel
theorem dX12_townPart_138 : decode cX12_townPart 138 = .ok (.iastore, 1) := by decide +kernel
theorem dX12_townPart_139 : decode cX12_townPart 139 = .ok (.goto 46, 3) := by decide +kernel
theorem dX12_townPart_142 : decode cX12_townPart 142 = .ok (.aload_n 0, 1) := by decide +kernel
theorem dX12_townPart_143 : decode cX12_townPart 143 = .ok (.invokevirtual 288, 3) := by decide +kernel
theorem dX12_townPart_146 : decode cX12_townPart 146 = .ok (.goto 39, 3) := by decide +kernel
theorem dX12_townPart_149 : decode cX12_townPart 149 = .ok (.aload_n 0, 1) := by decide +kernel
theorem dX12_townPart_150 : decode cX12_townPart 150 = .ok (.iconst 0, 1) := by decide +kernel
theorem dX12_townPart_151 : decode cX12_townPart 151 = .ok (.aload_n 0, 1) := by decide +kernel
theorem dX12_townPart_152 : decode cX12_townPart 152 = .ok (.getfield 43, 3) := by decide +kernel
theorem dX12_townPart_155 : decode cX12_townPart 155 = .ok (.iconst 4, 1) := by decide +kernel
theorem dX12_townPart_156 : decode cX12_townPart 156 = .ok (.iaload, 1) := by decide +kernel
theorem dX12_townPart_157 : decode cX12_townPart 157 = .ok (.iconst 1, 1) := by decide +kernel
theorem dX12_townPart_158 : decode cX12_townPart 158 = .ok (.isub, 1) := by decide +kernel
theorem dX12_townPart_159 : decode cX12_townPart 159 = .ok (.invokevirtual 284, 3) := by decide +kernel
theorem dX12_townPart_162 : decode cX12_townPart 162 = .ok (.istore_n 2, 1) := by decide +kernel
theorem dX12_townPart_163 : decode cX12_townPart 163 = .ok (.aload_n 0, 1) := by decide +kernel
theorem dX12_townPart_164 : decode cX12_townPart 164 = .ok (.iconst 1, 1) := by decide +kernel
theorem dX12_townPart_165 : decode cX12_townPart 165 = .ok (.bipush 9, 2) := by decide +kernel
theorem dX12_townPart_167 : decode cX12_townPart 167 = .ok (.invokevirtual 284, 3) := by decide +kernel
theorem dX12_townPart_170 : decode cX12_townPart 170 = .ok (.istore_n 3, 1) := by decide +kernel
theorem dX12_townPart_171 : decode cX12_townPart 171 = .ok (.aload_n 0, 1) := by decide +kernel
theorem dX12_townPart_172 : decode cX12_townPart 172 = .ok (.getfield 180, 3) := by decide +kernel
theorem dX12_townPart_175 : decode cX12_townPart 175 = .ok (.ifCond .ne 10, 3) := by decide +kernel
theorem dX12_townPart_178 : decode cX12_townPart 178 = .ok (.aload_n 0, 1) := by decide +kernel
theorem dX12_townPart_179 : decode cX12_townPart 179 = .ok (.getfield 49, 3) := by decide +kernel
theorem dX12_townPart_182 : decode cX12_townPart 182 = .ok (.iload_n 2, 1) := by decide +kernel
theorem dX12_townPart_183 : decode cX12_townPart 183 = .ok (.iload_n 3, 1) := by decide +kernel
theorem dX12_townPart_184 : decode cX12_townPart 184 = .ok (.iastore, 1) := by decide +kernel
theorem dX12_townPart_185 : decode cX12_townPart 185 = .ok (.return_, 1) := by decide +kernel
theorem dX12_isFull_0 : decode cX12_isFull 0 = .ok (.iload_n 2, 1) := by decide +kernel
theorem dX12_isFull_1 : decode cX12_isFull 1 = .ok (.bipush 40, 2) := by decide +kernel
theorem dX12_isFull_3 : decode cX12_isFull 3 = .ok (.if_icmp .eq 24, 3) := by decide +kernel
theorem dX12_isFull_6 : decode cX12_isFull 6 = .ok (.iload_n 1, 1) := by decide +kernel
theorem dX12_isFull_7 : decode cX12_isFull 7 = .ok (.ifCond .ne 7, 3) := by decide +kernel
theorem dX12_isFull_10 : decode cX12_isFull 10 = .ok (.iconst 1, 1) := by decide +kernel
theorem dX12_isFull_11 : decode cX12_isFull 11 = .ok (.goto 4, 3) := by decide +kernel
theorem dX12_isFull_14 : decode cX12_isFull 14 = .ok (.iconst 0, 1) := by decide +kernel
theorem dX12_isFull_15 : decode cX12_isFull 15 = .ok (.iload_n 2, 1) := by decide +kernel
theorem dX12_isFull_16 : decode cX12_isFull 16 = .ok (.ifCond .ne 7, 3) := by decide +kernel
theorem dX12_isFull_19 : decode cX12_isFull 19 = .ok (.iconst 1, 1) := by decide +kernel
theorem dX12_isFull_20 : decode cX12_isFull 20 = .ok (.goto 4, 3) := by decide +kernel
theorem dX12_isFull_23 : decode cX12_isFull 23 = .ok (.iconst 0, 1) := by decide +kernel
theorem dX12_isFull_24 : decode cX12_isFull 24 = .ok (.if_icmp .eq 5, 3) := by decide +kernel
theorem dX12_isFull_27 : decode cX12_isFull 27 = .ok (.iconst 1, 1) := by decide +kernel
theorem dX12_isFull_28 : decode cX12_isFull 28 = .ok (.ireturn, 1) := by decide +kernel
theorem dX12_isFull_29 : decode cX12_isFull 29 = .ok (.iload_n 1, 1) := by decide +kernel
theorem dX12_isFull_30 : decode cX12_isFull 30 = .ok (.iconst 1, 1) := by decide +kernel
theorem dX12_isFull_31 : decode cX12_isFull 31 = .ok (.if_icmp .ne 14, 3) := by decide +kernel
theorem dX12_isFull_34 : decode cX12_isFull 34 = .ok (.aload_n 0, 1) := by decide +kernel
theorem dX12_isFull_35 : decode cX12_isFull 35 = .ok (.getfield 43, 3) := by decide +kernel
theorem dX12_isFull_38 : decode cX12_isFull 38 = .ok (.iconst 3, 1) := by decide +kernel
theorem dX12_isFull_39 : decode cX12_isFull 39 = .ok (.iaload, 1) := by decide +kernel
theorem dX12_isFull_40 : decode cX12_isFull 40 = .ok (.bipush 12, 2) := by decide +kernel
theorem dX12_isFull_42 : decode cX12_isFull 42 = .ok (.if_icmp .eq 19, 3) := by decide +kernel
theorem dX12_isFull_45 : decode cX12_isFull 45 = .ok (.iload_n 1, 1) := by decide +kernel
theorem dX12_isFull_46 : decode cX12_isFull 46 = .ok (.iconst 2, 1) := by decide +kernel
theorem dX12_isFull_47 : decode cX12_isFull 47 = .ok (.if_icmp .ne 18, 3) := by decide +kernel
theorem dX12_isFull_50 : decode cX12_isFull 50 = .ok (.aload_n 0, 1) := by decide +kernel
theorem dX12_isFull_51 : decode cX12_isFull 51 = .ok (.getfield 43, 3) := by decide +kernel
theorem dX12_isFull_54 : decode cX12_isFull 54 = .ok (.iconst 4, 1) := by decide +kernel
theorem dX12_isFull_55 : decode cX12_isFull 55 = .ok (.iaload, 1) := by decide +kernel
theorem dX12_isFull_56 : decode cX12_isFull 56 = .ok (.bipush 6, 2) := by decide +kernel
theorem dX12_isFull_58 : decode cX12_isFull 58 = .ok (.if_icmp .ne 7, 3) := by decide +kernel
theorem dX12_isFull_61 : decode cX12_isFull 61 = .ok (.iconst 1, 1) := by decide +kernel
theorem dX12_isFull_62 : decode cX12_isFull 62 = .ok (.goto 4, 3) := by decide +kernel
theorem dX12_isFull_65 : decode cX12_isFull 65 = .ok (.iconst 0, 1) := by decide +kernel
theorem dX12_isFull_66 : decode cX12_isFull 66 = .ok (.ireturn, 1) := by decide +kernel
theorem dX12_townClause_0 : decode cX12_townClause 0 = .ok (.aload_n 0, 1) := by decide +kernel
theorem dX12_townClause_1 : decode cX12_townClause 1 = .ok (.invokevirtual 203, 3) := by decide +kernel
theorem dX12_townClause_4 : decode cX12_townClause 4 = .ok (.aload_n 0, 1) := by decide +kernel
theorem dX12_townClause_5 : decode cX12_townClause 5 = .ok (.getfield 183, 3) := by decide +kernel
theorem dX12_townClause_8 : decode cX12_townClause 8 = .ok (.istore_n 2, 1) := by decide +kernel
theorem dX12_townClause_9 : decode cX12_townClause 9 = .ok (.iconst 0, 1) := by decide +kernel
theorem dX12_townClause_10 : decode cX12_townClause 10 = .ok (.istore_n 3, 1) := by decide +kernel
theorem dX12_townClause_11 : decode cX12_townClause 11 = .ok (.iload_n 3, 1) := by decide +kernel
theorem dX12_townClause_12 : decode cX12_townClause 12 = .ok (.iconst 5, 1) := by decide +kernel
theorem dX12_townClause_13 : decode cX12_townClause 13 = .ok (.if_icmp .ge 20, 3) := by decide +kernel
theorem dX12_townClause_16 : decode cX12_townClause 16 = .ok (.aload_n 0, 1) := by decide +kernel
theorem dX12_townClause_17 : decode cX12_townClause 17 = .ok (.iload_n 3, 1) := by decide +kernel
theorem dX12_townClause_18 : decode cX12_townClause 18 = .ok (.invokestatic 291, 3) := by decide +kernel
theorem dX12_townClause_21 : decode cX12_townClause 21 = .ok (.invokevirtual 206, 3) := by decide +kernel
theorem dX12_townClause_24 : decode cX12_townClause 24 = .ok (.ifCond .ne 9, 3) := by decide +kernel
theorem dX12_townClause_27 : decode cX12_townClause 27 = .ok (.iinc 3 1, 3) := by decide +kernel
theorem dX12_townClause_30 : decode cX12_townClause 30 = .ok (.goto (-19), 3) := by decide +kernel
theorem dX12_townClause_33 : decode cX12_townClause 33 = .ok (.iload_n 3, 1) := by decide +kernel
theorem dX12_townClause_34 : decode cX12_townClause 34 = .ok (.iconst 5, 1) := by decide +kernel
theorem dX12_townClause_35 : decode cX12_townClause 35 = .ok (.if_icmp .ne 10, 3) := by decide +kernel
theorem dX12_townClause_38 : decode cX12_townClause 38 = .ok (.aload_n 0, 1) := by decide +kernel
theorem dX12_townClause_39 : decode cX12_townClause 39 = .ok (.iconst 0, 1) := by decide +kernel
theorem dX12_townClause_40 : decode cX12_townClause 40 = .ok (.iload_n 2, 1) := by decide +kernel
theorem dX12_townClause_41 : decode cX12_townClause 41 = .ok (.invokevirtual 219, 3) := by decide +kernel
theorem dX12_townClause_44 : decode cX12_townClause 44 = .ok (.return_, 1) := by decide +kernel
theorem dX12_townClause_45 : decode cX12_townClause 45 = .ok (.aload_n 0, 1) := by decide +kernel
theorem dX12_townClause_46 : decode cX12_townClause 46 = .ok (.iload_n 3, 1) := by decide +kernel
theorem dX12_townClause_47 : decode cX12_townClause 47 = .ok (.iload_n 1, 1) := by decide +kernel
theorem dX12_townClause_48 : decode cX12_townClause 48 = .ok (.invokevirtual 294, 3) := by decide +kernel
theorem dX12_townClause_51 : decode cX12_townClause 51 = .ok (.ifCond .eq 10, 3) := by decide +kernel
theorem dX12_townClause_54 : decode cX12_townClause 54 = .ok (.aload_n 0, 1) := by decide +kernel
theorem dX12_townClause_55 : decode cX12_townClause 55 = .ok (.iconst 4, 1) := by decide +kernel
theorem dX12_townClause_56 : decode cX12_townClause 56 = .ok (.iload_n 2, 1) := by decide +kernel
theorem dX12_townClause_57 : decode cX12_townClause 57 = .ok (.invokevirtual 219, 3) := by decide +kernel
theorem dX12_townClause_60 : decode cX12_townClause 60 = .ok (.return_, 1) := by decide +kernel
theorem dX12_townClause_61 : decode cX12_townClause 61 = .ok (.aload_n 0, 1) := by decide +kernel
theorem dX12_townClause_62 : decode cX12_townClause 62 = .ok (.dup, 1) := by decide +kernel
theorem dX12_townClause_63 : decode cX12_townClause 63 = .ok (.getfield 183, 3) := by decide +kernel
theorem dX12_townClause_66 : decode cX12_townClause 66 = .ok (.iload_n 3, 1) := by decide +kernel
theorem dX12_townClause_67 : decode cX12_townClause 67 = .ok (.invokestatic 291, 3) := by decide +kernel
theorem dX12_townClause_70 : decode cX12_townClause 70 = .ok (.invokevirtual 194, 3) := by decide +kernel
theorem dX12_townClause_73 : decode cX12_townClause 73 = .ok (.iadd, 1) := by decide +kernel
theorem dX12_townClause_74 : decode cX12_townClause 74 = .ok (.putfield 183, 3) := by decide +kernel
theorem dX12_townClause_77 : decode cX12_townClause 77 = .ok (.aload_n 0, 1) := by decide +kernel
theorem dX12_townClause_78 : decode cX12_townClause 78 = .ok (.iload_n 3, 1) := by decide +kernel
theorem dX12_townClause_79 : decode cX12_townClause 79 = .ok (.invokevirtual 298, 3) := by decide +kernel
theorem dX12_townClause_82 : decode cX12_townClause 82 = .ok (.return_, 1) := by decide +kernel
theorem dX12_copies_0 : decode cX12_copies 0 = .ok (.iconst 0, 1) := by decide +kernel
theorem dX12_copies_1 : decode cX12_copies 1 = .ok (.istore_n 2, 1) := by decide +kernel
theorem dX12_copies_2 : decode cX12_copies 2 = .ok (.iload_n 2, 1) := by decide +kernel
theorem dX12_copies_3 : decode cX12_copies 3 = .ok (.aload_n 0, 1) := by decide +kernel
theorem dX12_copies_4 : decode cX12_copies 4 = .ok (.arraylength, 1) := by decide +kernel
theorem dX12_copies_5 : decode cX12_copies 5 = .ok (.if_icmp .ge 15, 3) := by decide +kernel
theorem dX12_copies_8 : decode cX12_copies 8 = .ok (.aload_n 1, 1) := by decide +kernel
theorem dX12_copies_9 : decode cX12_copies 9 = .ok (.iload_n 2, 1) := by decide +kernel
theorem dX12_copies_10 : decode cX12_copies 10 = .ok (.aload_n 0, 1) := by decide +kernel
theorem dX12_copies_11 : decode cX12_copies 11 = .ok (.iload_n 2, 1) := by decide +kernel
theorem dX12_copies_12 : decode cX12_copies 12 = .ok (.iaload, 1) := by decide +kernel
theorem dX12_copies_13 : decode cX12_copies 13 = .ok (.iastore, 1) := by decide +kernel
theorem dX12_copies_14 : decode cX12_copies 14 = .ok (.iinc 2 1, 3) := by decide +kernel
theorem dX12_copies_17 : decode cX12_copies 17 = .ok (.goto (-15), 3) := by decide +kernel
theorem dX12_copies_20 : decode cX12_copies 20 = .ok (.return_, 1) := by decide +kernel
theorem dX12_goesOn_0 : decode cX12_goesOn 0 = .ok (.aload_n 0, 1) := by decide +kernel
theorem dX12_goesOn_1 : decode cX12_goesOn 1 = .ok (.invokevirtual 203, 3) := by decide +kernel
theorem dX12_goesOn_4 : decode cX12_goesOn 4 = .ok (.aload_n 0, 1) := by decide +kernel
theorem dX12_goesOn_5 : decode cX12_goesOn 5 = .ok (.getfield 180, 3) := by decide +kernel
theorem dX12_goesOn_8 : decode cX12_goesOn 8 = .ok (.ifCond .ne 32, 3) := by decide +kernel
theorem dX12_goesOn_11 : decode cX12_goesOn 11 = .ok (.aload_n 0, 1) := by decide +kernel
theorem dX12_goesOn_12 : decode cX12_goesOn 12 = .ok (.getfield 183, 3) := by decide +kernel
theorem dX12_goesOn_15 : decode cX12_goesOn 15 = .ok (.aload_n 0, 1) := by decide +kernel
theorem dX12_goesOn_16 : decode cX12_goesOn 16 = .ok (.getfield 151, 3) := by decide +kernel
theorem dX12_goesOn_19 : decode cX12_goesOn 19 = .ok (.if_icmp .ge 21, 3) := by decide +kernel
theorem dX12_goesOn_22 : decode cX12_goesOn 22 = .ok (.aload_n 0, 1) := by decide +kernel
theorem dX12_goesOn_23 : decode cX12_goesOn 23 = .ok (.invokevirtual 186, 3) := by decide +kernel
theorem dX12_goesOn_26 : decode cX12_goesOn 26 = .ok (.bipush 59, 2) := by decide +kernel
theorem dX12_goesOn_28 : decode cX12_goesOn 28 = .ok (.if_icmp .eq 12, 3) := by decide +kernel
theorem dX12_goesOn_31 : decode cX12_goesOn 31 = .ok (.aload_n 0, 1) := by decide +kernel
theorem dX12_goesOn_32 : decode cX12_goesOn 32 = .ok (.iconst 0, 1) := by decide +kernel
theorem dX12_goesOn_33 : decode cX12_goesOn 33 = .ok (.aload_n 0, 1) := by decide +kernel
theorem dX12_goesOn_34 : decode cX12_goesOn 34 = .ok (.getfield 183, 3) := by decide +kernel
theorem dX12_goesOn_37 : decode cX12_goesOn 37 = .ok (.invokevirtual 219, 3) := by decide +kernel
theorem dX12_goesOn_40 : decode cX12_goesOn 40 = .ok (.aload_n 0, 1) := by decide +kernel
theorem dX12_goesOn_41 : decode cX12_goesOn 41 = .ok (.getfield 180, 3) := by decide +kernel
theorem dX12_goesOn_44 : decode cX12_goesOn 44 = .ok (.ifCond .ne 18, 3) := by decide +kernel
theorem dX12_goesOn_47 : decode cX12_goesOn 47 = .ok (.aload_n 0, 1) := by decide +kernel
theorem dX12_goesOn_48 : decode cX12_goesOn 48 = .ok (.getfield 183, 3) := by decide +kernel
theorem dX12_goesOn_51 : decode cX12_goesOn 51 = .ok (.aload_n 0, 1) := by decide +kernel
theorem dX12_goesOn_52 : decode cX12_goesOn 52 = .ok (.getfield 151, 3) := by decide +kernel
theorem dX12_goesOn_55 : decode cX12_goesOn 55 = .ok (.if_icmp .ge 7, 3) := by decide +kernel
theorem dX12_goesOn_58 : decode cX12_goesOn 58 = .ok (.iconst 1, 1) := by decide +kernel
theorem dX12_goesOn_59 : decode cX12_goesOn 59 = .ok (.goto 4, 3) := by decide +kernel
theorem dX12_goesOn_62 : decode cX12_goesOn 62 = .ok (.iconst 0, 1) := by decide +kernel
theorem dX12_goesOn_63 : decode cX12_goesOn 63 = .ok (.istore_n 1, 1) := by decide +kernel
theorem dX12_goesOn_64 : decode cX12_goesOn 64 = .ok (.aload_n 0, 1) := by decide +kernel
theorem dX12_goesOn_65 : decode cX12_goesOn 65 = .ok (.dup, 1) := by decide +kernel
theorem dX12_goesOn_66 : decode cX12_goesOn 66 = .ok (.getfield 183, 3) := by decide +kernel
theorem dX12_goesOn_69 : decode cX12_goesOn 69 = .ok (.iconst 1, 1) := by decide +kernel
theorem dX12_goesOn_70 : decode cX12_goesOn 70 = .ok (.iadd, 1) := by decide +kernel
theorem dX12_goesOn_71 : decode cX12_goesOn 71 = .ok (.putfield 183, 3) := by decide +kernel
theorem dX12_goesOn_74 : decode cX12_goesOn 74 = .ok (.iload_n 1, 1) := by decide +kernel
theorem dX12_goesOn_75 : decode cX12_goesOn 75 = .ok (.ireturn, 1) := by decide +kernel
theorem dX12_starts_0 : decode cX12_starts 0 = .ok (.aload_n 0, 1) := by decide +kernel
theorem dX12_starts_1 : decode cX12_starts 1 = .ok (.iconst 0, 1) := by decide +kernel
theorem dX12_starts_2 : decode cX12_starts 2 = .ok (.putfield 183, 3) := by decide +kernel
theorem dX12_starts_5 : decode cX12_starts 5 = .ok (.aload_n 0, 1) := by decide +kernel
theorem dX12_starts_6 : decode cX12_starts 6 = .ok (.iconst 0, 1) := by decide +kernel
theorem dX12_starts_7 : decode cX12_starts 7 = .ok (.putfield 180, 3) := by decide +kernel
theorem dX12_starts_10 : decode cX12_starts 10 = .ok (.aload_n 0, 1) := by decide +kernel
theorem dX12_starts_11 : decode cX12_starts 11 = .ok (.iconst 0, 1) := by decide +kernel
theorem dX12_starts_12 : decode cX12_starts 12 = .ok (.putfield 213, 3) := by decide +kernel
theorem dX12_starts_15 : decode cX12_starts 15 = .ok (.aload_n 0, 1) := by decide +kernel
theorem dX12_starts_16 : decode cX12_starts 16 = .ok (.iconst 0, 1) := by decide +kernel
theorem dX12_starts_17 : decode cX12_starts 17 = .ok (.putfield 254, 3) := by decide +kernel
theorem dX12_starts_20 : decode cX12_starts 20 = .ok (.aload_n 0, 1) := by decide +kernel
theorem dX12_starts_21 : decode cX12_starts 21 = .ok (.iconst 0, 1) := by decide +kernel
theorem dX12_starts_22 : decode cX12_starts 22 = .ok (.putfield 216, 3) := by decide +kernel
theorem dX12_starts_25 : decode cX12_starts 25 = .ok (.return_, 1) := by decide +kernel
theorem dX12_readsAll_0 : decode cX12_readsAll 0 = .ok (.aload_n 0, 1) := by decide +kernel
theorem dX12_readsAll_1 : decode cX12_readsAll 1 = .ok (.invokevirtual 301, 3) := by decide +kernel
theorem dX12_readsAll_4 : decode cX12_readsAll 4 = .ok (.iconst 0, 1) := by decide +kernel
theorem dX12_readsAll_5 : decode cX12_readsAll 5 = .ok (.istore_n 1, 1) := by decide +kernel
theorem dX12_readsAll_6 : decode cX12_readsAll 6 = .ok (.iload_n 1, 1) := by decide +kernel
theorem dX12_readsAll_7 : decode cX12_readsAll 7 = .ok (.iconst 5, 1) := by decide +kernel
theorem dX12_readsAll_8 : decode cX12_readsAll 8 = .ok (.if_icmp .ge 16, 3) := by decide +kernel
theorem dX12_readsAll_11 : decode cX12_readsAll 11 = .ok (.aload_n 0, 1) := by decide +kernel
theorem dX12_readsAll_12 : decode cX12_readsAll 12 = .ok (.getfield 43, 3) := by decide +kernel
theorem dX12_readsAll_15 : decode cX12_readsAll 15 = .ok (.iload_n 1, 1) := by decide +kernel
theorem dX12_readsAll_16 : decode cX12_readsAll 16 = .ok (.iconst 0, 1) := by decide +kernel
theorem dX12_readsAll_17 : decode cX12_readsAll 17 = .ok (.iastore, 1) := by decide +kernel
theorem dX12_readsAll_18 : decode cX12_readsAll 18 = .ok (.iinc 1 1, 3) := by decide +kernel
theorem dX12_readsAll_21 : decode cX12_readsAll 21 = .ok (.goto (-15), 3) := by decide +kernel
theorem dX12_readsAll_24 : decode cX12_readsAll 24 = .ok (.iconst 0, 1) := by decide +kernel
theorem dX12_readsAll_25 : decode cX12_readsAll 25 = .ok (.istore_n 1, 1) := by decide +kernel
theorem dX12_readsAll_26 : decode cX12_readsAll 26 = .ok (.iload_n 1, 1) := by decide +kernel
theorem dX12_readsAll_27 : decode cX12_readsAll 27 = .ok (.aload_n 0, 1) := by decide +kernel
theorem dX12_readsAll_28 : decode cX12_readsAll 28 = .ok (.getfield 52, 3) := by decide +kernel
theorem dX12_readsAll_31 : decode cX12_readsAll 31 = .ok (.arraylength, 1) := by decide +kernel
theorem dX12_readsAll_32 : decode cX12_readsAll 32 = .ok (.if_icmp .ge 16, 3) := by decide +kernel
theorem dX12_readsAll_35 : decode cX12_readsAll 35 = .ok (.aload_n 0, 1) := by decide +kernel
theorem dX12_readsAll_36 : decode cX12_readsAll 36 = .ok (.getfield 52, 3) := by decide +kernel
theorem dX12_readsAll_39 : decode cX12_readsAll 39 = .ok (.iload_n 1, 1) := by decide +kernel
theorem dX12_readsAll_40 : decode cX12_readsAll 40 = .ok (.iconst 0, 1) := by decide +kernel
theorem dX12_readsAll_41 : decode cX12_readsAll 41 = .ok (.iastore, 1) := by decide +kernel
theorem dX12_readsAll_42 : decode cX12_readsAll 42 = .ok (.iinc 1 1, 3) := by decide +kernel
theorem dX12_readsAll_45 : decode cX12_readsAll 45 = .ok (.goto (-19), 3) := by decide +kernel
theorem dX12_readsAll_48 : decode cX12_readsAll 48 = .ok (.iconst 0, 1) := by decide +kernel
theorem dX12_readsAll_49 : decode cX12_readsAll 49 = .ok (.istore_n 1, 1) := by decide +kernel
theorem dX12_readsAll_50 : decode cX12_readsAll 50 = .ok (.iload_n 1, 1) := by decide +kernel
theorem dX12_readsAll_51 : decode cX12_readsAll 51 = .ok (.bipush 6, 2) := by decide +kernel
theorem dX12_readsAll_53 : decode cX12_readsAll 53 = .ok (.if_icmp .ge 23, 3) := by decide +kernel
theorem dX12_readsAll_56 : decode cX12_readsAll 56 = .ok (.aload_n 0, 1) := by decide +kernel
theorem dX12_readsAll_57 : decode cX12_readsAll 57 = .ok (.getfield 46, 3) := by decide +kernel
theorem dX12_readsAll_60 : decode cX12_readsAll 60 = .ok (.iload_n 1, 1) := by decide +kernel
theorem dX12_readsAll_61 : decode cX12_readsAll 61 = .ok (.iconst 0, 1) := by decide +kernel
theorem dX12_readsAll_62 : decode cX12_readsAll 62 = .ok (.iastore, 1) := by decide +kernel
theorem dX12_readsAll_63 : decode cX12_readsAll 63 = .ok (.aload_n 0, 1) := by decide +kernel
theorem dX12_readsAll_64 : decode cX12_readsAll 64 = .ok (.getfield 49, 3) := by decide +kernel
theorem dX12_readsAll_67 : decode cX12_readsAll 67 = .ok (.iload_n 1, 1) := by decide +kernel
theorem dX12_readsAll_68 : decode cX12_readsAll 68 = .ok (.iconst 0, 1) := by decide +kernel
theorem dX12_readsAll_69 : decode cX12_readsAll 69 = .ok (.iastore, 1) := by decide +kernel
theorem dX12_readsAll_70 : decode cX12_readsAll 70 = .ok (.iinc 1 1, 3) := by decide +kernel
theorem dX12_readsAll_73 : decode cX12_readsAll 73 = .ok (.goto (-23), 3) := by decide +kernel
theorem dX12_readsAll_76 : decode cX12_readsAll 76 = .ok (.iconst 0, 1) := by decide +kernel
theorem dX12_readsAll_77 : decode cX12_readsAll 77 = .ok (.istore_n 1, 1) := by decide +kernel
theorem dX12_readsAll_78 : decode cX12_readsAll 78 = .ok (.iconst 1, 1) := by decide +kernel
theorem dX12_readsAll_79 : decode cX12_readsAll 79 = .ok (.istore_n 2, 1) := by decide +kernel
theorem dX12_readsAll_80 : decode cX12_readsAll 80 = .ok (.iload_n 2, 1) := by decide +kernel
theorem dX12_readsAll_81 : decode cX12_readsAll 81 = .ok (.ifCond .eq 19, 3) := by decide +kernel
theorem dX12_readsAll_84 : decode cX12_readsAll 84 = .ok (.aload_n 0, 1) := by decide +kernel
theorem dX12_readsAll_85 : decode cX12_readsAll 85 = .ok (.iload_n 1, 1) := by decide +kernel
theorem dX12_readsAll_86 : decode cX12_readsAll 86 = .ok (.invokevirtual 304, 3) := by decide +kernel
theorem dX12_readsAll_89 : decode cX12_readsAll 89 = .ok (.iinc 1 1, 3) := by decide +kernel
theorem dX12_readsAll_92 : decode cX12_readsAll 92 = .ok (.aload_n 0, 1) := by decide +kernel
theorem dX12_readsAll_93 : decode cX12_readsAll 93 = .ok (.invokevirtual 307, 3) := by decide +kernel
theorem dX12_readsAll_96 : decode cX12_readsAll 96 = .ok (.istore_n 2, 1) := by decide +kernel
theorem dX12_readsAll_97 : decode cX12_readsAll 97 = .ok (.goto (-17), 3) := by decide +kernel
theorem dX12_readsAll_100 : decode cX12_readsAll 100 = .ok (.aload_n 0, 1) := by decide +kernel
theorem dX12_readsAll_101 : decode cX12_readsAll 101 = .ok (.iconst 0, 1) := by decide +kernel
theorem dX12_readsAll_102 : decode cX12_readsAll 102 = .ok (.putfield 151, 3) := by decide +kernel
theorem dX12_readsAll_105 : decode cX12_readsAll 105 = .ok (.return_, 1) := by decide +kernel
theorem dX12_begins_0 : decode cX12_begins 0 = .ok (.aload_n 0, 1) := by decide +kernel
theorem dX12_begins_1 : decode cX12_begins 1 = .ok (.getfield 34, 3) := by decide +kernel
theorem dX12_begins_4 : decode cX12_begins 4 = .ok (.aload_n 0, 1) := by decide +kernel
theorem dX12_begins_5 : decode cX12_begins 5 = .ok (.getfield 13, 3) := by decide +kernel
theorem dX12_begins_8 : decode cX12_begins 8 = .ok (.invokestatic 310, 3) := by decide +kernel
theorem dX12_begins_11 : decode cX12_begins 11 = .ok (.aload_n 0, 1) := by decide +kernel
theorem dX12_begins_12 : decode cX12_begins 12 = .ok (.getfield 37, 3) := by decide +kernel
theorem dX12_begins_15 : decode cX12_begins 15 = .ok (.aload_n 0, 1) := by decide +kernel
theorem dX12_begins_16 : decode cX12_begins 16 = .ok (.getfield 16, 3) := by decide +kernel
theorem dX12_begins_19 : decode cX12_begins 19 = .ok (.invokestatic 310, 3) := by decide +kernel
theorem dX12_begins_22 : decode cX12_begins 22 = .ok (.aload_n 0, 1) := by decide +kernel
theorem dX12_begins_23 : decode cX12_begins 23 = .ok (.getfield 40, 3) := by decide +kernel
theorem dX12_begins_26 : decode cX12_begins 26 = .ok (.aload_n 0, 1) := by decide +kernel
theorem dX12_begins_27 : decode cX12_begins 27 = .ok (.getfield 19, 3) := by decide +kernel
theorem dX12_begins_30 : decode cX12_begins 30 = .ok (.invokestatic 310, 3) := by decide +kernel
theorem dX12_begins_33 : decode cX12_begins 33 = .ok (.aload_n 0, 1) := by decide +kernel
theorem dX12_begins_34 : decode cX12_begins 34 = .ok (.getfield 9, 3) := by decide +kernel
theorem dX12_begins_37 : decode cX12_begins 37 = .ok (.iconst 5, 1) := by decide +kernel
theorem dX12_begins_38 : decode cX12_begins 38 = .ok (.iconst 0, 1) := by decide +kernel
theorem dX12_begins_39 : decode cX12_begins 39 = .ok (.iastore, 1) := by decide +kernel
theorem dX12_begins_40 : decode cX12_begins 40 = .ok (.aload_n 0, 1) := by decide +kernel
theorem dX12_begins_41 : decode cX12_begins 41 = .ok (.getfield 9, 3) := by decide +kernel
theorem dX12_begins_44 : decode cX12_begins 44 = .ok (.bipush 6, 2) := by decide +kernel
theorem dX12_begins_46 : decode cX12_begins 46 = .ok (.aload_n 0, 1) := by decide +kernel
theorem dX12_begins_47 : decode cX12_begins 47 = .ok (.getfield 9, 3) := by decide +kernel
theorem dX12_begins_50 : decode cX12_begins 50 = .ok (.iconst 1, 1) := by decide +kernel
theorem dX12_begins_51 : decode cX12_begins 51 = .ok (.iaload, 1) := by decide +kernel
theorem dX12_begins_52 : decode cX12_begins 52 = .ok (.iastore, 1) := by decide +kernel
theorem dX12_begins_53 : decode cX12_begins 53 = .ok (.aload_n 0, 1) := by decide +kernel
theorem dX12_begins_54 : decode cX12_begins 54 = .ok (.getfield 9, 3) := by decide +kernel
theorem dX12_begins_57 : decode cX12_begins 57 = .ok (.bipush 7, 2) := by decide +kernel
theorem dX12_begins_59 : decode cX12_begins 59 = .ok (.iconst 0, 1) := by decide +kernel
theorem dX12_begins_60 : decode cX12_begins 60 = .ok (.iastore, 1) := by decide +kernel
theorem dX12_begins_61 : decode cX12_begins 61 = .ok (.return_, 1) := by decide +kernel
theorem dX12_town_0 : decode cX12_town 0 = .ok (.aload_n 0, 1) := by decide +kernel
theorem dX12_town_1 : decode cX12_town 1 = .ok (.invokevirtual 314, 3) := by decide +kernel
theorem dX12_town_4 : decode cX12_town 4 = .ok (.aload_n 0, 1) := by decide +kernel
theorem dX12_town_5 : decode cX12_town 5 = .ok (.getfield 180, 3) := by decide +kernel
theorem dX12_town_8 : decode cX12_town 8 = .ok (.ifCond .le 11, 3) := by decide +kernel
theorem dX12_town_11 : decode cX12_town 11 = .ok (.bipush (-2), 2) := by decide +kernel
theorem dX12_town_13 : decode cX12_town 13 = .ok (.aload_n 0, 1) := by decide +kernel
theorem dX12_town_14 : decode cX12_town 14 = .ok (.getfield 180, 3) := by decide +kernel
theorem dX12_town_17 : decode cX12_town 17 = .ok (.isub, 1) := by decide +kernel
theorem dX12_town_18 : decode cX12_town 18 = .ok (.ireturn, 1) := by decide +kernel
theorem dX12_town_19 : decode cX12_town 19 = .ok (.iconst 0, 1) := by decide +kernel
theorem dX12_town_20 : decode cX12_town 20 = .ok (.istore_n 1, 1) := by decide +kernel
theorem dX12_town_21 : decode cX12_town 21 = .ok (.iload_n 1, 1) := by decide +kernel
theorem dX12_town_22 : decode cX12_town 22 = .ok (.iconst 5, 1) := by decide +kernel
theorem dX12_town_23 : decode cX12_town 23 = .ok (.if_icmp .ge 21, 3) := by decide +kernel
theorem dX12_town_26 : decode cX12_town 26 = .ok (.aload_n 0, 1) := by decide +kernel
theorem dX12_town_27 : decode cX12_town 27 = .ok (.getfield 9, 3) := by decide +kernel
theorem dX12_town_30 : decode cX12_town 30 = .ok (.iload_n 1, 1) := by decide +kernel
theorem dX12_town_31 : decode cX12_town 31 = .ok (.aload_n 0, 1) := by decide +kernel
theorem dX12_town_32 : decode cX12_town 32 = .ok (.getfield 43, 3) := by decide +kernel
theorem dX12_town_35 : decode cX12_town 35 = .ok (.iload_n 1, 1) := by decide +kernel
theorem dX12_town_36 : decode cX12_town 36 = .ok (.iaload, 1) := by decide +kernel
theorem dX12_town_37 : decode cX12_town 37 = .ok (.iastore, 1) := by decide +kernel
theorem dX12_town_38 : decode cX12_town 38 = .ok (.iinc 1 1, 3) := by decide +kernel
theorem dX12_town_41 : decode cX12_town 41 = .ok (.goto (-20), 3) := by decide +kernel
theorem dX12_town_44 : decode cX12_town 44 = .ok (.aload_n 0, 1) := by decide +kernel
theorem dX12_town_45 : decode cX12_town 45 = .ok (.getfield 9, 3) := by decide +kernel
theorem dX12_town_48 : decode cX12_town 48 = .ok (.bipush 8, 2) := by decide +kernel
theorem dX12_town_50 : decode cX12_town 50 = .ok (.iconst 0, 1) := by decide +kernel
theorem dX12_town_51 : decode cX12_town 51 = .ok (.iastore, 1) := by decide +kernel
theorem dX12_town_52 : decode cX12_town 52 = .ok (.aload_n 0, 1) := by decide +kernel
theorem dX12_town_53 : decode cX12_town 53 = .ok (.getfield 46, 3) := by decide +kernel
theorem dX12_town_56 : decode cX12_town 56 = .ok (.aload_n 0, 1) := by decide +kernel
theorem dX12_town_57 : decode cX12_town 57 = .ok (.getfield 34, 3) := by decide +kernel
theorem dX12_town_60 : decode cX12_town 60 = .ok (.invokestatic 310, 3) := by decide +kernel
theorem dX12_town_63 : decode cX12_town 63 = .ok (.aload_n 0, 1) := by decide +kernel
theorem dX12_town_64 : decode cX12_town 64 = .ok (.getfield 49, 3) := by decide +kernel
theorem dX12_town_67 : decode cX12_town 67 = .ok (.aload_n 0, 1) := by decide +kernel
theorem dX12_town_68 : decode cX12_town 68 = .ok (.getfield 37, 3) := by decide +kernel
theorem dX12_town_71 : decode cX12_town 71 = .ok (.invokestatic 310, 3) := by decide +kernel
theorem dX12_town_74 : decode cX12_town 74 = .ok (.aload_n 0, 1) := by decide +kernel
theorem dX12_town_75 : decode cX12_town 75 = .ok (.getfield 52, 3) := by decide +kernel
theorem dX12_town_78 : decode cX12_town 78 = .ok (.aload_n 0, 1) := by decide +kernel
theorem dX12_town_79 : decode cX12_town 79 = .ok (.getfield 40, 3) := by decide +kernel
theorem dX12_town_82 : decode cX12_town 82 = .ok (.invokestatic 310, 3) := by decide +kernel
theorem dX12_town_85 : decode cX12_town 85 = .ok (.aload_n 0, 1) := by decide +kernel
theorem dX12_town_86 : decode cX12_town 86 = .ok (.getfield 55, 3) := by decide +kernel
theorem dX12_town_89 : decode cX12_town 89 = .ok (.aload_n 0, 1) := by decide +kernel
theorem dX12_town_90 : decode cX12_town 90 = .ok (.getfield 22, 3) := by decide +kernel
theorem dX12_town_93 : decode cX12_town 93 = .ok (.invokestatic 310, 3) := by decide +kernel
theorem dX12_town_96 : decode cX12_town 96 = .ok (.aload_n 0, 1) := by decide +kernel
theorem dX12_town_97 : decode cX12_town 97 = .ok (.invokevirtual 317, 3) := by decide +kernel
theorem dX12_town_100 : decode cX12_town 100 = .ok (.aload_n 0, 1) := by decide +kernel
theorem dX12_town_101 : decode cX12_town 101 = .ok (.iconst 0, 1) := by decide +kernel
theorem dX12_town_102 : decode cX12_town 102 = .ok (.putfield 320, 3) := by decide +kernel
theorem dX12_town_105 : decode cX12_town 105 = .ok (.aload_n 0, 1) := by decide +kernel
theorem dX12_town_106 : decode cX12_town 106 = .ok (.getfield 9, 3) := by decide +kernel
theorem dX12_town_109 : decode cX12_town 109 = .ok (.iconst 4, 1) := by decide +kernel
theorem dX12_town_110 : decode cX12_town 110 = .ok (.iaload, 1) := by decide +kernel
theorem dX12_town_111 : decode cX12_town 111 = .ok (.ireturn, 1) := by decide +kernel
theorem dX12_ruleClause_0 : decode cX12_ruleClause 0 = .ok (.aload_n 0, 1) := by decide +kernel
theorem dX12_ruleClause_1 : decode cX12_ruleClause 1 = .ok (.invokevirtual 203, 3) := by decide +kernel
theorem dX12_ruleClause_4 : decode cX12_ruleClause 4 = .ok (.aload_n 0, 1) := by decide +kernel
theorem dX12_ruleClause_5 : decode cX12_ruleClause 5 = .ok (.getfield 183, 3) := by decide +kernel
theorem dX12_ruleClause_8 : decode cX12_ruleClause 8 = .ok (.istore_n 2, 1) := by decide +kernel
theorem dX12_ruleClause_9 : decode cX12_ruleClause 9 = .ok (.aload_n 0, 1) := by decide +kernel
theorem dX12_ruleClause_10 : decode cX12_ruleClause 10 = .ok (.ldc_w 323, 3) := by decide +kernel
theorem dX12_ruleClause_13 : decode cX12_ruleClause 13 = .ok (.invokevirtual 206, 3) := by decide +kernel
theorem dX12_ruleClause_16 : decode cX12_ruleClause 16 = .ok (.ifCond .ne 10, 3) := by decide +kernel
theorem dX12_ruleClause_19 : decode cX12_ruleClause 19 = .ok (.aload_n 0, 1) := by decide +kernel
theorem dX12_ruleClause_20 : decode cX12_ruleClause 20 = .ok (.iconst 0, 1) := by decide +kernel
theorem dX12_ruleClause_21 : decode cX12_ruleClause 21 = .ok (.iload_n 2, 1) := by decide +kernel
theorem dX12_ruleClause_22 : decode cX12_ruleClause 22 = .ok (.invokevirtual 219, 3) := by decide +kernel
theorem dX12_ruleClause_25 : decode cX12_ruleClause 25 = .ok (.return_, 1) := by decide +kernel
theorem dX12_ruleClause_26 : decode cX12_ruleClause 26 = .ok (.iload_n 1, 1) := by decide +kernel
theorem dX12_ruleClause_27 : decode cX12_ruleClause 27 = .ok (.bipush 12, 2) := by decide +kernel
theorem dX12_ruleClause_29 : decode cX12_ruleClause 29 = .ok (.if_icmp .ne 10, 3) := by decide +kernel
theorem dX12_ruleClause_32 : decode cX12_ruleClause 32 = .ok (.aload_n 0, 1) := by decide +kernel
theorem dX12_ruleClause_33 : decode cX12_ruleClause 33 = .ok (.iconst 4, 1) := by decide +kernel
theorem dX12_ruleClause_34 : decode cX12_ruleClause 34 = .ok (.iload_n 2, 1) := by decide +kernel
theorem dX12_ruleClause_35 : decode cX12_ruleClause 35 = .ok (.invokevirtual 219, 3) := by decide +kernel
theorem dX12_ruleClause_38 : decode cX12_ruleClause 38 = .ok (.return_, 1) := by decide +kernel
theorem dX12_ruleClause_39 : decode cX12_ruleClause 39 = .ok (.aload_n 0, 1) := by decide +kernel
theorem dX12_ruleClause_40 : decode cX12_ruleClause 40 = .ok (.dup, 1) := by decide +kernel
theorem dX12_ruleClause_41 : decode cX12_ruleClause 41 = .ok (.getfield 183, 3) := by decide +kernel
theorem dX12_ruleClause_44 : decode cX12_ruleClause 44 = .ok (.iconst 4, 1) := by decide +kernel
theorem dX12_ruleClause_45 : decode cX12_ruleClause 45 = .ok (.iadd, 1) := by decide +kernel
theorem dX12_ruleClause_46 : decode cX12_ruleClause 46 = .ok (.putfield 183, 3) := by decide +kernel
theorem dX12_ruleClause_49 : decode cX12_ruleClause 49 = .ok (.bipush 12, 2) := by decide +kernel
theorem dX12_ruleClause_51 : decode cX12_ruleClause 51 = .ok (.aload_n 0, 1) := by decide +kernel
theorem dX12_ruleClause_52 : decode cX12_ruleClause 52 = .ok (.getfield 210, 3) := by decide +kernel
theorem dX12_ruleClause_55 : decode cX12_ruleClause 55 = .ok (.imul, 1) := by decide +kernel
theorem dX12_ruleClause_56 : decode cX12_ruleClause 56 = .ok (.iload_n 1, 1) := by decide +kernel
theorem dX12_ruleClause_57 : decode cX12_ruleClause 57 = .ok (.iadd, 1) := by decide +kernel
theorem dX12_ruleClause_58 : decode cX12_ruleClause 58 = .ok (.istore_n 3, 1) := by decide +kernel
theorem dX12_ruleClause_59 : decode cX12_ruleClause 59 = .ok (.aload_n 0, 1) := by decide +kernel
theorem dX12_ruleClause_60 : decode cX12_ruleClause 60 = .ok (.getfield 75, 3) := by decide +kernel
theorem dX12_ruleClause_63 : decode cX12_ruleClause 63 = .ok (.iload_n 3, 1) := by decide +kernel
theorem dX12_ruleClause_64 : decode cX12_ruleClause 64 = .ok (.aload_n 0, 1) := by decide +kernel
theorem dX12_ruleClause_65 : decode cX12_ruleClause 65 = .ok (.getfield 213, 3) := by decide +kernel
theorem dX12_ruleClause_68 : decode cX12_ruleClause 68 = .ok (.iastore, 1) := by decide +kernel
theorem dX12_ruleClause_69 : decode cX12_ruleClause 69 = .ok (.aload_n 0, 1) := by decide +kernel
theorem dX12_ruleClause_70 : decode cX12_ruleClause 70 = .ok (.invokevirtual 248, 3) := by decide +kernel
theorem dX12_ruleClause_73 : decode cX12_ruleClause 73 = .ok (.aload_n 0, 1) := by decide +kernel
theorem dX12_ruleClause_74 : decode cX12_ruleClause 74 = .ok (.getfield 78, 3) := by decide +kernel
theorem dX12_ruleClause_77 : decode cX12_ruleClause 77 = .ok (.iload_n 3, 1) := by decide +kernel
theorem dX12_ruleClause_78 : decode cX12_ruleClause 78 = .ok (.aload_n 0, 1) := by decide +kernel
theorem dX12_ruleClause_79 : decode cX12_ruleClause 79 = .ok (.getfield 213, 3) := by decide +kernel
theorem dX12_ruleClause_82 : decode cX12_ruleClause 82 = .ok (.iastore, 1) := by decide +kernel
theorem dX12_ruleClause_83 : decode cX12_ruleClause 83 = .ok (.aload_n 0, 1) := by decide +kernel
theorem dX12_ruleClause_84 : decode cX12_ruleClause 84 = .ok (.getfield 180, 3) := by decide +kernel
theorem dX12_ruleClause_87 : decode cX12_ruleClause 87 = .ok (.ifCond .ne 17, 3) := by decide +kernel
theorem dX12_ruleClause_90 : decode cX12_ruleClause 90 = .ok (.aload_n 0, 1) := by decide +kernel
theorem dX12_ruleClause_91 : decode cX12_ruleClause 91 = .ok (.ldc_w 325, 3) := by decide +kernel
theorem dX12_ruleClause_94 : decode cX12_ruleClause 94 = .ok (.invokevirtual 327, 3) := by decide +kernel
theorem dX12_ruleClause_97 : decode cX12_ruleClause 97 = .ok (.ifCond .eq 7, 3) := by decide +kernel
theorem dX12_ruleClause_100 : decode cX12_ruleClause 100 = .ok (.aload_n 0, 1) := by decide +kernel
theorem dX12_ruleClause_101 : decode cX12_ruleClause 101 = .ok (.invokevirtual 330, 3) := by decide +kernel
theorem dX12_ruleClause_104 : decode cX12_ruleClause 104 = .ok (.aload_n 0, 1) := by decide +kernel
theorem dX12_ruleClause_105 : decode cX12_ruleClause 105 = .ok (.getfield 81, 3) := by decide +kernel
theorem dX12_ruleClause_108 : decode cX12_ruleClause 108 = .ok (.iload_n 3, 1) := by decide +kernel
theorem dX12_ruleClause_109 : decode cX12_ruleClause 109 = .ok (.aload_n 0, 1) := by decide +kernel
theorem dX12_ruleClause_110 : decode cX12_ruleClause 110 = .ok (.getfield 213, 3) := by decide +kernel
theorem dX12_ruleClause_113 : decode cX12_ruleClause 113 = .ok (.iastore, 1) := by decide +kernel
theorem dX12_ruleClause_114 : decode cX12_ruleClause 114 = .ok (.return_, 1) := by decide +kernel
theorem dX12_rule_0 : decode cX12_rule 0 = .ok (.aload_n 0, 1) := by decide +kernel
theorem dX12_rule_1 : decode cX12_rule 1 = .ok (.getfield 333, 3) := by decide +kernel
theorem dX12_rule_4 : decode cX12_rule 4 = .ok (.bipush 6, 2) := by decide +kernel
theorem dX12_rule_6 : decode cX12_rule 6 = .ok (.if_icmp .ne 5, 3) := by decide +kernel
theorem dX12_rule_9 : decode cX12_rule 9 = .ok (.iconst (-1), 1) := by decide +kernel
theorem dX12_rule_10 : decode cX12_rule 10 = .ok (.ireturn, 1) := by decide +kernel
theorem dX12_rule_11 : decode cX12_rule 11 = .ok (.aload_n 0, 1) := by decide +kernel
theorem dX12_rule_12 : decode cX12_rule 12 = .ok (.aload_n 0, 1) := by decide +kernel
theorem dX12_rule_13 : decode cX12_rule 13 = .ok (.getfield 333, 3) := by decide +kernel
theorem dX12_rule_16 : decode cX12_rule 16 = .ok (.putfield 210, 3) := by decide +kernel
theorem dX12_rule_19 : decode cX12_rule 19 = .ok (.aload_n 0, 1) := by decide +kernel
theorem dX12_rule_20 : decode cX12_rule 20 = .ok (.invokevirtual 301, 3) := by decide +kernel
theorem dX12_rule_23 : decode cX12_rule 23 = .ok (.iconst 0, 1) := by decide +kernel
theorem dX12_rule_24 : decode cX12_rule 24 = .ok (.istore_n 1, 1) := by decide +kernel
theorem dX12_rule_25 : decode cX12_rule 25 = .ok (.iconst 1, 1) := by decide +kernel
theorem dX12_rule_26 : decode cX12_rule 26 = .ok (.istore_n 2, 1) := by decide +kernel
theorem dX12_rule_27 : decode cX12_rule 27 = .ok (.iload_n 2, 1) := by decide +kernel
theorem dX12_rule_28 : decode cX12_rule 28 = .ok (.ifCond .eq 19, 3) := by decide +kernel
theorem dX12_rule_31 : decode cX12_rule 31 = .ok (.aload_n 0, 1) := by decide +kernel
theorem dX12_rule_32 : decode cX12_rule 32 = .ok (.iload_n 1, 1) := by decide +kernel
theorem dX12_rule_33 : decode cX12_rule 33 = .ok (.invokevirtual 336, 3) := by decide +kernel
theorem dX12_rule_36 : decode cX12_rule 36 = .ok (.iinc 1 1, 3) := by decide +kernel
theorem dX12_rule_39 : decode cX12_rule 39 = .ok (.aload_n 0, 1) := by decide +kernel
theorem dX12_rule_40 : decode cX12_rule 40 = .ok (.invokevirtual 307, 3) := by decide +kernel
theorem dX12_rule_43 : decode cX12_rule 43 = .ok (.istore_n 2, 1) := by decide +kernel
theorem dX12_rule_44 : decode cX12_rule 44 = .ok (.goto (-17), 3) := by decide +kernel
theorem dX12_rule_47 : decode cX12_rule 47 = .ok (.aload_n 0, 1) := by decide +kernel
theorem dX12_rule_48 : decode cX12_rule 48 = .ok (.iconst 0, 1) := by decide +kernel
theorem dX12_rule_49 : decode cX12_rule 49 = .ok (.putfield 151, 3) := by decide +kernel
theorem dX12_rule_52 : decode cX12_rule 52 = .ok (.aload_n 0, 1) := by decide +kernel
theorem dX12_rule_53 : decode cX12_rule 53 = .ok (.getfield 72, 3) := by decide +kernel
theorem dX12_rule_56 : decode cX12_rule 56 = .ok (.aload_n 0, 1) := by decide +kernel
theorem dX12_rule_57 : decode cX12_rule 57 = .ok (.getfield 210, 3) := by decide +kernel
theorem dX12_rule_60 : decode cX12_rule 60 = .ok (.iload_n 1, 1) := by decide +kernel
theorem dX12_rule_61 : decode cX12_rule 61 = .ok (.iastore, 1) := by decide +kernel
theorem dX12_rule_62 : decode cX12_rule 62 = .ok (.aload_n 0, 1) := by decide +kernel
theorem dX12_rule_63 : decode cX12_rule 63 = .ok (.dup, 1) := by decide +kernel
theorem dX12_rule_64 : decode cX12_rule 64 = .ok (.getfield 333, 3) := by decide +kernel
theorem dX12_rule_67 : decode cX12_rule 67 = .ok (.aload_n 0, 1) := by decide +kernel
theorem dX12_rule_68 : decode cX12_rule 68 = .ok (.getfield 180, 3) := by decide +kernel
theorem dX12_rule_71 : decode cX12_rule 71 = .ok (.ifCond .ne 7, 3) := by decide +kernel
theorem dX12_rule_74 : decode cX12_rule 74 = .ok (.iconst 1, 1) := by decide +kernel
theorem dX12_rule_75 : decode cX12_rule 75 = .ok (.goto 4, 3) := by decide +kernel
theorem dX12_rule_78 : decode cX12_rule 78 = .ok (.iconst 0, 1) := by decide +kernel
theorem dX12_rule_79 : decode cX12_rule 79 = .ok (.iadd, 1) := by decide +kernel
theorem dX12_rule_80 : decode cX12_rule 80 = .ok (.putfield 333, 3) := by decide +kernel
theorem dX12_rule_83 : decode cX12_rule 83 = .ok (.aload_n 0, 1) := by decide +kernel
theorem dX12_rule_84 : decode cX12_rule 84 = .ok (.getfield 180, 3) := by decide +kernel
theorem dX12_rule_87 : decode cX12_rule 87 = .ok (.ifCond .le 13, 3) := by decide +kernel
theorem dX12_rule_90 : decode cX12_rule 90 = .ok (.bipush (-2), 2) := by decide +kernel
theorem dX12_rule_92 : decode cX12_rule 92 = .ok (.aload_n 0, 1) := by decide +kernel
theorem dX12_rule_93 : decode cX12_rule 93 = .ok (.getfield 180, 3) := by decide +kernel
theorem dX12_rule_96 : decode cX12_rule 96 = .ok (.isub, 1) := by decide +kernel
theorem dX12_rule_97 : decode cX12_rule 97 = .ok (.goto 9, 3) := by decide +kernel
theorem dX12_rule_100 : decode cX12_rule 100 = .ok (.aload_n 0, 1) := by decide +kernel
theorem dX12_rule_101 : decode cX12_rule 101 = .ok (.getfield 333, 3) := by decide +kernel
theorem dX12_rule_104 : decode cX12_rule 104 = .ok (.iconst 1, 1) := by decide +kernel
theorem dX12_rule_105 : decode cX12_rule 105 = .ok (.isub, 1) := by decide +kernel
theorem dX12_rule_106 : decode cX12_rule 106 = .ok (.ireturn, 1) := by decide +kernel
theorem dX12_force_0 : decode cX12_force 0 = .ok (.iload_n 1, 1) := by decide +kernel
theorem dX12_force_1 : decode cX12_force 1 = .ok (.i2l, 1) := by decide +kernel
theorem dX12_force_2 : decode cX12_force 2 = .ok (.ldc2_w 339, 3) := by decide +kernel
theorem dX12_force_5 : decode cX12_force 5 = .ok (.aload_n 0, 1) := by decide +kernel
theorem dX12_force_6 : decode cX12_force 6 = .ok (.getfield 333, 3) := by decide +kernel
theorem dX12_force_9 : decode cX12_force 9 = .ok (.iconst 1, 1) := by decide +kernel
theorem dX12_force_10 : decode cX12_force 10 = .ok (.isub, 1) := by decide +kernel
theorem dX12_force_11 : decode cX12_force 11 = .ok (.i2l, 1) := by decide +kernel
theorem dX12_force_12 : decode cX12_force 12 = .ok (.invokestatic 143, 3) := by decide +kernel
theorem dX12_force_15 : decode cX12_force 15 = .ok (.ifCond .ne 6, 3) := by decide +kernel
theorem dX12_force_18 : decode cX12_force 18 = .ok (.bipush (-2), 2) := by decide +kernel
theorem dX12_force_20 : decode cX12_force 20 = .ok (.ireturn, 1) := by decide +kernel
theorem dX12_force_21 : decode cX12_force 21 = .ok (.aload_n 0, 1) := by decide +kernel
theorem dX12_force_22 : decode cX12_force 22 = .ok (.getfield 9, 3) := by decide +kernel
theorem dX12_force_25 : decode cX12_force 25 = .ok (.bipush 10, 2) := by decide +kernel
theorem dX12_force_27 : decode cX12_force 27 = .ok (.iaload, 1) := by decide +kernel
theorem dX12_force_28 : decode cX12_force 28 = .ok (.istore_n 2, 1) := by decide +kernel
theorem dX12_force_29 : decode cX12_force 29 = .ok (.aload_n 0, 1) := by decide +kernel
theorem dX12_force_30 : decode cX12_force 30 = .ok (.getfield 9, 3) := by decide +kernel
theorem dX12_force_33 : decode cX12_force 33 = .ok (.bipush 10, 2) := by decide +kernel
theorem dX12_force_35 : decode cX12_force 35 = .ok (.iload_n 1, 1) := by decide +kernel
theorem dX12_force_36 : decode cX12_force 36 = .ok (.iastore, 1) := by decide +kernel
theorem dX12_force_37 : decode cX12_force 37 = .ok (.iload_n 2, 1) := by decide +kernel
theorem dX12_force_38 : decode cX12_force 38 = .ok (.ireturn, 1) := by decide +kernel
theorem dX12_wanted_0 : decode cX12_wanted 0 = .ok (.aload_n 0, 1) := by decide +kernel
theorem dX12_wanted_1 : decode cX12_wanted 1 = .ok (.getfield 9, 3) := by decide +kernel
theorem dX12_wanted_4 : decode cX12_wanted 4 = .ok (.bipush 10, 2) := by decide +kernel
theorem dX12_wanted_6 : decode cX12_wanted 6 = .ok (.iaload, 1) := by decide +kernel
theorem dX12_wanted_7 : decode cX12_wanted 7 = .ok (.istore_n 1, 1) := by decide +kernel
theorem dX12_wanted_8 : decode cX12_wanted 8 = .ok (.bipush 12, 2) := by decide +kernel
theorem dX12_wanted_10 : decode cX12_wanted 10 = .ok (.iload_n 1, 1) := by decide +kernel
theorem dX12_wanted_11 : decode cX12_wanted 11 = .ok (.imul, 1) := by decide +kernel
theorem dX12_wanted_12 : decode cX12_wanted 12 = .ok (.istore_n 2, 1) := by decide +kernel
theorem dX12_wanted_13 : decode cX12_wanted 13 = .ok (.iload_n 2, 1) := by decide +kernel
theorem dX12_wanted_14 : decode cX12_wanted 14 = .ok (.bipush 12, 2) := by decide +kernel
theorem dX12_wanted_16 : decode cX12_wanted 16 = .ok (.iload_n 1, 1) := by decide +kernel
theorem dX12_wanted_17 : decode cX12_wanted 17 = .ok (.imul, 1) := by decide +kernel
theorem dX12_wanted_18 : decode cX12_wanted 18 = .ok (.aload_n 0, 1) := by decide +kernel
theorem dX12_wanted_19 : decode cX12_wanted 19 = .ok (.getfield 72, 3) := by decide +kernel
theorem dX12_wanted_22 : decode cX12_wanted 22 = .ok (.iload_n 1, 1) := by decide +kernel
theorem dX12_wanted_23 : decode cX12_wanted 23 = .ok (.iaload, 1) := by decide +kernel
theorem dX12_wanted_24 : decode cX12_wanted 24 = .ok (.iadd, 1) := by decide +kernel
theorem dX12_wanted_25 : decode cX12_wanted 25 = .ok (.if_icmp .ge 64, 3) := by decide +kernel
theorem dX12_wanted_28 : decode cX12_wanted 28 = .ok (.aload_n 0, 1) := by decide +kernel
theorem dX12_wanted_29 : decode cX12_wanted 29 = .ok (.getfield 78, 3) := by decide +kernel
theorem dX12_wanted_32 : decode cX12_wanted 32 = .ok (.iload_n 2, 1) := by decide +kernel
theorem dX12_wanted_33 : decode cX12_wanted 33 = .ok (.iaload, 1) := by decide +kernel
theorem dX12_wanted_34 : decode cX12_wanted 34 = .ok (.aload_n 0, 1) := by decide +kernel
theorem dX12_wanted_35 : decode cX12_wanted 35 = .ok (.getfield 81, 3) := by decide +kernel
theorem dX12_wanted_38 : decode cX12_wanted 38 = .ok (.iload_n 2, 1) := by decide +kernel
theorem dX12_wanted_39 : decode cX12_wanted 39 = .ok (.iaload, 1) := by decide +kernel
theorem dX12_wanted_40 : decode cX12_wanted 40 = .ok (.if_icmp .eq 25, 3) := by decide +kernel
theorem dX12_wanted_43 : decode cX12_wanted 43 = .ok (.aload_n 0, 1) := by decide +kernel
theorem dX12_wanted_44 : decode cX12_wanted 44 = .ok (.iload_n 1, 1) := by decide +kernel
theorem dX12_wanted_45 : decode cX12_wanted 45 = .ok (.aload_n 0, 1) := by decide +kernel
theorem dX12_wanted_46 : decode cX12_wanted 46 = .ok (.getfield 78, 3) := by decide +kernel
theorem dX12_wanted_49 : decode cX12_wanted 49 = .ok (.iload_n 2, 1) := by decide +kernel
theorem dX12_wanted_50 : decode cX12_wanted 50 = .ok (.iaload, 1) := by decide +kernel
theorem dX12_wanted_51 : decode cX12_wanted 51 = .ok (.aload_n 0, 1) := by decide +kernel
theorem dX12_wanted_52 : decode cX12_wanted 52 = .ok (.getfield 81, 3) := by decide +kernel
theorem dX12_wanted_55 : decode cX12_wanted 55 = .ok (.iload_n 2, 1) := by decide +kernel
theorem dX12_wanted_56 : decode cX12_wanted 56 = .ok (.iaload, 1) := by decide +kernel
theorem dX12_wanted_57 : decode cX12_wanted 57 = .ok (.invokevirtual 341, 3) := by decide +kernel
theorem dX12_wanted_60 : decode cX12_wanted 60 = .ok (.lconst 1, 1) := by decide +kernel
theorem dX12_wanted_61 : decode cX12_wanted 61 = .ok (.lcmp, 1) := by decide +kernel
theorem dX12_wanted_62 : decode cX12_wanted 62 = .ok (.ifCond .ne 21, 3) := by decide +kernel
theorem dX12_wanted_65 : decode cX12_wanted 65 = .ok (.aload_n 0, 1) := by decide +kernel
theorem dX12_wanted_66 : decode cX12_wanted 66 = .ok (.iload_n 1, 1) := by decide +kernel
theorem dX12_wanted_67 : decode cX12_wanted 67 = .ok (.aload_n 0, 1) := by decide +kernel
theorem dX12_wanted_68 : decode cX12_wanted 68 = .ok (.getfield 75, 3) := by decide +kernel
theorem dX12_wanted_71 : decode cX12_wanted 71 = .ok (.iload_n 2, 1) := by decide +kernel
theorem dX12_wanted_72 : decode cX12_wanted 72 = .ok (.iaload, 1) := by decide +kernel
theorem dX12_wanted_73 : decode cX12_wanted 73 = .ok (.aload_n 0, 1) := by decide +kernel
theorem dX12_wanted_74 : decode cX12_wanted 74 = .ok (.getfield 78, 3) := by decide +kernel
theorem dX12_wanted_77 : decode cX12_wanted 77 = .ok (.iload_n 2, 1) := by decide +kernel
theorem dX12_wanted_78 : decode cX12_wanted 78 = .ok (.iaload, 1) := by decide +kernel
theorem dX12_wanted_79 : decode cX12_wanted 79 = .ok (.invokevirtual 341, 3) := by decide +kernel
theorem dX12_wanted_82 : decode cX12_wanted 82 = .ok (.lreturn, 1) := by decide +kernel
theorem dX12_wanted_83 : decode cX12_wanted 83 = .ok (.iinc 2 1, 3) := by decide +kernel
theorem dX12_wanted_86 : decode cX12_wanted 86 = .ok (.goto (-73), 3) := by decide +kernel
theorem dX12_wanted_89 : decode cX12_wanted 89 = .ok (.lconst 0, 1) := by decide +kernel
theorem dX12_wanted_90 : decode cX12_wanted 90 = .ok (.lreturn, 1) := by decide +kernel
theorem dX12_truth_0 : decode cX12_truth 0 = .ok (.iload_n 0, 1) := by decide +kernel
theorem dX12_truth_1 : decode cX12_truth 1 = .ok (.ifCond .eq 7, 3) := by decide +kernel
theorem dX12_truth_4 : decode cX12_truth 4 = .ok (.lconst 1, 1) := by decide +kernel
theorem dX12_truth_5 : decode cX12_truth 5 = .ok (.goto 4, 3) := by decide +kernel
theorem dX12_truth_8 : decode cX12_truth 8 = .ok (.lconst 0, 1) := by decide +kernel
theorem dX12_truth_9 : decode cX12_truth 9 = .ok (.lreturn, 1) := by decide +kernel
theorem dX12_both_0 : decode cX12_both 0 = .ok (.iload_n 0, 1) := by decide +kernel
theorem dX12_both_1 : decode cX12_both 1 = .ok (.tableswitch 190 2 15 #[71, 75, 111, 126, 141, 156, 171, 190, 186, 190, 190, 79, 83, 97], 71) := by decide +kernel
theorem dX12_both_72 : decode cX12_both 72 = .ok (.lload_n 1, 1) := by decide +kernel
theorem dX12_both_73 : decode cX12_both 73 = .ok (.lload_n 3, 1) := by decide +kernel
theorem dX12_both_74 : decode cX12_both 74 = .ok (.ladd, 1) := by decide +kernel
theorem dX12_both_75 : decode cX12_both 75 = .ok (.lreturn, 1) := by decide +kernel
theorem dX12_both_76 : decode cX12_both 76 = .ok (.lload_n 1, 1) := by decide +kernel
theorem dX12_both_77 : decode cX12_both 77 = .ok (.lload_n 3, 1) := by decide +kernel
theorem dX12_both_78 : decode cX12_both 78 = .ok (.lsub, 1) := by decide +kernel
theorem dX12_both_79 : decode cX12_both 79 = .ok (.lreturn, 1) := by decide +kernel
theorem dX12_both_80 : decode cX12_both 80 = .ok (.lload_n 1, 1) := by decide +kernel
theorem dX12_both_81 : decode cX12_both 81 = .ok (.lload_n 3, 1) := by decide +kernel
theorem dX12_both_82 : decode cX12_both 82 = .ok (.lmul, 1) := by decide +kernel
theorem dX12_both_83 : decode cX12_both 83 = .ok (.lreturn, 1) := by decide +kernel
theorem dX12_both_84 : decode cX12_both 84 = .ok (.lload_n 3, 1) := by decide +kernel
theorem dX12_both_85 : decode cX12_both 85 = .ok (.lconst 0, 1) := by decide +kernel
theorem dX12_both_86 : decode cX12_both 86 = .ok (.lcmp, 1) := by decide +kernel
theorem dX12_both_87 : decode cX12_both 87 = .ok (.ifCond .ne 7, 3) := by decide +kernel
theorem dX12_both_90 : decode cX12_both 90 = .ok (.lconst 0, 1) := by decide +kernel
theorem dX12_both_91 : decode cX12_both 91 = .ok (.goto 6, 3) := by decide +kernel
theorem dX12_both_94 : decode cX12_both 94 = .ok (.lload_n 1, 1) := by decide +kernel
theorem dX12_both_95 : decode cX12_both 95 = .ok (.lload_n 3, 1) := by decide +kernel
theorem dX12_both_96 : decode cX12_both 96 = .ok (.ldiv, 1) := by decide +kernel
theorem dX12_both_97 : decode cX12_both 97 = .ok (.lreturn, 1) := by decide +kernel
theorem dX12_both_98 : decode cX12_both 98 = .ok (.lload_n 3, 1) := by decide +kernel
theorem dX12_both_99 : decode cX12_both 99 = .ok (.lconst 0, 1) := by decide +kernel
theorem dX12_both_100 : decode cX12_both 100 = .ok (.lcmp, 1) := by decide +kernel
theorem dX12_both_101 : decode cX12_both 101 = .ok (.ifCond .ne 7, 3) := by decide +kernel
theorem dX12_both_104 : decode cX12_both 104 = .ok (.lconst 0, 1) := by decide +kernel
theorem dX12_both_105 : decode cX12_both 105 = .ok (.goto 6, 3) := by decide +kernel
theorem dX12_both_108 : decode cX12_both 108 = .ok (.lload_n 1, 1) := by decide +kernel
theorem dX12_both_109 : decode cX12_both 109 = .ok (.lload_n 3, 1) := by decide +kernel
theorem dX12_both_110 : decode cX12_both 110 = .ok (.lrem, 1) := by decide +kernel
theorem dX12_both_111 : decode cX12_both 111 = .ok (.lreturn, 1) := by decide +kernel
theorem dX12_both_112 : decode cX12_both 112 = .ok (.lload_n 1, 1) := by decide +kernel
theorem dX12_both_113 : decode cX12_both 113 = .ok (.lload_n 3, 1) := by decide +kernel
theorem dX12_both_114 : decode cX12_both 114 = .ok (.lcmp, 1) := by decide +kernel
theorem dX12_both_115 : decode cX12_both 115 = .ok (.ifCond .ge 7, 3) := by decide +kernel
theorem dX12_both_118 : decode cX12_both 118 = .ok (.iconst 1, 1) := by decide +kernel
theorem dX12_both_119 : decode cX12_both 119 = .ok (.goto 4, 3) := by decide +kernel
theorem dX12_both_122 : decode cX12_both 122 = .ok (.iconst 0, 1) := by decide +kernel
theorem dX12_both_123 : decode cX12_both 123 = .ok (.invokestatic 345, 3) := by decide +kernel
theorem dX12_both_126 : decode cX12_both 126 = .ok (.lreturn, 1) := by decide +kernel
theorem dX12_both_127 : decode cX12_both 127 = .ok (.lload_n 1, 1) := by decide +kernel
theorem dX12_both_128 : decode cX12_both 128 = .ok (.lload_n 3, 1) := by decide +kernel
theorem dX12_both_129 : decode cX12_both 129 = .ok (.lcmp, 1) := by decide +kernel
theorem dX12_both_130 : decode cX12_both 130 = .ok (.ifCond .gt 7, 3) := by decide +kernel
theorem dX12_both_133 : decode cX12_both 133 = .ok (.iconst 1, 1) := by decide +kernel
theorem dX12_both_134 : decode cX12_both 134 = .ok (.goto 4, 3) := by decide +kernel
theorem dX12_both_137 : decode cX12_both 137 = .ok (.iconst 0, 1) := by decide +kernel
theorem dX12_both_138 : decode cX12_both 138 = .ok (.invokestatic 345, 3) := by decide +kernel
theorem dX12_both_141 : decode cX12_both 141 = .ok (.lreturn, 1) := by decide +kernel
theorem dX12_both_142 : decode cX12_both 142 = .ok (.lload_n 1, 1) := by decide +kernel
theorem dX12_both_143 : decode cX12_both 143 = .ok (.lload_n 3, 1) := by decide +kernel
theorem dX12_both_144 : decode cX12_both 144 = .ok (.lcmp, 1) := by decide +kernel
theorem dX12_both_145 : decode cX12_both 145 = .ok (.ifCond .ne 7, 3) := by decide +kernel
theorem dX12_both_148 : decode cX12_both 148 = .ok (.iconst 1, 1) := by decide +kernel
theorem dX12_both_149 : decode cX12_both 149 = .ok (.goto 4, 3) := by decide +kernel
theorem dX12_both_152 : decode cX12_both 152 = .ok (.iconst 0, 1) := by decide +kernel
theorem dX12_both_153 : decode cX12_both 153 = .ok (.invokestatic 345, 3) := by decide +kernel
theorem dX12_both_156 : decode cX12_both 156 = .ok (.lreturn, 1) := by decide +kernel
theorem dX12_both_157 : decode cX12_both 157 = .ok (.lload_n 1, 1) := by decide +kernel
theorem dX12_both_158 : decode cX12_both 158 = .ok (.lload_n 3, 1) := by decide +kernel
theorem dX12_both_159 : decode cX12_both 159 = .ok (.lcmp, 1) := by decide +kernel
theorem dX12_both_160 : decode cX12_both 160 = .ok (.ifCond .lt 7, 3) := by decide +kernel
theorem dX12_both_163 : decode cX12_both 163 = .ok (.iconst 1, 1) := by decide +kernel
theorem dX12_both_164 : decode cX12_both 164 = .ok (.goto 4, 3) := by decide +kernel
theorem dX12_both_167 : decode cX12_both 167 = .ok (.iconst 0, 1) := by decide +kernel
theorem dX12_both_168 : decode cX12_both 168 = .ok (.invokestatic 345, 3) := by decide +kernel
theorem dX12_both_171 : decode cX12_both 171 = .ok (.lreturn, 1) := by decide +kernel
theorem dX12_both_172 : decode cX12_both 172 = .ok (.lload_n 1, 1) := by decide +kernel
theorem dX12_both_173 : decode cX12_both 173 = .ok (.lload_n 3, 1) := by decide +kernel
theorem dX12_both_174 : decode cX12_both 174 = .ok (.lcmp, 1) := by decide +kernel
theorem dX12_both_175 : decode cX12_both 175 = .ok (.ifCond .le 7, 3) := by decide +kernel
theorem dX12_both_178 : decode cX12_both 178 = .ok (.iconst 1, 1) := by decide +kernel
theorem dX12_both_179 : decode cX12_both 179 = .ok (.goto 4, 3) := by decide +kernel
theorem dX12_both_182 : decode cX12_both 182 = .ok (.iconst 0, 1) := by decide +kernel
theorem dX12_both_183 : decode cX12_both 183 = .ok (.invokestatic 345, 3) := by decide +kernel
theorem dX12_both_186 : decode cX12_both 186 = .ok (.lreturn, 1) := by decide +kernel
theorem dX12_both_187 : decode cX12_both 187 = .ok (.lload_n 1, 1) := by decide +kernel
theorem dX12_both_188 : decode cX12_both 188 = .ok (.lload_n 3, 1) := by decide +kernel
theorem dX12_both_189 : decode cX12_both 189 = .ok (.land, 1) := by decide +kernel
theorem dX12_both_190 : decode cX12_both 190 = .ok (.lreturn, 1) := by decide +kernel
theorem dX12_both_191 : decode cX12_both 191 = .ok (.lload_n 1, 1) := by decide +kernel
theorem dX12_both_192 : decode cX12_both 192 = .ok (.lload_n 3, 1) := by decide +kernel
theorem dX12_both_193 : decode cX12_both 193 = .ok (.lor, 1) := by decide +kernel
theorem dX12_both_194 : decode cX12_both 194 = .ok (.lreturn, 1) := by decide +kernel
theorem dX12_answer_0 : decode cX12_answer 0 = .ok (.iconst 0, 1) := by decide +kernel
theorem dX12_answer_1 : decode cX12_answer 1 = .ok (.istore 4, 2) := by decide +kernel
theorem dX12_answer_3 : decode cX12_answer 3 = .ok (.iload_n 2, 1) := by decide +kernel
theorem dX12_answer_4 : decode cX12_answer 4 = .ok (.istore 5, 2) := by decide +kernel
theorem dX12_answer_6 : decode cX12_answer 6 = .ok (.iload 5, 2) := by decide +kernel
theorem dX12_answer_8 : decode cX12_answer 8 = .ok (.iload_n 3, 1) := by decide +kernel
theorem dX12_answer_9 : decode cX12_answer 9 = .ok (.if_icmp .ge 144, 3) := by decide +kernel
theorem dX12_answer_12 : decode cX12_answer 12 = .ok (.aload_n 0, 1) := by decide +kernel
theorem dX12_answer_13 : decode cX12_answer 13 = .ok (.getfield 66, 3) := by decide +kernel
theorem dX12_answer_16 : decode cX12_answer 16 = .ok (.sipush 300, 3) := by decide +kernel
theorem dX12_answer_19 : decode cX12_answer 19 = .ok (.iload_n 1, 1) := by decide +kernel
theorem dX12_answer_20 : decode cX12_answer 20 = .ok (.imul, 1) := by decide +kernel
theorem dX12_answer_21 : decode cX12_answer 21 = .ok (.iload 5, 2) := by decide +kernel
theorem dX12_answer_23 : decode cX12_answer 23 = .ok (.iadd, 1) := by decide +kernel
theorem dX12_answer_24 : decode cX12_answer 24 = .ok (.iaload, 1) := by decide +kernel
theorem dX12_answer_25 : decode cX12_answer 25 = .ok (.istore 6, 2) := by decide +kernel
theorem dX12_answer_27 : decode cX12_answer 27 = .ok (.aload_n 0, 1) := by decide +kernel
theorem dX12_answer_28 : decode cX12_answer 28 = .ok (.getfield 69, 3) := by decide +kernel
theorem dX12_answer_31 : decode cX12_answer 31 = .ok (.sipush 300, 3) := by decide +kernel
theorem dX12_answer_34 : decode cX12_answer 34 = .ok (.iload_n 1, 1) := by decide +kernel
theorem dX12_answer_35 : decode cX12_answer 35 = .ok (.imul, 1) := by decide +kernel
theorem dX12_answer_36 : decode cX12_answer 36 = .ok (.iload 5, 2) := by decide +kernel
theorem dX12_answer_38 : decode cX12_answer 38 = .ok (.iadd, 1) := by decide +kernel
theorem dX12_answer_39 : decode cX12_answer 39 = .ok (.iaload, 1) := by decide +kernel
theorem dX12_answer_40 : decode cX12_answer 40 = .ok (.istore 7, 2) := by decide +kernel
theorem dX12_answer_42 : decode cX12_answer 42 = .ok (.iload 6, 2) := by decide +kernel
theorem dX12_answer_44 : decode cX12_answer 44 = .ok (.ifCond .eq 9, 3) := by decide +kernel
theorem dX12_answer_47 : decode cX12_answer 47 = .ok (.iload 6, 2) := by decide +kernel
theorem dX12_answer_49 : decode cX12_answer 49 = .ok (.iconst 1, 1) := by decide +kernel
theorem dX12_answer_50 : decode cX12_answer 50 = .ok (.if_icmp .ne 34, 3) := by decide +kernel
theorem dX12_answer_53 : decode cX12_answer 53 = .ok (.aload_n 0, 1) := by decide +kernel
theorem dX12_answer_54 : decode cX12_answer 54 = .ok (.getfield 91, 3) := by decide +kernel
theorem dX12_answer_57 : decode cX12_answer 57 = .ok (.iload 4, 2) := by decide +kernel
theorem dX12_answer_59 : decode cX12_answer 59 = .ok (.iload 6, 2) := by decide +kernel
theorem dX12_answer_61 : decode cX12_answer 61 = .ok (.ifCond .ne 9, 3) := by decide +kernel
theorem dX12_answer_64 : decode cX12_answer 64 = .ok (.iload 7, 2) := by decide +kernel
theorem dX12_answer_66 : decode cX12_answer 66 = .ok (.i2l, 1) := by decide +kernel
theorem dX12_answer_67 : decode cX12_answer 67 = .ok (.goto 10, 3) := by decide +kernel
theorem dX12_answer_70 : decode cX12_answer 70 = .ok (.aload_n 0, 1) := by decide +kernel
theorem dX12_answer_71 : decode cX12_answer 71 = .ok (.getfield 87, 3) := by decide +kernel
theorem dX12_answer_74 : decode cX12_answer 74 = .ok (.iload 7, 2) := by decide +kernel
theorem dX12_answer_76 : decode cX12_answer 76 = .ok (.laload, 1) := by decide +kernel
theorem dX12_answer_77 : decode cX12_answer 77 = .ok (.lastore, 1) := by decide +kernel
theorem dX12_answer_78 : decode cX12_answer 78 = .ok (.iinc 4 1, 3) := by decide +kernel
theorem dX12_answer_81 : decode cX12_answer 81 = .ok (.goto 66, 3) := by decide +kernel
theorem dX12_answer_84 : decode cX12_answer 84 = .ok (.iload 6, 2) := by decide +kernel
theorem dX12_answer_86 : decode cX12_answer 86 = .ok (.bipush 9, 2) := by decide +kernel
theorem dX12_answer_88 : decode cX12_answer 88 = .ok (.if_icmp .ne 26, 3) := by decide +kernel
theorem dX12_answer_91 : decode cX12_answer 91 = .ok (.aload_n 0, 1) := by decide +kernel
theorem dX12_answer_92 : decode cX12_answer 92 = .ok (.getfield 91, 3) := by decide +kernel
theorem dX12_answer_95 : decode cX12_answer 95 = .ok (.iload 4, 2) := by decide +kernel
theorem dX12_answer_97 : decode cX12_answer 97 = .ok (.iconst 1, 1) := by decide +kernel
theorem dX12_answer_98 : decode cX12_answer 98 = .ok (.isub, 1) := by decide +kernel
theorem dX12_answer_99 : decode cX12_answer 99 = .ok (.lconst 1, 1) := by decide +kernel
theorem dX12_answer_100 : decode cX12_answer 100 = .ok (.aload_n 0, 1) := by decide +kernel
theorem dX12_answer_101 : decode cX12_answer 101 = .ok (.getfield 91, 3) := by decide +kernel
theorem dX12_answer_104 : decode cX12_answer 104 = .ok (.iload 4, 2) := by decide +kernel
theorem dX12_answer_106 : decode cX12_answer 106 = .ok (.iconst 1, 1) := by decide +kernel
theorem dX12_answer_107 : decode cX12_answer 107 = .ok (.isub, 1) := by decide +kernel
theorem dX12_answer_108 : decode cX12_answer 108 = .ok (.laload, 1) := by decide +kernel
theorem dX12_answer_109 : decode cX12_answer 109 = .ok (.lsub, 1) := by decide +kernel
theorem dX12_answer_110 : decode cX12_answer 110 = .ok (.lastore, 1) := by decide +kernel
theorem dX12_answer_111 : decode cX12_answer 111 = .ok (.goto 36, 3) := by decide +kernel
theorem dX12_answer_114 : decode cX12_answer 114 = .ok (.iinc 4 (-1), 3) := by decide +kernel
theorem dX12_answer_117 : decode cX12_answer 117 = .ok (.aload_n 0, 1) := by decide +kernel
theorem dX12_answer_118 : decode cX12_answer 118 = .ok (.getfield 91, 3) := by decide +kernel
theorem dX12_answer_121 : decode cX12_answer 121 = .ok (.iload 4, 2) := by decide +kernel
theorem dX12_answer_123 : decode cX12_answer 123 = .ok (.iconst 1, 1) := by decide +kernel
theorem dX12_answer_124 : decode cX12_answer 124 = .ok (.isub, 1) := by decide +kernel
theorem dX12_answer_125 : decode cX12_answer 125 = .ok (.iload 6, 2) := by decide +kernel
theorem dX12_answer_127 : decode cX12_answer 127 = .ok (.aload_n 0, 1) := by decide +kernel
theorem dX12_answer_128 : decode cX12_answer 128 = .ok (.getfield 91, 3) := by decide +kernel
theorem dX12_answer_131 : decode cX12_answer 131 = .ok (.iload 4, 2) := by decide +kernel
theorem dX12_answer_133 : decode cX12_answer 133 = .ok (.iconst 1, 1) := by decide +kernel
theorem dX12_answer_134 : decode cX12_answer 134 = .ok (.isub, 1) := by decide +kernel
theorem dX12_answer_135 : decode cX12_answer 135 = .ok (.laload, 1) := by decide +kernel
theorem dX12_answer_136 : decode cX12_answer 136 = .ok (.aload_n 0, 1) := by decide +kernel
theorem dX12_answer_137 : decode cX12_answer 137 = .ok (.getfield 91, 3) := by decide +kernel
theorem dX12_answer_140 : decode cX12_answer 140 = .ok (.iload 4, 2) := by decide +kernel
theorem dX12_answer_142 : decode cX12_answer 142 = .ok (.laload, 1) := by decide +kernel
theorem dX12_answer_143 : decode cX12_answer 143 = .ok (.invokestatic 349, 3) := by decide +kernel
theorem dX12_answer_146 : decode cX12_answer 146 = .ok (.lastore, 1) := by decide +kernel
theorem dX12_answer_147 : decode cX12_answer 147 = .ok (.iinc 5 1, 3) := by decide +kernel
theorem dX12_answer_150 : decode cX12_answer 150 = .ok (.goto (-144), 3) := by decide +kernel
theorem dX12_answer_153 : decode cX12_answer 153 = .ok (.aload_n 0, 1) := by decide +kernel
theorem dX12_answer_154 : decode cX12_answer 154 = .ok (.getfield 91, 3) := by decide +kernel
theorem dX12_answer_157 : decode cX12_answer 157 = .ok (.iconst 0, 1) := by decide +kernel
theorem dX12_answer_158 : decode cX12_answer 158 = .ok (.laload, 1) := by decide +kernel
theorem dX12_answer_159 : decode cX12_answer 159 = .ok (.lreturn, 1) := by decide +kernel
theorem dX12_toldHeat_0 : decode cX12_toldHeat 0 = .ok (.aload_n 0, 1) := by decide +kernel
theorem dX12_toldHeat_1 : decode cX12_toldHeat 1 = .ok (.getfield 9, 3) := by decide +kernel
theorem dX12_toldHeat_4 : decode cX12_toldHeat 4 = .ok (.iconst 3, 1) := by decide +kernel
theorem dX12_toldHeat_5 : decode cX12_toldHeat 5 = .ok (.iaload, 1) := by decide +kernel
theorem dX12_toldHeat_6 : decode cX12_toldHeat 6 = .ok (.ifCond .ne 7, 3) := by decide +kernel
theorem dX12_toldHeat_9 : decode cX12_toldHeat 9 = .ok (.iconst 0, 1) := by decide +kernel
theorem dX12_toldHeat_10 : decode cX12_toldHeat 10 = .ok (.goto 16, 3) := by decide +kernel
theorem dX12_toldHeat_13 : decode cX12_toldHeat 13 = .ok (.aload_n 0, 1) := by decide +kernel
theorem dX12_toldHeat_14 : decode cX12_toldHeat 14 = .ok (.getfield 22, 3) := by decide +kernel
theorem dX12_toldHeat_17 : decode cX12_toldHeat 17 = .ok (.iload_n 1, 1) := by decide +kernel
theorem dX12_toldHeat_18 : decode cX12_toldHeat 18 = .ok (.aload_n 0, 1) := by decide +kernel
theorem dX12_toldHeat_19 : decode cX12_toldHeat 19 = .ok (.getfield 9, 3) := by decide +kernel
theorem dX12_toldHeat_22 : decode cX12_toldHeat 22 = .ok (.iconst 3, 1) := by decide +kernel
theorem dX12_toldHeat_23 : decode cX12_toldHeat 23 = .ok (.iaload, 1) := by decide +kernel
theorem dX12_toldHeat_24 : decode cX12_toldHeat 24 = .ok (.irem, 1) := by decide +kernel
theorem dX12_toldHeat_25 : decode cX12_toldHeat 25 = .ok (.iaload, 1) := by decide +kernel
theorem dX12_toldHeat_26 : decode cX12_toldHeat 26 = .ok (.ireturn, 1) := by decide +kernel
theorem dX12_heat_0 : decode cX12_heat 0 = .ok (.aload_n 0, 1) := by decide +kernel
theorem dX12_heat_1 : decode cX12_heat 1 = .ok (.getfield 94, 3) := by decide +kernel
theorem dX12_heat_4 : decode cX12_heat 4 = .ok (.iconst (-1), 1) := by decide +kernel
theorem dX12_heat_5 : decode cX12_heat 5 = .ok (.if_icmp .eq 8, 3) := by decide +kernel
theorem dX12_heat_8 : decode cX12_heat 8 = .ok (.aload_n 0, 1) := by decide +kernel
theorem dX12_heat_9 : decode cX12_heat 9 = .ok (.getfield 94, 3) := by decide +kernel
theorem dX12_heat_12 : decode cX12_heat 12 = .ok (.ireturn, 1) := by decide +kernel
theorem dX12_heat_13 : decode cX12_heat 13 = .ok (.aload_n 0, 1) := by decide +kernel
theorem dX12_heat_14 : decode cX12_heat 14 = .ok (.aload_n 0, 1) := by decide +kernel
theorem dX12_heat_15 : decode cX12_heat 15 = .ok (.getfield 9, 3) := by decide +kernel
theorem dX12_heat_18 : decode cX12_heat 18 = .ok (.iconst 5, 1) := by decide +kernel
theorem dX12_heat_19 : decode cX12_heat 19 = .ok (.iaload, 1) := by decide +kernel
theorem dX12_heat_20 : decode cX12_heat 20 = .ok (.invokevirtual 353, 3) := by decide +kernel
theorem dX12_heat_23 : decode cX12_heat 23 = .ok (.aload_n 0, 1) := by decide +kernel
theorem dX12_heat_24 : decode cX12_heat 24 = .ok (.getfield 9, 3) := by decide +kernel
theorem dX12_heat_27 : decode cX12_heat 27 = .ok (.bipush 7, 2) := by decide +kernel
theorem dX12_heat_29 : decode cX12_heat 29 = .ok (.iaload, 1) := by decide +kernel
theorem dX12_heat_30 : decode cX12_heat 30 = .ok (.ifCond .le 7, 3) := by decide +kernel
theorem dX12_heat_33 : decode cX12_heat 33 = .ok (.iconst 3, 1) := by decide +kernel
theorem dX12_heat_34 : decode cX12_heat 34 = .ok (.goto 4, 3) := by decide +kernel
theorem dX12_heat_37 : decode cX12_heat 37 = .ok (.iconst 0, 1) := by decide +kernel
theorem dX12_heat_38 : decode cX12_heat 38 = .ok (.isub, 1) := by decide +kernel
theorem dX12_heat_39 : decode cX12_heat 39 = .ok (.istore_n 1, 1) := by decide +kernel
theorem dX12_heat_40 : decode cX12_heat 40 = .ok (.iload_n 1, 1) := by decide +kernel
theorem dX12_heat_41 : decode cX12_heat 41 = .ok (.ifCond .ge 7, 3) := by decide +kernel
theorem dX12_heat_44 : decode cX12_heat 44 = .ok (.iconst 0, 1) := by decide +kernel
theorem dX12_heat_45 : decode cX12_heat 45 = .ok (.goto 4, 3) := by decide +kernel
theorem dX12_heat_48 : decode cX12_heat 48 = .ok (.iload_n 1, 1) := by decide +kernel
theorem dX12_heat_49 : decode cX12_heat 49 = .ok (.ireturn, 1) := by decide +kernel
theorem dX12_blockOf_0 : decode cX12_blockOf 0 = .ok (.iconst 1, 1) := by decide +kernel
theorem dX12_blockOf_1 : decode cX12_blockOf 1 = .ok (.iload_n 1, 1) := by decide +kernel
theorem dX12_blockOf_2 : decode cX12_blockOf 2 = .ok (.ishl, 1) := by decide +kernel
theorem dX12_blockOf_3 : decode cX12_blockOf 3 = .ok (.istore_n 3, 1) := by decide +kernel
theorem dX12_blockOf_4 : decode cX12_blockOf 4 = .ok (.iconst 1, 1) := by decide +kernel
theorem dX12_blockOf_5 : decode cX12_blockOf 5 = .ok (.istore 4, 2) := by decide +kernel
theorem dX12_blockOf_7 : decode cX12_blockOf 7 = .ok (.iload 4, 2) := by decide +kernel
theorem dX12_blockOf_9 : decode cX12_blockOf 9 = .ok (.ifCond .eq 99, 3) := by decide +kernel
theorem dX12_blockOf_12 : decode cX12_blockOf 12 = .ok (.iload_n 3, 1) := by decide +kernel
theorem dX12_blockOf_13 : decode cX12_blockOf 13 = .ok (.istore 5, 2) := by decide +kernel
theorem dX12_blockOf_15 : decode cX12_blockOf 15 = .ok (.iconst 0, 1) := by decide +kernel
theorem dX12_blockOf_16 : decode cX12_blockOf 16 = .ok (.istore 6, 2) := by decide +kernel
theorem dX12_blockOf_18 : decode cX12_blockOf 18 = .ok (.iload 6, 2) := by decide +kernel
theorem dX12_blockOf_20 : decode cX12_blockOf 20 = .ok (.aload_n 0, 1) := by decide +kernel
theorem dX12_blockOf_21 : decode cX12_blockOf 21 = .ok (.getfield 9, 3) := by decide +kernel
theorem dX12_blockOf_24 : decode cX12_blockOf 24 = .ok (.iconst 4, 1) := by decide +kernel
theorem dX12_blockOf_25 : decode cX12_blockOf 25 = .ok (.iaload, 1) := by decide +kernel
theorem dX12_blockOf_26 : decode cX12_blockOf 26 = .ok (.if_icmp .ge 66, 3) := by decide +kernel
theorem dX12_blockOf_29 : decode cX12_blockOf 29 = .ok (.iconst 0, 1) := by decide +kernel
theorem dX12_blockOf_30 : decode cX12_blockOf 30 = .ok (.istore 7, 2) := by decide +kernel
theorem dX12_blockOf_32 : decode cX12_blockOf 32 = .ok (.iload 7, 2) := by decide +kernel
theorem dX12_blockOf_34 : decode cX12_blockOf 34 = .ok (.aload_n 0, 1) := by decide +kernel
theorem dX12_blockOf_35 : decode cX12_blockOf 35 = .ok (.getfield 9, 3) := by decide +kernel
theorem dX12_blockOf_38 : decode cX12_blockOf 38 = .ok (.iconst 4, 1) := by decide +kernel
theorem dX12_blockOf_39 : decode cX12_blockOf 39 = .ok (.iaload, 1) := by decide +kernel
theorem dX12_blockOf_40 : decode cX12_blockOf 40 = .ok (.if_icmp .ge 46, 3) := by decide +kernel
theorem dX12_blockOf_43 : decode cX12_blockOf 43 = .ok (.iload_n 3, 1) := by decide +kernel
theorem dX12_blockOf_44 : decode cX12_blockOf 44 = .ok (.iload_n 3, 1) := by decide +kernel
theorem dX12_blockOf_45 : decode cX12_blockOf 45 = .ok (.iload 6, 2) := by decide +kernel
theorem dX12_blockOf_47 : decode cX12_blockOf 47 = .ok (.invokestatic 356, 3) := by decide +kernel
theorem dX12_blockOf_50 : decode cX12_blockOf 50 = .ok (.ifCond .eq 27, 3) := by decide +kernel
theorem dX12_blockOf_53 : decode cX12_blockOf 53 = .ok (.aload_n 0, 1) := by decide +kernel
theorem dX12_blockOf_54 : decode cX12_blockOf 54 = .ok (.getfield 19, 3) := by decide +kernel
theorem dX12_blockOf_57 : decode cX12_blockOf 57 = .ok (.bipush 6, 2) := by decide +kernel
theorem dX12_blockOf_59 : decode cX12_blockOf 59 = .ok (.iload 6, 2) := by decide +kernel
theorem dX12_blockOf_61 : decode cX12_blockOf 61 = .ok (.imul, 1) := by decide +kernel
theorem dX12_blockOf_62 : decode cX12_blockOf 62 = .ok (.iload 7, 2) := by decide +kernel
theorem dX12_blockOf_64 : decode cX12_blockOf 64 = .ok (.iadd, 1) := by decide +kernel
theorem dX12_blockOf_65 : decode cX12_blockOf 65 = .ok (.iaload, 1) := by decide +kernel
theorem dX12_blockOf_66 : decode cX12_blockOf 66 = .ok (.iload_n 2, 1) := by decide +kernel
theorem dX12_blockOf_67 : decode cX12_blockOf 67 = .ok (.if_icmp .le 10, 3) := by decide +kernel
theorem dX12_blockOf_70 : decode cX12_blockOf 70 = .ok (.iconst 1, 1) := by decide +kernel
theorem dX12_blockOf_71 : decode cX12_blockOf 71 = .ok (.iload 7, 2) := by decide +kernel
theorem dX12_blockOf_73 : decode cX12_blockOf 73 = .ok (.ishl, 1) := by decide +kernel
theorem dX12_blockOf_74 : decode cX12_blockOf 74 = .ok (.goto 4, 3) := by decide +kernel
theorem dX12_blockOf_77 : decode cX12_blockOf 77 = .ok (.iconst 0, 1) := by decide +kernel
theorem dX12_blockOf_78 : decode cX12_blockOf 78 = .ok (.ior, 1) := by decide +kernel
theorem dX12_blockOf_79 : decode cX12_blockOf 79 = .ok (.istore_n 3, 1) := by decide +kernel
theorem dX12_blockOf_80 : decode cX12_blockOf 80 = .ok (.iinc 7 1, 3) := by decide +kernel
theorem dX12_blockOf_83 : decode cX12_blockOf 83 = .ok (.goto (-51), 3) := by decide +kernel
theorem dX12_blockOf_86 : decode cX12_blockOf 86 = .ok (.iinc 6 1, 3) := by decide +kernel
theorem dX12_blockOf_89 : decode cX12_blockOf 89 = .ok (.goto (-71), 3) := by decide +kernel
theorem dX12_blockOf_92 : decode cX12_blockOf 92 = .ok (.iload_n 3, 1) := by decide +kernel
theorem dX12_blockOf_93 : decode cX12_blockOf 93 = .ok (.iload 5, 2) := by decide +kernel
theorem dX12_blockOf_95 : decode cX12_blockOf 95 = .ok (.if_icmp .eq 7, 3) := by decide +kernel
theorem dX12_blockOf_98 : decode cX12_blockOf 98 = .ok (.iconst 1, 1) := by decide +kernel
theorem dX12_blockOf_99 : decode cX12_blockOf 99 = .ok (.goto 4, 3) := by decide +kernel
theorem dX12_blockOf_102 : decode cX12_blockOf 102 = .ok (.iconst 0, 1) := by decide +kernel
theorem dX12_blockOf_103 : decode cX12_blockOf 103 = .ok (.istore 4, 2) := by decide +kernel
theorem dX12_blockOf_105 : decode cX12_blockOf 105 = .ok (.goto (-98), 3) := by decide +kernel
theorem dX12_blockOf_108 : decode cX12_blockOf 108 = .ok (.iload_n 3, 1) := by decide +kernel
theorem dX12_blockOf_109 : decode cX12_blockOf 109 = .ok (.ireturn, 1) := by decide +kernel
theorem dX12_isFast_0 : decode cX12_isFast 0 = .ok (.iconst 0, 1) := by decide +kernel
theorem dX12_isFast_1 : decode cX12_isFast 1 = .ok (.istore_n 3, 1) := by decide +kernel
theorem dX12_isFast_2 : decode cX12_isFast 2 = .ok (.iload_n 3, 1) := by decide +kernel
theorem dX12_isFast_3 : decode cX12_isFast 3 = .ok (.aload_n 0, 1) := by decide +kernel
theorem dX12_isFast_4 : decode cX12_isFast 4 = .ok (.getfield 9, 3) := by decide +kernel
theorem dX12_isFast_7 : decode cX12_isFast 7 = .ok (.iconst 4, 1) := by decide +kernel
theorem dX12_isFast_8 : decode cX12_isFast 8 = .ok (.iaload, 1) := by decide +kernel
theorem dX12_isFast_9 : decode cX12_isFast 9 = .ok (.if_icmp .ge 29, 3) := by decide +kernel
theorem dX12_isFast_12 : decode cX12_isFast 12 = .ok (.iload_n 1, 1) := by decide +kernel
theorem dX12_isFast_13 : decode cX12_isFast 13 = .ok (.iload_n 3, 1) := by decide +kernel
theorem dX12_isFast_14 : decode cX12_isFast 14 = .ok (.invokestatic 356, 3) := by decide +kernel
theorem dX12_isFast_17 : decode cX12_isFast 17 = .ok (.ifCond .eq 15, 3) := by decide +kernel
theorem dX12_isFast_20 : decode cX12_isFast 20 = .ok (.aload_n 0, 1) := by decide +kernel
theorem dX12_isFast_21 : decode cX12_isFast 21 = .ok (.getfield 16, 3) := by decide +kernel
theorem dX12_isFast_24 : decode cX12_isFast 24 = .ok (.iload_n 3, 1) := by decide +kernel
theorem dX12_isFast_25 : decode cX12_isFast 25 = .ok (.iaload, 1) := by decide +kernel
theorem dX12_isFast_26 : decode cX12_isFast 26 = .ok (.iload_n 2, 1) := by decide +kernel
theorem dX12_isFast_27 : decode cX12_isFast 27 = .ok (.if_icmp .le 5, 3) := by decide +kernel
theorem dX12_isFast_30 : decode cX12_isFast 30 = .ok (.iconst 1, 1) := by decide +kernel
theorem dX12_isFast_31 : decode cX12_isFast 31 = .ok (.ireturn, 1) := by decide +kernel
theorem dX12_isFast_32 : decode cX12_isFast 32 = .ok (.iinc 3 1, 3) := by decide +kernel
theorem dX12_isFast_35 : decode cX12_isFast 35 = .ok (.goto (-33), 3) := by decide +kernel
theorem dX12_isFast_38 : decode cX12_isFast 38 = .ok (.iconst 0, 1) := by decide +kernel
theorem dX12_isFast_39 : decode cX12_isFast 39 = .ok (.ireturn, 1) := by decide +kernel
theorem dX12_isInRiver_0 : decode cX12_isInRiver 0 = .ok (.aload_n 0, 1) := by decide +kernel
theorem dX12_isInRiver_1 : decode cX12_isInRiver 1 = .ok (.getfield 13, 3) := by decide +kernel
theorem dX12_isInRiver_4 : decode cX12_isInRiver 4 = .ok (.iload_n 1, 1) := by decide +kernel
theorem dX12_isInRiver_5 : decode cX12_isInRiver 5 = .ok (.iaload, 1) := by decide +kernel
theorem dX12_isInRiver_6 : decode cX12_isInRiver 6 = .ok (.aload_n 0, 1) := by decide +kernel
theorem dX12_isInRiver_7 : decode cX12_isInRiver 7 = .ok (.getfield 9, 3) := by decide +kernel
theorem dX12_isInRiver_10 : decode cX12_isInRiver 10 = .ok (.iconst 0, 1) := by decide +kernel
theorem dX12_isInRiver_11 : decode cX12_isInRiver 11 = .ok (.iaload, 1) := by decide +kernel
theorem dX12_isInRiver_12 : decode cX12_isInRiver 12 = .ok (.if_icmp .ne 7, 3) := by decide +kernel
theorem dX12_isInRiver_15 : decode cX12_isInRiver 15 = .ok (.iconst 1, 1) := by decide +kernel
theorem dX12_isInRiver_16 : decode cX12_isInRiver 16 = .ok (.goto 4, 3) := by decide +kernel
theorem dX12_isInRiver_19 : decode cX12_isInRiver 19 = .ok (.iconst 0, 1) := by decide +kernel
theorem dX12_isInRiver_20 : decode cX12_isInRiver 20 = .ok (.ireturn, 1) := by decide +kernel
theorem dX12_joinedTo_0 : decode cX12_joinedTo 0 = .ok (.iconst 0, 1) := by decide +kernel
theorem dX12_joinedTo_1 : decode cX12_joinedTo 1 = .ok (.istore_n 2, 1) := by decide +kernel
theorem dX12_joinedTo_2 : decode cX12_joinedTo 2 = .ok (.iconst 0, 1) := by decide +kernel
theorem dX12_joinedTo_3 : decode cX12_joinedTo 3 = .ok (.istore_n 3, 1) := by decide +kernel
theorem dX12_joinedTo_4 : decode cX12_joinedTo 4 = .ok (.iload_n 3, 1) := by decide +kernel
theorem dX12_joinedTo_5 : decode cX12_joinedTo 5 = .ok (.aload_n 0, 1) := by decide +kernel
theorem dX12_joinedTo_6 : decode cX12_joinedTo 6 = .ok (.getfield 9, 3) := by decide +kernel
theorem dX12_joinedTo_9 : decode cX12_joinedTo 9 = .ok (.iconst 4, 1) := by decide +kernel
theorem dX12_joinedTo_10 : decode cX12_joinedTo 10 = .ok (.iaload, 1) := by decide +kernel
theorem dX12_joinedTo_11 : decode cX12_joinedTo 11 = .ok (.if_icmp .ge 33, 3) := by decide +kernel
theorem dX12_joinedTo_14 : decode cX12_joinedTo 14 = .ok (.iload_n 2, 1) := by decide +kernel
theorem dX12_joinedTo_15 : decode cX12_joinedTo 15 = .ok (.aload_n 0, 1) := by decide +kernel
theorem dX12_joinedTo_16 : decode cX12_joinedTo 16 = .ok (.getfield 19, 3) := by decide +kernel
theorem dX12_joinedTo_19 : decode cX12_joinedTo 19 = .ok (.bipush 6, 2) := by decide +kernel
theorem dX12_joinedTo_21 : decode cX12_joinedTo 21 = .ok (.iload_n 1, 1) := by decide +kernel
theorem dX12_joinedTo_22 : decode cX12_joinedTo 22 = .ok (.imul, 1) := by decide +kernel
theorem dX12_joinedTo_23 : decode cX12_joinedTo 23 = .ok (.iload_n 3, 1) := by decide +kernel
theorem dX12_joinedTo_24 : decode cX12_joinedTo 24 = .ok (.iadd, 1) := by decide +kernel
theorem dX12_joinedTo_25 : decode cX12_joinedTo 25 = .ok (.iaload, 1) := by decide +kernel
theorem dX12_joinedTo_26 : decode cX12_joinedTo 26 = .ok (.ifCond .le 9, 3) := by decide +kernel
theorem dX12_joinedTo_29 : decode cX12_joinedTo 29 = .ok (.iconst 1, 1) := by decide +kernel
theorem dX12_joinedTo_30 : decode cX12_joinedTo 30 = .ok (.iload_n 3, 1) := by decide +kernel
theorem dX12_joinedTo_31 : decode cX12_joinedTo 31 = .ok (.ishl, 1) := by decide +kernel
theorem dX12_joinedTo_32 : decode cX12_joinedTo 32 = .ok (.goto 4, 3) := by decide +kernel
theorem dX12_joinedTo_35 : decode cX12_joinedTo 35 = .ok (.iconst 0, 1) := by decide +kernel
theorem dX12_joinedTo_36 : decode cX12_joinedTo 36 = .ok (.ior, 1) := by decide +kernel
theorem dX12_joinedTo_37 : decode cX12_joinedTo 37 = .ok (.istore_n 2, 1) := by decide +kernel
theorem dX12_joinedTo_38 : decode cX12_joinedTo 38 = .ok (.iinc 3 1, 3) := by decide +kernel
theorem dX12_joinedTo_41 : decode cX12_joinedTo 41 = .ok (.goto (-37), 3) := by decide +kernel
theorem dX12_joinedTo_44 : decode cX12_joinedTo 44 = .ok (.iload_n 2, 1) := by decide +kernel
theorem dX12_joinedTo_45 : decode cX12_joinedTo 45 = .ok (.ireturn, 1) := by decide +kernel
theorem dX12_house_0 : decode cX12_house 0 = .ok (.aload_n 0, 1) := by decide +kernel
theorem dX12_house_1 : decode cX12_house 1 = .ok (.iload_n 1, 1) := by decide +kernel
theorem dX12_house_2 : decode cX12_house 2 = .ok (.invokevirtual 147, 3) := by decide +kernel
theorem dX12_house_5 : decode cX12_house 5 = .ok (.ifCond .ne 5, 3) := by decide +kernel
theorem dX12_house_8 : decode cX12_house 8 = .ok (.iconst (-1), 1) := by decide +kernel
theorem dX12_house_9 : decode cX12_house 9 = .ok (.ireturn, 1) := by decide +kernel
theorem dX12_house_10 : decode cX12_house 10 = .ok (.iload_n 2, 1) := by decide +kernel
theorem dX12_house_11 : decode cX12_house 11 = .ok (.tableswitch 89 0 4 #[33, 40, 47, 53, 63], 33) := by decide +kernel
theorem dX12_house_44 : decode cX12_house 44 = .ok (.aload_n 0, 1) := by decide +kernel
theorem dX12_house_45 : decode cX12_house 45 = .ok (.getfield 13, 3) := by decide +kernel
theorem dX12_house_48 : decode cX12_house 48 = .ok (.iload_n 1, 1) := by decide +kernel
theorem dX12_house_49 : decode cX12_house 49 = .ok (.iaload, 1) := by decide +kernel
theorem dX12_house_50 : decode cX12_house 50 = .ok (.ireturn, 1) := by decide +kernel
theorem dX12_house_51 : decode cX12_house 51 = .ok (.aload_n 0, 1) := by decide +kernel
theorem dX12_house_52 : decode cX12_house 52 = .ok (.getfield 16, 3) := by decide +kernel
theorem dX12_house_55 : decode cX12_house 55 = .ok (.iload_n 1, 1) := by decide +kernel
theorem dX12_house_56 : decode cX12_house 56 = .ok (.iaload, 1) := by decide +kernel
theorem dX12_house_57 : decode cX12_house 57 = .ok (.ireturn, 1) := by decide +kernel
theorem dX12_house_58 : decode cX12_house 58 = .ok (.aload_n 0, 1) := by decide +kernel
theorem dX12_house_59 : decode cX12_house 59 = .ok (.iload_n 1, 1) := by decide +kernel
theorem dX12_house_60 : decode cX12_house 60 = .ok (.invokevirtual 359, 3) := by decide +kernel
theorem dX12_house_63 : decode cX12_house 63 = .ok (.ireturn, 1) := by decide +kernel
theorem dX12_house_64 : decode cX12_house 64 = .ok (.aload_n 0, 1) := by decide +kernel
theorem dX12_house_65 : decode cX12_house 65 = .ok (.iload_n 1, 1) := by decide +kernel
theorem dX12_house_66 : decode cX12_house 66 = .ok (.aload_n 0, 1) := by decide +kernel
theorem dX12_house_67 : decode cX12_house 67 = .ok (.invokevirtual 362, 3) := by decide +kernel
theorem dX12_house_70 : decode cX12_house 70 = .ok (.invokevirtual 364, 3) := by decide +kernel
theorem dX12_house_73 : decode cX12_house 73 = .ok (.ireturn, 1) := by decide +kernel
theorem dX12_house_74 : decode cX12_house 74 = .ok (.aload_n 0, 1) := by decide +kernel
theorem dX12_house_75 : decode cX12_house 75 = .ok (.aload_n 0, 1) := by decide +kernel
theorem dX12_house_76 : decode cX12_house 76 = .ok (.iload_n 1, 1) := by decide +kernel
theorem dX12_house_77 : decode cX12_house 77 = .ok (.aload_n 0, 1) := by decide +kernel
theorem dX12_house_78 : decode cX12_house 78 = .ok (.invokevirtual 362, 3) := by decide +kernel
theorem dX12_house_81 : decode cX12_house 81 = .ok (.invokevirtual 364, 3) := by decide +kernel
theorem dX12_house_84 : decode cX12_house 84 = .ok (.aload_n 0, 1) := by decide +kernel
theorem dX12_house_85 : decode cX12_house 85 = .ok (.invokevirtual 362, 3) := by decide +kernel
theorem dX12_house_88 : decode cX12_house 88 = .ok (.invokevirtual 367, 3) := by decide +kernel
theorem dX12_house_91 : decode cX12_house 91 = .ok (.ifCond .eq 7, 3) := by decide +kernel
theorem dX12_house_94 : decode cX12_house 94 = .ok (.iconst 1, 1) := by decide +kernel
theorem dX12_house_95 : decode cX12_house 95 = .ok (.goto 4, 3) := by decide +kernel
theorem dX12_house_98 : decode cX12_house 98 = .ok (.iconst 0, 1) := by decide +kernel
theorem dX12_house_99 : decode cX12_house 99 = .ok (.ireturn, 1) := by decide +kernel
theorem dX12_house_100 : decode cX12_house 100 = .ok (.iconst (-1), 1) := by decide +kernel
theorem dX12_house_101 : decode cX12_house 101 = .ok (.ireturn, 1) := by decide +kernel
theorem dX12_pourOf_0 : decode cX12_pourOf 0 = .ok (.aload_n 0, 1) := by decide +kernel
theorem dX12_pourOf_1 : decode cX12_pourOf 1 = .ok (.iload_n 1, 1) := by decide +kernel
theorem dX12_pourOf_2 : decode cX12_pourOf 2 = .ok (.iload_n 2, 1) := by decide +kernel
theorem dX12_pourOf_3 : decode cX12_pourOf 3 = .ok (.invokevirtual 370, 3) := by decide +kernel
theorem dX12_pourOf_6 : decode cX12_pourOf 6 = .ok (.ifCond .eq 17, 3) := by decide +kernel
theorem dX12_pourOf_9 : decode cX12_pourOf 9 = .ok (.aload_n 0, 1) := by decide +kernel
theorem dX12_pourOf_10 : decode cX12_pourOf 10 = .ok (.getfield 19, 3) := by decide +kernel
theorem dX12_pourOf_13 : decode cX12_pourOf 13 = .ok (.bipush 6, 2) := by decide +kernel
theorem dX12_pourOf_15 : decode cX12_pourOf 15 = .ok (.iload_n 1, 1) := by decide +kernel
theorem dX12_pourOf_16 : decode cX12_pourOf 16 = .ok (.imul, 1) := by decide +kernel
theorem dX12_pourOf_17 : decode cX12_pourOf 17 = .ok (.iload_n 2, 1) := by decide +kernel
theorem dX12_pourOf_18 : decode cX12_pourOf 18 = .ok (.iadd, 1) := by decide +kernel
theorem dX12_pourOf_19 : decode cX12_pourOf 19 = .ok (.iaload, 1) := by decide +kernel
theorem dX12_pourOf_20 : decode cX12_pourOf 20 = .ok (.goto 4, 3) := by decide +kernel
theorem dX12_pourOf_23 : decode cX12_pourOf 23 = .ok (.iconst (-1), 1) := by decide +kernel
theorem dX12_pourOf_24 : decode cX12_pourOf 24 = .ok (.ireturn, 1) := by decide +kernel
theorem dX12_joins_0 : decode cX12_joins 0 = .ok (.aload_n 0, 1) := by decide +kernel
theorem dX12_joins_1 : decode cX12_joins 1 = .ok (.getfield 19, 3) := by decide +kernel
theorem dX12_joins_4 : decode cX12_joins 4 = .ok (.bipush 6, 2) := by decide +kernel
theorem dX12_joins_6 : decode cX12_joins 6 = .ok (.iload_n 1, 1) := by decide +kernel
theorem dX12_joins_7 : decode cX12_joins 7 = .ok (.imul, 1) := by decide +kernel
theorem dX12_joins_8 : decode cX12_joins 8 = .ok (.iload_n 2, 1) := by decide +kernel
theorem dX12_joins_9 : decode cX12_joins 9 = .ok (.iadd, 1) := by decide +kernel
theorem dX12_joins_10 : decode cX12_joins 10 = .ok (.iload_n 3, 1) := by decide +kernel
theorem dX12_joins_11 : decode cX12_joins 11 = .ok (.iastore, 1) := by decide +kernel
theorem dX12_joins_12 : decode cX12_joins 12 = .ok (.aload_n 0, 1) := by decide +kernel
theorem dX12_joins_13 : decode cX12_joins 13 = .ok (.getfield 19, 3) := by decide +kernel
theorem dX12_joins_16 : decode cX12_joins 16 = .ok (.bipush 6, 2) := by decide +kernel
theorem dX12_joins_18 : decode cX12_joins 18 = .ok (.iload_n 2, 1) := by decide +kernel
theorem dX12_joins_19 : decode cX12_joins 19 = .ok (.imul, 1) := by decide +kernel
theorem dX12_joins_20 : decode cX12_joins 20 = .ok (.iload_n 1, 1) := by decide +kernel
theorem dX12_joins_21 : decode cX12_joins 21 = .ok (.iadd, 1) := by decide +kernel
theorem dX12_joins_22 : decode cX12_joins 22 = .ok (.iload_n 3, 1) := by decide +kernel
theorem dX12_joins_23 : decode cX12_joins 23 = .ok (.iastore, 1) := by decide +kernel
theorem dX12_joins_24 : decode cX12_joins 24 = .ok (.return_, 1) := by decide +kernel
theorem dX12_canHarden_0 : decode cX12_canHarden 0 = .ok (.aload_n 0, 1) := by decide +kernel
theorem dX12_canHarden_1 : decode cX12_canHarden 1 = .ok (.getfield 19, 3) := by decide +kernel
theorem dX12_canHarden_4 : decode cX12_canHarden 4 = .ok (.bipush 6, 2) := by decide +kernel
theorem dX12_canHarden_6 : decode cX12_canHarden 6 = .ok (.iload_n 1, 1) := by decide +kernel
theorem dX12_canHarden_7 : decode cX12_canHarden 7 = .ok (.imul, 1) := by decide +kernel
theorem dX12_canHarden_8 : decode cX12_canHarden 8 = .ok (.iload_n 2, 1) := by decide +kernel
theorem dX12_canHarden_9 : decode cX12_canHarden 9 = .ok (.iadd, 1) := by decide +kernel
theorem dX12_canHarden_10 : decode cX12_canHarden 10 = .ok (.iaload, 1) := by decide +kernel
theorem dX12_canHarden_11 : decode cX12_canHarden 11 = .ok (.i2l, 1) := by decide +kernel
theorem dX12_canHarden_12 : decode cX12_canHarden 12 = .ok (.lconst 1, 1) := by decide +kernel
theorem dX12_canHarden_13 : decode cX12_canHarden 13 = .ok (.ldc2_w 373, 3) := by decide +kernel
theorem dX12_canHarden_16 : decode cX12_canHarden 16 = .ok (.invokestatic 143, 3) := by decide +kernel
theorem dX12_canHarden_19 : decode cX12_canHarden 19 = .ok (.ireturn, 1) := by decide +kernel
theorem dX12_differ_0 : decode cX12_differ 0 = .ok (.iload_n 0, 1) := by decide +kernel
theorem dX12_differ_1 : decode cX12_differ 1 = .ok (.iload_n 1, 1) := by decide +kernel
theorem dX12_differ_2 : decode cX12_differ 2 = .ok (.if_icmp .le 9, 3) := by decide +kernel
theorem dX12_differ_5 : decode cX12_differ 5 = .ok (.iload_n 0, 1) := by decide +kernel
theorem dX12_differ_6 : decode cX12_differ 6 = .ok (.iload_n 1, 1) := by decide +kernel
theorem dX12_differ_7 : decode cX12_differ 7 = .ok (.isub, 1) := by decide +kernel
theorem dX12_differ_8 : decode cX12_differ 8 = .ok (.goto 6, 3) := by decide +kernel
theorem dX12_differ_11 : decode cX12_differ 11 = .ok (.iload_n 1, 1) := by decide +kernel
theorem dX12_differ_12 : decode cX12_differ 12 = .ok (.iload_n 0, 1) := by decide +kernel
theorem dX12_differ_13 : decode cX12_differ 13 = .ok (.isub, 1) := by decide +kernel
theorem dX12_differ_14 : decode cX12_differ 14 = .ok (.ireturn, 1) := by decide +kernel
theorem dX12_sumOf_0 : decode cX12_sumOf 0 = .ok (.aload_n 0, 1) := by decide +kernel
theorem dX12_sumOf_1 : decode cX12_sumOf 1 = .ok (.getfield 87, 3) := by decide +kernel
theorem dX12_sumOf_4 : decode cX12_sumOf 4 = .ok (.iconst 0, 1) := by decide +kernel
theorem dX12_sumOf_5 : decode cX12_sumOf 5 = .ok (.iload_n 1, 1) := by decide +kernel
theorem dX12_sumOf_6 : decode cX12_sumOf 6 = .ok (.i2l, 1) := by decide +kernel
theorem dX12_sumOf_7 : decode cX12_sumOf 7 = .ok (.lastore, 1) := by decide +kernel
theorem dX12_sumOf_8 : decode cX12_sumOf 8 = .ok (.aload_n 0, 1) := by decide +kernel
theorem dX12_sumOf_9 : decode cX12_sumOf 9 = .ok (.getfield 87, 3) := by decide +kernel
theorem dX12_sumOf_12 : decode cX12_sumOf 12 = .ok (.iconst 1, 1) := by decide +kernel
theorem dX12_sumOf_13 : decode cX12_sumOf 13 = .ok (.iload_n 2, 1) := by decide +kernel
theorem dX12_sumOf_14 : decode cX12_sumOf 14 = .ok (.i2l, 1) := by decide +kernel
theorem dX12_sumOf_15 : decode cX12_sumOf 15 = .ok (.lastore, 1) := by decide +kernel
theorem dX12_sumOf_16 : decode cX12_sumOf 16 = .ok (.aload_n 0, 1) := by decide +kernel
theorem dX12_sumOf_17 : decode cX12_sumOf 17 = .ok (.getfield 87, 3) := by decide +kernel
theorem dX12_sumOf_20 : decode cX12_sumOf 20 = .ok (.iconst 2, 1) := by decide +kernel
theorem dX12_sumOf_21 : decode cX12_sumOf 21 = .ok (.aload_n 0, 1) := by decide +kernel
theorem dX12_sumOf_22 : decode cX12_sumOf 22 = .ok (.getfield 19, 3) := by decide +kernel
theorem dX12_sumOf_25 : decode cX12_sumOf 25 = .ok (.bipush 6, 2) := by decide +kernel
theorem dX12_sumOf_27 : decode cX12_sumOf 27 = .ok (.iload_n 1, 1) := by decide +kernel
theorem dX12_sumOf_28 : decode cX12_sumOf 28 = .ok (.imul, 1) := by decide +kernel
theorem dX12_sumOf_29 : decode cX12_sumOf 29 = .ok (.iload_n 2, 1) := by decide +kernel
theorem dX12_sumOf_30 : decode cX12_sumOf 30 = .ok (.iadd, 1) := by decide +kernel
theorem dX12_sumOf_31 : decode cX12_sumOf 31 = .ok (.iaload, 1) := by decide +kernel
theorem dX12_sumOf_32 : decode cX12_sumOf 32 = .ok (.i2l, 1) := by decide +kernel
theorem dX12_sumOf_33 : decode cX12_sumOf 33 = .ok (.lastore, 1) := by decide +kernel
theorem dX12_sumOf_34 : decode cX12_sumOf 34 = .ok (.aload_n 0, 1) := by decide +kernel
theorem dX12_sumOf_35 : decode cX12_sumOf 35 = .ok (.getfield 87, 3) := by decide +kernel
theorem dX12_sumOf_38 : decode cX12_sumOf 38 = .ok (.iconst 3, 1) := by decide +kernel
theorem dX12_sumOf_39 : decode cX12_sumOf 39 = .ok (.aload_n 0, 1) := by decide +kernel
theorem dX12_sumOf_40 : decode cX12_sumOf 40 = .ok (.getfield 13, 3) := by decide +kernel
theorem dX12_sumOf_43 : decode cX12_sumOf 43 = .ok (.iload_n 1, 1) := by decide +kernel
theorem dX12_sumOf_44 : decode cX12_sumOf 44 = .ok (.iaload, 1) := by decide +kernel
theorem dX12_sumOf_45 : decode cX12_sumOf 45 = .ok (.i2l, 1) := by decide +kernel
theorem dX12_sumOf_46 : decode cX12_sumOf 46 = .ok (.lastore, 1) := by decide +kernel
theorem dX12_sumOf_47 : decode cX12_sumOf 47 = .ok (.aload_n 0, 1) := by decide +kernel
theorem dX12_sumOf_48 : decode cX12_sumOf 48 = .ok (.getfield 87, 3) := by decide +kernel
theorem dX12_sumOf_51 : decode cX12_sumOf 51 = .ok (.iconst 4, 1) := by decide +kernel
theorem dX12_sumOf_52 : decode cX12_sumOf 52 = .ok (.aload_n 0, 1) := by decide +kernel
theorem dX12_sumOf_53 : decode cX12_sumOf 53 = .ok (.getfield 13, 3) := by decide +kernel
theorem dX12_sumOf_56 : decode cX12_sumOf 56 = .ok (.iload_n 2, 1) := by decide +kernel
theorem dX12_sumOf_57 : decode cX12_sumOf 57 = .ok (.iaload, 1) := by decide +kernel
theorem dX12_sumOf_58 : decode cX12_sumOf 58 = .ok (.i2l, 1) := by decide +kernel
theorem dX12_sumOf_59 : decode cX12_sumOf 59 = .ok (.lastore, 1) := by decide +kernel
theorem dX12_sumOf_60 : decode cX12_sumOf 60 = .ok (.aload_n 0, 1) := by decide +kernel
theorem dX12_sumOf_61 : decode cX12_sumOf 61 = .ok (.getfield 87, 3) := by decide +kernel
theorem dX12_sumOf_64 : decode cX12_sumOf 64 = .ok (.iconst 5, 1) := by decide +kernel
theorem dX12_sumOf_65 : decode cX12_sumOf 65 = .ok (.aload_n 0, 1) := by decide +kernel
theorem dX12_sumOf_66 : decode cX12_sumOf 66 = .ok (.getfield 13, 3) := by decide +kernel
theorem dX12_sumOf_69 : decode cX12_sumOf 69 = .ok (.iload_n 1, 1) := by decide +kernel
theorem dX12_sumOf_70 : decode cX12_sumOf 70 = .ok (.iaload, 1) := by decide +kernel
theorem dX12_sumOf_71 : decode cX12_sumOf 71 = .ok (.aload_n 0, 1) := by decide +kernel
theorem dX12_sumOf_72 : decode cX12_sumOf 72 = .ok (.getfield 13, 3) := by decide +kernel
theorem dX12_sumOf_75 : decode cX12_sumOf 75 = .ok (.iload_n 2, 1) := by decide +kernel
theorem dX12_sumOf_76 : decode cX12_sumOf 76 = .ok (.iaload, 1) := by decide +kernel
theorem dX12_sumOf_77 : decode cX12_sumOf 77 = .ok (.invokestatic 375, 3) := by decide +kernel
theorem dX12_sumOf_80 : decode cX12_sumOf 80 = .ok (.i2l, 1) := by decide +kernel
theorem dX12_sumOf_81 : decode cX12_sumOf 81 = .ok (.lastore, 1) := by decide +kernel
theorem dX12_sumOf_82 : decode cX12_sumOf 82 = .ok (.aload_n 0, 1) := by decide +kernel
theorem dX12_sumOf_83 : decode cX12_sumOf 83 = .ok (.getfield 87, 3) := by decide +kernel
theorem dX12_sumOf_86 : decode cX12_sumOf 86 = .ok (.bipush 6, 2) := by decide +kernel
theorem dX12_sumOf_88 : decode cX12_sumOf 88 = .ok (.aload_n 0, 1) := by decide +kernel
theorem dX12_sumOf_89 : decode cX12_sumOf 89 = .ok (.getfield 16, 3) := by decide +kernel
theorem dX12_sumOf_92 : decode cX12_sumOf 92 = .ok (.iload_n 1, 1) := by decide +kernel
theorem dX12_sumOf_93 : decode cX12_sumOf 93 = .ok (.iaload, 1) := by decide +kernel
theorem dX12_sumOf_94 : decode cX12_sumOf 94 = .ok (.i2l, 1) := by decide +kernel
theorem dX12_sumOf_95 : decode cX12_sumOf 95 = .ok (.lastore, 1) := by decide +kernel
theorem dX12_sumOf_96 : decode cX12_sumOf 96 = .ok (.aload_n 0, 1) := by decide +kernel
theorem dX12_sumOf_97 : decode cX12_sumOf 97 = .ok (.getfield 87, 3) := by decide +kernel
theorem dX12_sumOf_100 : decode cX12_sumOf 100 = .ok (.bipush 7, 2) := by decide +kernel
theorem dX12_sumOf_102 : decode cX12_sumOf 102 = .ok (.aload_n 0, 1) := by decide +kernel
theorem dX12_sumOf_103 : decode cX12_sumOf 103 = .ok (.getfield 16, 3) := by decide +kernel
theorem dX12_sumOf_106 : decode cX12_sumOf 106 = .ok (.iload_n 2, 1) := by decide +kernel
theorem dX12_sumOf_107 : decode cX12_sumOf 107 = .ok (.iaload, 1) := by decide +kernel
theorem dX12_sumOf_108 : decode cX12_sumOf 108 = .ok (.i2l, 1) := by decide +kernel
theorem dX12_sumOf_109 : decode cX12_sumOf 109 = .ok (.lastore, 1) := by decide +kernel
theorem dX12_sumOf_110 : decode cX12_sumOf 110 = .ok (.aload_n 0, 1) := by decide +kernel
theorem dX12_sumOf_111 : decode cX12_sumOf 111 = .ok (.getfield 87, 3) := by decide +kernel
theorem dX12_sumOf_114 : decode cX12_sumOf 114 = .ok (.bipush 8, 2) := by decide +kernel
theorem dX12_sumOf_116 : decode cX12_sumOf 116 = .ok (.aload_n 0, 1) := by decide +kernel
theorem dX12_sumOf_117 : decode cX12_sumOf 117 = .ok (.invokevirtual 362, 3) := by decide +kernel
theorem dX12_sumOf_120 : decode cX12_sumOf 120 = .ok (.i2l, 1) := by decide +kernel
theorem dX12_sumOf_121 : decode cX12_sumOf 121 = .ok (.lastore, 1) := by decide +kernel
theorem dX12_sumOf_122 : decode cX12_sumOf 122 = .ok (.aload_n 0, 1) := by decide +kernel
theorem dX12_sumOf_123 : decode cX12_sumOf 123 = .ok (.getfield 87, 3) := by decide +kernel
theorem dX12_sumOf_126 : decode cX12_sumOf 126 = .ok (.bipush 9, 2) := by decide +kernel
theorem dX12_sumOf_128 : decode cX12_sumOf 128 = .ok (.aload_n 0, 1) := by decide +kernel
theorem dX12_sumOf_129 : decode cX12_sumOf 129 = .ok (.aload_n 0, 1) := by decide +kernel
theorem dX12_sumOf_130 : decode cX12_sumOf 130 = .ok (.getfield 9, 3) := by decide +kernel
theorem dX12_sumOf_133 : decode cX12_sumOf 133 = .ok (.iconst 5, 1) := by decide +kernel
theorem dX12_sumOf_134 : decode cX12_sumOf 134 = .ok (.iaload, 1) := by decide +kernel
theorem dX12_sumOf_135 : decode cX12_sumOf 135 = .ok (.iconst 1, 1) := by decide +kernel
theorem dX12_sumOf_136 : decode cX12_sumOf 136 = .ok (.iadd, 1) := by decide +kernel
theorem dX12_sumOf_137 : decode cX12_sumOf 137 = .ok (.invokevirtual 353, 3) := by decide +kernel
theorem dX12_sumOf_140 : decode cX12_sumOf 140 = .ok (.i2l, 1) := by decide +kernel
theorem dX12_sumOf_141 : decode cX12_sumOf 141 = .ok (.lastore, 1) := by decide +kernel
theorem dX12_sumOf_142 : decode cX12_sumOf 142 = .ok (.aload_n 0, 1) := by decide +kernel
theorem dX12_sumOf_143 : decode cX12_sumOf 143 = .ok (.getfield 87, 3) := by decide +kernel
theorem dX12_sumOf_146 : decode cX12_sumOf 146 = .ok (.bipush 10, 2) := by decide +kernel
theorem dX12_sumOf_148 : decode cX12_sumOf 148 = .ok (.aload_n 0, 1) := by decide +kernel
theorem dX12_sumOf_149 : decode cX12_sumOf 149 = .ok (.getfield 9, 3) := by decide +kernel
theorem dX12_sumOf_152 : decode cX12_sumOf 152 = .ok (.bipush 6, 2) := by decide +kernel
theorem dX12_sumOf_154 : decode cX12_sumOf 154 = .ok (.iaload, 1) := by decide +kernel
theorem dX12_sumOf_155 : decode cX12_sumOf 155 = .ok (.i2l, 1) := by decide +kernel
theorem dX12_sumOf_156 : decode cX12_sumOf 156 = .ok (.lastore, 1) := by decide +kernel
theorem dX12_sumOf_157 : decode cX12_sumOf 157 = .ok (.aload_n 0, 1) := by decide +kernel
theorem dX12_sumOf_158 : decode cX12_sumOf 158 = .ok (.getfield 87, 3) := by decide +kernel
theorem dX12_sumOf_161 : decode cX12_sumOf 161 = .ok (.bipush 11, 2) := by decide +kernel
theorem dX12_sumOf_163 : decode cX12_sumOf 163 = .ok (.aload_n 0, 1) := by decide +kernel
theorem dX12_sumOf_164 : decode cX12_sumOf 164 = .ok (.getfield 9, 3) := by decide +kernel
theorem dX12_sumOf_167 : decode cX12_sumOf 167 = .ok (.iconst 5, 1) := by decide +kernel
theorem dX12_sumOf_168 : decode cX12_sumOf 168 = .ok (.iaload, 1) := by decide +kernel
theorem dX12_sumOf_169 : decode cX12_sumOf 169 = .ok (.i2l, 1) := by decide +kernel
theorem dX12_sumOf_170 : decode cX12_sumOf 170 = .ok (.lastore, 1) := by decide +kernel
theorem dX12_sumOf_171 : decode cX12_sumOf 171 = .ok (.aload_n 0, 1) := by decide +kernel
theorem dX12_sumOf_172 : decode cX12_sumOf 172 = .ok (.invokevirtual 378, 3) := by decide +kernel
theorem dX12_sumOf_175 : decode cX12_sumOf 175 = .ok (.lreturn, 1) := by decide +kernel
theorem dX12_choice_0 : decode cX12_choice 0 = .ok (.aload_n 0, 1) := by decide +kernel
theorem dX12_choice_1 : decode cX12_choice 1 = .ok (.getfield 97, 3) := by decide +kernel
theorem dX12_choice_4 : decode cX12_choice 4 = .ok (.bipush (-5), 2) := by decide +kernel
theorem dX12_choice_6 : decode cX12_choice 6 = .ok (.if_icmp .eq 74, 3) := by decide +kernel
theorem dX12_choice_9 : decode cX12_choice 9 = .ok (.aload_n 0, 1) := by decide +kernel
theorem dX12_choice_10 : decode cX12_choice 10 = .ok (.aload_n 0, 1) := by decide +kernel
theorem dX12_choice_11 : decode cX12_choice 11 = .ok (.getfield 382, 3) := by decide +kernel
theorem dX12_choice_14 : decode cX12_choice 14 = .ok (.ifCond .eq 46, 3) := by decide +kernel
theorem dX12_choice_17 : decode cX12_choice 17 = .ok (.aload_n 0, 1) := by decide +kernel
theorem dX12_choice_18 : decode cX12_choice 18 = .ok (.getfield 97, 3) := by decide +kernel
theorem dX12_choice_21 : decode cX12_choice 21 = .ok (.iconst (-1), 1) := by decide +kernel
theorem dX12_choice_22 : decode cX12_choice 22 = .ok (.if_icmp .eq 34, 3) := by decide +kernel
theorem dX12_choice_25 : decode cX12_choice 25 = .ok (.aload_n 0, 1) := by decide +kernel
theorem dX12_choice_26 : decode cX12_choice 26 = .ok (.getfield 9, 3) := by decide +kernel
theorem dX12_choice_29 : decode cX12_choice 29 = .ok (.bipush 6, 2) := by decide +kernel
theorem dX12_choice_31 : decode cX12_choice 31 = .ok (.iaload, 1) := by decide +kernel
theorem dX12_choice_32 : decode cX12_choice 32 = .ok (.ifCond .le 28, 3) := by decide +kernel
theorem dX12_choice_35 : decode cX12_choice 35 = .ok (.aload_n 0, 1) := by decide +kernel
theorem dX12_choice_36 : decode cX12_choice 36 = .ok (.aload_n 0, 1) := by decide +kernel
theorem dX12_choice_37 : decode cX12_choice 37 = .ok (.getfield 97, 3) := by decide +kernel
theorem dX12_choice_40 : decode cX12_choice 40 = .ok (.bipush 8, 2) := by decide +kernel
theorem dX12_choice_42 : decode cX12_choice 42 = .ok (.idiv, 1) := by decide +kernel
theorem dX12_choice_43 : decode cX12_choice 43 = .ok (.aload_n 0, 1) := by decide +kernel
theorem dX12_choice_44 : decode cX12_choice 44 = .ok (.getfield 97, 3) := by decide +kernel
theorem dX12_choice_47 : decode cX12_choice 47 = .ok (.bipush 8, 2) := by decide +kernel
theorem dX12_choice_49 : decode cX12_choice 49 = .ok (.irem, 1) := by decide +kernel
theorem dX12_choice_50 : decode cX12_choice 50 = .ok (.invokevirtual 386, 3) := by decide +kernel
theorem dX12_choice_53 : decode cX12_choice 53 = .ok (.ifCond .eq 7, 3) := by decide +kernel
theorem dX12_choice_56 : decode cX12_choice 56 = .ok (.iconst 1, 1) := by decide +kernel
theorem dX12_choice_57 : decode cX12_choice 57 = .ok (.goto 4, 3) := by decide +kernel
theorem dX12_choice_60 : decode cX12_choice 60 = .ok (.iconst 0, 1) := by decide +kernel
theorem dX12_choice_61 : decode cX12_choice 61 = .ok (.putfield 382, 3) := by decide +kernel
theorem dX12_choice_64 : decode cX12_choice 64 = .ok (.aload_n 0, 1) := by decide +kernel
theorem dX12_choice_65 : decode cX12_choice 65 = .ok (.getfield 382, 3) := by decide +kernel
theorem dX12_choice_68 : decode cX12_choice 68 = .ok (.ifCond .eq 10, 3) := by decide +kernel
theorem dX12_choice_71 : decode cX12_choice 71 = .ok (.aload_n 0, 1) := by decide +kernel
theorem dX12_choice_72 : decode cX12_choice 72 = .ok (.getfield 97, 3) := by decide +kernel
theorem dX12_choice_75 : decode cX12_choice 75 = .ok (.goto 4, 3) := by decide +kernel
theorem dX12_choice_78 : decode cX12_choice 78 = .ok (.iconst (-1), 1) := by decide +kernel
theorem dX12_choice_79 : decode cX12_choice 79 = .ok (.ireturn, 1) := by decide +kernel
theorem dX12_choice_80 : decode cX12_choice 80 = .ok (.iconst (-1), 1) := by decide +kernel
theorem dX12_choice_81 : decode cX12_choice 81 = .ok (.istore_n 1, 1) := by decide +kernel
theorem dX12_choice_82 : decode cX12_choice 82 = .ok (.lconst 0, 1) := by decide +kernel
theorem dX12_choice_83 : decode cX12_choice 83 = .ok (.lstore_n 2, 1) := by decide +kernel
theorem dX12_choice_84 : decode cX12_choice 84 = .ok (.aload_n 0, 1) := by decide +kernel
theorem dX12_choice_85 : decode cX12_choice 85 = .ok (.getfield 9, 3) := by decide +kernel
theorem dX12_choice_88 : decode cX12_choice 88 = .ok (.bipush 6, 2) := by decide +kernel
theorem dX12_choice_90 : decode cX12_choice 90 = .ok (.iaload, 1) := by decide +kernel
theorem dX12_choice_91 : decode cX12_choice 91 = .ok (.ifCond .eq 14, 3) := by decide +kernel
theorem dX12_choice_94 : decode cX12_choice 94 = .ok (.aload_n 0, 1) := by decide +kernel
theorem dX12_choice_95 : decode cX12_choice 95 = .ok (.getfield 9, 3) := by decide +kernel
theorem dX12_choice_98 : decode cX12_choice 98 = .ok (.bipush 10, 2) := by decide +kernel
theorem dX12_choice_100 : decode cX12_choice 100 = .ok (.iaload, 1) := by decide +kernel
theorem dX12_choice_101 : decode cX12_choice 101 = .ok (.iconst (-1), 1) := by decide +kernel
theorem dX12_choice_102 : decode cX12_choice 102 = .ok (.if_icmp .ne 5, 3) := by decide +kernel
theorem dX12_choice_105 : decode cX12_choice 105 = .ok (.iconst (-1), 1) := by decide +kernel
theorem dX12_choice_106 : decode cX12_choice 106 = .ok (.ireturn, 1) := by decide +kernel
theorem dX12_choice_107 : decode cX12_choice 107 = .ok (.iconst 0, 1) := by decide +kernel
theorem dX12_choice_108 : decode cX12_choice 108 = .ok (.istore 4, 2) := by decide +kernel
theorem dX12_choice_110 : decode cX12_choice 110 = .ok (.iload 4, 2) := by decide +kernel
theorem dX12_choice_112 : decode cX12_choice 112 = .ok (.aload_n 0, 1) := by decide +kernel
theorem dX12_choice_113 : decode cX12_choice 113 = .ok (.getfield 9, 3) := by decide +kernel
theorem dX12_choice_116 : decode cX12_choice 116 = .ok (.iconst 4, 1) := by decide +kernel
theorem dX12_choice_117 : decode cX12_choice 117 = .ok (.iaload, 1) := by decide +kernel
theorem dX12_choice_118 : decode cX12_choice 118 = .ok (.if_icmp .ge 72, 3) := by decide +kernel
theorem dX12_choice_121 : decode cX12_choice 121 = .ok (.iload 4, 2) := by decide +kernel
theorem dX12_choice_123 : decode cX12_choice 123 = .ok (.iconst 1, 1) := by decide +kernel
theorem dX12_choice_124 : decode cX12_choice 124 = .ok (.iadd, 1) := by decide +kernel
theorem dX12_choice_125 : decode cX12_choice 125 = .ok (.istore 5, 2) := by decide +kernel
theorem dX12_choice_127 : decode cX12_choice 127 = .ok (.iload 5, 2) := by decide +kernel
theorem dX12_choice_129 : decode cX12_choice 129 = .ok (.aload_n 0, 1) := by decide +kernel
theorem dX12_choice_130 : decode cX12_choice 130 = .ok (.getfield 9, 3) := by decide +kernel
theorem dX12_choice_133 : decode cX12_choice 133 = .ok (.iconst 4, 1) := by decide +kernel
theorem dX12_choice_134 : decode cX12_choice 134 = .ok (.iaload, 1) := by decide +kernel
theorem dX12_choice_135 : decode cX12_choice 135 = .ok (.if_icmp .ge 49, 3) := by decide +kernel
theorem dX12_choice_138 : decode cX12_choice 138 = .ok (.aload_n 0, 1) := by decide +kernel
theorem dX12_choice_139 : decode cX12_choice 139 = .ok (.iload 4, 2) := by decide +kernel
theorem dX12_choice_141 : decode cX12_choice 141 = .ok (.iload 5, 2) := by decide +kernel
theorem dX12_choice_143 : decode cX12_choice 143 = .ok (.invokevirtual 386, 3) := by decide +kernel
theorem dX12_choice_146 : decode cX12_choice 146 = .ok (.ifCond .eq 32, 3) := by decide +kernel
theorem dX12_choice_149 : decode cX12_choice 149 = .ok (.aload_n 0, 1) := by decide +kernel
theorem dX12_choice_150 : decode cX12_choice 150 = .ok (.iload 4, 2) := by decide +kernel
theorem dX12_choice_152 : decode cX12_choice 152 = .ok (.iload 5, 2) := by decide +kernel
theorem dX12_choice_154 : decode cX12_choice 154 = .ok (.invokevirtual 389, 3) := by decide +kernel
theorem dX12_choice_157 : decode cX12_choice 157 = .ok (.lstore 6, 2) := by decide +kernel
theorem dX12_choice_159 : decode cX12_choice 159 = .ok (.lload 6, 2) := by decide +kernel
theorem dX12_choice_161 : decode cX12_choice 161 = .ok (.lload_n 2, 1) := by decide +kernel
theorem dX12_choice_162 : decode cX12_choice 162 = .ok (.lcmp, 1) := by decide +kernel
theorem dX12_choice_163 : decode cX12_choice 163 = .ok (.ifCond .le 15, 3) := by decide +kernel
theorem dX12_choice_166 : decode cX12_choice 166 = .ok (.bipush 8, 2) := by decide +kernel
theorem dX12_choice_168 : decode cX12_choice 168 = .ok (.iload 4, 2) := by decide +kernel
theorem dX12_choice_170 : decode cX12_choice 170 = .ok (.imul, 1) := by decide +kernel
theorem dX12_choice_171 : decode cX12_choice 171 = .ok (.iload 5, 2) := by decide +kernel
theorem dX12_choice_173 : decode cX12_choice 173 = .ok (.iadd, 1) := by decide +kernel
theorem dX12_choice_174 : decode cX12_choice 174 = .ok (.istore_n 1, 1) := by decide +kernel
theorem dX12_choice_175 : decode cX12_choice 175 = .ok (.lload 6, 2) := by decide +kernel
theorem dX12_choice_177 : decode cX12_choice 177 = .ok (.lstore_n 2, 1) := by decide +kernel
theorem dX12_choice_178 : decode cX12_choice 178 = .ok (.iinc 5 1, 3) := by decide +kernel
theorem dX12_choice_181 : decode cX12_choice 181 = .ok (.goto (-54), 3) := by decide +kernel
theorem dX12_choice_184 : decode cX12_choice 184 = .ok (.iinc 4 1, 3) := by decide +kernel
theorem dX12_choice_187 : decode cX12_choice 187 = .ok (.goto (-77), 3) := by decide +kernel
theorem dX12_choice_190 : decode cX12_choice 190 = .ok (.iload_n 1, 1) := by decide +kernel
theorem dX12_choice_191 : decode cX12_choice 191 = .ok (.ireturn, 1) := by decide +kernel
theorem dX12_laysSinks_0 : decode cX12_laysSinks 0 = .ok (.aload_n 0, 1) := by decide +kernel
theorem dX12_laysSinks_1 : decode cX12_laysSinks 1 = .ok (.invokevirtual 362, 3) := by decide +kernel
theorem dX12_laysSinks_4 : decode cX12_laysSinks 4 = .ok (.istore_n 1, 1) := by decide +kernel
theorem dX12_laysSinks_5 : decode cX12_laysSinks 5 = .ok (.iconst 0, 1) := by decide +kernel
theorem dX12_laysSinks_6 : decode cX12_laysSinks 6 = .ok (.istore_n 2, 1) := by decide +kernel
theorem dX12_laysSinks_7 : decode cX12_laysSinks 7 = .ok (.iload_n 2, 1) := by decide +kernel
theorem dX12_laysSinks_8 : decode cX12_laysSinks 8 = .ok (.aload_n 0, 1) := by decide +kernel
theorem dX12_laysSinks_9 : decode cX12_laysSinks 9 = .ok (.getfield 9, 3) := by decide +kernel
theorem dX12_laysSinks_12 : decode cX12_laysSinks 12 = .ok (.iconst 4, 1) := by decide +kernel
theorem dX12_laysSinks_13 : decode cX12_laysSinks 13 = .ok (.iaload, 1) := by decide +kernel
theorem dX12_laysSinks_14 : decode cX12_laysSinks 14 = .ok (.if_icmp .ge 79, 3) := by decide +kernel
theorem dX12_laysSinks_17 : decode cX12_laysSinks 17 = .ok (.aload_n 0, 1) := by decide +kernel
theorem dX12_laysSinks_18 : decode cX12_laysSinks 18 = .ok (.iload_n 2, 1) := by decide +kernel
theorem dX12_laysSinks_19 : decode cX12_laysSinks 19 = .ok (.iload_n 1, 1) := by decide +kernel
theorem dX12_laysSinks_20 : decode cX12_laysSinks 20 = .ok (.invokevirtual 364, 3) := by decide +kernel
theorem dX12_laysSinks_23 : decode cX12_laysSinks 23 = .ok (.istore_n 3, 1) := by decide +kernel
theorem dX12_laysSinks_24 : decode cX12_laysSinks 24 = .ok (.iload_n 1, 1) := by decide +kernel
theorem dX12_laysSinks_25 : decode cX12_laysSinks 25 = .ok (.iload_n 3, 1) := by decide +kernel
theorem dX12_laysSinks_26 : decode cX12_laysSinks 26 = .ok (.invokestatic 393, 3) := by decide +kernel
theorem dX12_laysSinks_29 : decode cX12_laysSinks 29 = .ok (.isub, 1) := by decide +kernel
theorem dX12_laysSinks_30 : decode cX12_laysSinks 30 = .ok (.iconst 1, 1) := by decide +kernel
theorem dX12_laysSinks_31 : decode cX12_laysSinks 31 = .ok (.iadd, 1) := by decide +kernel
theorem dX12_laysSinks_32 : decode cX12_laysSinks 32 = .ok (.istore 4, 2) := by decide +kernel
theorem dX12_laysSinks_34 : decode cX12_laysSinks 34 = .ok (.aload_n 0, 1) := by decide +kernel
theorem dX12_laysSinks_35 : decode cX12_laysSinks 35 = .ok (.getfield 9, 3) := by decide +kernel
theorem dX12_laysSinks_38 : decode cX12_laysSinks 38 = .ok (.iconst 0, 1) := by decide +kernel
theorem dX12_laysSinks_39 : decode cX12_laysSinks 39 = .ok (.iaload, 1) := by decide +kernel
theorem dX12_laysSinks_40 : decode cX12_laysSinks 40 = .ok (.aload_n 0, 1) := by decide +kernel
theorem dX12_laysSinks_41 : decode cX12_laysSinks 41 = .ok (.getfield 13, 3) := by decide +kernel
theorem dX12_laysSinks_44 : decode cX12_laysSinks 44 = .ok (.iload_n 2, 1) := by decide +kernel
theorem dX12_laysSinks_45 : decode cX12_laysSinks 45 = .ok (.iaload, 1) := by decide +kernel
theorem dX12_laysSinks_46 : decode cX12_laysSinks 46 = .ok (.isub, 1) := by decide +kernel
theorem dX12_laysSinks_47 : decode cX12_laysSinks 47 = .ok (.istore 5, 2) := by decide +kernel
theorem dX12_laysSinks_49 : decode cX12_laysSinks 49 = .ok (.aload_n 0, 1) := by decide +kernel
theorem dX12_laysSinks_50 : decode cX12_laysSinks 50 = .ok (.getfield 100, 3) := by decide +kernel
theorem dX12_laysSinks_53 : decode cX12_laysSinks 53 = .ok (.iload_n 2, 1) := by decide +kernel
theorem dX12_laysSinks_54 : decode cX12_laysSinks 54 = .ok (.aload_n 0, 1) := by decide +kernel
theorem dX12_laysSinks_55 : decode cX12_laysSinks 55 = .ok (.iload_n 3, 1) := by decide +kernel
theorem dX12_laysSinks_56 : decode cX12_laysSinks 56 = .ok (.iload_n 1, 1) := by decide +kernel
theorem dX12_laysSinks_57 : decode cX12_laysSinks 57 = .ok (.invokevirtual 367, 3) := by decide +kernel
theorem dX12_laysSinks_60 : decode cX12_laysSinks 60 = .ok (.ifCond .ne 8, 3) := by decide +kernel
theorem dX12_laysSinks_63 : decode cX12_laysSinks 63 = .ok (.iload 4, 2) := by decide +kernel
theorem dX12_laysSinks_65 : decode cX12_laysSinks 65 = .ok (.ifCond .ge 7, 3) := by decide +kernel
theorem dX12_laysSinks_68 : decode cX12_laysSinks 68 = .ok (.iconst 0, 1) := by decide +kernel
theorem dX12_laysSinks_69 : decode cX12_laysSinks 69 = .ok (.goto 17, 3) := by decide +kernel
theorem dX12_laysSinks_72 : decode cX12_laysSinks 72 = .ok (.iload 4, 2) := by decide +kernel
theorem dX12_laysSinks_74 : decode cX12_laysSinks 74 = .ok (.iload 5, 2) := by decide +kernel
theorem dX12_laysSinks_76 : decode cX12_laysSinks 76 = .ok (.if_icmp .le 8, 3) := by decide +kernel
theorem dX12_laysSinks_79 : decode cX12_laysSinks 79 = .ok (.iload 5, 2) := by decide +kernel
theorem dX12_laysSinks_81 : decode cX12_laysSinks 81 = .ok (.goto 5, 3) := by decide +kernel
theorem dX12_laysSinks_84 : decode cX12_laysSinks 84 = .ok (.iload 4, 2) := by decide +kernel
theorem dX12_laysSinks_86 : decode cX12_laysSinks 86 = .ok (.iastore, 1) := by decide +kernel
theorem dX12_laysSinks_87 : decode cX12_laysSinks 87 = .ok (.iinc 2 1, 3) := by decide +kernel
theorem dX12_laysSinks_90 : decode cX12_laysSinks 90 = .ok (.goto (-83), 3) := by decide +kernel
theorem dX12_laysSinks_93 : decode cX12_laysSinks 93 = .ok (.return_, 1) := by decide +kernel
theorem dX12_floods_0 : decode cX12_floods 0 = .ok (.aload_n 0, 1) := by decide +kernel
theorem dX12_floods_1 : decode cX12_floods 1 = .ok (.getfield 16, 3) := by decide +kernel
theorem dX12_floods_4 : decode cX12_floods 4 = .ok (.iload_n 1, 1) := by decide +kernel
theorem dX12_floods_5 : decode cX12_floods 5 = .ok (.iconst 0, 1) := by decide +kernel
theorem dX12_floods_6 : decode cX12_floods 6 = .ok (.iastore, 1) := by decide +kernel
theorem dX12_floods_7 : decode cX12_floods 7 = .ok (.iconst 0, 1) := by decide +kernel
theorem dX12_floods_8 : decode cX12_floods 8 = .ok (.istore_n 2, 1) := by decide +kernel
theorem dX12_floods_9 : decode cX12_floods 9 = .ok (.iload_n 2, 1) := by decide +kernel
theorem dX12_floods_10 : decode cX12_floods 10 = .ok (.bipush 6, 2) := by decide +kernel
theorem dX12_floods_12 : decode cX12_floods 12 = .ok (.if_icmp .ge 16, 3) := by decide +kernel
theorem dX12_floods_15 : decode cX12_floods 15 = .ok (.aload_n 0, 1) := by decide +kernel
theorem dX12_floods_16 : decode cX12_floods 16 = .ok (.iload_n 1, 1) := by decide +kernel
theorem dX12_floods_17 : decode cX12_floods 17 = .ok (.iload_n 2, 1) := by decide +kernel
theorem dX12_floods_18 : decode cX12_floods 18 = .ok (.iconst 0, 1) := by decide +kernel
theorem dX12_floods_19 : decode cX12_floods 19 = .ok (.invokevirtual 396, 3) := by decide +kernel
theorem dX12_floods_22 : decode cX12_floods 22 = .ok (.iinc 2 1, 3) := by decide +kernel
theorem dX12_floods_25 : decode cX12_floods 25 = .ok (.goto (-16), 3) := by decide +kernel
theorem dX12_floods_28 : decode cX12_floods 28 = .ok (.return_, 1) := by decide +kernel
theorem dX12_goes_0 : decode cX12_goes 0 = .ok (.aload_n 0, 1) := by decide +kernel
theorem dX12_goes_1 : decode cX12_goes 1 = .ok (.invokevirtual 400, 3) := by decide +kernel
theorem dX12_goes_4 : decode cX12_goes 4 = .ok (.istore_n 1, 1) := by decide +kernel
theorem dX12_goes_5 : decode cX12_goes 5 = .ok (.iload_n 1, 1) := by decide +kernel
theorem dX12_goes_6 : decode cX12_goes 6 = .ok (.iconst (-1), 1) := by decide +kernel
theorem dX12_goes_7 : decode cX12_goes 7 = .ok (.if_icmp .eq 45, 3) := by decide +kernel
theorem dX12_goes_10 : decode cX12_goes 10 = .ok (.aload_n 0, 1) := by decide +kernel
theorem dX12_goes_11 : decode cX12_goes 11 = .ok (.iload_n 1, 1) := by decide +kernel
theorem dX12_goes_12 : decode cX12_goes 12 = .ok (.bipush 8, 2) := by decide +kernel
theorem dX12_goes_14 : decode cX12_goes 14 = .ok (.idiv, 1) := by decide +kernel
theorem dX12_goes_15 : decode cX12_goes 15 = .ok (.iload_n 1, 1) := by decide +kernel
theorem dX12_goes_16 : decode cX12_goes 16 = .ok (.bipush 8, 2) := by decide +kernel
theorem dX12_goes_18 : decode cX12_goes 18 = .ok (.irem, 1) := by decide +kernel
theorem dX12_goes_19 : decode cX12_goes 19 = .ok (.aload_n 0, 1) := by decide +kernel
theorem dX12_goes_20 : decode cX12_goes 20 = .ok (.getfield 19, 3) := by decide +kernel
theorem dX12_goes_23 : decode cX12_goes 23 = .ok (.bipush 6, 2) := by decide +kernel
theorem dX12_goes_25 : decode cX12_goes 25 = .ok (.iload_n 1, 1) := by decide +kernel
theorem dX12_goes_26 : decode cX12_goes 26 = .ok (.bipush 8, 2) := by decide +kernel
theorem dX12_goes_28 : decode cX12_goes 28 = .ok (.idiv, 1) := by decide +kernel
theorem dX12_goes_29 : decode cX12_goes 29 = .ok (.imul, 1) := by decide +kernel
theorem dX12_goes_30 : decode cX12_goes 30 = .ok (.iload_n 1, 1) := by decide +kernel
theorem dX12_goes_31 : decode cX12_goes 31 = .ok (.bipush 8, 2) := by decide +kernel
theorem dX12_goes_33 : decode cX12_goes 33 = .ok (.irem, 1) := by decide +kernel
theorem dX12_goes_34 : decode cX12_goes 34 = .ok (.iadd, 1) := by decide +kernel
theorem dX12_goes_35 : decode cX12_goes 35 = .ok (.iaload, 1) := by decide +kernel
theorem dX12_goes_36 : decode cX12_goes 36 = .ok (.iconst 1, 1) := by decide +kernel
theorem dX12_goes_37 : decode cX12_goes 37 = .ok (.iadd, 1) := by decide +kernel
theorem dX12_goes_38 : decode cX12_goes 38 = .ok (.invokevirtual 396, 3) := by decide +kernel
theorem dX12_goes_41 : decode cX12_goes 41 = .ok (.aload_n 0, 1) := by decide +kernel
theorem dX12_goes_42 : decode cX12_goes 42 = .ok (.getfield 9, 3) := by decide +kernel
theorem dX12_goes_45 : decode cX12_goes 45 = .ok (.bipush 6, 2) := by decide +kernel
theorem dX12_goes_47 : decode cX12_goes 47 = .ok (.dup2, 1) := by decide +kernel
theorem dX12_goes_48 : decode cX12_goes 48 = .ok (.iaload, 1) := by decide +kernel
theorem dX12_goes_49 : decode cX12_goes 49 = .ok (.iconst 1, 1) := by decide +kernel
theorem dX12_goes_50 : decode cX12_goes 50 = .ok (.isub, 1) := by decide +kernel
theorem dX12_goes_51 : decode cX12_goes 51 = .ok (.iastore, 1) := by decide +kernel
theorem dX12_goes_52 : decode cX12_goes 52 = .ok (.aload_n 0, 1) := by decide +kernel
theorem dX12_goes_53 : decode cX12_goes 53 = .ok (.invokevirtual 403, 3) := by decide +kernel
theorem dX12_goes_56 : decode cX12_goes 56 = .ok (.iconst 0, 1) := by decide +kernel
theorem dX12_goes_57 : decode cX12_goes 57 = .ok (.istore_n 2, 1) := by decide +kernel
theorem dX12_goes_58 : decode cX12_goes 58 = .ok (.iconst 0, 1) := by decide +kernel
theorem dX12_goes_59 : decode cX12_goes 59 = .ok (.istore_n 3, 1) := by decide +kernel
theorem dX12_goes_60 : decode cX12_goes 60 = .ok (.iload_n 3, 1) := by decide +kernel
theorem dX12_goes_61 : decode cX12_goes 61 = .ok (.aload_n 0, 1) := by decide +kernel
theorem dX12_goes_62 : decode cX12_goes 62 = .ok (.getfield 9, 3) := by decide +kernel
theorem dX12_goes_65 : decode cX12_goes 65 = .ok (.iconst 4, 1) := by decide +kernel
theorem dX12_goes_66 : decode cX12_goes 66 = .ok (.iaload, 1) := by decide +kernel
theorem dX12_goes_67 : decode cX12_goes 67 = .ok (.if_icmp .ge 54, 3) := by decide +kernel
theorem dX12_goes_70 : decode cX12_goes 70 = .ok (.aload_n 0, 1) := by decide +kernel
theorem dX12_goes_71 : decode cX12_goes 71 = .ok (.getfield 13, 3) := by decide +kernel
theorem dX12_goes_74 : decode cX12_goes 74 = .ok (.iload_n 3, 1) := by decide +kernel
theorem dX12_goes_75 : decode cX12_goes 75 = .ok (.dup2, 1) := by decide +kernel
theorem dX12_goes_76 : decode cX12_goes 76 = .ok (.iaload, 1) := by decide +kernel
theorem dX12_goes_77 : decode cX12_goes 77 = .ok (.aload_n 0, 1) := by decide +kernel
theorem dX12_goes_78 : decode cX12_goes 78 = .ok (.getfield 100, 3) := by decide +kernel
theorem dX12_goes_81 : decode cX12_goes 81 = .ok (.iload_n 3, 1) := by decide +kernel
theorem dX12_goes_82 : decode cX12_goes 82 = .ok (.iaload, 1) := by decide +kernel
theorem dX12_goes_83 : decode cX12_goes 83 = .ok (.iadd, 1) := by decide +kernel
theorem dX12_goes_84 : decode cX12_goes 84 = .ok (.iastore, 1) := by decide +kernel
theorem dX12_goes_85 : decode cX12_goes 85 = .ok (.iload_n 2, 1) := by decide +kernel
theorem dX12_goes_86 : decode cX12_goes 86 = .ok (.aload_n 0, 1) := by decide +kernel
theorem dX12_goes_87 : decode cX12_goes 87 = .ok (.getfield 100, 3) := by decide +kernel
theorem dX12_goes_90 : decode cX12_goes 90 = .ok (.iload_n 3, 1) := by decide +kernel
theorem dX12_goes_91 : decode cX12_goes 91 = .ok (.iaload, 1) := by decide +kernel
theorem dX12_goes_92 : decode cX12_goes 92 = .ok (.ifCond .le 7, 3) := by decide +kernel
theorem dX12_goes_95 : decode cX12_goes 95 = .ok (.iconst 1, 1) := by decide +kernel
theorem dX12_goes_96 : decode cX12_goes 96 = .ok (.goto 4, 3) := by decide +kernel
theorem dX12_goes_99 : decode cX12_goes 99 = .ok (.iconst 0, 1) := by decide +kernel
theorem dX12_goes_100 : decode cX12_goes 100 = .ok (.iadd, 1) := by decide +kernel
theorem dX12_goes_101 : decode cX12_goes 101 = .ok (.istore_n 2, 1) := by decide +kernel
theorem dX12_goes_102 : decode cX12_goes 102 = .ok (.aload_n 0, 1) := by decide +kernel
theorem dX12_goes_103 : decode cX12_goes 103 = .ok (.iload_n 3, 1) := by decide +kernel
theorem dX12_goes_104 : decode cX12_goes 104 = .ok (.invokevirtual 406, 3) := by decide +kernel
theorem dX12_goes_107 : decode cX12_goes 107 = .ok (.ifCond .eq 8, 3) := by decide +kernel
theorem dX12_goes_110 : decode cX12_goes 110 = .ok (.aload_n 0, 1) := by decide +kernel
theorem dX12_goes_111 : decode cX12_goes 111 = .ok (.iload_n 3, 1) := by decide +kernel
theorem dX12_goes_112 : decode cX12_goes 112 = .ok (.invokevirtual 409, 3) := by decide +kernel
theorem dX12_goes_115 : decode cX12_goes 115 = .ok (.iinc 3 1, 3) := by decide +kernel
theorem dX12_goes_118 : decode cX12_goes 118 = .ok (.goto (-58), 3) := by decide +kernel
theorem dX12_goes_121 : decode cX12_goes 121 = .ok (.iconst 0, 1) := by decide +kernel
theorem dX12_goes_122 : decode cX12_goes 122 = .ok (.istore_n 3, 1) := by decide +kernel
theorem dX12_goes_123 : decode cX12_goes 123 = .ok (.iload_n 3, 1) := by decide +kernel
theorem dX12_goes_124 : decode cX12_goes 124 = .ok (.aload_n 0, 1) := by decide +kernel
theorem dX12_goes_125 : decode cX12_goes 125 = .ok (.getfield 9, 3) := by decide +kernel
theorem dX12_goes_128 : decode cX12_goes 128 = .ok (.iconst 4, 1) := by decide +kernel
theorem dX12_goes_129 : decode cX12_goes 129 = .ok (.iaload, 1) := by decide +kernel
theorem dX12_goes_130 : decode cX12_goes 130 = .ok (.if_icmp .ge 100, 3) := by decide +kernel
theorem dX12_goes_133 : decode cX12_goes 133 = .ok (.iload_n 3, 1) := by decide +kernel
theorem dX12_goes_134 : decode cX12_goes 134 = .ok (.iconst 1, 1) := by decide +kernel
theorem dX12_goes_135 : decode cX12_goes 135 = .ok (.iadd, 1) := by decide +kernel
theorem dX12_goes_136 : decode cX12_goes 136 = .ok (.istore 4, 2) := by decide +kernel
theorem dX12_goes_138 : decode cX12_goes 138 = .ok (.iload 4, 2) := by decide +kernel
theorem dX12_goes_140 : decode cX12_goes 140 = .ok (.aload_n 0, 1) := by decide +kernel
theorem dX12_goes_141 : decode cX12_goes 141 = .ok (.getfield 9, 3) := by decide +kernel
theorem dX12_goes_144 : decode cX12_goes 144 = .ok (.iconst 4, 1) := by decide +kernel
theorem dX12_goes_145 : decode cX12_goes 145 = .ok (.iaload, 1) := by decide +kernel
theorem dX12_goes_146 : decode cX12_goes 146 = .ok (.if_icmp .ge 78, 3) := by decide +kernel
theorem dX12_goes_149 : decode cX12_goes 149 = .ok (.aload_n 0, 1) := by decide +kernel
theorem dX12_goes_150 : decode cX12_goes 150 = .ok (.getfield 13, 3) := by decide +kernel
theorem dX12_goes_153 : decode cX12_goes 153 = .ok (.iload_n 3, 1) := by decide +kernel
theorem dX12_goes_154 : decode cX12_goes 154 = .ok (.iaload, 1) := by decide +kernel
theorem dX12_goes_155 : decode cX12_goes 155 = .ok (.aload_n 0, 1) := by decide +kernel
theorem dX12_goes_156 : decode cX12_goes 156 = .ok (.getfield 13, 3) := by decide +kernel
theorem dX12_goes_159 : decode cX12_goes 159 = .ok (.iload 4, 2) := by decide +kernel
theorem dX12_goes_161 : decode cX12_goes 161 = .ok (.iaload, 1) := by decide +kernel
theorem dX12_goes_162 : decode cX12_goes 162 = .ok (.if_icmp .ne 56, 3) := by decide +kernel
theorem dX12_goes_165 : decode cX12_goes 165 = .ok (.aload_n 0, 1) := by decide +kernel
theorem dX12_goes_166 : decode cX12_goes 166 = .ok (.iload_n 3, 1) := by decide +kernel
theorem dX12_goes_167 : decode cX12_goes 167 = .ok (.invokevirtual 406, 3) := by decide +kernel
theorem dX12_goes_170 : decode cX12_goes 170 = .ok (.ifCond .ne 48, 3) := by decide +kernel
theorem dX12_goes_173 : decode cX12_goes 173 = .ok (.aload_n 0, 1) := by decide +kernel
theorem dX12_goes_174 : decode cX12_goes 174 = .ok (.getfield 100, 3) := by decide +kernel
theorem dX12_goes_177 : decode cX12_goes 177 = .ok (.iload_n 3, 1) := by decide +kernel
theorem dX12_goes_178 : decode cX12_goes 178 = .ok (.iaload, 1) := by decide +kernel
theorem dX12_goes_179 : decode cX12_goes 179 = .ok (.aload_n 0, 1) := by decide +kernel
theorem dX12_goes_180 : decode cX12_goes 180 = .ok (.getfield 100, 3) := by decide +kernel
theorem dX12_goes_183 : decode cX12_goes 183 = .ok (.iload 4, 2) := by decide +kernel
theorem dX12_goes_185 : decode cX12_goes 185 = .ok (.iaload, 1) := by decide +kernel
theorem dX12_goes_186 : decode cX12_goes 186 = .ok (.iadd, 1) := by decide +kernel
theorem dX12_goes_187 : decode cX12_goes 187 = .ok (.ifCond .le 31, 3) := by decide +kernel
theorem dX12_goes_190 : decode cX12_goes 190 = .ok (.aload_n 0, 1) := by decide +kernel
theorem dX12_goes_191 : decode cX12_goes 191 = .ok (.getfield 19, 3) := by decide +kernel
theorem dX12_goes_194 : decode cX12_goes 194 = .ok (.bipush 6, 2) := by decide +kernel
theorem dX12_goes_196 : decode cX12_goes 196 = .ok (.iload_n 3, 1) := by decide +kernel
theorem dX12_goes_197 : decode cX12_goes 197 = .ok (.imul, 1) := by decide +kernel
theorem dX12_goes_198 : decode cX12_goes 198 = .ok (.iload 4, 2) := by decide +kernel
theorem dX12_goes_200 : decode cX12_goes 200 = .ok (.iadd, 1) := by decide +kernel
theorem dX12_goes_201 : decode cX12_goes 201 = .ok (.iaload, 1) := by decide +kernel
theorem dX12_goes_202 : decode cX12_goes 202 = .ok (.ifCond .ne 16, 3) := by decide +kernel
theorem dX12_goes_205 : decode cX12_goes 205 = .ok (.aload_n 0, 1) := by decide +kernel
theorem dX12_goes_206 : decode cX12_goes 206 = .ok (.iload_n 3, 1) := by decide +kernel
theorem dX12_goes_207 : decode cX12_goes 207 = .ok (.iload 4, 2) := by decide +kernel
theorem dX12_goes_209 : decode cX12_goes 209 = .ok (.aload_n 0, 1) := by decide +kernel
theorem dX12_goes_210 : decode cX12_goes 210 = .ok (.getfield 9, 3) := by decide +kernel
theorem dX12_goes_213 : decode cX12_goes 213 = .ok (.iconst 2, 1) := by decide +kernel
theorem dX12_goes_214 : decode cX12_goes 214 = .ok (.iaload, 1) := by decide +kernel
theorem dX12_goes_215 : decode cX12_goes 215 = .ok (.invokevirtual 396, 3) := by decide +kernel
theorem dX12_goes_218 : decode cX12_goes 218 = .ok (.iinc 4 1, 3) := by decide +kernel
theorem dX12_goes_221 : decode cX12_goes 221 = .ok (.goto (-83), 3) := by decide +kernel
theorem dX12_goes_224 : decode cX12_goes 224 = .ok (.iinc 3 1, 3) := by decide +kernel
theorem dX12_goes_227 : decode cX12_goes 227 = .ok (.goto (-104), 3) := by decide +kernel
theorem dX12_goes_230 : decode cX12_goes 230 = .ok (.aload_n 0, 1) := by decide +kernel
theorem dX12_goes_231 : decode cX12_goes 231 = .ok (.getfield 9, 3) := by decide +kernel
theorem dX12_goes_234 : decode cX12_goes 234 = .ok (.bipush 7, 2) := by decide +kernel
theorem dX12_goes_236 : decode cX12_goes 236 = .ok (.dup2, 1) := by decide +kernel
theorem dX12_goes_237 : decode cX12_goes 237 = .ok (.iaload, 1) := by decide +kernel
theorem dX12_goes_238 : decode cX12_goes 238 = .ok (.aload_n 0, 1) := by decide +kernel
theorem dX12_goes_239 : decode cX12_goes 239 = .ok (.getfield 9, 3) := by decide +kernel
theorem dX12_goes_242 : decode cX12_goes 242 = .ok (.bipush 7, 2) := by decide +kernel
theorem dX12_goes_244 : decode cX12_goes 244 = .ok (.iaload, 1) := by decide +kernel
theorem dX12_goes_245 : decode cX12_goes 245 = .ok (.ifCond .le 7, 3) := by decide +kernel
theorem dX12_goes_248 : decode cX12_goes 248 = .ok (.iconst 1, 1) := by decide +kernel
theorem dX12_goes_249 : decode cX12_goes 249 = .ok (.goto 4, 3) := by decide +kernel
theorem dX12_goes_252 : decode cX12_goes 252 = .ok (.iconst 0, 1) := by decide +kernel
theorem dX12_goes_253 : decode cX12_goes 253 = .ok (.isub, 1) := by decide +kernel
theorem dX12_goes_254 : decode cX12_goes 254 = .ok (.iastore, 1) := by decide +kernel
theorem dX12_goes_255 : decode cX12_goes 255 = .ok (.aload_n 0, 1) := by decide +kernel
theorem dX12_goes_256 : decode cX12_goes 256 = .ok (.getfield 9, 3) := by decide +kernel
theorem dX12_goes_259 : decode cX12_goes 259 = .ok (.iconst 5, 1) := by decide +kernel
theorem dX12_goes_260 : decode cX12_goes 260 = .ok (.dup2, 1) := by decide +kernel
theorem dX12_goes_261 : decode cX12_goes 261 = .ok (.iaload, 1) := by decide +kernel
theorem dX12_goes_262 : decode cX12_goes 262 = .ok (.iconst 1, 1) := by decide +kernel
theorem dX12_goes_263 : decode cX12_goes 263 = .ok (.iadd, 1) := by decide +kernel
theorem dX12_goes_264 : decode cX12_goes 264 = .ok (.iastore, 1) := by decide +kernel
theorem dX12_goes_265 : decode cX12_goes 265 = .ok (.iload_n 2, 1) := by decide +kernel
theorem dX12_goes_266 : decode cX12_goes 266 = .ok (.ireturn, 1) := by decide +kernel
theorem dX12_goFor_0 : decode cX12_goFor 0 = .ok (.iconst 0, 1) := by decide +kernel
theorem dX12_goFor_1 : decode cX12_goFor 1 = .ok (.istore_n 2, 1) := by decide +kernel
theorem dX12_goFor_2 : decode cX12_goFor 2 = .ok (.iload_n 2, 1) := by decide +kernel
theorem dX12_goFor_3 : decode cX12_goFor 3 = .ok (.iload_n 1, 1) := by decide +kernel
theorem dX12_goFor_4 : decode cX12_goFor 4 = .ok (.if_icmp .ge 14, 3) := by decide +kernel
theorem dX12_goFor_7 : decode cX12_goFor 7 = .ok (.aload_n 0, 1) := by decide +kernel
theorem dX12_goFor_8 : decode cX12_goFor 8 = .ok (.invokevirtual 412, 3) := by decide +kernel
theorem dX12_goFor_11 : decode cX12_goFor 11 = .ok (.pop, 1) := by decide +kernel
theorem dX12_goFor_12 : decode cX12_goFor 12 = .ok (.iinc 2 1, 3) := by decide +kernel
theorem dX12_goFor_15 : decode cX12_goFor 15 = .ok (.goto (-13), 3) := by decide +kernel
theorem dX12_goFor_18 : decode cX12_goFor 18 = .ok (.return_, 1) := by decide +kernel
theorem dX12_moves_0 : decode cX12_moves 0 = .ok (.aload_n 0, 1) := by decide +kernel
theorem dX12_moves_1 : decode cX12_moves 1 = .ok (.getfield 415, 3) := by decide +kernel
theorem dX12_moves_4 : decode cX12_moves 4 = .ok (.ifCond .eq 15, 3) := by decide +kernel
theorem dX12_moves_7 : decode cX12_moves 7 = .ok (.aload_n 0, 1) := by decide +kernel
theorem dX12_moves_8 : decode cX12_moves 8 = .ok (.getfield 103, 3) := by decide +kernel
theorem dX12_moves_11 : decode cX12_moves 11 = .ok (.aload_n 0, 1) := by decide +kernel
theorem dX12_moves_12 : decode cX12_moves 12 = .ok (.getfield 418, 3) := by decide +kernel
theorem dX12_moves_15 : decode cX12_moves 15 = .ok (.iaload, 1) := by decide +kernel
theorem dX12_moves_16 : decode cX12_moves 16 = .ok (.goto 4, 3) := by decide +kernel
theorem dX12_moves_19 : decode cX12_moves 19 = .ok (.iload_n 1, 1) := by decide +kernel
theorem dX12_moves_20 : decode cX12_moves 20 = .ok (.istore_n 2, 1) := by decide +kernel
theorem dX12_moves_21 : decode cX12_moves 21 = .ok (.aload_n 0, 1) := by decide +kernel
theorem dX12_moves_22 : decode cX12_moves 22 = .ok (.getfield 103, 3) := by decide +kernel
theorem dX12_moves_25 : decode cX12_moves 25 = .ok (.aload_n 0, 1) := by decide +kernel
theorem dX12_moves_26 : decode cX12_moves 26 = .ok (.getfield 418, 3) := by decide +kernel
theorem dX12_moves_29 : decode cX12_moves 29 = .ok (.iload_n 2, 1) := by decide +kernel
theorem dX12_moves_30 : decode cX12_moves 30 = .ok (.iastore, 1) := by decide +kernel
theorem dX12_moves_31 : decode cX12_moves 31 = .ok (.aload_n 0, 1) := by decide +kernel
theorem dX12_moves_32 : decode cX12_moves 32 = .ok (.dup, 1) := by decide +kernel
theorem dX12_moves_33 : decode cX12_moves 33 = .ok (.getfield 418, 3) := by decide +kernel
theorem dX12_moves_36 : decode cX12_moves 36 = .ok (.iconst 1, 1) := by decide +kernel
theorem dX12_moves_37 : decode cX12_moves 37 = .ok (.iadd, 1) := by decide +kernel
theorem dX12_moves_38 : decode cX12_moves 38 = .ok (.putfield 418, 3) := by decide +kernel
theorem dX12_moves_41 : decode cX12_moves 41 = .ok (.iload_n 2, 1) := by decide +kernel
theorem dX12_moves_42 : decode cX12_moves 42 = .ok (.ireturn, 1) := by decide +kernel
theorem dX12_movesRow_0 : decode cX12_movesRow 0 = .ok (.iconst 0, 1) := by decide +kernel
theorem dX12_movesRow_1 : decode cX12_movesRow 1 = .ok (.istore_n 2, 1) := by decide +kernel
theorem dX12_movesRow_2 : decode cX12_movesRow 2 = .ok (.iload_n 2, 1) := by decide +kernel
theorem dX12_movesRow_3 : decode cX12_movesRow 3 = .ok (.aload_n 1, 1) := by decide +kernel
theorem dX12_movesRow_4 : decode cX12_movesRow 4 = .ok (.arraylength, 1) := by decide +kernel
theorem dX12_movesRow_5 : decode cX12_movesRow 5 = .ok (.if_icmp .ge 19, 3) := by decide +kernel
theorem dX12_movesRow_8 : decode cX12_movesRow 8 = .ok (.aload_n 1, 1) := by decide +kernel
theorem dX12_movesRow_9 : decode cX12_movesRow 9 = .ok (.iload_n 2, 1) := by decide +kernel
theorem dX12_movesRow_10 : decode cX12_movesRow 10 = .ok (.aload_n 0, 1) := by decide +kernel
theorem dX12_movesRow_11 : decode cX12_movesRow 11 = .ok (.aload_n 1, 1) := by decide +kernel
theorem dX12_movesRow_12 : decode cX12_movesRow 12 = .ok (.iload_n 2, 1) := by decide +kernel
theorem dX12_movesRow_13 : decode cX12_movesRow 13 = .ok (.iaload, 1) := by decide +kernel
theorem dX12_movesRow_14 : decode cX12_movesRow 14 = .ok (.invokevirtual 421, 3) := by decide +kernel
theorem dX12_movesRow_17 : decode cX12_movesRow 17 = .ok (.iastore, 1) := by decide +kernel
theorem dX12_movesRow_18 : decode cX12_movesRow 18 = .ok (.iinc 2 1, 3) := by decide +kernel
theorem dX12_movesRow_21 : decode cX12_movesRow 21 = .ok (.goto (-19), 3) := by decide +kernel
theorem dX12_movesRow_24 : decode cX12_movesRow 24 = .ok (.return_, 1) := by decide +kernel
theorem dX12_movesAll_0 : decode cX12_movesAll 0 = .ok (.aload_n 0, 1) := by decide +kernel
theorem dX12_movesAll_1 : decode cX12_movesAll 1 = .ok (.bipush 51, 2) := by decide +kernel
theorem dX12_movesAll_3 : decode cX12_movesAll 3 = .ok (.iload_n 1, 1) := by decide +kernel
theorem dX12_movesAll_4 : decode cX12_movesAll 4 = .ok (.imul, 1) := by decide +kernel
theorem dX12_movesAll_5 : decode cX12_movesAll 5 = .ok (.putfield 418, 3) := by decide +kernel
theorem dX12_movesAll_8 : decode cX12_movesAll 8 = .ok (.aload_n 0, 1) := by decide +kernel
theorem dX12_movesAll_9 : decode cX12_movesAll 9 = .ok (.iload_n 2, 1) := by decide +kernel
theorem dX12_movesAll_10 : decode cX12_movesAll 10 = .ok (.putfield 415, 3) := by decide +kernel
theorem dX12_movesAll_13 : decode cX12_movesAll 13 = .ok (.iconst 5, 1) := by decide +kernel
theorem dX12_movesAll_14 : decode cX12_movesAll 14 = .ok (.istore_n 3, 1) := by decide +kernel
theorem dX12_movesAll_15 : decode cX12_movesAll 15 = .ok (.iload_n 3, 1) := by decide +kernel
theorem dX12_movesAll_16 : decode cX12_movesAll 16 = .ok (.bipush 8, 2) := by decide +kernel
theorem dX12_movesAll_18 : decode cX12_movesAll 18 = .ok (.if_icmp .ge 25, 3) := by decide +kernel
theorem dX12_movesAll_21 : decode cX12_movesAll 21 = .ok (.aload_n 0, 1) := by decide +kernel
theorem dX12_movesAll_22 : decode cX12_movesAll 22 = .ok (.getfield 9, 3) := by decide +kernel
theorem dX12_movesAll_25 : decode cX12_movesAll 25 = .ok (.iload_n 3, 1) := by decide +kernel
theorem dX12_movesAll_26 : decode cX12_movesAll 26 = .ok (.aload_n 0, 1) := by decide +kernel
theorem dX12_movesAll_27 : decode cX12_movesAll 27 = .ok (.aload_n 0, 1) := by decide +kernel
theorem dX12_movesAll_28 : decode cX12_movesAll 28 = .ok (.getfield 9, 3) := by decide +kernel
theorem dX12_movesAll_31 : decode cX12_movesAll 31 = .ok (.iload_n 3, 1) := by decide +kernel
theorem dX12_movesAll_32 : decode cX12_movesAll 32 = .ok (.iaload, 1) := by decide +kernel
theorem dX12_movesAll_33 : decode cX12_movesAll 33 = .ok (.invokevirtual 421, 3) := by decide +kernel
theorem dX12_movesAll_36 : decode cX12_movesAll 36 = .ok (.iastore, 1) := by decide +kernel
theorem dX12_movesAll_37 : decode cX12_movesAll 37 = .ok (.iinc 3 1, 3) := by decide +kernel
theorem dX12_movesAll_40 : decode cX12_movesAll 40 = .ok (.goto (-25), 3) := by decide +kernel
theorem dX12_movesAll_43 : decode cX12_movesAll 43 = .ok (.aload_n 0, 1) := by decide +kernel
theorem dX12_movesAll_44 : decode cX12_movesAll 44 = .ok (.aload_n 0, 1) := by decide +kernel
theorem dX12_movesAll_45 : decode cX12_movesAll 45 = .ok (.getfield 13, 3) := by decide +kernel
theorem dX12_movesAll_48 : decode cX12_movesAll 48 = .ok (.invokevirtual 424, 3) := by decide +kernel
theorem dX12_movesAll_51 : decode cX12_movesAll 51 = .ok (.aload_n 0, 1) := by decide +kernel
theorem dX12_movesAll_52 : decode cX12_movesAll 52 = .ok (.aload_n 0, 1) := by decide +kernel
theorem dX12_movesAll_53 : decode cX12_movesAll 53 = .ok (.getfield 16, 3) := by decide +kernel
theorem dX12_movesAll_56 : decode cX12_movesAll 56 = .ok (.invokevirtual 424, 3) := by decide +kernel
theorem dX12_movesAll_59 : decode cX12_movesAll 59 = .ok (.aload_n 0, 1) := by decide +kernel
theorem dX12_movesAll_60 : decode cX12_movesAll 60 = .ok (.aload_n 0, 1) := by decide +kernel
theorem dX12_movesAll_61 : decode cX12_movesAll 61 = .ok (.getfield 19, 3) := by decide +kernel
theorem dX12_movesAll_64 : decode cX12_movesAll 64 = .ok (.invokevirtual 424, 3) := by decide +kernel
theorem dX12_movesAll_67 : decode cX12_movesAll 67 = .ok (.return_, 1) := by decide +kernel
theorem dX12_keepsAct_0 : decode cX12_keepsAct 0 = .ok (.aload_n 0, 1) := by decide +kernel
theorem dX12_keepsAct_1 : decode cX12_keepsAct 1 = .ok (.getfield 320, 3) := by decide +kernel
theorem dX12_keepsAct_4 : decode cX12_keepsAct 4 = .ok (.bipush 20, 2) := by decide +kernel
theorem dX12_keepsAct_6 : decode cX12_keepsAct 6 = .ok (.if_icmp .ne 44, 3) := by decide +kernel
theorem dX12_keepsAct_9 : decode cX12_keepsAct 9 = .ok (.bipush 51, 2) := by decide +kernel
theorem dX12_keepsAct_11 : decode cX12_keepsAct 11 = .ok (.istore_n 1, 1) := by decide +kernel
theorem dX12_keepsAct_12 : decode cX12_keepsAct 12 = .ok (.iload_n 1, 1) := by decide +kernel
theorem dX12_keepsAct_13 : decode cX12_keepsAct 13 = .ok (.sipush 1020, 3) := by decide +kernel
theorem dX12_keepsAct_16 : decode cX12_keepsAct 16 = .ok (.if_icmp .ge 24, 3) := by decide +kernel
theorem dX12_keepsAct_19 : decode cX12_keepsAct 19 = .ok (.aload_n 0, 1) := by decide +kernel
theorem dX12_keepsAct_20 : decode cX12_keepsAct 20 = .ok (.getfield 103, 3) := by decide +kernel
theorem dX12_keepsAct_23 : decode cX12_keepsAct 23 = .ok (.iload_n 1, 1) := by decide +kernel
theorem dX12_keepsAct_24 : decode cX12_keepsAct 24 = .ok (.bipush 51, 2) := by decide +kernel
theorem dX12_keepsAct_26 : decode cX12_keepsAct 26 = .ok (.isub, 1) := by decide +kernel
theorem dX12_keepsAct_27 : decode cX12_keepsAct 27 = .ok (.aload_n 0, 1) := by decide +kernel
theorem dX12_keepsAct_28 : decode cX12_keepsAct 28 = .ok (.getfield 103, 3) := by decide +kernel
theorem dX12_keepsAct_31 : decode cX12_keepsAct 31 = .ok (.iload_n 1, 1) := by decide +kernel
theorem dX12_keepsAct_32 : decode cX12_keepsAct 32 = .ok (.iaload, 1) := by decide +kernel
theorem dX12_keepsAct_33 : decode cX12_keepsAct 33 = .ok (.iastore, 1) := by decide +kernel
theorem dX12_keepsAct_34 : decode cX12_keepsAct 34 = .ok (.iinc 1 1, 3) := by decide +kernel
theorem dX12_keepsAct_37 : decode cX12_keepsAct 37 = .ok (.goto (-25), 3) := by decide +kernel
theorem dX12_keepsAct_40 : decode cX12_keepsAct 40 = .ok (.aload_n 0, 1) := by decide +kernel
theorem dX12_keepsAct_41 : decode cX12_keepsAct 41 = .ok (.dup, 1) := by decide +kernel
theorem dX12_keepsAct_42 : decode cX12_keepsAct 42 = .ok (.getfield 320, 3) := by decide +kernel
theorem dX12_keepsAct_45 : decode cX12_keepsAct 45 = .ok (.iconst 1, 1) := by decide +kernel
theorem dX12_keepsAct_46 : decode cX12_keepsAct 46 = .ok (.isub, 1) := by decide +kernel
theorem dX12_keepsAct_47 : decode cX12_keepsAct 47 = .ok (.putfield 320, 3) := by decide +kernel
theorem dX12_keepsAct_50 : decode cX12_keepsAct 50 = .ok (.aload_n 0, 1) := by decide +kernel
theorem dX12_keepsAct_51 : decode cX12_keepsAct 51 = .ok (.aload_n 0, 1) := by decide +kernel
theorem dX12_keepsAct_52 : decode cX12_keepsAct 52 = .ok (.getfield 320, 3) := by decide +kernel
theorem dX12_keepsAct_55 : decode cX12_keepsAct 55 = .ok (.iconst 0, 1) := by decide +kernel
theorem dX12_keepsAct_56 : decode cX12_keepsAct 56 = .ok (.invokevirtual 428, 3) := by decide +kernel
theorem dX12_keepsAct_59 : decode cX12_keepsAct 59 = .ok (.aload_n 0, 1) := by decide +kernel
theorem dX12_keepsAct_60 : decode cX12_keepsAct 60 = .ok (.dup, 1) := by decide +kernel
theorem dX12_keepsAct_61 : decode cX12_keepsAct 61 = .ok (.getfield 320, 3) := by decide +kernel
theorem dX12_keepsAct_64 : decode cX12_keepsAct 64 = .ok (.iconst 1, 1) := by decide +kernel
theorem dX12_keepsAct_65 : decode cX12_keepsAct 65 = .ok (.iadd, 1) := by decide +kernel
theorem dX12_keepsAct_66 : decode cX12_keepsAct 66 = .ok (.putfield 320, 3) := by decide +kernel
theorem dX12_keepsAct_69 : decode cX12_keepsAct 69 = .ok (.return_, 1) := by decide +kernel
theorem dX12_undo_0 : decode cX12_undo 0 = .ok (.aload_n 0, 1) := by decide +kernel
theorem dX12_undo_1 : decode cX12_undo 1 = .ok (.getfield 320, 3) := by decide +kernel
theorem dX12_undo_4 : decode cX12_undo 4 = .ok (.ifCond .ne 6, 3) := by decide +kernel
theorem dX12_undo_7 : decode cX12_undo 7 = .ok (.bipush (-2), 2) := by decide +kernel
theorem dX12_undo_9 : decode cX12_undo 9 = .ok (.ireturn, 1) := by decide +kernel
theorem dX12_undo_10 : decode cX12_undo 10 = .ok (.aload_n 0, 1) := by decide +kernel
theorem dX12_undo_11 : decode cX12_undo 11 = .ok (.dup, 1) := by decide +kernel
theorem dX12_undo_12 : decode cX12_undo 12 = .ok (.getfield 320, 3) := by decide +kernel
theorem dX12_undo_15 : decode cX12_undo 15 = .ok (.iconst 1, 1) := by decide +kernel
theorem dX12_undo_16 : decode cX12_undo 16 = .ok (.isub, 1) := by decide +kernel
theorem dX12_undo_17 : decode cX12_undo 17 = .ok (.putfield 320, 3) := by decide +kernel
theorem dX12_undo_20 : decode cX12_undo 20 = .ok (.aload_n 0, 1) := by decide +kernel
theorem dX12_undo_21 : decode cX12_undo 21 = .ok (.aload_n 0, 1) := by decide +kernel
theorem dX12_undo_22 : decode cX12_undo 22 = .ok (.getfield 320, 3) := by decide +kernel
theorem dX12_undo_25 : decode cX12_undo 25 = .ok (.iconst 1, 1) := by decide +kernel
theorem dX12_undo_26 : decode cX12_undo 26 = .ok (.invokevirtual 428, 3) := by decide +kernel
theorem dX12_undo_29 : decode cX12_undo 29 = .ok (.aload_n 0, 1) := by decide +kernel
theorem dX12_undo_30 : decode cX12_undo 30 = .ok (.getfield 320, 3) := by decide +kernel
theorem dX12_undo_33 : decode cX12_undo 33 = .ok (.ireturn, 1) := by decide +kernel
theorem dX12_day_0 : decode cX12_day 0 = .ok (.aload_n 0, 1) := by decide +kernel
theorem dX12_day_1 : decode cX12_day 1 = .ok (.invokevirtual 432, 3) := by decide +kernel
theorem dX12_day_4 : decode cX12_day 4 = .ok (.ifCond .eq 15, 3) := by decide +kernel
theorem dX12_day_7 : decode cX12_day 7 = .ok (.aload_n 0, 1) := by decide +kernel
theorem dX12_day_8 : decode cX12_day 8 = .ok (.getfield 9, 3) := by decide +kernel
theorem dX12_day_11 : decode cX12_day 11 = .ok (.iconst 5, 1) := by decide +kernel
theorem dX12_day_12 : decode cX12_day 12 = .ok (.iaload, 1) := by decide +kernel
theorem dX12_day_13 : decode cX12_day 13 = .ok (.sipush 999, 3) := by decide +kernel
theorem dX12_day_16 : decode cX12_day 16 = .ok (.if_icmp .ne 5, 3) := by decide +kernel
theorem dX12_day_19 : decode cX12_day 19 = .ok (.iconst (-1), 1) := by decide +kernel
theorem dX12_day_20 : decode cX12_day 20 = .ok (.ireturn, 1) := by decide +kernel
theorem dX12_day_21 : decode cX12_day 21 = .ok (.aload_n 0, 1) := by decide +kernel
theorem dX12_day_22 : decode cX12_day 22 = .ok (.invokevirtual 435, 3) := by decide +kernel
theorem dX12_day_25 : decode cX12_day 25 = .ok (.aload_n 0, 1) := by decide +kernel
theorem dX12_day_26 : decode cX12_day 26 = .ok (.invokevirtual 412, 3) := by decide +kernel
theorem dX12_day_29 : decode cX12_day 29 = .ok (.ireturn, 1) := by decide +kernel
theorem dX12_crack_0 : decode cX12_crack 0 = .ok (.aload_n 0, 1) := by decide +kernel
theorem dX12_crack_1 : decode cX12_crack 1 = .ok (.iload_n 1, 1) := by decide +kernel
theorem dX12_crack_2 : decode cX12_crack 2 = .ok (.iload_n 2, 1) := by decide +kernel
theorem dX12_crack_3 : decode cX12_crack 3 = .ok (.invokevirtual 370, 3) := by decide +kernel
theorem dX12_crack_6 : decode cX12_crack 6 = .ok (.ifCond .eq 17, 3) := by decide +kernel
theorem dX12_crack_9 : decode cX12_crack 9 = .ok (.aload_n 0, 1) := by decide +kernel
theorem dX12_crack_10 : decode cX12_crack 10 = .ok (.getfield 19, 3) := by decide +kernel
theorem dX12_crack_13 : decode cX12_crack 13 = .ok (.bipush 6, 2) := by decide +kernel
theorem dX12_crack_15 : decode cX12_crack 15 = .ok (.iload_n 1, 1) := by decide +kernel
theorem dX12_crack_16 : decode cX12_crack 16 = .ok (.imul, 1) := by decide +kernel
theorem dX12_crack_17 : decode cX12_crack 17 = .ok (.iload_n 2, 1) := by decide +kernel
theorem dX12_crack_18 : decode cX12_crack 18 = .ok (.iadd, 1) := by decide +kernel
theorem dX12_crack_19 : decode cX12_crack 19 = .ok (.iaload, 1) := by decide +kernel
theorem dX12_crack_20 : decode cX12_crack 20 = .ok (.ifCond .ne 5, 3) := by decide +kernel
theorem dX12_crack_23 : decode cX12_crack 23 = .ok (.iconst (-1), 1) := by decide +kernel
theorem dX12_crack_24 : decode cX12_crack 24 = .ok (.ireturn, 1) := by decide +kernel
theorem dX12_crack_25 : decode cX12_crack 25 = .ok (.aload_n 0, 1) := by decide +kernel
theorem dX12_crack_26 : decode cX12_crack 26 = .ok (.invokevirtual 435, 3) := by decide +kernel
theorem dX12_crack_29 : decode cX12_crack 29 = .ok (.aload_n 0, 1) := by decide +kernel
theorem dX12_crack_30 : decode cX12_crack 30 = .ok (.getfield 19, 3) := by decide +kernel
theorem dX12_crack_33 : decode cX12_crack 33 = .ok (.bipush 6, 2) := by decide +kernel
theorem dX12_crack_35 : decode cX12_crack 35 = .ok (.iload_n 1, 1) := by decide +kernel
theorem dX12_crack_36 : decode cX12_crack 36 = .ok (.imul, 1) := by decide +kernel
theorem dX12_crack_37 : decode cX12_crack 37 = .ok (.iload_n 2, 1) := by decide +kernel
theorem dX12_crack_38 : decode cX12_crack 38 = .ok (.iadd, 1) := by decide +kernel
theorem dX12_crack_39 : decode cX12_crack 39 = .ok (.iaload, 1) := by decide +kernel
theorem dX12_crack_40 : decode cX12_crack 40 = .ok (.istore_n 3, 1) := by decide +kernel
theorem dX12_crack_41 : decode cX12_crack 41 = .ok (.aload_n 0, 1) := by decide +kernel
theorem dX12_crack_42 : decode cX12_crack 42 = .ok (.iload_n 1, 1) := by decide +kernel
theorem dX12_crack_43 : decode cX12_crack 43 = .ok (.iload_n 2, 1) := by decide +kernel
theorem dX12_crack_44 : decode cX12_crack 44 = .ok (.iconst 0, 1) := by decide +kernel
theorem dX12_crack_45 : decode cX12_crack 45 = .ok (.invokevirtual 396, 3) := by decide +kernel
theorem dX12_crack_48 : decode cX12_crack 48 = .ok (.iload_n 3, 1) := by decide +kernel
theorem dX12_crack_49 : decode cX12_crack 49 = .ok (.ireturn, 1) := by decide +kernel
theorem dX12_canPour_0 : decode cX12_canPour 0 = .ok (.aload_n 0, 1) := by decide +kernel
theorem dX12_canPour_1 : decode cX12_canPour 1 = .ok (.getfield 19, 3) := by decide +kernel
theorem dX12_canPour_4 : decode cX12_canPour 4 = .ok (.bipush 6, 2) := by decide +kernel
theorem dX12_canPour_6 : decode cX12_canPour 6 = .ok (.iload_n 1, 1) := by decide +kernel
theorem dX12_canPour_7 : decode cX12_canPour 7 = .ok (.imul, 1) := by decide +kernel
theorem dX12_canPour_8 : decode cX12_canPour 8 = .ok (.iload_n 2, 1) := by decide +kernel
theorem dX12_canPour_9 : decode cX12_canPour 9 = .ok (.iadd, 1) := by decide +kernel
theorem dX12_canPour_10 : decode cX12_canPour 10 = .ok (.iaload, 1) := by decide +kernel
theorem dX12_canPour_11 : decode cX12_canPour 11 = .ok (.ifCond .ne 42, 3) := by decide +kernel
theorem dX12_canPour_14 : decode cX12_canPour 14 = .ok (.aload_n 0, 1) := by decide +kernel
theorem dX12_canPour_15 : decode cX12_canPour 15 = .ok (.iload_n 1, 1) := by decide +kernel
theorem dX12_canPour_16 : decode cX12_canPour 16 = .ok (.invokevirtual 406, 3) := by decide +kernel
theorem dX12_canPour_19 : decode cX12_canPour 19 = .ok (.ifCond .ne 34, 3) := by decide +kernel
theorem dX12_canPour_22 : decode cX12_canPour 22 = .ok (.aload_n 0, 1) := by decide +kernel
theorem dX12_canPour_23 : decode cX12_canPour 23 = .ok (.iload_n 2, 1) := by decide +kernel
theorem dX12_canPour_24 : decode cX12_canPour 24 = .ok (.invokevirtual 406, 3) := by decide +kernel
theorem dX12_canPour_27 : decode cX12_canPour 27 = .ok (.ifCond .ne 26, 3) := by decide +kernel
theorem dX12_canPour_30 : decode cX12_canPour 30 = .ok (.aload_n 0, 1) := by decide +kernel
theorem dX12_canPour_31 : decode cX12_canPour 31 = .ok (.getfield 13, 3) := by decide +kernel
theorem dX12_canPour_34 : decode cX12_canPour 34 = .ok (.iload_n 1, 1) := by decide +kernel
theorem dX12_canPour_35 : decode cX12_canPour 35 = .ok (.iaload, 1) := by decide +kernel
theorem dX12_canPour_36 : decode cX12_canPour 36 = .ok (.aload_n 0, 1) := by decide +kernel
theorem dX12_canPour_37 : decode cX12_canPour 37 = .ok (.getfield 13, 3) := by decide +kernel
theorem dX12_canPour_40 : decode cX12_canPour 40 = .ok (.iload_n 2, 1) := by decide +kernel
theorem dX12_canPour_41 : decode cX12_canPour 41 = .ok (.iaload, 1) := by decide +kernel
theorem dX12_canPour_42 : decode cX12_canPour 42 = .ok (.invokestatic 375, 3) := by decide +kernel
theorem dX12_canPour_45 : decode cX12_canPour 45 = .ok (.iconst 3, 1) := by decide +kernel
theorem dX12_canPour_46 : decode cX12_canPour 46 = .ok (.if_icmp .gt 7, 3) := by decide +kernel
theorem dX12_canPour_49 : decode cX12_canPour 49 = .ok (.iconst 1, 1) := by decide +kernel
theorem dX12_canPour_50 : decode cX12_canPour 50 = .ok (.goto 4, 3) := by decide +kernel
theorem dX12_canPour_53 : decode cX12_canPour 53 = .ok (.iconst 0, 1) := by decide +kernel
theorem dX12_canPour_54 : decode cX12_canPour 54 = .ok (.ireturn, 1) := by decide +kernel
theorem dX12_pour_0 : decode cX12_pour 0 = .ok (.aload_n 0, 1) := by decide +kernel
theorem dX12_pour_1 : decode cX12_pour 1 = .ok (.iload_n 1, 1) := by decide +kernel
theorem dX12_pour_2 : decode cX12_pour 2 = .ok (.iload_n 2, 1) := by decide +kernel
theorem dX12_pour_3 : decode cX12_pour 3 = .ok (.invokevirtual 370, 3) := by decide +kernel
theorem dX12_pour_6 : decode cX12_pour 6 = .ok (.ifCond .eq 35, 3) := by decide +kernel
theorem dX12_pour_9 : decode cX12_pour 9 = .ok (.iload_n 3, 1) := by decide +kernel
theorem dX12_pour_10 : decode cX12_pour 10 = .ok (.i2l, 1) := by decide +kernel
theorem dX12_pour_11 : decode cX12_pour 11 = .ok (.lconst 1, 1) := by decide +kernel
theorem dX12_pour_12 : decode cX12_pour 12 = .ok (.ldc2_w 438, 3) := by decide +kernel
theorem dX12_pour_15 : decode cX12_pour 15 = .ok (.invokestatic 143, 3) := by decide +kernel
theorem dX12_pour_18 : decode cX12_pour 18 = .ok (.ifCond .eq 23, 3) := by decide +kernel
theorem dX12_pour_21 : decode cX12_pour 21 = .ok (.aload_n 0, 1) := by decide +kernel
theorem dX12_pour_22 : decode cX12_pour 22 = .ok (.iload_n 1, 1) := by decide +kernel
theorem dX12_pour_23 : decode cX12_pour 23 = .ok (.iload_n 2, 1) := by decide +kernel
theorem dX12_pour_24 : decode cX12_pour 24 = .ok (.invokevirtual 440, 3) := by decide +kernel
theorem dX12_pour_27 : decode cX12_pour 27 = .ok (.ifCond .eq 14, 3) := by decide +kernel
theorem dX12_pour_30 : decode cX12_pour 30 = .ok (.aload_n 0, 1) := by decide +kernel
theorem dX12_pour_31 : decode cX12_pour 31 = .ok (.getfield 9, 3) := by decide +kernel
theorem dX12_pour_34 : decode cX12_pour 34 = .ok (.bipush 6, 2) := by decide +kernel
theorem dX12_pour_36 : decode cX12_pour 36 = .ok (.iaload, 1) := by decide +kernel
theorem dX12_pour_37 : decode cX12_pour 37 = .ok (.iload_n 3, 1) := by decide +kernel
theorem dX12_pour_38 : decode cX12_pour 38 = .ok (.if_icmp .ge 5, 3) := by decide +kernel
theorem dX12_pour_41 : decode cX12_pour 41 = .ok (.iconst (-1), 1) := by decide +kernel
theorem dX12_pour_42 : decode cX12_pour 42 = .ok (.ireturn, 1) := by decide +kernel
theorem dX12_pour_43 : decode cX12_pour 43 = .ok (.aload_n 0, 1) := by decide +kernel
theorem dX12_pour_44 : decode cX12_pour 44 = .ok (.invokevirtual 435, 3) := by decide +kernel
theorem dX12_pour_47 : decode cX12_pour 47 = .ok (.aload_n 0, 1) := by decide +kernel
theorem dX12_pour_48 : decode cX12_pour 48 = .ok (.iload_n 1, 1) := by decide +kernel
theorem dX12_pour_49 : decode cX12_pour 49 = .ok (.iload_n 2, 1) := by decide +kernel
theorem dX12_pour_50 : decode cX12_pour 50 = .ok (.iload_n 3, 1) := by decide +kernel
theorem dX12_pour_51 : decode cX12_pour 51 = .ok (.invokevirtual 396, 3) := by decide +kernel
theorem dX12_pour_54 : decode cX12_pour 54 = .ok (.aload_n 0, 1) := by decide +kernel
theorem dX12_pour_55 : decode cX12_pour 55 = .ok (.getfield 9, 3) := by decide +kernel
theorem dX12_pour_58 : decode cX12_pour 58 = .ok (.bipush 6, 2) := by decide +kernel
theorem dX12_pour_60 : decode cX12_pour 60 = .ok (.dup2, 1) := by decide +kernel
theorem dX12_pour_61 : decode cX12_pour 61 = .ok (.iaload, 1) := by decide +kernel
theorem dX12_pour_62 : decode cX12_pour 62 = .ok (.iload_n 3, 1) := by decide +kernel
theorem dX12_pour_63 : decode cX12_pour 63 = .ok (.isub, 1) := by decide +kernel
theorem dX12_pour_64 : decode cX12_pour 64 = .ok (.iastore, 1) := by decide +kernel
theorem dX12_pour_65 : decode cX12_pour 65 = .ok (.aload_n 0, 1) := by decide +kernel
theorem dX12_pour_66 : decode cX12_pour 66 = .ok (.getfield 9, 3) := by decide +kernel
theorem dX12_pour_69 : decode cX12_pour 69 = .ok (.bipush 6, 2) := by decide +kernel
theorem dX12_pour_71 : decode cX12_pour 71 = .ok (.iaload, 1) := by decide +kernel
theorem dX12_pour_72 : decode cX12_pour 72 = .ok (.ireturn, 1) := by decide +kernel
theorem dX12_rock_0 : decode cX12_rock 0 = .ok (.aload_n 0, 1) := by decide +kernel
theorem dX12_rock_1 : decode cX12_rock 1 = .ok (.iload_n 1, 1) := by decide +kernel
theorem dX12_rock_2 : decode cX12_rock 2 = .ok (.invokevirtual 147, 3) := by decide +kernel
theorem dX12_rock_5 : decode cX12_rock 5 = .ok (.ifCond .eq 49, 3) := by decide +kernel
theorem dX12_rock_8 : decode cX12_rock 8 = .ok (.aload_n 0, 1) := by decide +kernel
theorem dX12_rock_9 : decode cX12_rock 9 = .ok (.iload_n 1, 1) := by decide +kernel
theorem dX12_rock_10 : decode cX12_rock 10 = .ok (.invokevirtual 406, 3) := by decide +kernel
theorem dX12_rock_13 : decode cX12_rock 13 = .ok (.ifCond .ne 41, 3) := by decide +kernel
theorem dX12_rock_16 : decode cX12_rock 16 = .ok (.iload_n 2, 1) := by decide +kernel
theorem dX12_rock_17 : decode cX12_rock 17 = .ok (.i2l, 1) := by decide +kernel
theorem dX12_rock_18 : decode cX12_rock 18 = .ok (.aload_n 0, 1) := by decide +kernel
theorem dX12_rock_19 : decode cX12_rock 19 = .ok (.getfield 16, 3) := by decide +kernel
theorem dX12_rock_22 : decode cX12_rock 22 = .ok (.iload_n 1, 1) := by decide +kernel
theorem dX12_rock_23 : decode cX12_rock 23 = .ok (.iaload, 1) := by decide +kernel
theorem dX12_rock_24 : decode cX12_rock 24 = .ok (.iconst 1, 1) := by decide +kernel
theorem dX12_rock_25 : decode cX12_rock 25 = .ok (.iadd, 1) := by decide +kernel
theorem dX12_rock_26 : decode cX12_rock 26 = .ok (.i2l, 1) := by decide +kernel
theorem dX12_rock_27 : decode cX12_rock 27 = .ok (.ldc2_w 438, 3) := by decide +kernel
theorem dX12_rock_30 : decode cX12_rock 30 = .ok (.invokestatic 143, 3) := by decide +kernel
theorem dX12_rock_33 : decode cX12_rock 33 = .ok (.ifCond .eq 21, 3) := by decide +kernel
theorem dX12_rock_36 : decode cX12_rock 36 = .ok (.aload_n 0, 1) := by decide +kernel
theorem dX12_rock_37 : decode cX12_rock 37 = .ok (.getfield 9, 3) := by decide +kernel
theorem dX12_rock_40 : decode cX12_rock 40 = .ok (.bipush 6, 2) := by decide +kernel
theorem dX12_rock_42 : decode cX12_rock 42 = .ok (.iaload, 1) := by decide +kernel
theorem dX12_rock_43 : decode cX12_rock 43 = .ok (.iload_n 2, 1) := by decide +kernel
theorem dX12_rock_44 : decode cX12_rock 44 = .ok (.aload_n 0, 1) := by decide +kernel
theorem dX12_rock_45 : decode cX12_rock 45 = .ok (.getfield 16, 3) := by decide +kernel
theorem dX12_rock_48 : decode cX12_rock 48 = .ok (.iload_n 1, 1) := by decide +kernel
theorem dX12_rock_49 : decode cX12_rock 49 = .ok (.iaload, 1) := by decide +kernel
theorem dX12_rock_50 : decode cX12_rock 50 = .ok (.isub, 1) := by decide +kernel
theorem dX12_rock_51 : decode cX12_rock 51 = .ok (.if_icmp .ge 5, 3) := by decide +kernel
theorem dX12_rock_54 : decode cX12_rock 54 = .ok (.iconst (-1), 1) := by decide +kernel
theorem dX12_rock_55 : decode cX12_rock 55 = .ok (.ireturn, 1) := by decide +kernel
theorem dX12_rock_56 : decode cX12_rock 56 = .ok (.aload_n 0, 1) := by decide +kernel
theorem dX12_rock_57 : decode cX12_rock 57 = .ok (.invokevirtual 435, 3) := by decide +kernel
theorem dX12_rock_60 : decode cX12_rock 60 = .ok (.aload_n 0, 1) := by decide +kernel
theorem dX12_rock_61 : decode cX12_rock 61 = .ok (.getfield 9, 3) := by decide +kernel
theorem dX12_rock_64 : decode cX12_rock 64 = .ok (.bipush 6, 2) := by decide +kernel
theorem dX12_rock_66 : decode cX12_rock 66 = .ok (.dup2, 1) := by decide +kernel
theorem dX12_rock_67 : decode cX12_rock 67 = .ok (.iaload, 1) := by decide +kernel
theorem dX12_rock_68 : decode cX12_rock 68 = .ok (.iload_n 2, 1) := by decide +kernel
theorem dX12_rock_69 : decode cX12_rock 69 = .ok (.aload_n 0, 1) := by decide +kernel
theorem dX12_rock_70 : decode cX12_rock 70 = .ok (.getfield 16, 3) := by decide +kernel
theorem dX12_rock_73 : decode cX12_rock 73 = .ok (.iload_n 1, 1) := by decide +kernel
theorem dX12_rock_74 : decode cX12_rock 74 = .ok (.iaload, 1) := by decide +kernel
theorem dX12_rock_75 : decode cX12_rock 75 = .ok (.isub, 1) := by decide +kernel
theorem dX12_rock_76 : decode cX12_rock 76 = .ok (.isub, 1) := by decide +kernel
theorem dX12_rock_77 : decode cX12_rock 77 = .ok (.iastore, 1) := by decide +kernel
theorem dX12_rock_78 : decode cX12_rock 78 = .ok (.aload_n 0, 1) := by decide +kernel
theorem dX12_rock_79 : decode cX12_rock 79 = .ok (.getfield 16, 3) := by decide +kernel
theorem dX12_rock_82 : decode cX12_rock 82 = .ok (.iload_n 1, 1) := by decide +kernel
theorem dX12_rock_83 : decode cX12_rock 83 = .ok (.iload_n 2, 1) := by decide +kernel
theorem dX12_rock_84 : decode cX12_rock 84 = .ok (.iastore, 1) := by decide +kernel
theorem dX12_rock_85 : decode cX12_rock 85 = .ok (.aload_n 0, 1) := by decide +kernel
theorem dX12_rock_86 : decode cX12_rock 86 = .ok (.getfield 9, 3) := by decide +kernel
theorem dX12_rock_89 : decode cX12_rock 89 = .ok (.bipush 6, 2) := by decide +kernel
theorem dX12_rock_91 : decode cX12_rock 91 = .ok (.iaload, 1) := by decide +kernel
theorem dX12_rock_92 : decode cX12_rock 92 = .ok (.ireturn, 1) := by decide +kernel
theorem dX12_ice_0 : decode cX12_ice 0 = .ok (.aload_n 0, 1) := by decide +kernel
theorem dX12_ice_1 : decode cX12_ice 1 = .ok (.invokevirtual 432, 3) := by decide +kernel
theorem dX12_ice_4 : decode cX12_ice 4 = .ok (.ifCond .eq 15, 3) := by decide +kernel
theorem dX12_ice_7 : decode cX12_ice 7 = .ok (.iload_n 1, 1) := by decide +kernel
theorem dX12_ice_8 : decode cX12_ice 8 = .ok (.i2l, 1) := by decide +kernel
theorem dX12_ice_9 : decode cX12_ice 9 = .ok (.lconst 1, 1) := by decide +kernel
theorem dX12_ice_10 : decode cX12_ice 10 = .ok (.ldc2_w 438, 3) := by decide +kernel
theorem dX12_ice_13 : decode cX12_ice 13 = .ok (.invokestatic 143, 3) := by decide +kernel
theorem dX12_ice_16 : decode cX12_ice 16 = .ok (.ifCond .ne 5, 3) := by decide +kernel
theorem dX12_ice_19 : decode cX12_ice 19 = .ok (.iconst (-1), 1) := by decide +kernel
theorem dX12_ice_20 : decode cX12_ice 20 = .ok (.ireturn, 1) := by decide +kernel
theorem dX12_ice_21 : decode cX12_ice 21 = .ok (.aload_n 0, 1) := by decide +kernel
theorem dX12_ice_22 : decode cX12_ice 22 = .ok (.invokevirtual 435, 3) := by decide +kernel
theorem dX12_ice_25 : decode cX12_ice 25 = .ok (.aload_n 0, 1) := by decide +kernel
theorem dX12_ice_26 : decode cX12_ice 26 = .ok (.getfield 9, 3) := by decide +kernel
theorem dX12_ice_29 : decode cX12_ice 29 = .ok (.bipush 7, 2) := by decide +kernel
theorem dX12_ice_31 : decode cX12_ice 31 = .ok (.iaload, 1) := by decide +kernel
theorem dX12_ice_32 : decode cX12_ice 32 = .ok (.istore_n 2, 1) := by decide +kernel
theorem dX12_ice_33 : decode cX12_ice 33 = .ok (.aload_n 0, 1) := by decide +kernel
theorem dX12_ice_34 : decode cX12_ice 34 = .ok (.getfield 9, 3) := by decide +kernel
theorem dX12_ice_37 : decode cX12_ice 37 = .ok (.bipush 7, 2) := by decide +kernel
theorem dX12_ice_39 : decode cX12_ice 39 = .ok (.iload_n 1, 1) := by decide +kernel
theorem dX12_ice_40 : decode cX12_ice 40 = .ok (.iastore, 1) := by decide +kernel
theorem dX12_ice_41 : decode cX12_ice 41 = .ok (.iload_n 2, 1) := by decide +kernel
theorem dX12_ice_42 : decode cX12_ice 42 = .ok (.ireturn, 1) := by decide +kernel
theorem dX12_keepsAll_0 : decode cX12_keepsAll 0 = .ok (.aload_n 0, 1) := by decide +kernel
theorem dX12_keepsAll_1 : decode cX12_keepsAll 1 = .ok (.iconst 4, 1) := by decide +kernel
theorem dX12_keepsAll_2 : decode cX12_keepsAll 2 = .ok (.iconst 0, 1) := by decide +kernel
theorem dX12_keepsAll_3 : decode cX12_keepsAll 3 = .ok (.invokevirtual 443, 3) := by decide +kernel
theorem dX12_keepsAll_6 : decode cX12_keepsAll 6 = .ok (.return_, 1) := by decide +kernel
theorem dX12_laysBack_0 : decode cX12_laysBack 0 = .ok (.aload_n 0, 1) := by decide +kernel
theorem dX12_laysBack_1 : decode cX12_laysBack 1 = .ok (.iconst 4, 1) := by decide +kernel
theorem dX12_laysBack_2 : decode cX12_laysBack 2 = .ok (.iconst 1, 1) := by decide +kernel
theorem dX12_laysBack_3 : decode cX12_laysBack 3 = .ok (.invokevirtual 443, 3) := by decide +kernel
theorem dX12_laysBack_6 : decode cX12_laysBack 6 = .ok (.return_, 1) := by decide +kernel
theorem dX12_inRiver_0 : decode cX12_inRiver 0 = .ok (.iconst 0, 1) := by decide +kernel
theorem dX12_inRiver_1 : decode cX12_inRiver 1 = .ok (.istore_n 1, 1) := by decide +kernel
theorem dX12_inRiver_2 : decode cX12_inRiver 2 = .ok (.iconst 0, 1) := by decide +kernel
theorem dX12_inRiver_3 : decode cX12_inRiver 3 = .ok (.istore_n 2, 1) := by decide +kernel
theorem dX12_inRiver_4 : decode cX12_inRiver 4 = .ok (.iload_n 2, 1) := by decide +kernel
theorem dX12_inRiver_5 : decode cX12_inRiver 5 = .ok (.aload_n 0, 1) := by decide +kernel
theorem dX12_inRiver_6 : decode cX12_inRiver 6 = .ok (.getfield 9, 3) := by decide +kernel
theorem dX12_inRiver_9 : decode cX12_inRiver 9 = .ok (.iconst 4, 1) := by decide +kernel
theorem dX12_inRiver_10 : decode cX12_inRiver 10 = .ok (.iaload, 1) := by decide +kernel
theorem dX12_inRiver_11 : decode cX12_inRiver 11 = .ok (.if_icmp .ge 27, 3) := by decide +kernel
theorem dX12_inRiver_14 : decode cX12_inRiver 14 = .ok (.iload_n 1, 1) := by decide +kernel
theorem dX12_inRiver_15 : decode cX12_inRiver 15 = .ok (.aload_n 0, 1) := by decide +kernel
theorem dX12_inRiver_16 : decode cX12_inRiver 16 = .ok (.iload_n 2, 1) := by decide +kernel
theorem dX12_inRiver_17 : decode cX12_inRiver 17 = .ok (.invokevirtual 406, 3) := by decide +kernel
theorem dX12_inRiver_20 : decode cX12_inRiver 20 = .ok (.ifCond .eq 9, 3) := by decide +kernel
theorem dX12_inRiver_23 : decode cX12_inRiver 23 = .ok (.iconst 1, 1) := by decide +kernel
theorem dX12_inRiver_24 : decode cX12_inRiver 24 = .ok (.iload_n 2, 1) := by decide +kernel
theorem dX12_inRiver_25 : decode cX12_inRiver 25 = .ok (.ishl, 1) := by decide +kernel
theorem dX12_inRiver_26 : decode cX12_inRiver 26 = .ok (.goto 4, 3) := by decide +kernel
theorem dX12_inRiver_29 : decode cX12_inRiver 29 = .ok (.iconst 0, 1) := by decide +kernel
theorem dX12_inRiver_30 : decode cX12_inRiver 30 = .ok (.ior, 1) := by decide +kernel
theorem dX12_inRiver_31 : decode cX12_inRiver 31 = .ok (.istore_n 1, 1) := by decide +kernel
theorem dX12_inRiver_32 : decode cX12_inRiver 32 = .ok (.iinc 2 1, 3) := by decide +kernel
theorem dX12_inRiver_35 : decode cX12_inRiver 35 = .ok (.goto (-31), 3) := by decide +kernel
theorem dX12_inRiver_38 : decode cX12_inRiver 38 = .ok (.iload_n 1, 1) := by decide +kernel
theorem dX12_inRiver_39 : decode cX12_inRiver 39 = .ok (.ireturn, 1) := by decide +kernel
theorem dX12_allPlaces_0 : decode cX12_allPlaces 0 = .ok (.iconst 0, 1) := by decide +kernel
theorem dX12_allPlaces_1 : decode cX12_allPlaces 1 = .ok (.istore_n 1, 1) := by decide +kernel
theorem dX12_allPlaces_2 : decode cX12_allPlaces 2 = .ok (.iconst 0, 1) := by decide +kernel
theorem dX12_allPlaces_3 : decode cX12_allPlaces 3 = .ok (.istore_n 2, 1) := by decide +kernel
theorem dX12_allPlaces_4 : decode cX12_allPlaces 4 = .ok (.iload_n 2, 1) := by decide +kernel
theorem dX12_allPlaces_5 : decode cX12_allPlaces 5 = .ok (.aload_n 0, 1) := by decide +kernel
theorem dX12_allPlaces_6 : decode cX12_allPlaces 6 = .ok (.getfield 9, 3) := by decide +kernel
theorem dX12_allPlaces_9 : decode cX12_allPlaces 9 = .ok (.iconst 4, 1) := by decide +kernel
theorem dX12_allPlaces_10 : decode cX12_allPlaces 10 = .ok (.iaload, 1) := by decide +kernel
theorem dX12_allPlaces_11 : decode cX12_allPlaces 11 = .ok (.if_icmp .ge 18, 3) := by decide +kernel
theorem dX12_allPlaces_14 : decode cX12_allPlaces 14 = .ok (.iload_n 1, 1) := by decide +kernel
theorem dX12_allPlaces_15 : decode cX12_allPlaces 15 = .ok (.aload_n 0, 1) := by decide +kernel
theorem dX12_allPlaces_16 : decode cX12_allPlaces 16 = .ok (.getfield 13, 3) := by decide +kernel
theorem dX12_allPlaces_19 : decode cX12_allPlaces 19 = .ok (.iload_n 2, 1) := by decide +kernel
theorem dX12_allPlaces_20 : decode cX12_allPlaces 20 = .ok (.iaload, 1) := by decide +kernel
theorem dX12_allPlaces_21 : decode cX12_allPlaces 21 = .ok (.iadd, 1) := by decide +kernel
theorem dX12_allPlaces_22 : decode cX12_allPlaces 22 = .ok (.istore_n 1, 1) := by decide +kernel
theorem dX12_allPlaces_23 : decode cX12_allPlaces 23 = .ok (.iinc 2 1, 3) := by decide +kernel
theorem dX12_allPlaces_26 : decode cX12_allPlaces 26 = .ok (.goto (-22), 3) := by decide +kernel
theorem dX12_allPlaces_29 : decode cX12_allPlaces 29 = .ok (.iload_n 1, 1) := by decide +kernel
theorem dX12_allPlaces_30 : decode cX12_allPlaces 30 = .ok (.ireturn, 1) := by decide +kernel
theorem dX12_placeIn_0 : decode cX12_placeIn 0 = .ok (.aload_n 0, 1) := by decide +kernel
theorem dX12_placeIn_1 : decode cX12_placeIn 1 = .ok (.iload_n 2, 1) := by decide +kernel
theorem dX12_placeIn_2 : decode cX12_placeIn 2 = .ok (.invokevirtual 446, 3) := by decide +kernel
theorem dX12_placeIn_5 : decode cX12_placeIn 5 = .ok (.aload_n 0, 1) := by decide +kernel
theorem dX12_placeIn_6 : decode cX12_placeIn 6 = .ok (.getfield 13, 3) := by decide +kernel
theorem dX12_placeIn_9 : decode cX12_placeIn 9 = .ok (.iload_n 1, 1) := by decide +kernel
theorem dX12_placeIn_10 : decode cX12_placeIn 10 = .ok (.iaload, 1) := by decide +kernel
theorem dX12_placeIn_11 : decode cX12_placeIn 11 = .ok (.istore_n 3, 1) := by decide +kernel
theorem dX12_placeIn_12 : decode cX12_placeIn 12 = .ok (.aload_n 0, 1) := by decide +kernel
theorem dX12_placeIn_13 : decode cX12_placeIn 13 = .ok (.invokevirtual 449, 3) := by decide +kernel
theorem dX12_placeIn_16 : decode cX12_placeIn 16 = .ok (.iload_n 3, 1) := by decide +kernel
theorem dX12_placeIn_17 : decode cX12_placeIn 17 = .ok (.ireturn, 1) := by decide +kernel
theorem dX12_ahead_0 : decode cX12_ahead 0 = .ok (.aload_n 0, 1) := by decide +kernel
theorem dX12_ahead_1 : decode cX12_ahead 1 = .ok (.invokevirtual 432, 3) := by decide +kernel
theorem dX12_ahead_4 : decode cX12_ahead 4 = .ok (.ifCond .eq 39, 3) := by decide +kernel
theorem dX12_ahead_7 : decode cX12_ahead 7 = .ok (.iload_n 3, 1) := by decide +kernel
theorem dX12_ahead_8 : decode cX12_ahead 8 = .ok (.i2l, 1) := by decide +kernel
theorem dX12_ahead_9 : decode cX12_ahead 9 = .ok (.lconst 0, 1) := by decide +kernel
theorem dX12_ahead_10 : decode cX12_ahead 10 = .ok (.ldc2_w 452, 3) := by decide +kernel
theorem dX12_ahead_13 : decode cX12_ahead 13 = .ok (.invokestatic 143, 3) := by decide +kernel
theorem dX12_ahead_16 : decode cX12_ahead 16 = .ok (.ifCond .eq 27, 3) := by decide +kernel
theorem dX12_ahead_19 : decode cX12_ahead 19 = .ok (.iload_n 3, 1) := by decide +kernel
theorem dX12_ahead_20 : decode cX12_ahead 20 = .ok (.ifCond .ne 11, 3) := by decide +kernel
theorem dX12_ahead_23 : decode cX12_ahead 23 = .ok (.aload_n 0, 1) := by decide +kernel
theorem dX12_ahead_24 : decode cX12_ahead 24 = .ok (.iload_n 1, 1) := by decide +kernel
theorem dX12_ahead_25 : decode cX12_ahead 25 = .ok (.invokevirtual 147, 3) := by decide +kernel
theorem dX12_ahead_28 : decode cX12_ahead 28 = .ok (.ifCond .eq 15, 3) := by decide +kernel
theorem dX12_ahead_31 : decode cX12_ahead 31 = .ok (.iload_n 2, 1) := by decide +kernel
theorem dX12_ahead_32 : decode cX12_ahead 32 = .ok (.i2l, 1) := by decide +kernel
theorem dX12_ahead_33 : decode cX12_ahead 33 = .ok (.lconst 0, 1) := by decide +kernel
theorem dX12_ahead_34 : decode cX12_ahead 34 = .ok (.ldc2_w 454, 3) := by decide +kernel
theorem dX12_ahead_37 : decode cX12_ahead 37 = .ok (.invokestatic 143, 3) := by decide +kernel
theorem dX12_ahead_40 : decode cX12_ahead 40 = .ok (.ifCond .ne 5, 3) := by decide +kernel
theorem dX12_ahead_43 : decode cX12_ahead 43 = .ok (.iconst (-1), 1) := by decide +kernel
theorem dX12_ahead_44 : decode cX12_ahead 44 = .ok (.ireturn, 1) := by decide +kernel
theorem dX12_ahead_45 : decode cX12_ahead 45 = .ok (.aload_n 0, 1) := by decide +kernel
theorem dX12_ahead_46 : decode cX12_ahead 46 = .ok (.invokevirtual 456, 3) := by decide +kernel
theorem dX12_ahead_49 : decode cX12_ahead 49 = .ok (.aload_n 0, 1) := by decide +kernel
theorem dX12_ahead_50 : decode cX12_ahead 50 = .ok (.iload_n 2, 1) := by decide +kernel
theorem dX12_ahead_51 : decode cX12_ahead 51 = .ok (.invokevirtual 446, 3) := by decide +kernel
theorem dX12_ahead_54 : decode cX12_ahead 54 = .ok (.iload_n 3, 1) := by decide +kernel
theorem dX12_ahead_55 : decode cX12_ahead 55 = .ok (.ifCond .ne 12, 3) := by decide +kernel
theorem dX12_ahead_58 : decode cX12_ahead 58 = .ok (.aload_n 0, 1) := by decide +kernel
theorem dX12_ahead_59 : decode cX12_ahead 59 = .ok (.getfield 13, 3) := by decide +kernel
theorem dX12_ahead_62 : decode cX12_ahead 62 = .ok (.iload_n 1, 1) := by decide +kernel
theorem dX12_ahead_63 : decode cX12_ahead 63 = .ok (.iaload, 1) := by decide +kernel
theorem dX12_ahead_64 : decode cX12_ahead 64 = .ok (.goto 25, 3) := by decide +kernel
theorem dX12_ahead_67 : decode cX12_ahead 67 = .ok (.iload_n 3, 1) := by decide +kernel
theorem dX12_ahead_68 : decode cX12_ahead 68 = .ok (.iconst 1, 1) := by decide +kernel
theorem dX12_ahead_69 : decode cX12_ahead 69 = .ok (.if_icmp .ne 13, 3) := by decide +kernel
theorem dX12_ahead_72 : decode cX12_ahead 72 = .ok (.aload_n 0, 1) := by decide +kernel
theorem dX12_ahead_73 : decode cX12_ahead 73 = .ok (.invokevirtual 459, 3) := by decide +kernel
theorem dX12_ahead_76 : decode cX12_ahead 76 = .ok (.invokestatic 393, 3) := by decide +kernel
theorem dX12_ahead_79 : decode cX12_ahead 79 = .ok (.goto 10, 3) := by decide +kernel
theorem dX12_ahead_82 : decode cX12_ahead 82 = .ok (.aload_n 0, 1) := by decide +kernel
theorem dX12_ahead_83 : decode cX12_ahead 83 = .ok (.getfield 9, 3) := by decide +kernel
theorem dX12_ahead_86 : decode cX12_ahead 86 = .ok (.bipush 6, 2) := by decide +kernel
theorem dX12_ahead_88 : decode cX12_ahead 88 = .ok (.iaload, 1) := by decide +kernel
theorem dX12_ahead_89 : decode cX12_ahead 89 = .ok (.istore 4, 2) := by decide +kernel
theorem dX12_ahead_91 : decode cX12_ahead 91 = .ok (.aload_n 0, 1) := by decide +kernel
theorem dX12_ahead_92 : decode cX12_ahead 92 = .ok (.invokevirtual 449, 3) := by decide +kernel
theorem dX12_ahead_95 : decode cX12_ahead 95 = .ok (.iload 4, 2) := by decide +kernel
theorem dX12_ahead_97 : decode cX12_ahead 97 = .ok (.ireturn, 1) := by decide +kernel
theorem dX12_laysDown_0 : decode cX12_laysDown 0 = .ok (.iconst 0, 1) := by decide +kernel
theorem dX12_laysDown_1 : decode cX12_laysDown 1 = .ok (.istore_n 1, 1) := by decide +kernel
theorem dX12_laysDown_2 : decode cX12_laysDown 2 = .ok (.iload_n 1, 1) := by decide +kernel
theorem dX12_laysDown_3 : decode cX12_laysDown 3 = .ok (.bipush 6, 2) := by decide +kernel
theorem dX12_laysDown_5 : decode cX12_laysDown 5 = .ok (.if_icmp .ge 17, 3) := by decide +kernel
theorem dX12_laysDown_8 : decode cX12_laysDown 8 = .ok (.aload_n 0, 1) := by decide +kernel
theorem dX12_laysDown_9 : decode cX12_laysDown 9 = .ok (.getfield 109, 3) := by decide +kernel
theorem dX12_laysDown_12 : decode cX12_laysDown 12 = .ok (.iload_n 1, 1) := by decide +kernel
theorem dX12_laysDown_13 : decode cX12_laysDown 13 = .ok (.bipush (-2), 2) := by decide +kernel
theorem dX12_laysDown_15 : decode cX12_laysDown 15 = .ok (.iastore, 1) := by decide +kernel
theorem dX12_laysDown_16 : decode cX12_laysDown 16 = .ok (.iinc 1 1, 3) := by decide +kernel
theorem dX12_laysDown_19 : decode cX12_laysDown 19 = .ok (.goto (-17), 3) := by decide +kernel
theorem dX12_laysDown_22 : decode cX12_laysDown 22 = .ok (.aload_n 0, 1) := by decide +kernel
theorem dX12_laysDown_23 : decode cX12_laysDown 23 = .ok (.invokevirtual 456, 3) := by decide +kernel
theorem dX12_laysDown_26 : decode cX12_laysDown 26 = .ok (.iconst 0, 1) := by decide +kernel
theorem dX12_laysDown_27 : decode cX12_laysDown 27 = .ok (.istore_n 1, 1) := by decide +kernel
theorem dX12_laysDown_28 : decode cX12_laysDown 28 = .ok (.iload_n 1, 1) := by decide +kernel
theorem dX12_laysDown_29 : decode cX12_laysDown 29 = .ok (.bipush 100, 2) := by decide +kernel
theorem dX12_laysDown_31 : decode cX12_laysDown 31 = .ok (.if_icmp .ge 72, 3) := by decide +kernel
theorem dX12_laysDown_34 : decode cX12_laysDown 34 = .ok (.iconst 0, 1) := by decide +kernel
theorem dX12_laysDown_35 : decode cX12_laysDown 35 = .ok (.istore_n 2, 1) := by decide +kernel
theorem dX12_laysDown_36 : decode cX12_laysDown 36 = .ok (.iload_n 2, 1) := by decide +kernel
theorem dX12_laysDown_37 : decode cX12_laysDown 37 = .ok (.aload_n 0, 1) := by decide +kernel
theorem dX12_laysDown_38 : decode cX12_laysDown 38 = .ok (.getfield 9, 3) := by decide +kernel
theorem dX12_laysDown_41 : decode cX12_laysDown 41 = .ok (.iconst 4, 1) := by decide +kernel
theorem dX12_laysDown_42 : decode cX12_laysDown 42 = .ok (.iaload, 1) := by decide +kernel
theorem dX12_laysDown_43 : decode cX12_laysDown 43 = .ok (.if_icmp .ge 49, 3) := by decide +kernel
theorem dX12_laysDown_46 : decode cX12_laysDown 46 = .ok (.aload_n 0, 1) := by decide +kernel
theorem dX12_laysDown_47 : decode cX12_laysDown 47 = .ok (.getfield 109, 3) := by decide +kernel
theorem dX12_laysDown_50 : decode cX12_laysDown 50 = .ok (.iload_n 2, 1) := by decide +kernel
theorem dX12_laysDown_51 : decode cX12_laysDown 51 = .ok (.aload_n 0, 1) := by decide +kernel
theorem dX12_laysDown_52 : decode cX12_laysDown 52 = .ok (.getfield 109, 3) := by decide +kernel
theorem dX12_laysDown_55 : decode cX12_laysDown 55 = .ok (.iload_n 2, 1) := by decide +kernel
theorem dX12_laysDown_56 : decode cX12_laysDown 56 = .ok (.iaload, 1) := by decide +kernel
theorem dX12_laysDown_57 : decode cX12_laysDown 57 = .ok (.bipush (-2), 2) := by decide +kernel
theorem dX12_laysDown_59 : decode cX12_laysDown 59 = .ok (.if_icmp .ne 20, 3) := by decide +kernel
theorem dX12_laysDown_62 : decode cX12_laysDown 62 = .ok (.aload_n 0, 1) := by decide +kernel
theorem dX12_laysDown_63 : decode cX12_laysDown 63 = .ok (.iload_n 2, 1) := by decide +kernel
theorem dX12_laysDown_64 : decode cX12_laysDown 64 = .ok (.invokevirtual 406, 3) := by decide +kernel
theorem dX12_laysDown_67 : decode cX12_laysDown 67 = .ok (.ifCond .eq 12, 3) := by decide +kernel
theorem dX12_laysDown_70 : decode cX12_laysDown 70 = .ok (.aload_n 0, 1) := by decide +kernel
theorem dX12_laysDown_71 : decode cX12_laysDown 71 = .ok (.getfield 9, 3) := by decide +kernel
theorem dX12_laysDown_74 : decode cX12_laysDown 74 = .ok (.iconst 5, 1) := by decide +kernel
theorem dX12_laysDown_75 : decode cX12_laysDown 75 = .ok (.iaload, 1) := by decide +kernel
theorem dX12_laysDown_76 : decode cX12_laysDown 76 = .ok (.goto 9, 3) := by decide +kernel
theorem dX12_laysDown_79 : decode cX12_laysDown 79 = .ok (.aload_n 0, 1) := by decide +kernel
theorem dX12_laysDown_80 : decode cX12_laysDown 80 = .ok (.getfield 109, 3) := by decide +kernel
theorem dX12_laysDown_83 : decode cX12_laysDown 83 = .ok (.iload_n 2, 1) := by decide +kernel
theorem dX12_laysDown_84 : decode cX12_laysDown 84 = .ok (.iaload, 1) := by decide +kernel
theorem dX12_laysDown_85 : decode cX12_laysDown 85 = .ok (.iastore, 1) := by decide +kernel
theorem dX12_laysDown_86 : decode cX12_laysDown 86 = .ok (.iinc 2 1, 3) := by decide +kernel
theorem dX12_laysDown_89 : decode cX12_laysDown 89 = .ok (.goto (-53), 3) := by decide +kernel
theorem dX12_laysDown_92 : decode cX12_laysDown 92 = .ok (.aload_n 0, 1) := by decide +kernel
theorem dX12_laysDown_93 : decode cX12_laysDown 93 = .ok (.invokevirtual 412, 3) := by decide +kernel
theorem dX12_laysDown_96 : decode cX12_laysDown 96 = .ok (.pop, 1) := by decide +kernel
theorem dX12_laysDown_97 : decode cX12_laysDown 97 = .ok (.iinc 1 1, 3) := by decide +kernel
theorem dX12_laysDown_100 : decode cX12_laysDown 100 = .ok (.goto (-72), 3) := by decide +kernel
theorem dX12_laysDown_103 : decode cX12_laysDown 103 = .ok (.aload_n 0, 1) := by decide +kernel
theorem dX12_laysDown_104 : decode cX12_laysDown 104 = .ok (.invokevirtual 449, 3) := by decide +kernel
theorem dX12_laysDown_107 : decode cX12_laysDown 107 = .ok (.return_, 1) := by decide +kernel
theorem dX12_down_0 : decode cX12_down 0 = .ok (.aload_n 0, 1) := by decide +kernel
theorem dX12_down_1 : decode cX12_down 1 = .ok (.iload_n 1, 1) := by decide +kernel
theorem dX12_down_2 : decode cX12_down 2 = .ok (.invokevirtual 147, 3) := by decide +kernel
theorem dX12_down_5 : decode cX12_down 5 = .ok (.ifCond .ne 5, 3) := by decide +kernel
theorem dX12_down_8 : decode cX12_down 8 = .ok (.iconst (-1), 1) := by decide +kernel
theorem dX12_down_9 : decode cX12_down 9 = .ok (.ireturn, 1) := by decide +kernel
theorem dX12_down_10 : decode cX12_down 10 = .ok (.aload_n 0, 1) := by decide +kernel
theorem dX12_down_11 : decode cX12_down 11 = .ok (.invokevirtual 462, 3) := by decide +kernel
theorem dX12_down_14 : decode cX12_down 14 = .ok (.aload_n 0, 1) := by decide +kernel
theorem dX12_down_15 : decode cX12_down 15 = .ok (.getfield 109, 3) := by decide +kernel
theorem dX12_down_18 : decode cX12_down 18 = .ok (.iload_n 1, 1) := by decide +kernel
theorem dX12_down_19 : decode cX12_down 19 = .ok (.iaload, 1) := by decide +kernel
theorem dX12_down_20 : decode cX12_down 20 = .ok (.ireturn, 1) := by decide +kernel
theorem dX12_leadsOut_0 : decode cX12_leadsOut 0 = .ok (.iconst 0, 1) := by decide +kernel
theorem dX12_leadsOut_1 : decode cX12_leadsOut 1 = .ok (.istore_n 2, 1) := by decide +kernel
theorem dX12_leadsOut_2 : decode cX12_leadsOut 2 = .ok (.iconst 0, 1) := by decide +kernel
theorem dX12_leadsOut_3 : decode cX12_leadsOut 3 = .ok (.istore_n 3, 1) := by decide +kernel
theorem dX12_leadsOut_4 : decode cX12_leadsOut 4 = .ok (.iload_n 3, 1) := by decide +kernel
theorem dX12_leadsOut_5 : decode cX12_leadsOut 5 = .ok (.aload_n 0, 1) := by decide +kernel
theorem dX12_leadsOut_6 : decode cX12_leadsOut 6 = .ok (.getfield 9, 3) := by decide +kernel
theorem dX12_leadsOut_9 : decode cX12_leadsOut 9 = .ok (.iconst 4, 1) := by decide +kernel
theorem dX12_leadsOut_10 : decode cX12_leadsOut 10 = .ok (.iaload, 1) := by decide +kernel
theorem dX12_leadsOut_11 : decode cX12_leadsOut 11 = .ok (.if_icmp .ge 69, 3) := by decide +kernel
theorem dX12_leadsOut_14 : decode cX12_leadsOut 14 = .ok (.iconst 0, 1) := by decide +kernel
theorem dX12_leadsOut_15 : decode cX12_leadsOut 15 = .ok (.istore 4, 2) := by decide +kernel
theorem dX12_leadsOut_17 : decode cX12_leadsOut 17 = .ok (.iload 4, 2) := by decide +kernel
theorem dX12_leadsOut_19 : decode cX12_leadsOut 19 = .ok (.aload_n 0, 1) := by decide +kernel
theorem dX12_leadsOut_20 : decode cX12_leadsOut 20 = .ok (.getfield 9, 3) := by decide +kernel
theorem dX12_leadsOut_23 : decode cX12_leadsOut 23 = .ok (.iconst 4, 1) := by decide +kernel
theorem dX12_leadsOut_24 : decode cX12_leadsOut 24 = .ok (.iaload, 1) := by decide +kernel
theorem dX12_leadsOut_25 : decode cX12_leadsOut 25 = .ok (.if_icmp .ge 49, 3) := by decide +kernel
theorem dX12_leadsOut_28 : decode cX12_leadsOut 28 = .ok (.iload_n 2, 1) := by decide +kernel
theorem dX12_leadsOut_29 : decode cX12_leadsOut 29 = .ok (.iload_n 1, 1) := by decide +kernel
theorem dX12_leadsOut_30 : decode cX12_leadsOut 30 = .ok (.iload_n 3, 1) := by decide +kernel
theorem dX12_leadsOut_31 : decode cX12_leadsOut 31 = .ok (.invokestatic 356, 3) := by decide +kernel
theorem dX12_leadsOut_34 : decode cX12_leadsOut 34 = .ok (.ifCond .eq 31, 3) := by decide +kernel
theorem dX12_leadsOut_37 : decode cX12_leadsOut 37 = .ok (.iload_n 1, 1) := by decide +kernel
theorem dX12_leadsOut_38 : decode cX12_leadsOut 38 = .ok (.iload 4, 2) := by decide +kernel
theorem dX12_leadsOut_40 : decode cX12_leadsOut 40 = .ok (.invokestatic 356, 3) := by decide +kernel
theorem dX12_leadsOut_43 : decode cX12_leadsOut 43 = .ok (.ifCond .ne 22, 3) := by decide +kernel
theorem dX12_leadsOut_46 : decode cX12_leadsOut 46 = .ok (.aload_n 0, 1) := by decide +kernel
theorem dX12_leadsOut_47 : decode cX12_leadsOut 47 = .ok (.getfield 19, 3) := by decide +kernel
theorem dX12_leadsOut_50 : decode cX12_leadsOut 50 = .ok (.bipush 6, 2) := by decide +kernel
theorem dX12_leadsOut_52 : decode cX12_leadsOut 52 = .ok (.iload_n 3, 1) := by decide +kernel
theorem dX12_leadsOut_53 : decode cX12_leadsOut 53 = .ok (.imul, 1) := by decide +kernel
theorem dX12_leadsOut_54 : decode cX12_leadsOut 54 = .ok (.iload 4, 2) := by decide +kernel
theorem dX12_leadsOut_56 : decode cX12_leadsOut 56 = .ok (.iadd, 1) := by decide +kernel
theorem dX12_leadsOut_57 : decode cX12_leadsOut 57 = .ok (.iaload, 1) := by decide +kernel
theorem dX12_leadsOut_58 : decode cX12_leadsOut 58 = .ok (.ifCond .le 7, 3) := by decide +kernel
theorem dX12_leadsOut_61 : decode cX12_leadsOut 61 = .ok (.iconst 1, 1) := by decide +kernel
theorem dX12_leadsOut_62 : decode cX12_leadsOut 62 = .ok (.goto 4, 3) := by decide +kernel
theorem dX12_leadsOut_65 : decode cX12_leadsOut 65 = .ok (.iconst 0, 1) := by decide +kernel
theorem dX12_leadsOut_66 : decode cX12_leadsOut 66 = .ok (.iadd, 1) := by decide +kernel
theorem dX12_leadsOut_67 : decode cX12_leadsOut 67 = .ok (.istore_n 2, 1) := by decide +kernel
theorem dX12_leadsOut_68 : decode cX12_leadsOut 68 = .ok (.iinc 4 1, 3) := by decide +kernel
theorem dX12_leadsOut_71 : decode cX12_leadsOut 71 = .ok (.goto (-54), 3) := by decide +kernel
theorem dX12_leadsOut_74 : decode cX12_leadsOut 74 = .ok (.iinc 3 1, 3) := by decide +kernel
theorem dX12_leadsOut_77 : decode cX12_leadsOut 77 = .ok (.goto (-73), 3) := by decide +kernel
theorem dX12_leadsOut_80 : decode cX12_leadsOut 80 = .ok (.iload_n 2, 1) := by decide +kernel
theorem dX12_leadsOut_81 : decode cX12_leadsOut 81 = .ok (.ireturn, 1) := by decide +kernel
theorem dX12_part_0 : decode cX12_part 0 = .ok (.aload_n 0, 1) := by decide +kernel
theorem dX12_part_1 : decode cX12_part 1 = .ok (.iload_n 1, 1) := by decide +kernel
theorem dX12_part_2 : decode cX12_part 2 = .ok (.iload_n 2, 1) := by decide +kernel
theorem dX12_part_3 : decode cX12_part 3 = .ok (.invokevirtual 370, 3) := by decide +kernel
theorem dX12_part_6 : decode cX12_part 6 = .ok (.ifCond .eq 13, 3) := by decide +kernel
theorem dX12_part_9 : decode cX12_part 9 = .ok (.iload_n 3, 1) := by decide +kernel
theorem dX12_part_10 : decode cX12_part 10 = .ok (.i2l, 1) := by decide +kernel
theorem dX12_part_11 : decode cX12_part 11 = .ok (.lconst 0, 1) := by decide +kernel
theorem dX12_part_12 : decode cX12_part 12 = .ok (.lconst 1, 1) := by decide +kernel
theorem dX12_part_13 : decode cX12_part 13 = .ok (.invokestatic 143, 3) := by decide +kernel
theorem dX12_part_16 : decode cX12_part 16 = .ok (.ifCond .ne 5, 3) := by decide +kernel
theorem dX12_part_19 : decode cX12_part 19 = .ok (.iconst (-1), 1) := by decide +kernel
theorem dX12_part_20 : decode cX12_part 20 = .ok (.ireturn, 1) := by decide +kernel
theorem dX12_part_21 : decode cX12_part 21 = .ok (.iconst (-1), 1) := by decide +kernel
theorem dX12_part_22 : decode cX12_part 22 = .ok (.istore 4, 2) := by decide +kernel
theorem dX12_part_24 : decode cX12_part 24 = .ok (.ldc_w 465, 3) := by decide +kernel
theorem dX12_part_27 : decode cX12_part 27 = .ok (.istore 5, 2) := by decide +kernel
theorem dX12_part_29 : decode cX12_part 29 = .ok (.iconst 0, 1) := by decide +kernel
theorem dX12_part_30 : decode cX12_part 30 = .ok (.istore 6, 2) := by decide +kernel
theorem dX12_part_32 : decode cX12_part 32 = .ok (.iload 6, 2) := by decide +kernel
theorem dX12_part_34 : decode cX12_part 34 = .ok (.iconst 1, 1) := by decide +kernel
theorem dX12_part_35 : decode cX12_part 35 = .ok (.aload_n 0, 1) := by decide +kernel
theorem dX12_part_36 : decode cX12_part 36 = .ok (.getfield 9, 3) := by decide +kernel
theorem dX12_part_39 : decode cX12_part 39 = .ok (.iconst 4, 1) := by decide +kernel
theorem dX12_part_40 : decode cX12_part 40 = .ok (.iaload, 1) := by decide +kernel
theorem dX12_part_41 : decode cX12_part 41 = .ok (.ishl, 1) := by decide +kernel
theorem dX12_part_42 : decode cX12_part 42 = .ok (.if_icmp .ge 50, 3) := by decide +kernel
theorem dX12_part_45 : decode cX12_part 45 = .ok (.iload 6, 2) := by decide +kernel
theorem dX12_part_47 : decode cX12_part 47 = .ok (.iload_n 1, 1) := by decide +kernel
theorem dX12_part_48 : decode cX12_part 48 = .ok (.invokestatic 356, 3) := by decide +kernel
theorem dX12_part_51 : decode cX12_part 51 = .ok (.ifCond .eq 35, 3) := by decide +kernel
theorem dX12_part_54 : decode cX12_part 54 = .ok (.iload 6, 2) := by decide +kernel
theorem dX12_part_56 : decode cX12_part 56 = .ok (.iload_n 2, 1) := by decide +kernel
theorem dX12_part_57 : decode cX12_part 57 = .ok (.invokestatic 356, 3) := by decide +kernel
theorem dX12_part_60 : decode cX12_part 60 = .ok (.ifCond .ne 26, 3) := by decide +kernel
theorem dX12_part_63 : decode cX12_part 63 = .ok (.aload_n 0, 1) := by decide +kernel
theorem dX12_part_64 : decode cX12_part 64 = .ok (.iload 6, 2) := by decide +kernel
theorem dX12_part_66 : decode cX12_part 66 = .ok (.invokevirtual 466, 3) := by decide +kernel
theorem dX12_part_69 : decode cX12_part 69 = .ok (.iload 5, 2) := by decide +kernel
theorem dX12_part_71 : decode cX12_part 71 = .ok (.if_icmp .ge 15, 3) := by decide +kernel
theorem dX12_part_74 : decode cX12_part 74 = .ok (.iload 6, 2) := by decide +kernel
theorem dX12_part_76 : decode cX12_part 76 = .ok (.istore 4, 2) := by decide +kernel
theorem dX12_part_78 : decode cX12_part 78 = .ok (.aload_n 0, 1) := by decide +kernel
theorem dX12_part_79 : decode cX12_part 79 = .ok (.iload 6, 2) := by decide +kernel
theorem dX12_part_81 : decode cX12_part 81 = .ok (.invokevirtual 466, 3) := by decide +kernel
theorem dX12_part_84 : decode cX12_part 84 = .ok (.istore 5, 2) := by decide +kernel
theorem dX12_part_86 : decode cX12_part 86 = .ok (.iinc 6 1, 3) := by decide +kernel
theorem dX12_part_89 : decode cX12_part 89 = .ok (.goto (-57), 3) := by decide +kernel
theorem dX12_part_92 : decode cX12_part 92 = .ok (.iload_n 3, 1) := by decide +kernel
theorem dX12_part_93 : decode cX12_part 93 = .ok (.ifCond .ne 8, 3) := by decide +kernel
theorem dX12_part_96 : decode cX12_part 96 = .ok (.iload 5, 2) := by decide +kernel
theorem dX12_part_98 : decode cX12_part 98 = .ok (.goto 5, 3) := by decide +kernel
theorem dX12_part_101 : decode cX12_part 101 = .ok (.iload 4, 2) := by decide +kernel
theorem dX12_part_103 : decode cX12_part 103 = .ok (.ireturn, 1) := by decide +kernel
theorem dX12_blocks_0 : decode cX12_blocks 0 = .ok (.aload_n 0, 1) := by decide +kernel
theorem dX12_blocks_1 : decode cX12_blocks 1 = .ok (.invokevirtual 432, 3) := by decide +kernel
theorem dX12_blocks_4 : decode cX12_blocks 4 = .ok (.ifCond .eq 13, 3) := by decide +kernel
theorem dX12_blocks_7 : decode cX12_blocks 7 = .ok (.iload_n 1, 1) := by decide +kernel
theorem dX12_blocks_8 : decode cX12_blocks 8 = .ok (.i2l, 1) := by decide +kernel
theorem dX12_blocks_9 : decode cX12_blocks 9 = .ok (.lconst 0, 1) := by decide +kernel
theorem dX12_blocks_10 : decode cX12_blocks 10 = .ok (.lconst 1, 1) := by decide +kernel
theorem dX12_blocks_11 : decode cX12_blocks 11 = .ok (.invokestatic 143, 3) := by decide +kernel
theorem dX12_blocks_14 : decode cX12_blocks 14 = .ok (.ifCond .ne 5, 3) := by decide +kernel
theorem dX12_blocks_17 : decode cX12_blocks 17 = .ok (.iconst (-1), 1) := by decide +kernel
theorem dX12_blocks_18 : decode cX12_blocks 18 = .ok (.ireturn, 1) := by decide +kernel
theorem dX12_blocks_19 : decode cX12_blocks 19 = .ok (.iconst 0, 1) := by decide +kernel
theorem dX12_blocks_20 : decode cX12_blocks 20 = .ok (.istore_n 2, 1) := by decide +kernel
theorem dX12_blocks_21 : decode cX12_blocks 21 = .ok (.iconst 0, 1) := by decide +kernel
theorem dX12_blocks_22 : decode cX12_blocks 22 = .ok (.istore_n 3, 1) := by decide +kernel
theorem dX12_blocks_23 : decode cX12_blocks 23 = .ok (.iconst 0, 1) := by decide +kernel
theorem dX12_blocks_24 : decode cX12_blocks 24 = .ok (.istore 4, 2) := by decide +kernel
theorem dX12_blocks_26 : decode cX12_blocks 26 = .ok (.iconst 0, 1) := by decide +kernel
theorem dX12_blocks_27 : decode cX12_blocks 27 = .ok (.istore 5, 2) := by decide +kernel
theorem dX12_blocks_29 : decode cX12_blocks 29 = .ok (.iload 5, 2) := by decide +kernel
theorem dX12_blocks_31 : decode cX12_blocks 31 = .ok (.aload_n 0, 1) := by decide +kernel
theorem dX12_blocks_32 : decode cX12_blocks 32 = .ok (.getfield 9, 3) := by decide +kernel
theorem dX12_blocks_35 : decode cX12_blocks 35 = .ok (.iconst 4, 1) := by decide +kernel
theorem dX12_blocks_36 : decode cX12_blocks 36 = .ok (.iaload, 1) := by decide +kernel
theorem dX12_blocks_37 : decode cX12_blocks 37 = .ok (.if_icmp .ge 69, 3) := by decide +kernel
theorem dX12_blocks_40 : decode cX12_blocks 40 = .ok (.aload_n 0, 1) := by decide +kernel
theorem dX12_blocks_41 : decode cX12_blocks 41 = .ok (.iload 5, 2) := by decide +kernel
theorem dX12_blocks_43 : decode cX12_blocks 43 = .ok (.invokevirtual 406, 3) := by decide +kernel
theorem dX12_blocks_46 : decode cX12_blocks 46 = .ok (.ifCond .ne 54, 3) := by decide +kernel
theorem dX12_blocks_49 : decode cX12_blocks 49 = .ok (.iload_n 3, 1) := by decide +kernel
theorem dX12_blocks_50 : decode cX12_blocks 50 = .ok (.iload 5, 2) := by decide +kernel
theorem dX12_blocks_52 : decode cX12_blocks 52 = .ok (.invokestatic 356, 3) := by decide +kernel
theorem dX12_blocks_55 : decode cX12_blocks 55 = .ok (.ifCond .ne 45, 3) := by decide +kernel
theorem dX12_blocks_58 : decode cX12_blocks 58 = .ok (.aload_n 0, 1) := by decide +kernel
theorem dX12_blocks_59 : decode cX12_blocks 59 = .ok (.iload 5, 2) := by decide +kernel
theorem dX12_blocks_61 : decode cX12_blocks 61 = .ok (.aload_n 0, 1) := by decide +kernel
theorem dX12_blocks_62 : decode cX12_blocks 62 = .ok (.invokevirtual 362, 3) := by decide +kernel
theorem dX12_blocks_65 : decode cX12_blocks 65 = .ok (.invokevirtual 364, 3) := by decide +kernel
theorem dX12_blocks_68 : decode cX12_blocks 68 = .ok (.istore 6, 2) := by decide +kernel
theorem dX12_blocks_70 : decode cX12_blocks 70 = .ok (.iload 6, 2) := by decide +kernel
theorem dX12_blocks_72 : decode cX12_blocks 72 = .ok (.invokestatic 393, 3) := by decide +kernel
theorem dX12_blocks_75 : decode cX12_blocks 75 = .ok (.iload 4, 2) := by decide +kernel
theorem dX12_blocks_77 : decode cX12_blocks 77 = .ok (.invokestatic 393, 3) := by decide +kernel
theorem dX12_blocks_80 : decode cX12_blocks 80 = .ok (.if_icmp .le 8, 3) := by decide +kernel
theorem dX12_blocks_83 : decode cX12_blocks 83 = .ok (.iload 6, 2) := by decide +kernel
theorem dX12_blocks_85 : decode cX12_blocks 85 = .ok (.goto 5, 3) := by decide +kernel
theorem dX12_blocks_88 : decode cX12_blocks 88 = .ok (.iload 4, 2) := by decide +kernel
theorem dX12_blocks_90 : decode cX12_blocks 90 = .ok (.istore 4, 2) := by decide +kernel
theorem dX12_blocks_92 : decode cX12_blocks 92 = .ok (.iload_n 3, 1) := by decide +kernel
theorem dX12_blocks_93 : decode cX12_blocks 93 = .ok (.iload 6, 2) := by decide +kernel
theorem dX12_blocks_95 : decode cX12_blocks 95 = .ok (.ior, 1) := by decide +kernel
theorem dX12_blocks_96 : decode cX12_blocks 96 = .ok (.istore_n 3, 1) := by decide +kernel
theorem dX12_blocks_97 : decode cX12_blocks 97 = .ok (.iinc 2 1, 3) := by decide +kernel
theorem dX12_blocks_100 : decode cX12_blocks 100 = .ok (.iinc 5 1, 3) := by decide +kernel
theorem dX12_blocks_103 : decode cX12_blocks 103 = .ok (.goto (-74), 3) := by decide +kernel
theorem dX12_blocks_106 : decode cX12_blocks 106 = .ok (.iload_n 1, 1) := by decide +kernel
theorem dX12_blocks_107 : decode cX12_blocks 107 = .ok (.ifCond .ne 7, 3) := by decide +kernel
theorem dX12_blocks_110 : decode cX12_blocks 110 = .ok (.iload_n 2, 1) := by decide +kernel
theorem dX12_blocks_111 : decode cX12_blocks 111 = .ok (.goto 5, 3) := by decide +kernel
theorem dX12_blocks_114 : decode cX12_blocks 114 = .ok (.iload 4, 2) := by decide +kernel
theorem dX12_blocks_116 : decode cX12_blocks 116 = .ok (.ireturn, 1) := by decide +kernel
theorem dX12_stay_0 : decode cX12_stay 0 = .ok (.aload_n 0, 1) := by decide +kernel
theorem dX12_stay_1 : decode cX12_stay 1 = .ok (.iload_n 1, 1) := by decide +kernel
theorem dX12_stay_2 : decode cX12_stay 2 = .ok (.invokevirtual 147, 3) := by decide +kernel
theorem dX12_stay_5 : decode cX12_stay 5 = .ok (.ifCond .eq 15, 3) := by decide +kernel
theorem dX12_stay_8 : decode cX12_stay 8 = .ok (.iload_n 2, 1) := by decide +kernel
theorem dX12_stay_9 : decode cX12_stay 9 = .ok (.i2l, 1) := by decide +kernel
theorem dX12_stay_10 : decode cX12_stay 10 = .ok (.lconst 1, 1) := by decide +kernel
theorem dX12_stay_11 : decode cX12_stay 11 = .ok (.ldc2_w 469, 3) := by decide +kernel
theorem dX12_stay_14 : decode cX12_stay 14 = .ok (.invokestatic 143, 3) := by decide +kernel
theorem dX12_stay_17 : decode cX12_stay 17 = .ok (.ifCond .ne 5, 3) := by decide +kernel
theorem dX12_stay_20 : decode cX12_stay 20 = .ok (.iconst (-1), 1) := by decide +kernel
theorem dX12_stay_21 : decode cX12_stay 21 = .ok (.ireturn, 1) := by decide +kernel
theorem dX12_stay_22 : decode cX12_stay 22 = .ok (.aload_n 0, 1) := by decide +kernel
theorem dX12_stay_23 : decode cX12_stay 23 = .ok (.getfield 13, 3) := by decide +kernel
theorem dX12_stay_26 : decode cX12_stay 26 = .ok (.iload_n 1, 1) := by decide +kernel
theorem dX12_stay_27 : decode cX12_stay 27 = .ok (.iaload, 1) := by decide +kernel
theorem dX12_stay_28 : decode cX12_stay 28 = .ok (.istore_n 3, 1) := by decide +kernel
theorem dX12_stay_29 : decode cX12_stay 29 = .ok (.bipush (-2), 2) := by decide +kernel
theorem dX12_stay_31 : decode cX12_stay 31 = .ok (.istore 4, 2) := by decide +kernel
theorem dX12_stay_33 : decode cX12_stay 33 = .ok (.aload_n 0, 1) := by decide +kernel
theorem dX12_stay_34 : decode cX12_stay 34 = .ok (.invokevirtual 456, 3) := by decide +kernel
theorem dX12_stay_37 : decode cX12_stay 37 = .ok (.iconst 0, 1) := by decide +kernel
theorem dX12_stay_38 : decode cX12_stay 38 = .ok (.istore 5, 2) := by decide +kernel
theorem dX12_stay_40 : decode cX12_stay 40 = .ok (.iload 5, 2) := by decide +kernel
theorem dX12_stay_42 : decode cX12_stay 42 = .ok (.bipush 9, 2) := by decide +kernel
theorem dX12_stay_44 : decode cX12_stay 44 = .ok (.if_icmp .gt 43, 3) := by decide +kernel
theorem dX12_stay_47 : decode cX12_stay 47 = .ok (.iload 4, 2) := by decide +kernel
theorem dX12_stay_49 : decode cX12_stay 49 = .ok (.bipush (-2), 2) := by decide +kernel
theorem dX12_stay_51 : decode cX12_stay 51 = .ok (.if_icmp .ne 36, 3) := by decide +kernel
theorem dX12_stay_54 : decode cX12_stay 54 = .ok (.aload_n 0, 1) := by decide +kernel
theorem dX12_stay_55 : decode cX12_stay 55 = .ok (.getfield 16, 3) := by decide +kernel
theorem dX12_stay_58 : decode cX12_stay 58 = .ok (.iload_n 1, 1) := by decide +kernel
theorem dX12_stay_59 : decode cX12_stay 59 = .ok (.iload 5, 2) := by decide +kernel
theorem dX12_stay_61 : decode cX12_stay 61 = .ok (.iastore, 1) := by decide +kernel
theorem dX12_stay_62 : decode cX12_stay 62 = .ok (.aload_n 0, 1) := by decide +kernel
theorem dX12_stay_63 : decode cX12_stay 63 = .ok (.iload_n 1, 1) := by decide +kernel
theorem dX12_stay_64 : decode cX12_stay 64 = .ok (.iload_n 2, 1) := by decide +kernel
theorem dX12_stay_65 : decode cX12_stay 65 = .ok (.invokevirtual 471, 3) := by decide +kernel
theorem dX12_stay_68 : decode cX12_stay 68 = .ok (.iload_n 3, 1) := by decide +kernel
theorem dX12_stay_69 : decode cX12_stay 69 = .ok (.if_icmp .ne 8, 3) := by decide +kernel
theorem dX12_stay_72 : decode cX12_stay 72 = .ok (.iload 5, 2) := by decide +kernel
theorem dX12_stay_74 : decode cX12_stay 74 = .ok (.goto 5, 3) := by decide +kernel
theorem dX12_stay_77 : decode cX12_stay 77 = .ok (.bipush (-2), 2) := by decide +kernel
theorem dX12_stay_79 : decode cX12_stay 79 = .ok (.istore 4, 2) := by decide +kernel
theorem dX12_stay_81 : decode cX12_stay 81 = .ok (.iinc 5 1, 3) := by decide +kernel
theorem dX12_stay_84 : decode cX12_stay 84 = .ok (.goto (-44), 3) := by decide +kernel
theorem dX12_stay_87 : decode cX12_stay 87 = .ok (.iload 4, 2) := by decide +kernel
theorem dX12_stay_89 : decode cX12_stay 89 = .ok (.ireturn, 1) := by decide +kernel
theorem dX12_iced_0 : decode cX12_iced 0 = .ok (.aload_n 0, 1) := by decide +kernel
theorem dX12_iced_1 : decode cX12_iced 1 = .ok (.invokevirtual 432, 3) := by decide +kernel
theorem dX12_iced_4 : decode cX12_iced 4 = .ok (.ifCond .eq 15, 3) := by decide +kernel
theorem dX12_iced_7 : decode cX12_iced 7 = .ok (.iload_n 1, 1) := by decide +kernel
theorem dX12_iced_8 : decode cX12_iced 8 = .ok (.i2l, 1) := by decide +kernel
theorem dX12_iced_9 : decode cX12_iced 9 = .ok (.lconst 1, 1) := by decide +kernel
theorem dX12_iced_10 : decode cX12_iced 10 = .ok (.ldc2_w 469, 3) := by decide +kernel
theorem dX12_iced_13 : decode cX12_iced 13 = .ok (.invokestatic 143, 3) := by decide +kernel
theorem dX12_iced_16 : decode cX12_iced 16 = .ok (.ifCond .ne 5, 3) := by decide +kernel
theorem dX12_iced_19 : decode cX12_iced 19 = .ok (.iconst (-1), 1) := by decide +kernel
theorem dX12_iced_20 : decode cX12_iced 20 = .ok (.ireturn, 1) := by decide +kernel
theorem dX12_iced_21 : decode cX12_iced 21 = .ok (.aload_n 0, 1) := by decide +kernel
theorem dX12_iced_22 : decode cX12_iced 22 = .ok (.invokevirtual 459, 3) := by decide +kernel
theorem dX12_iced_25 : decode cX12_iced 25 = .ok (.istore_n 2, 1) := by decide +kernel
theorem dX12_iced_26 : decode cX12_iced 26 = .ok (.bipush (-2), 2) := by decide +kernel
theorem dX12_iced_28 : decode cX12_iced 28 = .ok (.istore_n 3, 1) := by decide +kernel
theorem dX12_iced_29 : decode cX12_iced 29 = .ok (.aload_n 0, 1) := by decide +kernel
theorem dX12_iced_30 : decode cX12_iced 30 = .ok (.invokevirtual 456, 3) := by decide +kernel
theorem dX12_iced_33 : decode cX12_iced 33 = .ok (.iconst 0, 1) := by decide +kernel
theorem dX12_iced_34 : decode cX12_iced 34 = .ok (.istore 4, 2) := by decide +kernel
theorem dX12_iced_36 : decode cX12_iced 36 = .ok (.iload 4, 2) := by decide +kernel
theorem dX12_iced_38 : decode cX12_iced 38 = .ok (.bipush 9, 2) := by decide +kernel
theorem dX12_iced_40 : decode cX12_iced 40 = .ok (.if_icmp .gt 49, 3) := by decide +kernel
theorem dX12_iced_43 : decode cX12_iced 43 = .ok (.iload_n 3, 1) := by decide +kernel
theorem dX12_iced_44 : decode cX12_iced 44 = .ok (.bipush (-2), 2) := by decide +kernel
theorem dX12_iced_46 : decode cX12_iced 46 = .ok (.if_icmp .ne 43, 3) := by decide +kernel
theorem dX12_iced_49 : decode cX12_iced 49 = .ok (.aload_n 0, 1) := by decide +kernel
theorem dX12_iced_50 : decode cX12_iced 50 = .ok (.getfield 9, 3) := by decide +kernel
theorem dX12_iced_53 : decode cX12_iced 53 = .ok (.bipush 7, 2) := by decide +kernel
theorem dX12_iced_55 : decode cX12_iced 55 = .ok (.iload 4, 2) := by decide +kernel
theorem dX12_iced_57 : decode cX12_iced 57 = .ok (.iastore, 1) := by decide +kernel
theorem dX12_iced_58 : decode cX12_iced 58 = .ok (.aload_n 0, 1) := by decide +kernel
theorem dX12_iced_59 : decode cX12_iced 59 = .ok (.iload_n 1, 1) := by decide +kernel
theorem dX12_iced_60 : decode cX12_iced 60 = .ok (.invokevirtual 446, 3) := by decide +kernel
theorem dX12_iced_63 : decode cX12_iced 63 = .ok (.aload_n 0, 1) := by decide +kernel
theorem dX12_iced_64 : decode cX12_iced 64 = .ok (.invokevirtual 459, 3) := by decide +kernel
theorem dX12_iced_67 : decode cX12_iced 67 = .ok (.iload_n 2, 1) := by decide +kernel
theorem dX12_iced_68 : decode cX12_iced 68 = .ok (.if_icmp .ne 8, 3) := by decide +kernel
theorem dX12_iced_71 : decode cX12_iced 71 = .ok (.iload 4, 2) := by decide +kernel
theorem dX12_iced_73 : decode cX12_iced 73 = .ok (.goto 5, 3) := by decide +kernel
theorem dX12_iced_76 : decode cX12_iced 76 = .ok (.bipush (-2), 2) := by decide +kernel
theorem dX12_iced_78 : decode cX12_iced 78 = .ok (.istore_n 3, 1) := by decide +kernel
theorem dX12_iced_79 : decode cX12_iced 79 = .ok (.aload_n 0, 1) := by decide +kernel
theorem dX12_iced_80 : decode cX12_iced 80 = .ok (.invokevirtual 449, 3) := by decide +kernel
theorem dX12_iced_83 : decode cX12_iced 83 = .ok (.iinc 4 1, 3) := by decide +kernel
theorem dX12_iced_86 : decode cX12_iced 86 = .ok (.goto (-50), 3) := by decide +kernel
theorem dX12_iced_89 : decode cX12_iced 89 = .ok (.iload_n 3, 1) := by decide +kernel
theorem dX12_iced_90 : decode cX12_iced 90 = .ok (.ireturn, 1) := by decide +kernel
theorem dX12_stood_0 : decode cX12_stood 0 = .ok (.aload_n 0, 1) := by decide +kernel
theorem dX12_stood_1 : decode cX12_stood 1 = .ok (.iload_n 1, 1) := by decide +kernel
theorem dX12_stood_2 : decode cX12_stood 2 = .ok (.invokevirtual 147, 3) := by decide +kernel
theorem dX12_stood_5 : decode cX12_stood 5 = .ok (.ifCond .eq 42, 3) := by decide +kernel
theorem dX12_stood_8 : decode cX12_stood 8 = .ok (.iload_n 2, 1) := by decide +kernel
theorem dX12_stood_9 : decode cX12_stood 9 = .ok (.i2l, 1) := by decide +kernel
theorem dX12_stood_10 : decode cX12_stood 10 = .ok (.lconst 0, 1) := by decide +kernel
theorem dX12_stood_11 : decode cX12_stood 11 = .ok (.aload_n 0, 1) := by decide +kernel
theorem dX12_stood_12 : decode cX12_stood 12 = .ok (.getfield 9, 3) := by decide +kernel
theorem dX12_stood_15 : decode cX12_stood 15 = .ok (.iconst 0, 1) := by decide +kernel
theorem dX12_stood_16 : decode cX12_stood 16 = .ok (.iaload, 1) := by decide +kernel
theorem dX12_stood_17 : decode cX12_stood 17 = .ok (.i2l, 1) := by decide +kernel
theorem dX12_stood_18 : decode cX12_stood 18 = .ok (.invokestatic 143, 3) := by decide +kernel
theorem dX12_stood_21 : decode cX12_stood 21 = .ok (.ifCond .eq 26, 3) := by decide +kernel
theorem dX12_stood_24 : decode cX12_stood 24 = .ok (.iload_n 3, 1) := by decide +kernel
theorem dX12_stood_25 : decode cX12_stood 25 = .ok (.i2l, 1) := by decide +kernel
theorem dX12_stood_26 : decode cX12_stood 26 = .ok (.lconst 1, 1) := by decide +kernel
theorem dX12_stood_27 : decode cX12_stood 27 = .ok (.ldc2_w 474, 3) := by decide +kernel
theorem dX12_stood_30 : decode cX12_stood 30 = .ok (.invokestatic 143, 3) := by decide +kernel
theorem dX12_stood_33 : decode cX12_stood 33 = .ok (.ifCond .eq 14, 3) := by decide +kernel
theorem dX12_stood_36 : decode cX12_stood 36 = .ok (.iload 4, 2) := by decide +kernel
theorem dX12_stood_38 : decode cX12_stood 38 = .ok (.i2l, 1) := by decide +kernel
theorem dX12_stood_39 : decode cX12_stood 39 = .ok (.lconst 0, 1) := by decide +kernel
theorem dX12_stood_40 : decode cX12_stood 40 = .ok (.lconst 1, 1) := by decide +kernel
theorem dX12_stood_41 : decode cX12_stood 41 = .ok (.invokestatic 143, 3) := by decide +kernel
theorem dX12_stood_44 : decode cX12_stood 44 = .ok (.ifCond .ne 5, 3) := by decide +kernel
theorem dX12_stood_47 : decode cX12_stood 47 = .ok (.iconst (-1), 1) := by decide +kernel
theorem dX12_stood_48 : decode cX12_stood 48 = .ok (.ireturn, 1) := by decide +kernel
theorem dX12_stood_49 : decode cX12_stood 49 = .ok (.iconst 0, 1) := by decide +kernel
theorem dX12_stood_50 : decode cX12_stood 50 = .ok (.istore 5, 2) := by decide +kernel
theorem dX12_stood_52 : decode cX12_stood 52 = .ok (.bipush (-2), 2) := by decide +kernel
theorem dX12_stood_54 : decode cX12_stood 54 = .ok (.istore 6, 2) := by decide +kernel
theorem dX12_stood_56 : decode cX12_stood 56 = .ok (.aload_n 0, 1) := by decide +kernel
theorem dX12_stood_57 : decode cX12_stood 57 = .ok (.invokevirtual 456, 3) := by decide +kernel
theorem dX12_stood_60 : decode cX12_stood 60 = .ok (.iconst 0, 1) := by decide +kernel
theorem dX12_stood_61 : decode cX12_stood 61 = .ok (.istore 7, 2) := by decide +kernel
theorem dX12_stood_63 : decode cX12_stood 63 = .ok (.iload 7, 2) := by decide +kernel
theorem dX12_stood_65 : decode cX12_stood 65 = .ok (.aload_n 0, 1) := by decide +kernel
theorem dX12_stood_66 : decode cX12_stood 66 = .ok (.getfield 9, 3) := by decide +kernel
theorem dX12_stood_69 : decode cX12_stood 69 = .ok (.iconst 0, 1) := by decide +kernel
theorem dX12_stood_70 : decode cX12_stood 70 = .ok (.iaload, 1) := by decide +kernel
theorem dX12_stood_71 : decode cX12_stood 71 = .ok (.if_icmp .ge 44, 3) := by decide +kernel
theorem dX12_stood_74 : decode cX12_stood 74 = .ok (.aload_n 0, 1) := by decide +kernel
theorem dX12_stood_75 : decode cX12_stood 75 = .ok (.getfield 13, 3) := by decide +kernel
theorem dX12_stood_78 : decode cX12_stood 78 = .ok (.iload_n 1, 1) := by decide +kernel
theorem dX12_stood_79 : decode cX12_stood 79 = .ok (.iload 7, 2) := by decide +kernel
theorem dX12_stood_81 : decode cX12_stood 81 = .ok (.iastore, 1) := by decide +kernel
theorem dX12_stood_82 : decode cX12_stood 82 = .ok (.aload_n 0, 1) := by decide +kernel
theorem dX12_stood_83 : decode cX12_stood 83 = .ok (.iload_n 1, 1) := by decide +kernel
theorem dX12_stood_84 : decode cX12_stood 84 = .ok (.iload_n 3, 1) := by decide +kernel
theorem dX12_stood_85 : decode cX12_stood 85 = .ok (.invokevirtual 471, 3) := by decide +kernel
theorem dX12_stood_88 : decode cX12_stood 88 = .ok (.iload_n 2, 1) := by decide +kernel
theorem dX12_stood_89 : decode cX12_stood 89 = .ok (.if_icmp .ne 20, 3) := by decide +kernel
theorem dX12_stood_92 : decode cX12_stood 92 = .ok (.iload 5, 2) := by decide +kernel
theorem dX12_stood_94 : decode cX12_stood 94 = .ok (.ifCond .ne 8, 3) := by decide +kernel
theorem dX12_stood_97 : decode cX12_stood 97 = .ok (.iload 7, 2) := by decide +kernel
theorem dX12_stood_99 : decode cX12_stood 99 = .ok (.goto 5, 3) := by decide +kernel
theorem dX12_stood_102 : decode cX12_stood 102 = .ok (.iload 6, 2) := by decide +kernel
theorem dX12_stood_104 : decode cX12_stood 104 = .ok (.istore 6, 2) := by decide +kernel
theorem dX12_stood_106 : decode cX12_stood 106 = .ok (.iinc 5 1, 3) := by decide +kernel
theorem dX12_stood_109 : decode cX12_stood 109 = .ok (.iinc 7 1, 3) := by decide +kernel
theorem dX12_stood_112 : decode cX12_stood 112 = .ok (.goto (-49), 3) := by decide +kernel
theorem dX12_stood_115 : decode cX12_stood 115 = .ok (.iload 4, 2) := by decide +kernel
theorem dX12_stood_117 : decode cX12_stood 117 = .ok (.ifCond .ne 8, 3) := by decide +kernel
theorem dX12_stood_120 : decode cX12_stood 120 = .ok (.iload 5, 2) := by decide +kernel
theorem dX12_stood_122 : decode cX12_stood 122 = .ok (.goto 5, 3) := by decide +kernel
theorem dX12_stood_125 : decode cX12_stood 125 = .ok (.iload 6, 2) := by decide +kernel
theorem dX12_stood_127 : decode cX12_stood 127 = .ok (.ireturn, 1) := by decide +kernel
theorem dX12_laysTwos_0 : decode cX12_laysTwos 0 = .ok (.iconst 0, 1) := by decide +kernel
theorem dX12_laysTwos_1 : decode cX12_laysTwos 1 = .ok (.istore_n 1, 1) := by decide +kernel
theorem dX12_laysTwos_2 : decode cX12_laysTwos 2 = .ok (.iconst 0, 1) := by decide +kernel
theorem dX12_laysTwos_3 : decode cX12_laysTwos 3 = .ok (.istore_n 2, 1) := by decide +kernel
theorem dX12_laysTwos_4 : decode cX12_laysTwos 4 = .ok (.iload_n 2, 1) := by decide +kernel
theorem dX12_laysTwos_5 : decode cX12_laysTwos 5 = .ok (.aload_n 0, 1) := by decide +kernel
theorem dX12_laysTwos_6 : decode cX12_laysTwos 6 = .ok (.getfield 9, 3) := by decide +kernel
theorem dX12_laysTwos_9 : decode cX12_laysTwos 9 = .ok (.iconst 4, 1) := by decide +kernel
theorem dX12_laysTwos_10 : decode cX12_laysTwos 10 = .ok (.iaload, 1) := by decide +kernel
theorem dX12_laysTwos_11 : decode cX12_laysTwos 11 = .ok (.if_icmp .ge 44, 3) := by decide +kernel
theorem dX12_laysTwos_14 : decode cX12_laysTwos 14 = .ok (.iload_n 2, 1) := by decide +kernel
theorem dX12_laysTwos_15 : decode cX12_laysTwos 15 = .ok (.iconst 1, 1) := by decide +kernel
theorem dX12_laysTwos_16 : decode cX12_laysTwos 16 = .ok (.iadd, 1) := by decide +kernel
theorem dX12_laysTwos_17 : decode cX12_laysTwos 17 = .ok (.istore_n 3, 1) := by decide +kernel
theorem dX12_laysTwos_18 : decode cX12_laysTwos 18 = .ok (.iload_n 3, 1) := by decide +kernel
theorem dX12_laysTwos_19 : decode cX12_laysTwos 19 = .ok (.aload_n 0, 1) := by decide +kernel
theorem dX12_laysTwos_20 : decode cX12_laysTwos 20 = .ok (.getfield 9, 3) := by decide +kernel
theorem dX12_laysTwos_23 : decode cX12_laysTwos 23 = .ok (.iconst 4, 1) := by decide +kernel
theorem dX12_laysTwos_24 : decode cX12_laysTwos 24 = .ok (.iaload, 1) := by decide +kernel
theorem dX12_laysTwos_25 : decode cX12_laysTwos 25 = .ok (.if_icmp .ge 24, 3) := by decide +kernel
theorem dX12_laysTwos_28 : decode cX12_laysTwos 28 = .ok (.aload_n 0, 1) := by decide +kernel
theorem dX12_laysTwos_29 : decode cX12_laysTwos 29 = .ok (.getfield 112, 3) := by decide +kernel
theorem dX12_laysTwos_32 : decode cX12_laysTwos 32 = .ok (.iload_n 1, 1) := by decide +kernel
theorem dX12_laysTwos_33 : decode cX12_laysTwos 33 = .ok (.bipush 8, 2) := by decide +kernel
theorem dX12_laysTwos_35 : decode cX12_laysTwos 35 = .ok (.iload_n 2, 1) := by decide +kernel
theorem dX12_laysTwos_36 : decode cX12_laysTwos 36 = .ok (.imul, 1) := by decide +kernel
theorem dX12_laysTwos_37 : decode cX12_laysTwos 37 = .ok (.iload_n 3, 1) := by decide +kernel
theorem dX12_laysTwos_38 : decode cX12_laysTwos 38 = .ok (.iadd, 1) := by decide +kernel
theorem dX12_laysTwos_39 : decode cX12_laysTwos 39 = .ok (.iastore, 1) := by decide +kernel
theorem dX12_laysTwos_40 : decode cX12_laysTwos 40 = .ok (.iinc 1 1, 3) := by decide +kernel
theorem dX12_laysTwos_43 : decode cX12_laysTwos 43 = .ok (.iinc 3 1, 3) := by decide +kernel
theorem dX12_laysTwos_46 : decode cX12_laysTwos 46 = .ok (.goto (-28), 3) := by decide +kernel
theorem dX12_laysTwos_49 : decode cX12_laysTwos 49 = .ok (.iinc 2 1, 3) := by decide +kernel
theorem dX12_laysTwos_52 : decode cX12_laysTwos 52 = .ok (.goto (-48), 3) := by decide +kernel
theorem dX12_laysTwos_55 : decode cX12_laysTwos 55 = .ok (.iload_n 1, 1) := by decide +kernel
theorem dX12_laysTwos_56 : decode cX12_laysTwos 56 = .ok (.ireturn, 1) := by decide +kernel
theorem dX12_placesByRow_0 : decode cX12_placesByRow 0 = .ok (.iload_n 3, 1) := by decide +kernel
theorem dX12_placesByRow_1 : decode cX12_placesByRow 1 = .ok (.istore 5, 2) := by decide +kernel
theorem dX12_placesByRow_3 : decode cX12_placesByRow 3 = .ok (.aload_n 0, 1) := by decide +kernel
theorem dX12_placesByRow_4 : decode cX12_placesByRow 4 = .ok (.iconst 1, 1) := by decide +kernel
theorem dX12_placesByRow_5 : decode cX12_placesByRow 5 = .ok (.putfield 382, 3) := by decide +kernel
theorem dX12_placesByRow_8 : decode cX12_placesByRow 8 = .ok (.iconst 0, 1) := by decide +kernel
theorem dX12_placesByRow_9 : decode cX12_placesByRow 9 = .ok (.istore 6, 2) := by decide +kernel
theorem dX12_placesByRow_11 : decode cX12_placesByRow 11 = .ok (.iload 6, 2) := by decide +kernel
theorem dX12_placesByRow_13 : decode cX12_placesByRow 13 = .ok (.iload_n 1, 1) := by decide +kernel
theorem dX12_placesByRow_14 : decode cX12_placesByRow 14 = .ok (.if_icmp .ge 67, 3) := by decide +kernel
theorem dX12_placesByRow_17 : decode cX12_placesByRow 17 = .ok (.iload 5, 2) := by decide +kernel
theorem dX12_placesByRow_19 : decode cX12_placesByRow 19 = .ok (.iload 4, 2) := by decide +kernel
theorem dX12_placesByRow_21 : decode cX12_placesByRow 21 = .ok (.iconst 1, 1) := by decide +kernel
theorem dX12_placesByRow_22 : decode cX12_placesByRow 22 = .ok (.iadd, 1) := by decide +kernel
theorem dX12_placesByRow_23 : decode cX12_placesByRow 23 = .ok (.idiv, 1) := by decide +kernel
theorem dX12_placesByRow_24 : decode cX12_placesByRow 24 = .ok (.istore 5, 2) := by decide +kernel
theorem dX12_placesByRow_26 : decode cX12_placesByRow 26 = .ok (.iload_n 2, 1) := by decide +kernel
theorem dX12_placesByRow_27 : decode cX12_placesByRow 27 = .ok (.iload 5, 2) := by decide +kernel
theorem dX12_placesByRow_29 : decode cX12_placesByRow 29 = .ok (.idiv, 1) := by decide +kernel
theorem dX12_placesByRow_30 : decode cX12_placesByRow 30 = .ok (.iload 4, 2) := by decide +kernel
theorem dX12_placesByRow_32 : decode cX12_placesByRow 32 = .ok (.iconst 1, 1) := by decide +kernel
theorem dX12_placesByRow_33 : decode cX12_placesByRow 33 = .ok (.iadd, 1) := by decide +kernel
theorem dX12_placesByRow_34 : decode cX12_placesByRow 34 = .ok (.irem, 1) := by decide +kernel
theorem dX12_placesByRow_35 : decode cX12_placesByRow 35 = .ok (.istore 7, 2) := by decide +kernel
theorem dX12_placesByRow_37 : decode cX12_placesByRow 37 = .ok (.aload_n 0, 1) := by decide +kernel
theorem dX12_placesByRow_38 : decode cX12_placesByRow 38 = .ok (.iload 7, 2) := by decide +kernel
theorem dX12_placesByRow_40 : decode cX12_placesByRow 40 = .ok (.ifCond .ne 7, 3) := by decide +kernel
theorem dX12_placesByRow_43 : decode cX12_placesByRow 43 = .ok (.iconst (-1), 1) := by decide +kernel
theorem dX12_placesByRow_44 : decode cX12_placesByRow 44 = .ok (.goto 12, 3) := by decide +kernel
theorem dX12_placesByRow_47 : decode cX12_placesByRow 47 = .ok (.aload_n 0, 1) := by decide +kernel
theorem dX12_placesByRow_48 : decode cX12_placesByRow 48 = .ok (.getfield 112, 3) := by decide +kernel
theorem dX12_placesByRow_51 : decode cX12_placesByRow 51 = .ok (.iload 7, 2) := by decide +kernel
theorem dX12_placesByRow_53 : decode cX12_placesByRow 53 = .ok (.iconst 1, 1) := by decide +kernel
theorem dX12_placesByRow_54 : decode cX12_placesByRow 54 = .ok (.isub, 1) := by decide +kernel
theorem dX12_placesByRow_55 : decode cX12_placesByRow 55 = .ok (.iaload, 1) := by decide +kernel
theorem dX12_placesByRow_56 : decode cX12_placesByRow 56 = .ok (.putfield 97, 3) := by decide +kernel
theorem dX12_placesByRow_59 : decode cX12_placesByRow 59 = .ok (.aload_n 0, 1) := by decide +kernel
theorem dX12_placesByRow_60 : decode cX12_placesByRow 60 = .ok (.getfield 115, 3) := by decide +kernel
theorem dX12_placesByRow_63 : decode cX12_placesByRow 63 = .ok (.iload 6, 2) := by decide +kernel
theorem dX12_placesByRow_65 : decode cX12_placesByRow 65 = .ok (.aload_n 0, 1) := by decide +kernel
theorem dX12_placesByRow_66 : decode cX12_placesByRow 66 = .ok (.getfield 97, 3) := by decide +kernel
theorem dX12_placesByRow_69 : decode cX12_placesByRow 69 = .ok (.iastore, 1) := by decide +kernel
theorem dX12_placesByRow_70 : decode cX12_placesByRow 70 = .ok (.aload_n 0, 1) := by decide +kernel
theorem dX12_placesByRow_71 : decode cX12_placesByRow 71 = .ok (.invokevirtual 412, 3) := by decide +kernel
theorem dX12_placesByRow_74 : decode cX12_placesByRow 74 = .ok (.pop, 1) := by decide +kernel
theorem dX12_placesByRow_75 : decode cX12_placesByRow 75 = .ok (.iinc 6 1, 3) := by decide +kernel
theorem dX12_placesByRow_78 : decode cX12_placesByRow 78 = .ok (.goto (-67), 3) := by decide +kernel
theorem dX12_placesByRow_81 : decode cX12_placesByRow 81 = .ok (.aload_n 0, 1) := by decide +kernel
theorem dX12_placesByRow_82 : decode cX12_placesByRow 82 = .ok (.bipush (-5), 2) := by decide +kernel
theorem dX12_placesByRow_84 : decode cX12_placesByRow 84 = .ok (.putfield 97, 3) := by decide +kernel
theorem dX12_placesByRow_87 : decode cX12_placesByRow 87 = .ok (.aload_n 0, 1) := by decide +kernel
theorem dX12_placesByRow_88 : decode cX12_placesByRow 88 = .ok (.getfield 382, 3) := by decide +kernel
theorem dX12_placesByRow_91 : decode cX12_placesByRow 91 = .ok (.ifCond .eq 10, 3) := by decide +kernel
theorem dX12_placesByRow_94 : decode cX12_placesByRow 94 = .ok (.aload_n 0, 1) := by decide +kernel
theorem dX12_placesByRow_95 : decode cX12_placesByRow 95 = .ok (.invokevirtual 476, 3) := by decide +kernel
theorem dX12_placesByRow_98 : decode cX12_placesByRow 98 = .ok (.goto 6, 3) := by decide +kernel
theorem dX12_placesByRow_101 : decode cX12_placesByRow 101 = .ok (.ldc_w 465, 3) := by decide +kernel
theorem dX12_placesByRow_104 : decode cX12_placesByRow 104 = .ok (.istore 6, 2) := by decide +kernel
theorem dX12_placesByRow_106 : decode cX12_placesByRow 106 = .ok (.aload_n 0, 1) := by decide +kernel
theorem dX12_placesByRow_107 : decode cX12_placesByRow 107 = .ok (.invokevirtual 449, 3) := by decide +kernel
theorem dX12_placesByRow_110 : decode cX12_placesByRow 110 = .ok (.iload 6, 2) := by decide +kernel
theorem dX12_placesByRow_112 : decode cX12_placesByRow 112 = .ok (.ireturn, 1) := by decide +kernel
theorem dX12_row_0 : decode cX12_row 0 = .ok (.aload_n 0, 1) := by decide +kernel
theorem dX12_row_1 : decode cX12_row 1 = .ok (.invokevirtual 432, 3) := by decide +kernel
theorem dX12_row_4 : decode cX12_row 4 = .ok (.ifCond .eq 27, 3) := by decide +kernel
theorem dX12_row_7 : decode cX12_row 7 = .ok (.iload_n 1, 1) := by decide +kernel
theorem dX12_row_8 : decode cX12_row 8 = .ok (.i2l, 1) := by decide +kernel
theorem dX12_row_9 : decode cX12_row 9 = .ok (.lconst 1, 1) := by decide +kernel
theorem dX12_row_10 : decode cX12_row 10 = .ok (.ldc2_w 479, 3) := by decide +kernel
theorem dX12_row_13 : decode cX12_row 13 = .ok (.invokestatic 143, 3) := by decide +kernel
theorem dX12_row_16 : decode cX12_row 16 = .ok (.ifCond .eq 15, 3) := by decide +kernel
theorem dX12_row_19 : decode cX12_row 19 = .ok (.iload_n 2, 1) := by decide +kernel
theorem dX12_row_20 : decode cX12_row 20 = .ok (.i2l, 1) := by decide +kernel
theorem dX12_row_21 : decode cX12_row 21 = .ok (.lconst 0, 1) := by decide +kernel
theorem dX12_row_22 : decode cX12_row 22 = .ok (.ldc2_w 479, 3) := by decide +kernel
theorem dX12_row_25 : decode cX12_row 25 = .ok (.invokestatic 143, 3) := by decide +kernel
theorem dX12_row_28 : decode cX12_row 28 = .ok (.ifCond .ne 6, 3) := by decide +kernel
theorem dX12_row_31 : decode cX12_row 31 = .ok (.bipush (-3), 2) := by decide +kernel
theorem dX12_row_33 : decode cX12_row 33 = .ok (.ireturn, 1) := by decide +kernel
theorem dX12_row_34 : decode cX12_row 34 = .ok (.aload_n 0, 1) := by decide +kernel
theorem dX12_row_35 : decode cX12_row 35 = .ok (.invokevirtual 481, 3) := by decide +kernel
theorem dX12_row_38 : decode cX12_row 38 = .ok (.istore_n 3, 1) := by decide +kernel
theorem dX12_row_39 : decode cX12_row 39 = .ok (.iconst 1, 1) := by decide +kernel
theorem dX12_row_40 : decode cX12_row 40 = .ok (.istore 4, 2) := by decide +kernel
theorem dX12_row_42 : decode cX12_row 42 = .ok (.iconst 0, 1) := by decide +kernel
theorem dX12_row_43 : decode cX12_row 43 = .ok (.istore 5, 2) := by decide +kernel
theorem dX12_row_45 : decode cX12_row 45 = .ok (.iload 5, 2) := by decide +kernel
theorem dX12_row_47 : decode cX12_row 47 = .ok (.iload_n 1, 1) := by decide +kernel
theorem dX12_row_48 : decode cX12_row 48 = .ok (.if_icmp .ge 17, 3) := by decide +kernel
theorem dX12_row_51 : decode cX12_row 51 = .ok (.iload 4, 2) := by decide +kernel
theorem dX12_row_53 : decode cX12_row 53 = .ok (.iload_n 3, 1) := by decide +kernel
theorem dX12_row_54 : decode cX12_row 54 = .ok (.iconst 1, 1) := by decide +kernel
theorem dX12_row_55 : decode cX12_row 55 = .ok (.iadd, 1) := by decide +kernel
theorem dX12_row_56 : decode cX12_row 56 = .ok (.imul, 1) := by decide +kernel
theorem dX12_row_57 : decode cX12_row 57 = .ok (.istore 4, 2) := by decide +kernel
theorem dX12_row_59 : decode cX12_row 59 = .ok (.iinc 5 1, 3) := by decide +kernel
theorem dX12_row_62 : decode cX12_row 62 = .ok (.goto (-17), 3) := by decide +kernel
theorem dX12_row_65 : decode cX12_row 65 = .ok (.ldc_w 465, 3) := by decide +kernel
theorem dX12_row_68 : decode cX12_row 68 = .ok (.istore 5, 2) := by decide +kernel
theorem dX12_row_70 : decode cX12_row 70 = .ok (.aload_n 0, 1) := by decide +kernel
theorem dX12_row_71 : decode cX12_row 71 = .ok (.invokevirtual 456, 3) := by decide +kernel
theorem dX12_row_74 : decode cX12_row 74 = .ok (.iconst 0, 1) := by decide +kernel
theorem dX12_row_75 : decode cX12_row 75 = .ok (.istore 6, 2) := by decide +kernel
theorem dX12_row_77 : decode cX12_row 77 = .ok (.iload 6, 2) := by decide +kernel
theorem dX12_row_79 : decode cX12_row 79 = .ok (.iload 4, 2) := by decide +kernel
theorem dX12_row_81 : decode cX12_row 81 = .ok (.if_icmp .ge 43, 3) := by decide +kernel
theorem dX12_row_84 : decode cX12_row 84 = .ok (.aload_n 0, 1) := by decide +kernel
theorem dX12_row_85 : decode cX12_row 85 = .ok (.iload_n 1, 1) := by decide +kernel
theorem dX12_row_86 : decode cX12_row 86 = .ok (.iload 6, 2) := by decide +kernel
theorem dX12_row_88 : decode cX12_row 88 = .ok (.iload 4, 2) := by decide +kernel
theorem dX12_row_90 : decode cX12_row 90 = .ok (.iload_n 3, 1) := by decide +kernel
theorem dX12_row_91 : decode cX12_row 91 = .ok (.invokevirtual 484, 3) := by decide +kernel
theorem dX12_row_94 : decode cX12_row 94 = .ok (.istore 7, 2) := by decide +kernel
theorem dX12_row_96 : decode cX12_row 96 = .ok (.iload 7, 2) := by decide +kernel
theorem dX12_row_98 : decode cX12_row 98 = .ok (.iload 5, 2) := by decide +kernel
theorem dX12_row_100 : decode cX12_row 100 = .ok (.if_icmp .ge 18, 3) := by decide +kernel
theorem dX12_row_103 : decode cX12_row 103 = .ok (.iload 7, 2) := by decide +kernel
theorem dX12_row_105 : decode cX12_row 105 = .ok (.istore 5, 2) := by decide +kernel
theorem dX12_row_107 : decode cX12_row 107 = .ok (.aload_n 0, 1) := by decide +kernel
theorem dX12_row_108 : decode cX12_row 108 = .ok (.getfield 115, 3) := by decide +kernel
theorem dX12_row_111 : decode cX12_row 111 = .ok (.aload_n 0, 1) := by decide +kernel
theorem dX12_row_112 : decode cX12_row 112 = .ok (.getfield 118, 3) := by decide +kernel
theorem dX12_row_115 : decode cX12_row 115 = .ok (.invokestatic 310, 3) := by decide +kernel
theorem dX12_row_118 : decode cX12_row 118 = .ok (.iinc 6 1, 3) := by decide +kernel
theorem dX12_row_121 : decode cX12_row 121 = .ok (.goto (-44), 3) := by decide +kernel
theorem dX12_row_124 : decode cX12_row 124 = .ok (.iload_n 2, 1) := by decide +kernel
theorem dX12_row_125 : decode cX12_row 125 = .ok (.ifCond .ne 8, 3) := by decide +kernel
theorem dX12_row_128 : decode cX12_row 128 = .ok (.iload 5, 2) := by decide +kernel
theorem dX12_row_130 : decode cX12_row 130 = .ok (.goto 21, 3) := by decide +kernel
theorem dX12_row_133 : decode cX12_row 133 = .ok (.iload_n 2, 1) := by decide +kernel
theorem dX12_row_134 : decode cX12_row 134 = .ok (.iload_n 1, 1) := by decide +kernel
theorem dX12_row_135 : decode cX12_row 135 = .ok (.if_icmp .gt 14, 3) := by decide +kernel
theorem dX12_row_138 : decode cX12_row 138 = .ok (.aload_n 0, 1) := by decide +kernel
theorem dX12_row_139 : decode cX12_row 139 = .ok (.getfield 118, 3) := by decide +kernel
theorem dX12_row_142 : decode cX12_row 142 = .ok (.iload_n 2, 1) := by decide +kernel
theorem dX12_row_143 : decode cX12_row 143 = .ok (.iconst 1, 1) := by decide +kernel
theorem dX12_row_144 : decode cX12_row 144 = .ok (.isub, 1) := by decide +kernel
theorem dX12_row_145 : decode cX12_row 145 = .ok (.iaload, 1) := by decide +kernel
theorem dX12_row_146 : decode cX12_row 146 = .ok (.goto 5, 3) := by decide +kernel
theorem dX12_row_149 : decode cX12_row 149 = .ok (.bipush (-2), 2) := by decide +kernel
theorem dX12_row_151 : decode cX12_row 151 = .ok (.ireturn, 1) := by decide +kernel
theorem dX12_order_0 : decode cX12_order 0 = .ok (.aload_n 0, 1) := by decide +kernel
theorem dX12_order_1 : decode cX12_order 1 = .ok (.iload_n 1, 1) := by decide +kernel
theorem dX12_order_2 : decode cX12_order 2 = .ok (.invokevirtual 147, 3) := by decide +kernel
theorem dX12_order_5 : decode cX12_order 5 = .ok (.ifCond .ne 5, 3) := by decide +kernel
theorem dX12_order_8 : decode cX12_order 8 = .ok (.iconst (-1), 1) := by decide +kernel
theorem dX12_order_9 : decode cX12_order 9 = .ok (.ireturn, 1) := by decide +kernel
theorem dX12_order_10 : decode cX12_order 10 = .ok (.aload_n 0, 1) := by decide +kernel
theorem dX12_order_11 : decode cX12_order 11 = .ok (.invokevirtual 462, 3) := by decide +kernel
theorem dX12_order_14 : decode cX12_order 14 = .ok (.aload_n 0, 1) := by decide +kernel
theorem dX12_order_15 : decode cX12_order 15 = .ok (.getfield 109, 3) := by decide +kernel
theorem dX12_order_18 : decode cX12_order 18 = .ok (.iload_n 1, 1) := by decide +kernel
theorem dX12_order_19 : decode cX12_order 19 = .ok (.iaload, 1) := by decide +kernel
theorem dX12_order_20 : decode cX12_order 20 = .ok (.bipush (-2), 2) := by decide +kernel
theorem dX12_order_22 : decode cX12_order 22 = .ok (.if_icmp .ne 9, 3) := by decide +kernel
theorem dX12_order_25 : decode cX12_order 25 = .ok (.ldc_w 465, 3) := by decide +kernel
theorem dX12_order_28 : decode cX12_order 28 = .ok (.goto 9, 3) := by decide +kernel
theorem dX12_order_31 : decode cX12_order 31 = .ok (.aload_n 0, 1) := by decide +kernel
theorem dX12_order_32 : decode cX12_order 32 = .ok (.getfield 109, 3) := by decide +kernel
theorem dX12_order_35 : decode cX12_order 35 = .ok (.iload_n 1, 1) := by decide +kernel
theorem dX12_order_36 : decode cX12_order 36 = .ok (.iaload, 1) := by decide +kernel
theorem dX12_order_37 : decode cX12_order 37 = .ok (.istore_n 2, 1) := by decide +kernel
theorem dX12_order_38 : decode cX12_order 38 = .ok (.iconst 0, 1) := by decide +kernel
theorem dX12_order_39 : decode cX12_order 39 = .ok (.istore_n 3, 1) := by decide +kernel
theorem dX12_order_40 : decode cX12_order 40 = .ok (.iconst 0, 1) := by decide +kernel
theorem dX12_order_41 : decode cX12_order 41 = .ok (.istore 4, 2) := by decide +kernel
theorem dX12_order_43 : decode cX12_order 43 = .ok (.iload 4, 2) := by decide +kernel
theorem dX12_order_45 : decode cX12_order 45 = .ok (.aload_n 0, 1) := by decide +kernel
theorem dX12_order_46 : decode cX12_order 46 = .ok (.getfield 9, 3) := by decide +kernel
theorem dX12_order_49 : decode cX12_order 49 = .ok (.iconst 4, 1) := by decide +kernel
theorem dX12_order_50 : decode cX12_order 50 = .ok (.iaload, 1) := by decide +kernel
theorem dX12_order_51 : decode cX12_order 51 = .ok (.if_icmp .ge 62, 3) := by decide +kernel
theorem dX12_order_54 : decode cX12_order 54 = .ok (.aload_n 0, 1) := by decide +kernel
theorem dX12_order_55 : decode cX12_order 55 = .ok (.getfield 109, 3) := by decide +kernel
theorem dX12_order_58 : decode cX12_order 58 = .ok (.iload 4, 2) := by decide +kernel
theorem dX12_order_60 : decode cX12_order 60 = .ok (.iaload, 1) := by decide +kernel
theorem dX12_order_61 : decode cX12_order 61 = .ok (.bipush (-2), 2) := by decide +kernel
theorem dX12_order_63 : decode cX12_order 63 = .ok (.if_icmp .ne 9, 3) := by decide +kernel
theorem dX12_order_66 : decode cX12_order 66 = .ok (.ldc_w 465, 3) := by decide +kernel
theorem dX12_order_69 : decode cX12_order 69 = .ok (.goto 10, 3) := by decide +kernel
theorem dX12_order_72 : decode cX12_order 72 = .ok (.aload_n 0, 1) := by decide +kernel
theorem dX12_order_73 : decode cX12_order 73 = .ok (.getfield 109, 3) := by decide +kernel
theorem dX12_order_76 : decode cX12_order 76 = .ok (.iload 4, 2) := by decide +kernel
theorem dX12_order_78 : decode cX12_order 78 = .ok (.iaload, 1) := by decide +kernel
theorem dX12_order_79 : decode cX12_order 79 = .ok (.istore 5, 2) := by decide +kernel
theorem dX12_order_81 : decode cX12_order 81 = .ok (.iload_n 3, 1) := by decide +kernel
theorem dX12_order_82 : decode cX12_order 82 = .ok (.iload 5, 2) := by decide +kernel
theorem dX12_order_84 : decode cX12_order 84 = .ok (.iload_n 2, 1) := by decide +kernel
theorem dX12_order_85 : decode cX12_order 85 = .ok (.if_icmp .lt 15, 3) := by decide +kernel
theorem dX12_order_88 : decode cX12_order 88 = .ok (.iload 5, 2) := by decide +kernel
theorem dX12_order_90 : decode cX12_order 90 = .ok (.iload_n 2, 1) := by decide +kernel
theorem dX12_order_91 : decode cX12_order 91 = .ok (.if_icmp .ne 13, 3) := by decide +kernel
theorem dX12_order_94 : decode cX12_order 94 = .ok (.iload 4, 2) := by decide +kernel
theorem dX12_order_96 : decode cX12_order 96 = .ok (.iload_n 1, 1) := by decide +kernel
theorem dX12_order_97 : decode cX12_order 97 = .ok (.if_icmp .ge 7, 3) := by decide +kernel
theorem dX12_order_100 : decode cX12_order 100 = .ok (.iconst 1, 1) := by decide +kernel
theorem dX12_order_101 : decode cX12_order 101 = .ok (.goto 4, 3) := by decide +kernel
theorem dX12_order_104 : decode cX12_order 104 = .ok (.iconst 0, 1) := by decide +kernel
theorem dX12_order_105 : decode cX12_order 105 = .ok (.iadd, 1) := by decide +kernel
theorem dX12_order_106 : decode cX12_order 106 = .ok (.istore_n 3, 1) := by decide +kernel
theorem dX12_order_107 : decode cX12_order 107 = .ok (.iinc 4 1, 3) := by decide +kernel
theorem dX12_order_110 : decode cX12_order 110 = .ok (.goto (-67), 3) := by decide +kernel
theorem dX12_order_113 : decode cX12_order 113 = .ok (.iload_n 3, 1) := by decide +kernel
theorem dX12_order_114 : decode cX12_order 114 = .ok (.ireturn, 1) := by decide +kernel
theorem dX12_laysRocks_0 : decode cX12_laysRocks 0 = .ok (.aload_n 0, 1) := by decide +kernel
theorem dX12_laysRocks_1 : decode cX12_laysRocks 1 = .ok (.invokevirtual 456, 3) := by decide +kernel
theorem dX12_laysRocks_4 : decode cX12_laysRocks 4 = .ok (.iconst 0, 1) := by decide +kernel
theorem dX12_laysRocks_5 : decode cX12_laysRocks 5 = .ok (.istore 4, 2) := by decide +kernel
theorem dX12_laysRocks_7 : decode cX12_laysRocks 7 = .ok (.iload 4, 2) := by decide +kernel
theorem dX12_laysRocks_9 : decode cX12_laysRocks 9 = .ok (.bipush 25, 2) := by decide +kernel
theorem dX12_laysRocks_11 : decode cX12_laysRocks 11 = .ok (.if_icmp .ge 78, 3) := by decide +kernel
theorem dX12_laysRocks_14 : decode cX12_laysRocks 14 = .ok (.aload_n 0, 1) := by decide +kernel
theorem dX12_laysRocks_15 : decode cX12_laysRocks 15 = .ok (.getfield 16, 3) := by decide +kernel
theorem dX12_laysRocks_18 : decode cX12_laysRocks 18 = .ok (.iload_n 1, 1) := by decide +kernel
theorem dX12_laysRocks_19 : decode cX12_laysRocks 19 = .ok (.iconst 2, 1) := by decide +kernel
theorem dX12_laysRocks_20 : decode cX12_laysRocks 20 = .ok (.iload 4, 2) := by decide +kernel
theorem dX12_laysRocks_22 : decode cX12_laysRocks 22 = .ok (.iconst 5, 1) := by decide +kernel
theorem dX12_laysRocks_23 : decode cX12_laysRocks 23 = .ok (.idiv, 1) := by decide +kernel
theorem dX12_laysRocks_24 : decode cX12_laysRocks 24 = .ok (.imul, 1) := by decide +kernel
theorem dX12_laysRocks_25 : decode cX12_laysRocks 25 = .ok (.iastore, 1) := by decide +kernel
theorem dX12_laysRocks_26 : decode cX12_laysRocks 26 = .ok (.aload_n 0, 1) := by decide +kernel
theorem dX12_laysRocks_27 : decode cX12_laysRocks 27 = .ok (.getfield 16, 3) := by decide +kernel
theorem dX12_laysRocks_30 : decode cX12_laysRocks 30 = .ok (.iload_n 2, 1) := by decide +kernel
theorem dX12_laysRocks_31 : decode cX12_laysRocks 31 = .ok (.iconst 2, 1) := by decide +kernel
theorem dX12_laysRocks_32 : decode cX12_laysRocks 32 = .ok (.iload 4, 2) := by decide +kernel
theorem dX12_laysRocks_34 : decode cX12_laysRocks 34 = .ok (.iconst 5, 1) := by decide +kernel
theorem dX12_laysRocks_35 : decode cX12_laysRocks 35 = .ok (.irem, 1) := by decide +kernel
theorem dX12_laysRocks_36 : decode cX12_laysRocks 36 = .ok (.imul, 1) := by decide +kernel
theorem dX12_laysRocks_37 : decode cX12_laysRocks 37 = .ok (.iastore, 1) := by decide +kernel
theorem dX12_laysRocks_38 : decode cX12_laysRocks 38 = .ok (.aload_n 0, 1) := by decide +kernel
theorem dX12_laysRocks_39 : decode cX12_laysRocks 39 = .ok (.iload_n 3, 1) := by decide +kernel
theorem dX12_laysRocks_40 : decode cX12_laysRocks 40 = .ok (.invokevirtual 446, 3) := by decide +kernel
theorem dX12_laysRocks_43 : decode cX12_laysRocks 43 = .ok (.aload_n 0, 1) := by decide +kernel
theorem dX12_laysRocks_44 : decode cX12_laysRocks 44 = .ok (.getfield 121, 3) := by decide +kernel
theorem dX12_laysRocks_47 : decode cX12_laysRocks 47 = .ok (.iload 4, 2) := by decide +kernel
theorem dX12_laysRocks_49 : decode cX12_laysRocks 49 = .ok (.aload_n 0, 1) := by decide +kernel
theorem dX12_laysRocks_50 : decode cX12_laysRocks 50 = .ok (.getfield 13, 3) := by decide +kernel
theorem dX12_laysRocks_53 : decode cX12_laysRocks 53 = .ok (.iload_n 1, 1) := by decide +kernel
theorem dX12_laysRocks_54 : decode cX12_laysRocks 54 = .ok (.iaload, 1) := by decide +kernel
theorem dX12_laysRocks_55 : decode cX12_laysRocks 55 = .ok (.iload 4, 2) := by decide +kernel
theorem dX12_laysRocks_57 : decode cX12_laysRocks 57 = .ok (.iconst 5, 1) := by decide +kernel
theorem dX12_laysRocks_58 : decode cX12_laysRocks 58 = .ok (.idiv, 1) := by decide +kernel
theorem dX12_laysRocks_59 : decode cX12_laysRocks 59 = .ok (.iadd, 1) := by decide +kernel
theorem dX12_laysRocks_60 : decode cX12_laysRocks 60 = .ok (.iastore, 1) := by decide +kernel
theorem dX12_laysRocks_61 : decode cX12_laysRocks 61 = .ok (.aload_n 0, 1) := by decide +kernel
theorem dX12_laysRocks_62 : decode cX12_laysRocks 62 = .ok (.getfield 124, 3) := by decide +kernel
theorem dX12_laysRocks_65 : decode cX12_laysRocks 65 = .ok (.iload 4, 2) := by decide +kernel
theorem dX12_laysRocks_67 : decode cX12_laysRocks 67 = .ok (.aload_n 0, 1) := by decide +kernel
theorem dX12_laysRocks_68 : decode cX12_laysRocks 68 = .ok (.getfield 13, 3) := by decide +kernel
theorem dX12_laysRocks_71 : decode cX12_laysRocks 71 = .ok (.iload_n 2, 1) := by decide +kernel
theorem dX12_laysRocks_72 : decode cX12_laysRocks 72 = .ok (.iaload, 1) := by decide +kernel
theorem dX12_laysRocks_73 : decode cX12_laysRocks 73 = .ok (.iload 4, 2) := by decide +kernel
theorem dX12_laysRocks_75 : decode cX12_laysRocks 75 = .ok (.iconst 5, 1) := by decide +kernel
theorem dX12_laysRocks_76 : decode cX12_laysRocks 76 = .ok (.irem, 1) := by decide +kernel
theorem dX12_laysRocks_77 : decode cX12_laysRocks 77 = .ok (.iadd, 1) := by decide +kernel
theorem dX12_laysRocks_78 : decode cX12_laysRocks 78 = .ok (.iastore, 1) := by decide +kernel
theorem dX12_laysRocks_79 : decode cX12_laysRocks 79 = .ok (.aload_n 0, 1) := by decide +kernel
theorem dX12_laysRocks_80 : decode cX12_laysRocks 80 = .ok (.invokevirtual 449, 3) := by decide +kernel
theorem dX12_laysRocks_83 : decode cX12_laysRocks 83 = .ok (.iinc 4 1, 3) := by decide +kernel
theorem dX12_laysRocks_86 : decode cX12_laysRocks 86 = .ok (.goto (-79), 3) := by decide +kernel
theorem dX12_laysRocks_89 : decode cX12_laysRocks 89 = .ok (.return_, 1) := by decide +kernel
theorem dX12_isRest_0 : decode cX12_isRest 0 = .ok (.iconst 0, 1) := by decide +kernel
theorem dX12_isRest_1 : decode cX12_isRest 1 = .ok (.istore_n 2, 1) := by decide +kernel
theorem dX12_isRest_2 : decode cX12_isRest 2 = .ok (.iload_n 2, 1) := by decide +kernel
theorem dX12_isRest_3 : decode cX12_isRest 3 = .ok (.iconst 5, 1) := by decide +kernel
theorem dX12_isRest_4 : decode cX12_isRest 4 = .ok (.if_icmp .ge 53, 3) := by decide +kernel
theorem dX12_isRest_7 : decode cX12_isRest 7 = .ok (.aload_n 0, 1) := by decide +kernel
theorem dX12_isRest_8 : decode cX12_isRest 8 = .ok (.getfield 121, 3) := by decide +kernel
theorem dX12_isRest_11 : decode cX12_isRest 11 = .ok (.iconst 5, 1) := by decide +kernel
theorem dX12_isRest_12 : decode cX12_isRest 12 = .ok (.iload_n 2, 1) := by decide +kernel
theorem dX12_isRest_13 : decode cX12_isRest 13 = .ok (.imul, 1) := by decide +kernel
theorem dX12_isRest_14 : decode cX12_isRest 14 = .ok (.iload_n 1, 1) := by decide +kernel
theorem dX12_isRest_15 : decode cX12_isRest 15 = .ok (.iconst 5, 1) := by decide +kernel
theorem dX12_isRest_16 : decode cX12_isRest 16 = .ok (.irem, 1) := by decide +kernel
theorem dX12_isRest_17 : decode cX12_isRest 17 = .ok (.iadd, 1) := by decide +kernel
theorem dX12_isRest_18 : decode cX12_isRest 18 = .ok (.iaload, 1) := by decide +kernel
theorem dX12_isRest_19 : decode cX12_isRest 19 = .ok (.aload_n 0, 1) := by decide +kernel
theorem dX12_isRest_20 : decode cX12_isRest 20 = .ok (.getfield 121, 3) := by decide +kernel
theorem dX12_isRest_23 : decode cX12_isRest 23 = .ok (.iload_n 1, 1) := by decide +kernel
theorem dX12_isRest_24 : decode cX12_isRest 24 = .ok (.iaload, 1) := by decide +kernel
theorem dX12_isRest_25 : decode cX12_isRest 25 = .ok (.if_icmp .lt 24, 3) := by decide +kernel
theorem dX12_isRest_28 : decode cX12_isRest 28 = .ok (.aload_n 0, 1) := by decide +kernel
theorem dX12_isRest_29 : decode cX12_isRest 29 = .ok (.getfield 124, 3) := by decide +kernel
theorem dX12_isRest_32 : decode cX12_isRest 32 = .ok (.iload_n 1, 1) := by decide +kernel
theorem dX12_isRest_33 : decode cX12_isRest 33 = .ok (.iload_n 1, 1) := by decide +kernel
theorem dX12_isRest_34 : decode cX12_isRest 34 = .ok (.iconst 5, 1) := by decide +kernel
theorem dX12_isRest_35 : decode cX12_isRest 35 = .ok (.irem, 1) := by decide +kernel
theorem dX12_isRest_36 : decode cX12_isRest 36 = .ok (.isub, 1) := by decide +kernel
theorem dX12_isRest_37 : decode cX12_isRest 37 = .ok (.iload_n 2, 1) := by decide +kernel
theorem dX12_isRest_38 : decode cX12_isRest 38 = .ok (.iadd, 1) := by decide +kernel
theorem dX12_isRest_39 : decode cX12_isRest 39 = .ok (.iaload, 1) := by decide +kernel
theorem dX12_isRest_40 : decode cX12_isRest 40 = .ok (.aload_n 0, 1) := by decide +kernel
theorem dX12_isRest_41 : decode cX12_isRest 41 = .ok (.getfield 124, 3) := by decide +kernel
theorem dX12_isRest_44 : decode cX12_isRest 44 = .ok (.iload_n 1, 1) := by decide +kernel
theorem dX12_isRest_45 : decode cX12_isRest 45 = .ok (.iaload, 1) := by decide +kernel
theorem dX12_isRest_46 : decode cX12_isRest 46 = .ok (.if_icmp .ge 5, 3) := by decide +kernel
theorem dX12_isRest_49 : decode cX12_isRest 49 = .ok (.iconst 0, 1) := by decide +kernel
theorem dX12_isRest_50 : decode cX12_isRest 50 = .ok (.ireturn, 1) := by decide +kernel
theorem dX12_isRest_51 : decode cX12_isRest 51 = .ok (.iinc 2 1, 3) := by decide +kernel
theorem dX12_isRest_54 : decode cX12_isRest 54 = .ok (.goto (-52), 3) := by decide +kernel
theorem dX12_isRest_57 : decode cX12_isRest 57 = .ok (.iconst 1, 1) := by decide +kernel
theorem dX12_isRest_58 : decode cX12_isRest 58 = .ok (.ireturn, 1) := by decide +kernel
theorem dX12_rests_0 : decode cX12_rests 0 = .ok (.aload_n 0, 1) := by decide +kernel
theorem dX12_rests_1 : decode cX12_rests 1 = .ok (.iload_n 1, 1) := by decide +kernel
theorem dX12_rests_2 : decode cX12_rests 2 = .ok (.iload_n 2, 1) := by decide +kernel
theorem dX12_rests_3 : decode cX12_rests 3 = .ok (.invokevirtual 370, 3) := by decide +kernel
theorem dX12_rests_6 : decode cX12_rests 6 = .ok (.ifCond .eq 28, 3) := by decide +kernel
theorem dX12_rests_9 : decode cX12_rests 9 = .ok (.iload_n 3, 1) := by decide +kernel
theorem dX12_rests_10 : decode cX12_rests 10 = .ok (.i2l, 1) := by decide +kernel
theorem dX12_rests_11 : decode cX12_rests 11 = .ok (.lconst 1, 1) := by decide +kernel
theorem dX12_rests_12 : decode cX12_rests 12 = .ok (.ldc2_w 488, 3) := by decide +kernel
theorem dX12_rests_15 : decode cX12_rests 15 = .ok (.invokestatic 143, 3) := by decide +kernel
theorem dX12_rests_18 : decode cX12_rests 18 = .ok (.ifCond .eq 16, 3) := by decide +kernel
theorem dX12_rests_21 : decode cX12_rests 21 = .ok (.iload 4, 2) := by decide +kernel
theorem dX12_rests_23 : decode cX12_rests 23 = .ok (.i2l, 1) := by decide +kernel
theorem dX12_rests_24 : decode cX12_rests 24 = .ok (.lconst 0, 1) := by decide +kernel
theorem dX12_rests_25 : decode cX12_rests 25 = .ok (.ldc2_w 452, 3) := by decide +kernel
theorem dX12_rests_28 : decode cX12_rests 28 = .ok (.invokestatic 143, 3) := by decide +kernel
theorem dX12_rests_31 : decode cX12_rests 31 = .ok (.ifCond .ne 5, 3) := by decide +kernel
theorem dX12_rests_34 : decode cX12_rests 34 = .ok (.iconst (-1), 1) := by decide +kernel
theorem dX12_rests_35 : decode cX12_rests 35 = .ok (.ireturn, 1) := by decide +kernel
theorem dX12_rests_36 : decode cX12_rests 36 = .ok (.aload_n 0, 1) := by decide +kernel
theorem dX12_rests_37 : decode cX12_rests 37 = .ok (.iload_n 1, 1) := by decide +kernel
theorem dX12_rests_38 : decode cX12_rests 38 = .ok (.iload_n 2, 1) := by decide +kernel
theorem dX12_rests_39 : decode cX12_rests 39 = .ok (.iload_n 3, 1) := by decide +kernel
theorem dX12_rests_40 : decode cX12_rests 40 = .ok (.invokevirtual 490, 3) := by decide +kernel
theorem dX12_rests_43 : decode cX12_rests 43 = .ok (.iconst 0, 1) := by decide +kernel
theorem dX12_rests_44 : decode cX12_rests 44 = .ok (.istore 5, 2) := by decide +kernel
theorem dX12_rests_46 : decode cX12_rests 46 = .ok (.iconst (-1), 1) := by decide +kernel
theorem dX12_rests_47 : decode cX12_rests 47 = .ok (.istore 6, 2) := by decide +kernel
theorem dX12_rests_49 : decode cX12_rests 49 = .ok (.iconst 0, 1) := by decide +kernel
theorem dX12_rests_50 : decode cX12_rests 50 = .ok (.istore 7, 2) := by decide +kernel
theorem dX12_rests_52 : decode cX12_rests 52 = .ok (.iload 7, 2) := by decide +kernel
theorem dX12_rests_54 : decode cX12_rests 54 = .ok (.bipush 25, 2) := by decide +kernel
theorem dX12_rests_56 : decode cX12_rests 56 = .ok (.if_icmp .ge 35, 3) := by decide +kernel
theorem dX12_rests_59 : decode cX12_rests 59 = .ok (.aload_n 0, 1) := by decide +kernel
theorem dX12_rests_60 : decode cX12_rests 60 = .ok (.iload 7, 2) := by decide +kernel
theorem dX12_rests_62 : decode cX12_rests 62 = .ok (.invokevirtual 493, 3) := by decide +kernel
theorem dX12_rests_65 : decode cX12_rests 65 = .ok (.ifCond .eq 20, 3) := by decide +kernel
theorem dX12_rests_68 : decode cX12_rests 68 = .ok (.iload 5, 2) := by decide +kernel
theorem dX12_rests_70 : decode cX12_rests 70 = .ok (.ifCond .ne 8, 3) := by decide +kernel
theorem dX12_rests_73 : decode cX12_rests 73 = .ok (.iload 7, 2) := by decide +kernel
theorem dX12_rests_75 : decode cX12_rests 75 = .ok (.goto 5, 3) := by decide +kernel
theorem dX12_rests_78 : decode cX12_rests 78 = .ok (.iload 6, 2) := by decide +kernel
theorem dX12_rests_80 : decode cX12_rests 80 = .ok (.istore 6, 2) := by decide +kernel
theorem dX12_rests_82 : decode cX12_rests 82 = .ok (.iinc 5 1, 3) := by decide +kernel
theorem dX12_rests_85 : decode cX12_rests 85 = .ok (.iinc 7 1, 3) := by decide +kernel
theorem dX12_rests_88 : decode cX12_rests 88 = .ok (.goto (-36), 3) := by decide +kernel
theorem dX12_rests_91 : decode cX12_rests 91 = .ok (.iload 4, 2) := by decide +kernel
theorem dX12_rests_93 : decode cX12_rests 93 = .ok (.ifCond .ne 6, 3) := by decide +kernel
theorem dX12_rests_96 : decode cX12_rests 96 = .ok (.iload 5, 2) := by decide +kernel
theorem dX12_rests_98 : decode cX12_rests 98 = .ok (.ireturn, 1) := by decide +kernel
theorem dX12_rests_99 : decode cX12_rests 99 = .ok (.iload 6, 2) := by decide +kernel
theorem dX12_rests_101 : decode cX12_rests 101 = .ok (.iconst (-1), 1) := by decide +kernel
theorem dX12_rests_102 : decode cX12_rests 102 = .ok (.if_icmp .ne 8, 3) := by decide +kernel
theorem dX12_rests_105 : decode cX12_rests 105 = .ok (.bipush (-2), 2) := by decide +kernel
theorem dX12_rests_107 : decode cX12_rests 107 = .ok (.goto 22, 3) := by decide +kernel
theorem dX12_rests_110 : decode cX12_rests 110 = .ok (.iconst 2, 1) := by decide +kernel
theorem dX12_rests_111 : decode cX12_rests 111 = .ok (.iload 4, 2) := by decide +kernel
theorem dX12_rests_113 : decode cX12_rests 113 = .ok (.iconst 1, 1) := by decide +kernel
theorem dX12_rests_114 : decode cX12_rests 114 = .ok (.if_icmp .ne 10, 3) := by decide +kernel
theorem dX12_rests_117 : decode cX12_rests 117 = .ok (.iload 6, 2) := by decide +kernel
theorem dX12_rests_119 : decode cX12_rests 119 = .ok (.iconst 5, 1) := by decide +kernel
theorem dX12_rests_120 : decode cX12_rests 120 = .ok (.idiv, 1) := by decide +kernel
theorem dX12_rests_121 : decode cX12_rests 121 = .ok (.goto 7, 3) := by decide +kernel
theorem dX12_rests_124 : decode cX12_rests 124 = .ok (.iload 6, 2) := by decide +kernel
theorem dX12_rests_126 : decode cX12_rests 126 = .ok (.iconst 5, 1) := by decide +kernel
theorem dX12_rests_127 : decode cX12_rests 127 = .ok (.irem, 1) := by decide +kernel
theorem dX12_rests_128 : decode cX12_rests 128 = .ok (.imul, 1) := by decide +kernel
theorem dX12_rests_129 : decode cX12_rests 129 = .ok (.ireturn, 1) := by decide +kernel
theorem dX12_allHard_0 : decode cX12_allHard 0 = .ok (.aload_n 0, 1) := by decide +kernel
theorem dX12_allHard_1 : decode cX12_allHard 1 = .ok (.getfield 16, 3) := by decide +kernel
theorem dX12_allHard_4 : decode cX12_allHard 4 = .ok (.iload_n 1, 1) := by decide +kernel
theorem dX12_allHard_5 : decode cX12_allHard 5 = .ok (.iaload, 1) := by decide +kernel
theorem dX12_allHard_6 : decode cX12_allHard 6 = .ok (.istore_n 2, 1) := by decide +kernel
theorem dX12_allHard_7 : decode cX12_allHard 7 = .ok (.iconst 0, 1) := by decide +kernel
theorem dX12_allHard_8 : decode cX12_allHard 8 = .ok (.istore_n 3, 1) := by decide +kernel
theorem dX12_allHard_9 : decode cX12_allHard 9 = .ok (.iload_n 3, 1) := by decide +kernel
theorem dX12_allHard_10 : decode cX12_allHard 10 = .ok (.bipush 6, 2) := by decide +kernel
theorem dX12_allHard_12 : decode cX12_allHard 12 = .ok (.if_icmp .ge 23, 3) := by decide +kernel
theorem dX12_allHard_15 : decode cX12_allHard 15 = .ok (.iload_n 2, 1) := by decide +kernel
theorem dX12_allHard_16 : decode cX12_allHard 16 = .ok (.aload_n 0, 1) := by decide +kernel
theorem dX12_allHard_17 : decode cX12_allHard 17 = .ok (.getfield 19, 3) := by decide +kernel
theorem dX12_allHard_20 : decode cX12_allHard 20 = .ok (.bipush 6, 2) := by decide +kernel
theorem dX12_allHard_22 : decode cX12_allHard 22 = .ok (.iload_n 1, 1) := by decide +kernel
theorem dX12_allHard_23 : decode cX12_allHard 23 = .ok (.imul, 1) := by decide +kernel
theorem dX12_allHard_24 : decode cX12_allHard 24 = .ok (.iload_n 3, 1) := by decide +kernel
theorem dX12_allHard_25 : decode cX12_allHard 25 = .ok (.iadd, 1) := by decide +kernel
theorem dX12_allHard_26 : decode cX12_allHard 26 = .ok (.iaload, 1) := by decide +kernel
theorem dX12_allHard_27 : decode cX12_allHard 27 = .ok (.iadd, 1) := by decide +kernel
theorem dX12_allHard_28 : decode cX12_allHard 28 = .ok (.istore_n 2, 1) := by decide +kernel
theorem dX12_allHard_29 : decode cX12_allHard 29 = .ok (.iinc 3 1, 3) := by decide +kernel
theorem dX12_allHard_32 : decode cX12_allHard 32 = .ok (.goto (-23), 3) := by decide +kernel
theorem dX12_allHard_35 : decode cX12_allHard 35 = .ok (.iload_n 2, 1) := by decide +kernel
theorem dX12_allHard_36 : decode cX12_allHard 36 = .ok (.ireturn, 1) := by decide +kernel
theorem dX12_parts_0 : decode cX12_parts 0 = .ok (.aload_n 0, 1) := by decide +kernel
theorem dX12_parts_1 : decode cX12_parts 1 = .ok (.iload_n 2, 1) := by decide +kernel
theorem dX12_parts_2 : decode cX12_parts 2 = .ok (.invokevirtual 147, 3) := by decide +kernel
theorem dX12_parts_5 : decode cX12_parts 5 = .ok (.ifCond .eq 15, 3) := by decide +kernel
theorem dX12_parts_8 : decode cX12_parts 8 = .ok (.iload_n 1, 1) := by decide +kernel
theorem dX12_parts_9 : decode cX12_parts 9 = .ok (.i2l, 1) := by decide +kernel
theorem dX12_parts_10 : decode cX12_parts 10 = .ok (.lconst 0, 1) := by decide +kernel
theorem dX12_parts_11 : decode cX12_parts 11 = .ok (.ldc2_w 496, 3) := by decide +kernel
theorem dX12_parts_14 : decode cX12_parts 14 = .ok (.invokestatic 143, 3) := by decide +kernel
theorem dX12_parts_17 : decode cX12_parts 17 = .ok (.ifCond .ne 5, 3) := by decide +kernel
theorem dX12_parts_20 : decode cX12_parts 20 = .ok (.iconst (-1), 1) := by decide +kernel
theorem dX12_parts_21 : decode cX12_parts 21 = .ok (.ireturn, 1) := by decide +kernel
theorem dX12_parts_22 : decode cX12_parts 22 = .ok (.iconst 0, 1) := by decide +kernel
theorem dX12_parts_23 : decode cX12_parts 23 = .ok (.istore_n 3, 1) := by decide +kernel
theorem dX12_parts_24 : decode cX12_parts 24 = .ok (.iconst 0, 1) := by decide +kernel
theorem dX12_parts_25 : decode cX12_parts 25 = .ok (.istore 4, 2) := by decide +kernel
theorem dX12_parts_27 : decode cX12_parts 27 = .ok (.iload 4, 2) := by decide +kernel
theorem dX12_parts_29 : decode cX12_parts 29 = .ok (.aload_n 0, 1) := by decide +kernel
theorem dX12_parts_30 : decode cX12_parts 30 = .ok (.getfield 9, 3) := by decide +kernel
theorem dX12_parts_33 : decode cX12_parts 33 = .ok (.iconst 4, 1) := by decide +kernel
theorem dX12_parts_34 : decode cX12_parts 34 = .ok (.iaload, 1) := by decide +kernel
theorem dX12_parts_35 : decode cX12_parts 35 = .ok (.if_icmp .ge 18, 3) := by decide +kernel
theorem dX12_parts_38 : decode cX12_parts 38 = .ok (.iload_n 3, 1) := by decide +kernel
theorem dX12_parts_39 : decode cX12_parts 39 = .ok (.aload_n 0, 1) := by decide +kernel
theorem dX12_parts_40 : decode cX12_parts 40 = .ok (.iload 4, 2) := by decide +kernel
theorem dX12_parts_42 : decode cX12_parts 42 = .ok (.invokevirtual 498, 3) := by decide +kernel
theorem dX12_parts_45 : decode cX12_parts 45 = .ok (.iadd, 1) := by decide +kernel
theorem dX12_parts_46 : decode cX12_parts 46 = .ok (.istore_n 3, 1) := by decide +kernel
theorem dX12_parts_47 : decode cX12_parts 47 = .ok (.iinc 4 1, 3) := by decide +kernel
theorem dX12_parts_50 : decode cX12_parts 50 = .ok (.goto (-23), 3) := by decide +kernel
theorem dX12_parts_53 : decode cX12_parts 53 = .ok (.iload_n 3, 1) := by decide +kernel
theorem dX12_parts_54 : decode cX12_parts 54 = .ok (.ifCond .ne 5, 3) := by decide +kernel
theorem dX12_parts_57 : decode cX12_parts 57 = .ok (.iconst 0, 1) := by decide +kernel
theorem dX12_parts_58 : decode cX12_parts 58 = .ok (.ireturn, 1) := by decide +kernel
theorem dX12_parts_59 : decode cX12_parts 59 = .ok (.iload_n 1, 1) := by decide +kernel
theorem dX12_parts_60 : decode cX12_parts 60 = .ok (.istore 4, 2) := by decide +kernel
theorem dX12_parts_62 : decode cX12_parts 62 = .ok (.iconst 0, 1) := by decide +kernel
theorem dX12_parts_63 : decode cX12_parts 63 = .ok (.istore 5, 2) := by decide +kernel
theorem dX12_parts_65 : decode cX12_parts 65 = .ok (.iconst 0, 1) := by decide +kernel
theorem dX12_parts_66 : decode cX12_parts 66 = .ok (.istore 6, 2) := by decide +kernel
theorem dX12_parts_68 : decode cX12_parts 68 = .ok (.iload 6, 2) := by decide +kernel
theorem dX12_parts_70 : decode cX12_parts 70 = .ok (.aload_n 0, 1) := by decide +kernel
theorem dX12_parts_71 : decode cX12_parts 71 = .ok (.getfield 9, 3) := by decide +kernel
theorem dX12_parts_74 : decode cX12_parts 74 = .ok (.iconst 4, 1) := by decide +kernel
theorem dX12_parts_75 : decode cX12_parts 75 = .ok (.iaload, 1) := by decide +kernel
theorem dX12_parts_76 : decode cX12_parts 76 = .ok (.if_icmp .ge 72, 3) := by decide +kernel
theorem dX12_parts_79 : decode cX12_parts 79 = .ok (.iload 4, 2) := by decide +kernel
theorem dX12_parts_81 : decode cX12_parts 81 = .ok (.iload_n 1, 1) := by decide +kernel
theorem dX12_parts_82 : decode cX12_parts 82 = .ok (.aload_n 0, 1) := by decide +kernel
theorem dX12_parts_83 : decode cX12_parts 83 = .ok (.iload 6, 2) := by decide +kernel
theorem dX12_parts_85 : decode cX12_parts 85 = .ok (.invokevirtual 498, 3) := by decide +kernel
theorem dX12_parts_88 : decode cX12_parts 88 = .ok (.imul, 1) := by decide +kernel
theorem dX12_parts_89 : decode cX12_parts 89 = .ok (.iload_n 3, 1) := by decide +kernel
theorem dX12_parts_90 : decode cX12_parts 90 = .ok (.idiv, 1) := by decide +kernel
theorem dX12_parts_91 : decode cX12_parts 91 = .ok (.isub, 1) := by decide +kernel
theorem dX12_parts_92 : decode cX12_parts 92 = .ok (.istore 4, 2) := by decide +kernel
theorem dX12_parts_94 : decode cX12_parts 94 = .ok (.iload_n 1, 1) := by decide +kernel
theorem dX12_parts_95 : decode cX12_parts 95 = .ok (.aload_n 0, 1) := by decide +kernel
theorem dX12_parts_96 : decode cX12_parts 96 = .ok (.iload 6, 2) := by decide +kernel
theorem dX12_parts_98 : decode cX12_parts 98 = .ok (.invokevirtual 498, 3) := by decide +kernel
theorem dX12_parts_101 : decode cX12_parts 101 = .ok (.imul, 1) := by decide +kernel
theorem dX12_parts_102 : decode cX12_parts 102 = .ok (.iload_n 3, 1) := by decide +kernel
theorem dX12_parts_103 : decode cX12_parts 103 = .ok (.irem, 1) := by decide +kernel
theorem dX12_parts_104 : decode cX12_parts 104 = .ok (.iload_n 1, 1) := by decide +kernel
theorem dX12_parts_105 : decode cX12_parts 105 = .ok (.aload_n 0, 1) := by decide +kernel
theorem dX12_parts_106 : decode cX12_parts 106 = .ok (.iload_n 2, 1) := by decide +kernel
theorem dX12_parts_107 : decode cX12_parts 107 = .ok (.invokevirtual 498, 3) := by decide +kernel
theorem dX12_parts_110 : decode cX12_parts 110 = .ok (.imul, 1) := by decide +kernel
theorem dX12_parts_111 : decode cX12_parts 111 = .ok (.iload_n 3, 1) := by decide +kernel
theorem dX12_parts_112 : decode cX12_parts 112 = .ok (.irem, 1) := by decide +kernel
theorem dX12_parts_113 : decode cX12_parts 113 = .ok (.isub, 1) := by decide +kernel
theorem dX12_parts_114 : decode cX12_parts 114 = .ok (.istore 7, 2) := by decide +kernel
theorem dX12_parts_116 : decode cX12_parts 116 = .ok (.iload 5, 2) := by decide +kernel
theorem dX12_parts_118 : decode cX12_parts 118 = .ok (.iload 7, 2) := by decide +kernel
theorem dX12_parts_120 : decode cX12_parts 120 = .ok (.ifCond .gt 14, 3) := by decide +kernel
theorem dX12_parts_123 : decode cX12_parts 123 = .ok (.iload 7, 2) := by decide +kernel
theorem dX12_parts_125 : decode cX12_parts 125 = .ok (.ifCond .ne 13, 3) := by decide +kernel
theorem dX12_parts_128 : decode cX12_parts 128 = .ok (.iload 6, 2) := by decide +kernel
theorem dX12_parts_130 : decode cX12_parts 130 = .ok (.iload_n 2, 1) := by decide +kernel
theorem dX12_parts_131 : decode cX12_parts 131 = .ok (.if_icmp .ge 7, 3) := by decide +kernel
theorem dX12_parts_134 : decode cX12_parts 134 = .ok (.iconst 1, 1) := by decide +kernel
theorem dX12_parts_135 : decode cX12_parts 135 = .ok (.goto 4, 3) := by decide +kernel
theorem dX12_parts_138 : decode cX12_parts 138 = .ok (.iconst 0, 1) := by decide +kernel
theorem dX12_parts_139 : decode cX12_parts 139 = .ok (.iadd, 1) := by decide +kernel
theorem dX12_parts_140 : decode cX12_parts 140 = .ok (.istore 5, 2) := by decide +kernel
theorem dX12_parts_142 : decode cX12_parts 142 = .ok (.iinc 6 1, 3) := by decide +kernel
theorem dX12_parts_145 : decode cX12_parts 145 = .ok (.goto (-77), 3) := by decide +kernel
theorem dX12_parts_148 : decode cX12_parts 148 = .ok (.iload_n 1, 1) := by decide +kernel
theorem dX12_parts_149 : decode cX12_parts 149 = .ok (.aload_n 0, 1) := by decide +kernel
theorem dX12_parts_150 : decode cX12_parts 150 = .ok (.iload_n 2, 1) := by decide +kernel
theorem dX12_parts_151 : decode cX12_parts 151 = .ok (.invokevirtual 498, 3) := by decide +kernel
theorem dX12_parts_154 : decode cX12_parts 154 = .ok (.imul, 1) := by decide +kernel
theorem dX12_parts_155 : decode cX12_parts 155 = .ok (.iload_n 3, 1) := by decide +kernel
theorem dX12_parts_156 : decode cX12_parts 156 = .ok (.idiv, 1) := by decide +kernel
theorem dX12_parts_157 : decode cX12_parts 157 = .ok (.iload 5, 2) := by decide +kernel
theorem dX12_parts_159 : decode cX12_parts 159 = .ok (.iload 4, 2) := by decide +kernel
theorem dX12_parts_161 : decode cX12_parts 161 = .ok (.if_icmp .ge 7, 3) := by decide +kernel
theorem dX12_parts_164 : decode cX12_parts 164 = .ok (.iconst 1, 1) := by decide +kernel
theorem dX12_parts_165 : decode cX12_parts 165 = .ok (.goto 4, 3) := by decide +kernel
theorem dX12_parts_168 : decode cX12_parts 168 = .ok (.iconst 0, 1) := by decide +kernel
theorem dX12_parts_169 : decode cX12_parts 169 = .ok (.iadd, 1) := by decide +kernel
theorem dX12_parts_170 : decode cX12_parts 170 = .ok (.ireturn, 1) := by decide +kernel
theorem dX12_note_0 : decode cX12_note 0 = .ok (.iload_n 1, 1) := by decide +kernel
theorem dX12_note_1 : decode cX12_note 1 = .ok (.iconst (-1), 1) := by decide +kernel
theorem dX12_note_2 : decode cX12_note 2 = .ok (.if_icmp .ne 13, 3) := by decide +kernel
theorem dX12_note_5 : decode cX12_note 5 = .ok (.aload_n 0, 1) := by decide +kernel
theorem dX12_note_6 : decode cX12_note 6 = .ok (.getfield 9, 3) := by decide +kernel
theorem dX12_note_9 : decode cX12_note 9 = .ok (.bipush 8, 2) := by decide +kernel
theorem dX12_note_11 : decode cX12_note 11 = .ok (.iconst 0, 1) := by decide +kernel
theorem dX12_note_12 : decode cX12_note 12 = .ok (.iastore, 1) := by decide +kernel
theorem dX12_note_13 : decode cX12_note 13 = .ok (.iconst 0, 1) := by decide +kernel
theorem dX12_note_14 : decode cX12_note 14 = .ok (.ireturn, 1) := by decide +kernel
theorem dX12_note_15 : decode cX12_note 15 = .ok (.aload_n 0, 1) := by decide +kernel
theorem dX12_note_16 : decode cX12_note 16 = .ok (.getfield 9, 3) := by decide +kernel
theorem dX12_note_19 : decode cX12_note 19 = .ok (.bipush 8, 2) := by decide +kernel
theorem dX12_note_21 : decode cX12_note 21 = .ok (.iaload, 1) := by decide +kernel
theorem dX12_note_22 : decode cX12_note 22 = .ok (.istore 4, 2) := by decide +kernel
theorem dX12_note_24 : decode cX12_note 24 = .ok (.iload_n 1, 1) := by decide +kernel
theorem dX12_note_25 : decode cX12_note 25 = .ok (.i2l, 1) := by decide +kernel
theorem dX12_note_26 : decode cX12_note 26 = .ok (.lconst 0, 1) := by decide +kernel
theorem dX12_note_27 : decode cX12_note 27 = .ok (.ldc2_w 469, 3) := by decide +kernel
theorem dX12_note_30 : decode cX12_note 30 = .ok (.invokestatic 143, 3) := by decide +kernel
theorem dX12_note_33 : decode cX12_note 33 = .ok (.ifCond .eq 34, 3) := by decide +kernel
theorem dX12_note_36 : decode cX12_note 36 = .ok (.aload_n 0, 1) := by decide +kernel
theorem dX12_note_37 : decode cX12_note 37 = .ok (.iload_n 2, 1) := by decide +kernel
theorem dX12_note_38 : decode cX12_note 38 = .ok (.invokevirtual 147, 3) := by decide +kernel
theorem dX12_note_41 : decode cX12_note 41 = .ok (.ifCond .eq 26, 3) := by decide +kernel
theorem dX12_note_44 : decode cX12_note 44 = .ok (.iload_n 3, 1) := by decide +kernel
theorem dX12_note_45 : decode cX12_note 45 = .ok (.i2l, 1) := by decide +kernel
theorem dX12_note_46 : decode cX12_note 46 = .ok (.lconst 0, 1) := by decide +kernel
theorem dX12_note_47 : decode cX12_note 47 = .ok (.aload_n 0, 1) := by decide +kernel
theorem dX12_note_48 : decode cX12_note 48 = .ok (.getfield 9, 3) := by decide +kernel
theorem dX12_note_51 : decode cX12_note 51 = .ok (.iconst 0, 1) := by decide +kernel
theorem dX12_note_52 : decode cX12_note 52 = .ok (.iaload, 1) := by decide +kernel
theorem dX12_note_53 : decode cX12_note 53 = .ok (.i2l, 1) := by decide +kernel
theorem dX12_note_54 : decode cX12_note 54 = .ok (.invokestatic 143, 3) := by decide +kernel
theorem dX12_note_57 : decode cX12_note 57 = .ok (.ifCond .eq 10, 3) := by decide +kernel
theorem dX12_note_60 : decode cX12_note 60 = .ok (.iload 4, 2) := by decide +kernel
theorem dX12_note_62 : decode cX12_note 62 = .ok (.bipush 10, 2) := by decide +kernel
theorem dX12_note_64 : decode cX12_note 64 = .ok (.if_icmp .ne 6, 3) := by decide +kernel
theorem dX12_note_67 : decode cX12_note 67 = .ok (.bipush (-2), 2) := by decide +kernel
theorem dX12_note_69 : decode cX12_note 69 = .ok (.ireturn, 1) := by decide +kernel
theorem dX12_note_70 : decode cX12_note 70 = .ok (.aload_n 0, 1) := by decide +kernel
theorem dX12_note_71 : decode cX12_note 71 = .ok (.getfield 25, 3) := by decide +kernel
theorem dX12_note_74 : decode cX12_note 74 = .ok (.iload 4, 2) := by decide +kernel
theorem dX12_note_76 : decode cX12_note 76 = .ok (.iload_n 1, 1) := by decide +kernel
theorem dX12_note_77 : decode cX12_note 77 = .ok (.iastore, 1) := by decide +kernel
theorem dX12_note_78 : decode cX12_note 78 = .ok (.aload_n 0, 1) := by decide +kernel
theorem dX12_note_79 : decode cX12_note 79 = .ok (.getfield 28, 3) := by decide +kernel
theorem dX12_note_82 : decode cX12_note 82 = .ok (.iload 4, 2) := by decide +kernel
theorem dX12_note_84 : decode cX12_note 84 = .ok (.iload_n 2, 1) := by decide +kernel
theorem dX12_note_85 : decode cX12_note 85 = .ok (.iastore, 1) := by decide +kernel
theorem dX12_note_86 : decode cX12_note 86 = .ok (.aload_n 0, 1) := by decide +kernel
theorem dX12_note_87 : decode cX12_note 87 = .ok (.getfield 31, 3) := by decide +kernel
theorem dX12_note_90 : decode cX12_note 90 = .ok (.iload 4, 2) := by decide +kernel
theorem dX12_note_92 : decode cX12_note 92 = .ok (.iload_n 3, 1) := by decide +kernel
theorem dX12_note_93 : decode cX12_note 93 = .ok (.iastore, 1) := by decide +kernel
theorem dX12_note_94 : decode cX12_note 94 = .ok (.aload_n 0, 1) := by decide +kernel
theorem dX12_note_95 : decode cX12_note 95 = .ok (.getfield 9, 3) := by decide +kernel
theorem dX12_note_98 : decode cX12_note 98 = .ok (.bipush 8, 2) := by decide +kernel
theorem dX12_note_100 : decode cX12_note 100 = .ok (.dup2, 1) := by decide +kernel
theorem dX12_note_101 : decode cX12_note 101 = .ok (.iaload, 1) := by decide +kernel
theorem dX12_note_102 : decode cX12_note 102 = .ok (.iconst 1, 1) := by decide +kernel
theorem dX12_note_103 : decode cX12_note 103 = .ok (.iadd, 1) := by decide +kernel
theorem dX12_note_104 : decode cX12_note 104 = .ok (.iastore, 1) := by decide +kernel
theorem dX12_note_105 : decode cX12_note 105 = .ok (.iload 4, 2) := by decide +kernel
theorem dX12_note_107 : decode cX12_note 107 = .ok (.iconst 1, 1) := by decide +kernel
theorem dX12_note_108 : decode cX12_note 108 = .ok (.iadd, 1) := by decide +kernel
theorem dX12_note_109 : decode cX12_note 109 = .ok (.ireturn, 1) := by decide +kernel
theorem dX12_couldRule_0 : decode cX12_couldRule 0 = .ok (.aload_n 0, 1) := by decide +kernel
theorem dX12_couldRule_1 : decode cX12_couldRule 1 = .ok (.getfield 9, 3) := by decide +kernel
theorem dX12_couldRule_4 : decode cX12_couldRule 4 = .ok (.bipush 10, 2) := by decide +kernel
theorem dX12_couldRule_6 : decode cX12_couldRule 6 = .ok (.iload_n 1, 1) := by decide +kernel
theorem dX12_couldRule_7 : decode cX12_couldRule 7 = .ok (.iastore, 1) := by decide +kernel
theorem dX12_couldRule_8 : decode cX12_couldRule 8 = .ok (.aload_n 0, 1) := by decide +kernel
theorem dX12_couldRule_9 : decode cX12_couldRule 9 = .ok (.invokevirtual 317, 3) := by decide +kernel
theorem dX12_couldRule_12 : decode cX12_couldRule 12 = .ok (.iconst 0, 1) := by decide +kernel
theorem dX12_couldRule_13 : decode cX12_couldRule 13 = .ok (.istore_n 2, 1) := by decide +kernel
theorem dX12_couldRule_14 : decode cX12_couldRule 14 = .ok (.iload_n 2, 1) := by decide +kernel
theorem dX12_couldRule_15 : decode cX12_couldRule 15 = .ok (.bipush 60, 2) := by decide +kernel
theorem dX12_couldRule_17 : decode cX12_couldRule 17 = .ok (.if_icmp .gt 45, 3) := by decide +kernel
theorem dX12_couldRule_20 : decode cX12_couldRule 20 = .ok (.iconst 0, 1) := by decide +kernel
theorem dX12_couldRule_21 : decode cX12_couldRule 21 = .ok (.istore_n 3, 1) := by decide +kernel
theorem dX12_couldRule_22 : decode cX12_couldRule 22 = .ok (.iload_n 3, 1) := by decide +kernel
theorem dX12_couldRule_23 : decode cX12_couldRule 23 = .ok (.bipush 6, 2) := by decide +kernel
theorem dX12_couldRule_25 : decode cX12_couldRule 25 = .ok (.if_icmp .ge 26, 3) := by decide +kernel
theorem dX12_couldRule_28 : decode cX12_couldRule 28 = .ok (.aload_n 0, 1) := by decide +kernel
theorem dX12_couldRule_29 : decode cX12_couldRule 29 = .ok (.getfield 127, 3) := by decide +kernel
theorem dX12_couldRule_32 : decode cX12_couldRule 32 = .ok (.bipush 6, 2) := by decide +kernel
theorem dX12_couldRule_34 : decode cX12_couldRule 34 = .ok (.iload_n 2, 1) := by decide +kernel
theorem dX12_couldRule_35 : decode cX12_couldRule 35 = .ok (.imul, 1) := by decide +kernel
theorem dX12_couldRule_36 : decode cX12_couldRule 36 = .ok (.iload_n 3, 1) := by decide +kernel
theorem dX12_couldRule_37 : decode cX12_couldRule 37 = .ok (.iadd, 1) := by decide +kernel
theorem dX12_couldRule_38 : decode cX12_couldRule 38 = .ok (.aload_n 0, 1) := by decide +kernel
theorem dX12_couldRule_39 : decode cX12_couldRule 39 = .ok (.getfield 13, 3) := by decide +kernel
theorem dX12_couldRule_42 : decode cX12_couldRule 42 = .ok (.iload_n 3, 1) := by decide +kernel
theorem dX12_couldRule_43 : decode cX12_couldRule 43 = .ok (.iaload, 1) := by decide +kernel
theorem dX12_couldRule_44 : decode cX12_couldRule 44 = .ok (.iastore, 1) := by decide +kernel
theorem dX12_couldRule_45 : decode cX12_couldRule 45 = .ok (.iinc 3 1, 3) := by decide +kernel
theorem dX12_couldRule_48 : decode cX12_couldRule 48 = .ok (.goto (-26), 3) := by decide +kernel
theorem dX12_couldRule_51 : decode cX12_couldRule 51 = .ok (.aload_n 0, 1) := by decide +kernel
theorem dX12_couldRule_52 : decode cX12_couldRule 52 = .ok (.invokevirtual 412, 3) := by decide +kernel
theorem dX12_couldRule_55 : decode cX12_couldRule 55 = .ok (.pop, 1) := by decide +kernel
theorem dX12_couldRule_56 : decode cX12_couldRule 56 = .ok (.iinc 2 1, 3) := by decide +kernel
theorem dX12_couldRule_59 : decode cX12_couldRule 59 = .ok (.goto (-45), 3) := by decide +kernel
theorem dX12_couldRule_62 : decode cX12_couldRule 62 = .ok (.aload_n 0, 1) := by decide +kernel
theorem dX12_couldRule_63 : decode cX12_couldRule 63 = .ok (.invokevirtual 449, 3) := by decide +kernel
theorem dX12_couldRule_66 : decode cX12_couldRule 66 = .ok (.iconst 0, 1) := by decide +kernel
theorem dX12_couldRule_67 : decode cX12_couldRule 67 = .ok (.istore_n 2, 1) := by decide +kernel
theorem dX12_couldRule_68 : decode cX12_couldRule 68 = .ok (.iload_n 2, 1) := by decide +kernel
theorem dX12_couldRule_69 : decode cX12_couldRule 69 = .ok (.aload_n 0, 1) := by decide +kernel
theorem dX12_couldRule_70 : decode cX12_couldRule 70 = .ok (.getfield 9, 3) := by decide +kernel
theorem dX12_couldRule_73 : decode cX12_couldRule 73 = .ok (.bipush 8, 2) := by decide +kernel
theorem dX12_couldRule_75 : decode cX12_couldRule 75 = .ok (.iaload, 1) := by decide +kernel
theorem dX12_couldRule_76 : decode cX12_couldRule 76 = .ok (.if_icmp .ge 41, 3) := by decide +kernel
theorem dX12_couldRule_79 : decode cX12_couldRule 79 = .ok (.aload_n 0, 1) := by decide +kernel
theorem dX12_couldRule_80 : decode cX12_couldRule 80 = .ok (.getfield 127, 3) := by decide +kernel
theorem dX12_couldRule_83 : decode cX12_couldRule 83 = .ok (.bipush 6, 2) := by decide +kernel
theorem dX12_couldRule_85 : decode cX12_couldRule 85 = .ok (.aload_n 0, 1) := by decide +kernel
theorem dX12_couldRule_86 : decode cX12_couldRule 86 = .ok (.getfield 25, 3) := by decide +kernel
theorem dX12_couldRule_89 : decode cX12_couldRule 89 = .ok (.iload_n 2, 1) := by decide +kernel
theorem dX12_couldRule_90 : decode cX12_couldRule 90 = .ok (.iaload, 1) := by decide +kernel
theorem dX12_couldRule_91 : decode cX12_couldRule 91 = .ok (.imul, 1) := by decide +kernel
theorem dX12_couldRule_92 : decode cX12_couldRule 92 = .ok (.aload_n 0, 1) := by decide +kernel
theorem dX12_couldRule_93 : decode cX12_couldRule 93 = .ok (.getfield 28, 3) := by decide +kernel
theorem dX12_couldRule_96 : decode cX12_couldRule 96 = .ok (.iload_n 2, 1) := by decide +kernel
theorem dX12_couldRule_97 : decode cX12_couldRule 97 = .ok (.iaload, 1) := by decide +kernel
theorem dX12_couldRule_98 : decode cX12_couldRule 98 = .ok (.iadd, 1) := by decide +kernel
theorem dX12_couldRule_99 : decode cX12_couldRule 99 = .ok (.iaload, 1) := by decide +kernel
theorem dX12_couldRule_100 : decode cX12_couldRule 100 = .ok (.aload_n 0, 1) := by decide +kernel
theorem dX12_couldRule_101 : decode cX12_couldRule 101 = .ok (.getfield 31, 3) := by decide +kernel
theorem dX12_couldRule_104 : decode cX12_couldRule 104 = .ok (.iload_n 2, 1) := by decide +kernel
theorem dX12_couldRule_105 : decode cX12_couldRule 105 = .ok (.iaload, 1) := by decide +kernel
theorem dX12_couldRule_106 : decode cX12_couldRule 106 = .ok (.if_icmp .eq 5, 3) := by decide +kernel
theorem dX12_couldRule_109 : decode cX12_couldRule 109 = .ok (.iconst 0, 1) := by decide +kernel
theorem dX12_couldRule_110 : decode cX12_couldRule 110 = .ok (.ireturn, 1) := by decide +kernel
theorem dX12_couldRule_111 : decode cX12_couldRule 111 = .ok (.iinc 2 1, 3) := by decide +kernel
theorem dX12_couldRule_114 : decode cX12_couldRule 114 = .ok (.goto (-46), 3) := by decide +kernel
theorem dX12_couldRule_117 : decode cX12_couldRule 117 = .ok (.iconst 1, 1) := by decide +kernel
theorem dX12_couldRule_118 : decode cX12_couldRule 118 = .ok (.ireturn, 1) := by decide +kernel
theorem dX12_ruled_0 : decode cX12_ruled 0 = .ok (.aload_n 0, 1) := by decide +kernel
theorem dX12_ruled_1 : decode cX12_ruled 1 = .ok (.invokevirtual 432, 3) := by decide +kernel
theorem dX12_ruled_4 : decode cX12_ruled 4 = .ok (.ifCond .eq 13, 3) := by decide +kernel
theorem dX12_ruled_7 : decode cX12_ruled 7 = .ok (.iload_n 1, 1) := by decide +kernel
theorem dX12_ruled_8 : decode cX12_ruled 8 = .ok (.i2l, 1) := by decide +kernel
theorem dX12_ruled_9 : decode cX12_ruled 9 = .ok (.lconst 0, 1) := by decide +kernel
theorem dX12_ruled_10 : decode cX12_ruled 10 = .ok (.lconst 1, 1) := by decide +kernel
theorem dX12_ruled_11 : decode cX12_ruled 11 = .ok (.invokestatic 143, 3) := by decide +kernel
theorem dX12_ruled_14 : decode cX12_ruled 14 = .ok (.ifCond .ne 6, 3) := by decide +kernel
theorem dX12_ruled_17 : decode cX12_ruled 17 = .ok (.bipush (-3), 2) := by decide +kernel
theorem dX12_ruled_19 : decode cX12_ruled 19 = .ok (.ireturn, 1) := by decide +kernel
theorem dX12_ruled_20 : decode cX12_ruled 20 = .ok (.aload_n 0, 1) := by decide +kernel
theorem dX12_ruled_21 : decode cX12_ruled 21 = .ok (.invokevirtual 456, 3) := by decide +kernel
theorem dX12_ruled_24 : decode cX12_ruled 24 = .ok (.iconst 0, 1) := by decide +kernel
theorem dX12_ruled_25 : decode cX12_ruled 25 = .ok (.istore_n 2, 1) := by decide +kernel
theorem dX12_ruled_26 : decode cX12_ruled 26 = .ok (.bipush (-2), 2) := by decide +kernel
theorem dX12_ruled_28 : decode cX12_ruled 28 = .ok (.istore_n 3, 1) := by decide +kernel
theorem dX12_ruled_29 : decode cX12_ruled 29 = .ok (.iconst (-1), 1) := by decide +kernel
theorem dX12_ruled_30 : decode cX12_ruled 30 = .ok (.istore 4, 2) := by decide +kernel
theorem dX12_ruled_32 : decode cX12_ruled 32 = .ok (.iload 4, 2) := by decide +kernel
theorem dX12_ruled_34 : decode cX12_ruled 34 = .ok (.aload_n 0, 1) := by decide +kernel
theorem dX12_ruled_35 : decode cX12_ruled 35 = .ok (.getfield 333, 3) := by decide +kernel
theorem dX12_ruled_38 : decode cX12_ruled 38 = .ok (.if_icmp .ge 32, 3) := by decide +kernel
theorem dX12_ruled_41 : decode cX12_ruled 41 = .ok (.aload_n 0, 1) := by decide +kernel
theorem dX12_ruled_42 : decode cX12_ruled 42 = .ok (.iload 4, 2) := by decide +kernel
theorem dX12_ruled_44 : decode cX12_ruled 44 = .ok (.invokevirtual 501, 3) := by decide +kernel
theorem dX12_ruled_47 : decode cX12_ruled 47 = .ok (.ifCond .eq 17, 3) := by decide +kernel
theorem dX12_ruled_50 : decode cX12_ruled 50 = .ok (.iload_n 2, 1) := by decide +kernel
theorem dX12_ruled_51 : decode cX12_ruled 51 = .ok (.ifCond .ne 8, 3) := by decide +kernel
theorem dX12_ruled_54 : decode cX12_ruled 54 = .ok (.iload 4, 2) := by decide +kernel
theorem dX12_ruled_56 : decode cX12_ruled 56 = .ok (.goto 4, 3) := by decide +kernel
theorem dX12_ruled_59 : decode cX12_ruled 59 = .ok (.iload_n 3, 1) := by decide +kernel
theorem dX12_ruled_60 : decode cX12_ruled 60 = .ok (.istore_n 3, 1) := by decide +kernel
theorem dX12_ruled_61 : decode cX12_ruled 61 = .ok (.iinc 2 1, 3) := by decide +kernel
theorem dX12_ruled_64 : decode cX12_ruled 64 = .ok (.iinc 4 1, 3) := by decide +kernel
theorem dX12_ruled_67 : decode cX12_ruled 67 = .ok (.goto (-35), 3) := by decide +kernel
theorem dX12_ruled_70 : decode cX12_ruled 70 = .ok (.iload_n 1, 1) := by decide +kernel
theorem dX12_ruled_71 : decode cX12_ruled 71 = .ok (.ifCond .ne 7, 3) := by decide +kernel
theorem dX12_ruled_74 : decode cX12_ruled 74 = .ok (.iload_n 2, 1) := by decide +kernel
theorem dX12_ruled_75 : decode cX12_ruled 75 = .ok (.goto 4, 3) := by decide +kernel
theorem dX12_ruled_78 : decode cX12_ruled 78 = .ok (.iload_n 3, 1) := by decide +kernel
theorem dX12_ruled_79 : decode cX12_ruled 79 = .ok (.ireturn, 1) := by decide +kernel
theorem dX12_mostAlike_0 : decode cX12_mostAlike 0 = .ok (.iconst 0, 1) := by decide +kernel
theorem dX12_mostAlike_1 : decode cX12_mostAlike 1 = .ok (.istore_n 3, 1) := by decide +kernel
theorem dX12_mostAlike_2 : decode cX12_mostAlike 2 = .ok (.iconst 0, 1) := by decide +kernel
theorem dX12_mostAlike_3 : decode cX12_mostAlike 3 = .ok (.istore 4, 2) := by decide +kernel
theorem dX12_mostAlike_5 : decode cX12_mostAlike 5 = .ok (.iload 4, 2) := by decide +kernel
theorem dX12_mostAlike_7 : decode cX12_mostAlike 7 = .ok (.iload_n 2, 1) := by decide +kernel
theorem dX12_mostAlike_8 : decode cX12_mostAlike 8 = .ok (.if_icmp .ge 77, 3) := by decide +kernel
theorem dX12_mostAlike_11 : decode cX12_mostAlike 11 = .ok (.iconst 0, 1) := by decide +kernel
theorem dX12_mostAlike_12 : decode cX12_mostAlike 12 = .ok (.istore 5, 2) := by decide +kernel
theorem dX12_mostAlike_14 : decode cX12_mostAlike 14 = .ok (.iconst 0, 1) := by decide +kernel
theorem dX12_mostAlike_15 : decode cX12_mostAlike 15 = .ok (.istore 6, 2) := by decide +kernel
theorem dX12_mostAlike_17 : decode cX12_mostAlike 17 = .ok (.iload 6, 2) := by decide +kernel
theorem dX12_mostAlike_19 : decode cX12_mostAlike 19 = .ok (.iload_n 2, 1) := by decide +kernel
theorem dX12_mostAlike_20 : decode cX12_mostAlike 20 = .ok (.if_icmp .ge 46, 3) := by decide +kernel
theorem dX12_mostAlike_23 : decode cX12_mostAlike 23 = .ok (.iload 5, 2) := by decide +kernel
theorem dX12_mostAlike_25 : decode cX12_mostAlike 25 = .ok (.aload_n 0, 1) := by decide +kernel
theorem dX12_mostAlike_26 : decode cX12_mostAlike 26 = .ok (.getfield 130, 3) := by decide +kernel
theorem dX12_mostAlike_29 : decode cX12_mostAlike 29 = .ok (.bipush 6, 2) := by decide +kernel
theorem dX12_mostAlike_31 : decode cX12_mostAlike 31 = .ok (.iload 6, 2) := by decide +kernel
theorem dX12_mostAlike_33 : decode cX12_mostAlike 33 = .ok (.imul, 1) := by decide +kernel
theorem dX12_mostAlike_34 : decode cX12_mostAlike 34 = .ok (.iload_n 1, 1) := by decide +kernel
theorem dX12_mostAlike_35 : decode cX12_mostAlike 35 = .ok (.iadd, 1) := by decide +kernel
theorem dX12_mostAlike_36 : decode cX12_mostAlike 36 = .ok (.iaload, 1) := by decide +kernel
theorem dX12_mostAlike_37 : decode cX12_mostAlike 37 = .ok (.aload_n 0, 1) := by decide +kernel
theorem dX12_mostAlike_38 : decode cX12_mostAlike 38 = .ok (.getfield 130, 3) := by decide +kernel
theorem dX12_mostAlike_41 : decode cX12_mostAlike 41 = .ok (.bipush 6, 2) := by decide +kernel
theorem dX12_mostAlike_43 : decode cX12_mostAlike 43 = .ok (.iload 4, 2) := by decide +kernel
theorem dX12_mostAlike_45 : decode cX12_mostAlike 45 = .ok (.imul, 1) := by decide +kernel
theorem dX12_mostAlike_46 : decode cX12_mostAlike 46 = .ok (.iload_n 1, 1) := by decide +kernel
theorem dX12_mostAlike_47 : decode cX12_mostAlike 47 = .ok (.iadd, 1) := by decide +kernel
theorem dX12_mostAlike_48 : decode cX12_mostAlike 48 = .ok (.iaload, 1) := by decide +kernel
theorem dX12_mostAlike_49 : decode cX12_mostAlike 49 = .ok (.if_icmp .ne 7, 3) := by decide +kernel
theorem dX12_mostAlike_52 : decode cX12_mostAlike 52 = .ok (.iconst 1, 1) := by decide +kernel
theorem dX12_mostAlike_53 : decode cX12_mostAlike 53 = .ok (.goto 4, 3) := by decide +kernel
theorem dX12_mostAlike_56 : decode cX12_mostAlike 56 = .ok (.iconst 0, 1) := by decide +kernel
theorem dX12_mostAlike_57 : decode cX12_mostAlike 57 = .ok (.iadd, 1) := by decide +kernel
theorem dX12_mostAlike_58 : decode cX12_mostAlike 58 = .ok (.istore 5, 2) := by decide +kernel
theorem dX12_mostAlike_60 : decode cX12_mostAlike 60 = .ok (.iinc 6 1, 3) := by decide +kernel
theorem dX12_mostAlike_63 : decode cX12_mostAlike 63 = .ok (.goto (-46), 3) := by decide +kernel
theorem dX12_mostAlike_66 : decode cX12_mostAlike 66 = .ok (.iload 5, 2) := by decide +kernel
theorem dX12_mostAlike_68 : decode cX12_mostAlike 68 = .ok (.iload_n 3, 1) := by decide +kernel
theorem dX12_mostAlike_69 : decode cX12_mostAlike 69 = .ok (.if_icmp .le 8, 3) := by decide +kernel
theorem dX12_mostAlike_72 : decode cX12_mostAlike 72 = .ok (.iload 5, 2) := by decide +kernel
theorem dX12_mostAlike_74 : decode cX12_mostAlike 74 = .ok (.goto 4, 3) := by decide +kernel
theorem dX12_mostAlike_77 : decode cX12_mostAlike 77 = .ok (.iload_n 3, 1) := by decide +kernel
theorem dX12_mostAlike_78 : decode cX12_mostAlike 78 = .ok (.istore_n 3, 1) := by decide +kernel
theorem dX12_mostAlike_79 : decode cX12_mostAlike 79 = .ok (.iinc 4 1, 3) := by decide +kernel
theorem dX12_mostAlike_82 : decode cX12_mostAlike 82 = .ok (.goto (-77), 3) := by decide +kernel
theorem dX12_mostAlike_85 : decode cX12_mostAlike 85 = .ok (.iload_n 3, 1) := by decide +kernel
theorem dX12_mostAlike_86 : decode cX12_mostAlike 86 = .ok (.ireturn, 1) := by decide +kernel
theorem dX12_look_0 : decode cX12_look 0 = .ok (.aload_n 0, 1) := by decide +kernel
theorem dX12_look_1 : decode cX12_look 1 = .ok (.invokevirtual 432, 3) := by decide +kernel
theorem dX12_look_4 : decode cX12_look 4 = .ok (.ifCond .eq 25, 3) := by decide +kernel
theorem dX12_look_7 : decode cX12_look 7 = .ok (.iload_n 1, 1) := by decide +kernel
theorem dX12_look_8 : decode cX12_look 8 = .ok (.i2l, 1) := by decide +kernel
theorem dX12_look_9 : decode cX12_look 9 = .ok (.lconst 0, 1) := by decide +kernel
theorem dX12_look_10 : decode cX12_look 10 = .ok (.ldc2_w 469, 3) := by decide +kernel
theorem dX12_look_13 : decode cX12_look 13 = .ok (.invokestatic 143, 3) := by decide +kernel
theorem dX12_look_16 : decode cX12_look 16 = .ok (.ifCond .eq 13, 3) := by decide +kernel
theorem dX12_look_19 : decode cX12_look 19 = .ok (.iload_n 2, 1) := by decide +kernel
theorem dX12_look_20 : decode cX12_look 20 = .ok (.i2l, 1) := by decide +kernel
theorem dX12_look_21 : decode cX12_look 21 = .ok (.lconst 0, 1) := by decide +kernel
theorem dX12_look_22 : decode cX12_look 22 = .ok (.lconst 1, 1) := by decide +kernel
theorem dX12_look_23 : decode cX12_look 23 = .ok (.invokestatic 143, 3) := by decide +kernel
theorem dX12_look_26 : decode cX12_look 26 = .ok (.ifCond .ne 5, 3) := by decide +kernel
theorem dX12_look_29 : decode cX12_look 29 = .ok (.iconst (-1), 1) := by decide +kernel
theorem dX12_look_30 : decode cX12_look 30 = .ok (.ireturn, 1) := by decide +kernel
theorem dX12_look_31 : decode cX12_look 31 = .ok (.aload_n 0, 1) := by decide +kernel
theorem dX12_look_32 : decode cX12_look 32 = .ok (.invokevirtual 456, 3) := by decide +kernel
theorem dX12_look_35 : decode cX12_look 35 = .ok (.iconst 0, 1) := by decide +kernel
theorem dX12_look_36 : decode cX12_look 36 = .ok (.istore_n 3, 1) := by decide +kernel
theorem dX12_look_37 : decode cX12_look 37 = .ok (.iconst (-1), 1) := by decide +kernel
theorem dX12_look_38 : decode cX12_look 38 = .ok (.istore 4, 2) := by decide +kernel
theorem dX12_look_40 : decode cX12_look 40 = .ok (.iload 4, 2) := by decide +kernel
theorem dX12_look_42 : decode cX12_look 42 = .ok (.aload_n 0, 1) := by decide +kernel
theorem dX12_look_43 : decode cX12_look 43 = .ok (.getfield 333, 3) := by decide +kernel
theorem dX12_look_46 : decode cX12_look 46 = .ok (.if_icmp .ge 61, 3) := by decide +kernel
theorem dX12_look_49 : decode cX12_look 49 = .ok (.aload_n 0, 1) := by decide +kernel
theorem dX12_look_50 : decode cX12_look 50 = .ok (.iload 4, 2) := by decide +kernel
theorem dX12_look_52 : decode cX12_look 52 = .ok (.invokevirtual 501, 3) := by decide +kernel
theorem dX12_look_55 : decode cX12_look 55 = .ok (.ifCond .eq 46, 3) := by decide +kernel
theorem dX12_look_58 : decode cX12_look 58 = .ok (.iconst 0, 1) := by decide +kernel
theorem dX12_look_59 : decode cX12_look 59 = .ok (.istore 5, 2) := by decide +kernel
theorem dX12_look_61 : decode cX12_look 61 = .ok (.iload 5, 2) := by decide +kernel
theorem dX12_look_63 : decode cX12_look 63 = .ok (.bipush 6, 2) := by decide +kernel
theorem dX12_look_65 : decode cX12_look 65 = .ok (.if_icmp .ge 33, 3) := by decide +kernel
theorem dX12_look_68 : decode cX12_look 68 = .ok (.aload_n 0, 1) := by decide +kernel
theorem dX12_look_69 : decode cX12_look 69 = .ok (.getfield 130, 3) := by decide +kernel
theorem dX12_look_72 : decode cX12_look 72 = .ok (.bipush 6, 2) := by decide +kernel
theorem dX12_look_74 : decode cX12_look 74 = .ok (.iload_n 3, 1) := by decide +kernel
theorem dX12_look_75 : decode cX12_look 75 = .ok (.imul, 1) := by decide +kernel
theorem dX12_look_76 : decode cX12_look 76 = .ok (.iload 5, 2) := by decide +kernel
theorem dX12_look_78 : decode cX12_look 78 = .ok (.iadd, 1) := by decide +kernel
theorem dX12_look_79 : decode cX12_look 79 = .ok (.aload_n 0, 1) := by decide +kernel
theorem dX12_look_80 : decode cX12_look 80 = .ok (.getfield 127, 3) := by decide +kernel
theorem dX12_look_83 : decode cX12_look 83 = .ok (.bipush 6, 2) := by decide +kernel
theorem dX12_look_85 : decode cX12_look 85 = .ok (.iload_n 1, 1) := by decide +kernel
theorem dX12_look_86 : decode cX12_look 86 = .ok (.imul, 1) := by decide +kernel
theorem dX12_look_87 : decode cX12_look 87 = .ok (.iload 5, 2) := by decide +kernel
theorem dX12_look_89 : decode cX12_look 89 = .ok (.iadd, 1) := by decide +kernel
theorem dX12_look_90 : decode cX12_look 90 = .ok (.iaload, 1) := by decide +kernel
theorem dX12_look_91 : decode cX12_look 91 = .ok (.iastore, 1) := by decide +kernel
theorem dX12_look_92 : decode cX12_look 92 = .ok (.iinc 5 1, 3) := by decide +kernel
theorem dX12_look_95 : decode cX12_look 95 = .ok (.goto (-34), 3) := by decide +kernel
theorem dX12_look_98 : decode cX12_look 98 = .ok (.iinc 3 1, 3) := by decide +kernel
theorem dX12_look_101 : decode cX12_look 101 = .ok (.iinc 4 1, 3) := by decide +kernel
theorem dX12_look_104 : decode cX12_look 104 = .ok (.goto (-64), 3) := by decide +kernel
theorem dX12_look_107 : decode cX12_look 107 = .ok (.iload_n 3, 1) := by decide +kernel
theorem dX12_look_108 : decode cX12_look 108 = .ok (.ifCond .eq 12, 3) := by decide +kernel
theorem dX12_look_111 : decode cX12_look 111 = .ok (.aload_n 0, 1) := by decide +kernel
theorem dX12_look_112 : decode cX12_look 112 = .ok (.getfield 9, 3) := by decide +kernel
theorem dX12_look_115 : decode cX12_look 115 = .ok (.iconst 4, 1) := by decide +kernel
theorem dX12_look_116 : decode cX12_look 116 = .ok (.iaload, 1) := by decide +kernel
theorem dX12_look_117 : decode cX12_look 117 = .ok (.ifCond .ne 6, 3) := by decide +kernel
theorem dX12_look_120 : decode cX12_look 120 = .ok (.bipush (-2), 2) := by decide +kernel
theorem dX12_look_122 : decode cX12_look 122 = .ok (.ireturn, 1) := by decide +kernel
theorem dX12_look_123 : decode cX12_look 123 = .ok (.iconst 0, 1) := by decide +kernel
theorem dX12_look_124 : decode cX12_look 124 = .ok (.istore 4, 2) := by decide +kernel
theorem dX12_look_126 : decode cX12_look 126 = .ok (.iconst 1, 1) := by decide +kernel
theorem dX12_look_127 : decode cX12_look 127 = .ok (.istore 5, 2) := by decide +kernel
theorem dX12_look_129 : decode cX12_look 129 = .ok (.iload 5, 2) := by decide +kernel
theorem dX12_look_131 : decode cX12_look 131 = .ok (.aload_n 0, 1) := by decide +kernel
theorem dX12_look_132 : decode cX12_look 132 = .ok (.getfield 9, 3) := by decide +kernel
theorem dX12_look_135 : decode cX12_look 135 = .ok (.iconst 4, 1) := by decide +kernel
theorem dX12_look_136 : decode cX12_look 136 = .ok (.iaload, 1) := by decide +kernel
theorem dX12_look_137 : decode cX12_look 137 = .ok (.if_icmp .ge 35, 3) := by decide +kernel
theorem dX12_look_140 : decode cX12_look 140 = .ok (.aload_n 0, 1) := by decide +kernel
theorem dX12_look_141 : decode cX12_look 141 = .ok (.iload 5, 2) := by decide +kernel
theorem dX12_look_143 : decode cX12_look 143 = .ok (.iload_n 3, 1) := by decide +kernel
theorem dX12_look_144 : decode cX12_look 144 = .ok (.invokevirtual 504, 3) := by decide +kernel
theorem dX12_look_147 : decode cX12_look 147 = .ok (.aload_n 0, 1) := by decide +kernel
theorem dX12_look_148 : decode cX12_look 148 = .ok (.iload 4, 2) := by decide +kernel
theorem dX12_look_150 : decode cX12_look 150 = .ok (.iload_n 3, 1) := by decide +kernel
theorem dX12_look_151 : decode cX12_look 151 = .ok (.invokevirtual 504, 3) := by decide +kernel
theorem dX12_look_154 : decode cX12_look 154 = .ok (.if_icmp .ge 8, 3) := by decide +kernel
theorem dX12_look_157 : decode cX12_look 157 = .ok (.iload 5, 2) := by decide +kernel
theorem dX12_look_159 : decode cX12_look 159 = .ok (.goto 5, 3) := by decide +kernel
theorem dX12_look_162 : decode cX12_look 162 = .ok (.iload 4, 2) := by decide +kernel
theorem dX12_look_164 : decode cX12_look 164 = .ok (.istore 4, 2) := by decide +kernel
theorem dX12_look_166 : decode cX12_look 166 = .ok (.iinc 5 1, 3) := by decide +kernel
theorem dX12_look_169 : decode cX12_look 169 = .ok (.goto (-40), 3) := by decide +kernel
theorem dX12_look_172 : decode cX12_look 172 = .ok (.iload_n 2, 1) := by decide +kernel
theorem dX12_look_173 : decode cX12_look 173 = .ok (.ifCond .ne 8, 3) := by decide +kernel
theorem dX12_look_176 : decode cX12_look 176 = .ok (.iload 4, 2) := by decide +kernel
theorem dX12_look_178 : decode cX12_look 178 = .ok (.goto 10, 3) := by decide +kernel
theorem dX12_look_181 : decode cX12_look 181 = .ok (.aload_n 0, 1) := by decide +kernel
theorem dX12_look_182 : decode cX12_look 182 = .ok (.iload 4, 2) := by decide +kernel
theorem dX12_look_184 : decode cX12_look 184 = .ok (.iload_n 3, 1) := by decide +kernel
theorem dX12_look_185 : decode cX12_look 185 = .ok (.invokevirtual 504, 3) := by decide +kernel
theorem dX12_look_188 : decode cX12_look 188 = .ok (.ireturn, 1) := by decide +kernel
theorem dX12_seed_0 : decode cX12_seed 0 = .ok (.iload_n 1, 1) := by decide +kernel
theorem dX12_seed_1 : decode cX12_seed 1 = .ok (.ifCond .ge 5, 3) := by decide +kernel
theorem dX12_seed_4 : decode cX12_seed 4 = .ok (.iconst (-1), 1) := by decide +kernel
theorem dX12_seed_5 : decode cX12_seed 5 = .ok (.ireturn, 1) := by decide +kernel
theorem dX12_seed_6 : decode cX12_seed 6 = .ok (.aload_n 0, 1) := by decide +kernel
theorem dX12_seed_7 : decode cX12_seed 7 = .ok (.getfield 9, 3) := by decide +kernel
theorem dX12_seed_10 : decode cX12_seed 10 = .ok (.bipush 9, 2) := by decide +kernel
theorem dX12_seed_12 : decode cX12_seed 12 = .ok (.iaload, 1) := by decide +kernel
theorem dX12_seed_13 : decode cX12_seed 13 = .ok (.istore_n 2, 1) := by decide +kernel
theorem dX12_seed_14 : decode cX12_seed 14 = .ok (.aload_n 0, 1) := by decide +kernel
theorem dX12_seed_15 : decode cX12_seed 15 = .ok (.getfield 9, 3) := by decide +kernel
theorem dX12_seed_18 : decode cX12_seed 18 = .ok (.bipush 9, 2) := by decide +kernel
theorem dX12_seed_20 : decode cX12_seed 20 = .ok (.iload_n 1, 1) := by decide +kernel
theorem dX12_seed_21 : decode cX12_seed 21 = .ok (.iastore, 1) := by decide +kernel
theorem dX12_seed_22 : decode cX12_seed 22 = .ok (.iload_n 2, 1) := by decide +kernel
theorem dX12_seed_23 : decode cX12_seed 23 = .ok (.ireturn, 1) := by decide +kernel
theorem dX12_draws_0 : decode cX12_draws 0 = .ok (.aload_n 0, 1) := by decide +kernel
theorem dX12_draws_1 : decode cX12_draws 1 = .ok (.getfield 9, 3) := by decide +kernel
theorem dX12_draws_4 : decode cX12_draws 4 = .ok (.bipush 9, 2) := by decide +kernel
theorem dX12_draws_6 : decode cX12_draws 6 = .ok (.aload_n 0, 1) := by decide +kernel
theorem dX12_draws_7 : decode cX12_draws 7 = .ok (.getfield 9, 3) := by decide +kernel
theorem dX12_draws_10 : decode cX12_draws 10 = .ok (.bipush 9, 2) := by decide +kernel
theorem dX12_draws_12 : decode cX12_draws 12 = .ok (.iaload, 1) := by decide +kernel
theorem dX12_draws_13 : decode cX12_draws 13 = .ok (.i2l, 1) := by decide +kernel
theorem dX12_draws_14 : decode cX12_draws 14 = .ok (.ldc2_w 507, 3) := by decide +kernel
theorem dX12_draws_17 : decode cX12_draws 17 = .ok (.lmul, 1) := by decide +kernel
theorem dX12_draws_18 : decode cX12_draws 18 = .ok (.ldc2_w 509, 3) := by decide +kernel
theorem dX12_draws_21 : decode cX12_draws 21 = .ok (.ladd, 1) := by decide +kernel
theorem dX12_draws_22 : decode cX12_draws 22 = .ok (.ldc2_w 511, 3) := by decide +kernel
theorem dX12_draws_25 : decode cX12_draws 25 = .ok (.lrem, 1) := by decide +kernel
theorem dX12_draws_26 : decode cX12_draws 26 = .ok (.l2i, 1) := by decide +kernel
theorem dX12_draws_27 : decode cX12_draws 27 = .ok (.iastore, 1) := by decide +kernel
theorem dX12_draws_28 : decode cX12_draws 28 = .ok (.aload_n 0, 1) := by decide +kernel
theorem dX12_draws_29 : decode cX12_draws 29 = .ok (.getfield 9, 3) := by decide +kernel
theorem dX12_draws_32 : decode cX12_draws 32 = .ok (.bipush 9, 2) := by decide +kernel
theorem dX12_draws_34 : decode cX12_draws 34 = .ok (.iaload, 1) := by decide +kernel
theorem dX12_draws_35 : decode cX12_draws 35 = .ok (.ldc_w 513, 3) := by decide +kernel
theorem dX12_draws_38 : decode cX12_draws 38 = .ok (.idiv, 1) := by decide +kernel
theorem dX12_draws_39 : decode cX12_draws 39 = .ok (.iload_n 1, 1) := by decide +kernel
theorem dX12_draws_40 : decode cX12_draws 40 = .ok (.irem, 1) := by decide +kernel
theorem dX12_draws_41 : decode cX12_draws 41 = .ok (.ireturn, 1) := by decide +kernel
theorem dX12_summers_0 : decode cX12_summers 0 = .ok (.aload_n 0, 1) := by decide +kernel
theorem dX12_summers_1 : decode cX12_summers 1 = .ok (.invokevirtual 432, 3) := by decide +kernel
theorem dX12_summers_4 : decode cX12_summers 4 = .ok (.ifCond .eq 50, 3) := by decide +kernel
theorem dX12_summers_7 : decode cX12_summers 7 = .ok (.iload_n 1, 1) := by decide +kernel
theorem dX12_summers_8 : decode cX12_summers 8 = .ok (.i2l, 1) := by decide +kernel
theorem dX12_summers_9 : decode cX12_summers 9 = .ok (.lconst 1, 1) := by decide +kernel
theorem dX12_summers_10 : decode cX12_summers 10 = .ok (.ldc2_w 514, 3) := by decide +kernel
theorem dX12_summers_13 : decode cX12_summers 13 = .ok (.invokestatic 143, 3) := by decide +kernel
theorem dX12_summers_16 : decode cX12_summers 16 = .ok (.ifCond .eq 38, 3) := by decide +kernel
theorem dX12_summers_19 : decode cX12_summers 19 = .ok (.iload_n 2, 1) := by decide +kernel
theorem dX12_summers_20 : decode cX12_summers 20 = .ok (.i2l, 1) := by decide +kernel
theorem dX12_summers_21 : decode cX12_summers 21 = .ok (.lconst 1, 1) := by decide +kernel
theorem dX12_summers_22 : decode cX12_summers 22 = .ok (.ldc2_w 469, 3) := by decide +kernel
theorem dX12_summers_25 : decode cX12_summers 25 = .ok (.invokestatic 143, 3) := by decide +kernel
theorem dX12_summers_28 : decode cX12_summers 28 = .ok (.ifCond .eq 26, 3) := by decide +kernel
theorem dX12_summers_31 : decode cX12_summers 31 = .ok (.iload_n 3, 1) := by decide +kernel
theorem dX12_summers_32 : decode cX12_summers 32 = .ok (.i2l, 1) := by decide +kernel
theorem dX12_summers_33 : decode cX12_summers 33 = .ok (.lconst 0, 1) := by decide +kernel
theorem dX12_summers_34 : decode cX12_summers 34 = .ok (.ldc2_w 454, 3) := by decide +kernel
theorem dX12_summers_37 : decode cX12_summers 37 = .ok (.invokestatic 143, 3) := by decide +kernel
theorem dX12_summers_40 : decode cX12_summers 40 = .ok (.ifCond .eq 14, 3) := by decide +kernel
theorem dX12_summers_43 : decode cX12_summers 43 = .ok (.iload 4, 2) := by decide +kernel
theorem dX12_summers_45 : decode cX12_summers 45 = .ok (.i2l, 1) := by decide +kernel
theorem dX12_summers_46 : decode cX12_summers 46 = .ok (.lconst 0, 1) := by decide +kernel
theorem dX12_summers_47 : decode cX12_summers 47 = .ok (.lconst 1, 1) := by decide +kernel
theorem dX12_summers_48 : decode cX12_summers 48 = .ok (.invokestatic 143, 3) := by decide +kernel
theorem dX12_summers_51 : decode cX12_summers 51 = .ok (.ifCond .ne 5, 3) := by decide +kernel
theorem dX12_summers_54 : decode cX12_summers 54 = .ok (.iconst (-1), 1) := by decide +kernel
theorem dX12_summers_55 : decode cX12_summers 55 = .ok (.ireturn, 1) := by decide +kernel
theorem dX12_summers_56 : decode cX12_summers 56 = .ok (.aload_n 0, 1) := by decide +kernel
theorem dX12_summers_57 : decode cX12_summers 57 = .ok (.getfield 9, 3) := by decide +kernel
theorem dX12_summers_60 : decode cX12_summers 60 = .ok (.bipush 9, 2) := by decide +kernel
theorem dX12_summers_62 : decode cX12_summers 62 = .ok (.iaload, 1) := by decide +kernel
theorem dX12_summers_63 : decode cX12_summers 63 = .ok (.istore 5, 2) := by decide +kernel
theorem dX12_summers_65 : decode cX12_summers 65 = .ok (.iload 5, 2) := by decide +kernel
theorem dX12_summers_67 : decode cX12_summers 67 = .ok (.istore 6, 2) := by decide +kernel
theorem dX12_summers_69 : decode cX12_summers 69 = .ok (.iconst 0, 1) := by decide +kernel
theorem dX12_summers_70 : decode cX12_summers 70 = .ok (.istore 7, 2) := by decide +kernel
theorem dX12_summers_72 : decode cX12_summers 72 = .ok (.iconst 0, 1) := by decide +kernel
theorem dX12_summers_73 : decode cX12_summers 73 = .ok (.istore 8, 2) := by decide +kernel
theorem dX12_summers_75 : decode cX12_summers 75 = .ok (.aload_n 0, 1) := by decide +kernel
theorem dX12_summers_76 : decode cX12_summers 76 = .ok (.invokevirtual 456, 3) := by decide +kernel
theorem dX12_summers_79 : decode cX12_summers 79 = .ok (.iconst 0, 1) := by decide +kernel
theorem dX12_summers_80 : decode cX12_summers 80 = .ok (.istore 9, 2) := by decide +kernel
theorem dX12_summers_82 : decode cX12_summers 82 = .ok (.iload 9, 2) := by decide +kernel
theorem dX12_summers_84 : decode cX12_summers 84 = .ok (.iload_n 1, 1) := by decide +kernel
theorem dX12_summers_85 : decode cX12_summers 85 = .ok (.if_icmp .ge 101, 3) := by decide +kernel
theorem dX12_summers_88 : decode cX12_summers 88 = .ok (.aload_n 0, 1) := by decide +kernel
theorem dX12_summers_89 : decode cX12_summers 89 = .ok (.getfield 9, 3) := by decide +kernel
theorem dX12_summers_92 : decode cX12_summers 92 = .ok (.bipush 9, 2) := by decide +kernel
theorem dX12_summers_94 : decode cX12_summers 94 = .ok (.iload 6, 2) := by decide +kernel
theorem dX12_summers_96 : decode cX12_summers 96 = .ok (.iastore, 1) := by decide +kernel
theorem dX12_summers_97 : decode cX12_summers 97 = .ok (.iconst 0, 1) := by decide +kernel
theorem dX12_summers_98 : decode cX12_summers 98 = .ok (.istore 10, 2) := by decide +kernel
theorem dX12_summers_100 : decode cX12_summers 100 = .ok (.iload 10, 2) := by decide +kernel
theorem dX12_summers_102 : decode cX12_summers 102 = .ok (.iload_n 2, 1) := by decide +kernel
theorem dX12_summers_103 : decode cX12_summers 103 = .ok (.if_icmp .ge 38, 3) := by decide +kernel
theorem dX12_summers_106 : decode cX12_summers 106 = .ok (.aload_n 0, 1) := by decide +kernel
theorem dX12_summers_107 : decode cX12_summers 107 = .ok (.aload_n 0, 1) := by decide +kernel
theorem dX12_summers_108 : decode cX12_summers 108 = .ok (.bipush 100, 2) := by decide +kernel
theorem dX12_summers_110 : decode cX12_summers 110 = .ok (.invokevirtual 516, 3) := by decide +kernel
theorem dX12_summers_113 : decode cX12_summers 113 = .ok (.iload_n 3, 1) := by decide +kernel
theorem dX12_summers_114 : decode cX12_summers 114 = .ok (.if_icmp .ge 12, 3) := by decide +kernel
theorem dX12_summers_117 : decode cX12_summers 117 = .ok (.aload_n 0, 1) := by decide +kernel
theorem dX12_summers_118 : decode cX12_summers 118 = .ok (.bipush 10, 2) := by decide +kernel
theorem dX12_summers_120 : decode cX12_summers 120 = .ok (.invokevirtual 516, 3) := by decide +kernel
theorem dX12_summers_123 : decode cX12_summers 123 = .ok (.goto 4, 3) := by decide +kernel
theorem dX12_summers_126 : decode cX12_summers 126 = .ok (.iconst (-1), 1) := by decide +kernel
theorem dX12_summers_127 : decode cX12_summers 127 = .ok (.putfield 94, 3) := by decide +kernel
theorem dX12_summers_130 : decode cX12_summers 130 = .ok (.aload_n 0, 1) := by decide +kernel
theorem dX12_summers_131 : decode cX12_summers 131 = .ok (.invokevirtual 412, 3) := by decide +kernel
theorem dX12_summers_134 : decode cX12_summers 134 = .ok (.pop, 1) := by decide +kernel
theorem dX12_summers_135 : decode cX12_summers 135 = .ok (.iinc 10 1, 3) := by decide +kernel
theorem dX12_summers_138 : decode cX12_summers 138 = .ok (.goto (-38), 3) := by decide +kernel
theorem dX12_summers_141 : decode cX12_summers 141 = .ok (.aload_n 0, 1) := by decide +kernel
theorem dX12_summers_142 : decode cX12_summers 142 = .ok (.iconst (-1), 1) := by decide +kernel
theorem dX12_summers_143 : decode cX12_summers 143 = .ok (.putfield 94, 3) := by decide +kernel
theorem dX12_summers_146 : decode cX12_summers 146 = .ok (.iload 7, 2) := by decide +kernel
theorem dX12_summers_148 : decode cX12_summers 148 = .ok (.aload_n 0, 1) := by decide +kernel
theorem dX12_summers_149 : decode cX12_summers 149 = .ok (.invokevirtual 459, 3) := by decide +kernel
theorem dX12_summers_152 : decode cX12_summers 152 = .ok (.invokestatic 393, 3) := by decide +kernel
theorem dX12_summers_155 : decode cX12_summers 155 = .ok (.iadd, 1) := by decide +kernel
theorem dX12_summers_156 : decode cX12_summers 156 = .ok (.istore 7, 2) := by decide +kernel
theorem dX12_summers_158 : decode cX12_summers 158 = .ok (.iload 8, 2) := by decide +kernel
theorem dX12_summers_160 : decode cX12_summers 160 = .ok (.aload_n 0, 1) := by decide +kernel
theorem dX12_summers_161 : decode cX12_summers 161 = .ok (.invokevirtual 476, 3) := by decide +kernel
theorem dX12_summers_164 : decode cX12_summers 164 = .ok (.iadd, 1) := by decide +kernel
theorem dX12_summers_165 : decode cX12_summers 165 = .ok (.istore 8, 2) := by decide +kernel
theorem dX12_summers_167 : decode cX12_summers 167 = .ok (.aload_n 0, 1) := by decide +kernel
theorem dX12_summers_168 : decode cX12_summers 168 = .ok (.getfield 9, 3) := by decide +kernel
theorem dX12_summers_171 : decode cX12_summers 171 = .ok (.bipush 9, 2) := by decide +kernel
theorem dX12_summers_173 : decode cX12_summers 173 = .ok (.iaload, 1) := by decide +kernel
theorem dX12_summers_174 : decode cX12_summers 174 = .ok (.istore 6, 2) := by decide +kernel
theorem dX12_summers_176 : decode cX12_summers 176 = .ok (.aload_n 0, 1) := by decide +kernel
theorem dX12_summers_177 : decode cX12_summers 177 = .ok (.invokevirtual 449, 3) := by decide +kernel
theorem dX12_summers_180 : decode cX12_summers 180 = .ok (.iinc 9 1, 3) := by decide +kernel
theorem dX12_summers_183 : decode cX12_summers 183 = .ok (.goto (-101), 3) := by decide +kernel
theorem dX12_summers_186 : decode cX12_summers 186 = .ok (.aload_n 0, 1) := by decide +kernel
theorem dX12_summers_187 : decode cX12_summers 187 = .ok (.getfield 9, 3) := by decide +kernel
theorem dX12_summers_190 : decode cX12_summers 190 = .ok (.bipush 9, 2) := by decide +kernel
theorem dX12_summers_192 : decode cX12_summers 192 = .ok (.iload 5, 2) := by decide +kernel
theorem dX12_summers_194 : decode cX12_summers 194 = .ok (.iastore, 1) := by decide +kernel
theorem dX12_summers_195 : decode cX12_summers 195 = .ok (.iload 4, 2) := by decide +kernel
theorem dX12_summers_197 : decode cX12_summers 197 = .ok (.ifCond .ne 8, 3) := by decide +kernel
theorem dX12_summers_200 : decode cX12_summers 200 = .ok (.iload 7, 2) := by decide +kernel
theorem dX12_summers_202 : decode cX12_summers 202 = .ok (.goto 5, 3) := by decide +kernel
theorem dX12_summers_205 : decode cX12_summers 205 = .ok (.iload 8, 2) := by decide +kernel
theorem dX12_summers_207 : decode cX12_summers 207 = .ok (.ireturn, 1) := by decide +kernel
theorem dX12_count_0 : decode cX12_count 0 = .ok (.iload_n 1, 1) := by decide +kernel
theorem dX12_count_1 : decode cX12_count 1 = .ok (.tableswitch 184 0 15 #[79, 86, 93, 100, 107, 112, 120, 127, 132, 140, 148, 153, 158, 166, 171, 179], 79) := by decide +kernel
theorem dX12_count_80 : decode cX12_count 80 = .ok (.aload_n 0, 1) := by decide +kernel
theorem dX12_count_81 : decode cX12_count 81 = .ok (.getfield 9, 3) := by decide +kernel
theorem dX12_count_84 : decode cX12_count 84 = .ok (.iconst 0, 1) := by decide +kernel
theorem dX12_count_85 : decode cX12_count 85 = .ok (.iaload, 1) := by decide +kernel
theorem dX12_count_86 : decode cX12_count 86 = .ok (.ireturn, 1) := by decide +kernel
theorem dX12_count_87 : decode cX12_count 87 = .ok (.aload_n 0, 1) := by decide +kernel
theorem dX12_count_88 : decode cX12_count 88 = .ok (.getfield 9, 3) := by decide +kernel
theorem dX12_count_91 : decode cX12_count 91 = .ok (.iconst 2, 1) := by decide +kernel
theorem dX12_count_92 : decode cX12_count 92 = .ok (.iaload, 1) := by decide +kernel
theorem dX12_count_93 : decode cX12_count 93 = .ok (.ireturn, 1) := by decide +kernel
theorem dX12_count_94 : decode cX12_count 94 = .ok (.aload_n 0, 1) := by decide +kernel
theorem dX12_count_95 : decode cX12_count 95 = .ok (.getfield 9, 3) := by decide +kernel
theorem dX12_count_98 : decode cX12_count 98 = .ok (.iconst 3, 1) := by decide +kernel
theorem dX12_count_99 : decode cX12_count 99 = .ok (.iaload, 1) := by decide +kernel
theorem dX12_count_100 : decode cX12_count 100 = .ok (.ireturn, 1) := by decide +kernel
theorem dX12_count_101 : decode cX12_count 101 = .ok (.aload_n 0, 1) := by decide +kernel
theorem dX12_count_102 : decode cX12_count 102 = .ok (.getfield 9, 3) := by decide +kernel
theorem dX12_count_105 : decode cX12_count 105 = .ok (.iconst 4, 1) := by decide +kernel
theorem dX12_count_106 : decode cX12_count 106 = .ok (.iaload, 1) := by decide +kernel
theorem dX12_count_107 : decode cX12_count 107 = .ok (.ireturn, 1) := by decide +kernel
theorem dX12_count_108 : decode cX12_count 108 = .ok (.aload_n 0, 1) := by decide +kernel
theorem dX12_count_109 : decode cX12_count 109 = .ok (.getfield 333, 3) := by decide +kernel
theorem dX12_count_112 : decode cX12_count 112 = .ok (.ireturn, 1) := by decide +kernel
theorem dX12_count_113 : decode cX12_count 113 = .ok (.aload_n 0, 1) := by decide +kernel
theorem dX12_count_114 : decode cX12_count 114 = .ok (.getfield 9, 3) := by decide +kernel
theorem dX12_count_117 : decode cX12_count 117 = .ok (.bipush 10, 2) := by decide +kernel
theorem dX12_count_119 : decode cX12_count 119 = .ok (.iaload, 1) := by decide +kernel
theorem dX12_count_120 : decode cX12_count 120 = .ok (.ireturn, 1) := by decide +kernel
theorem dX12_count_121 : decode cX12_count 121 = .ok (.aload_n 0, 1) := by decide +kernel
theorem dX12_count_122 : decode cX12_count 122 = .ok (.getfield 9, 3) := by decide +kernel
theorem dX12_count_125 : decode cX12_count 125 = .ok (.iconst 5, 1) := by decide +kernel
theorem dX12_count_126 : decode cX12_count 126 = .ok (.iaload, 1) := by decide +kernel
theorem dX12_count_127 : decode cX12_count 127 = .ok (.ireturn, 1) := by decide +kernel
theorem dX12_count_128 : decode cX12_count 128 = .ok (.aload_n 0, 1) := by decide +kernel
theorem dX12_count_129 : decode cX12_count 129 = .ok (.invokevirtual 362, 3) := by decide +kernel
theorem dX12_count_132 : decode cX12_count 132 = .ok (.ireturn, 1) := by decide +kernel
theorem dX12_count_133 : decode cX12_count 133 = .ok (.aload_n 0, 1) := by decide +kernel
theorem dX12_count_134 : decode cX12_count 134 = .ok (.getfield 9, 3) := by decide +kernel
theorem dX12_count_137 : decode cX12_count 137 = .ok (.bipush 6, 2) := by decide +kernel
theorem dX12_count_139 : decode cX12_count 139 = .ok (.iaload, 1) := by decide +kernel
theorem dX12_count_140 : decode cX12_count 140 = .ok (.ireturn, 1) := by decide +kernel
theorem dX12_count_141 : decode cX12_count 141 = .ok (.aload_n 0, 1) := by decide +kernel
theorem dX12_count_142 : decode cX12_count 142 = .ok (.getfield 9, 3) := by decide +kernel
theorem dX12_count_145 : decode cX12_count 145 = .ok (.bipush 7, 2) := by decide +kernel
theorem dX12_count_147 : decode cX12_count 147 = .ok (.iaload, 1) := by decide +kernel
theorem dX12_count_148 : decode cX12_count 148 = .ok (.ireturn, 1) := by decide +kernel
theorem dX12_count_149 : decode cX12_count 149 = .ok (.aload_n 0, 1) := by decide +kernel
theorem dX12_count_150 : decode cX12_count 150 = .ok (.invokevirtual 459, 3) := by decide +kernel
theorem dX12_count_153 : decode cX12_count 153 = .ok (.ireturn, 1) := by decide +kernel
theorem dX12_count_154 : decode cX12_count 154 = .ok (.aload_n 0, 1) := by decide +kernel
theorem dX12_count_155 : decode cX12_count 155 = .ok (.invokevirtual 476, 3) := by decide +kernel
theorem dX12_count_158 : decode cX12_count 158 = .ok (.ireturn, 1) := by decide +kernel
theorem dX12_count_159 : decode cX12_count 159 = .ok (.aload_n 0, 1) := by decide +kernel
theorem dX12_count_160 : decode cX12_count 160 = .ok (.getfield 9, 3) := by decide +kernel
theorem dX12_count_163 : decode cX12_count 163 = .ok (.bipush 8, 2) := by decide +kernel
theorem dX12_count_165 : decode cX12_count 165 = .ok (.iaload, 1) := by decide +kernel
theorem dX12_count_166 : decode cX12_count 166 = .ok (.ireturn, 1) := by decide +kernel
theorem dX12_count_167 : decode cX12_count 167 = .ok (.aload_n 0, 1) := by decide +kernel
theorem dX12_count_168 : decode cX12_count 168 = .ok (.getfield 320, 3) := by decide +kernel
theorem dX12_count_171 : decode cX12_count 171 = .ok (.ireturn, 1) := by decide +kernel
theorem dX12_count_172 : decode cX12_count 172 = .ok (.aload_n 0, 1) := by decide +kernel
theorem dX12_count_173 : decode cX12_count 173 = .ok (.getfield 9, 3) := by decide +kernel
theorem dX12_count_176 : decode cX12_count 176 = .ok (.bipush 9, 2) := by decide +kernel
theorem dX12_count_178 : decode cX12_count 178 = .ok (.iaload, 1) := by decide +kernel
theorem dX12_count_179 : decode cX12_count 179 = .ok (.ireturn, 1) := by decide +kernel
theorem dX12_count_180 : decode cX12_count 180 = .ok (.aload_n 0, 1) := by decide +kernel
theorem dX12_count_181 : decode cX12_count 181 = .ok (.getfield 151, 3) := by decide +kernel
theorem dX12_count_184 : decode cX12_count 184 = .ok (.ireturn, 1) := by decide +kernel
theorem dX12_count_185 : decode cX12_count 185 = .ok (.iconst (-1), 1) := by decide +kernel
theorem dX12_count_186 : decode cX12_count 186 = .ok (.ireturn, 1) := by decide +kernel
theorem dX12_carryRow_0 : decode cX12_carryRow 0 = .ok (.iconst 0, 1) := by decide +kernel
theorem dX12_carryRow_1 : decode cX12_carryRow 1 = .ok (.istore_n 2, 1) := by decide +kernel
theorem dX12_carryRow_2 : decode cX12_carryRow 2 = .ok (.iload_n 2, 1) := by decide +kernel
theorem dX12_carryRow_3 : decode cX12_carryRow 3 = .ok (.aload_n 1, 1) := by decide +kernel
theorem dX12_carryRow_4 : decode cX12_carryRow 4 = .ok (.arraylength, 1) := by decide +kernel
theorem dX12_carryRow_5 : decode cX12_carryRow 5 = .ok (.if_icmp .ge 53, 3) := by decide +kernel
theorem dX12_carryRow_8 : decode cX12_carryRow 8 = .ok (.aload_n 0, 1) := by decide +kernel
theorem dX12_carryRow_9 : decode cX12_carryRow 9 = .ok (.getfield 519, 3) := by decide +kernel
theorem dX12_carryRow_12 : decode cX12_carryRow 12 = .ok (.ifCond .eq 18, 3) := by decide +kernel
theorem dX12_carryRow_15 : decode cX12_carryRow 15 = .ok (.aload_n 1, 1) := by decide +kernel
theorem dX12_carryRow_16 : decode cX12_carryRow 16 = .ok (.iload_n 2, 1) := by decide +kernel
theorem dX12_carryRow_17 : decode cX12_carryRow 17 = .ok (.aload_n 0, 1) := by decide +kernel
theorem dX12_carryRow_18 : decode cX12_carryRow 18 = .ok (.getfield 133, 3) := by decide +kernel
theorem dX12_carryRow_21 : decode cX12_carryRow 21 = .ok (.aload_n 0, 1) := by decide +kernel
theorem dX12_carryRow_22 : decode cX12_carryRow 22 = .ok (.getfield 522, 3) := by decide +kernel
theorem dX12_carryRow_25 : decode cX12_carryRow 25 = .ok (.iaload, 1) := by decide +kernel
theorem dX12_carryRow_26 : decode cX12_carryRow 26 = .ok (.iastore, 1) := by decide +kernel
theorem dX12_carryRow_27 : decode cX12_carryRow 27 = .ok (.goto 15, 3) := by decide +kernel
theorem dX12_carryRow_30 : decode cX12_carryRow 30 = .ok (.aload_n 0, 1) := by decide +kernel
theorem dX12_carryRow_31 : decode cX12_carryRow 31 = .ok (.getfield 133, 3) := by decide +kernel
theorem dX12_carryRow_34 : decode cX12_carryRow 34 = .ok (.aload_n 0, 1) := by decide +kernel
theorem dX12_carryRow_35 : decode cX12_carryRow 35 = .ok (.getfield 522, 3) := by decide +kernel
theorem dX12_carryRow_38 : decode cX12_carryRow 38 = .ok (.aload_n 1, 1) := by decide +kernel
theorem dX12_carryRow_39 : decode cX12_carryRow 39 = .ok (.iload_n 2, 1) := by decide +kernel
theorem dX12_carryRow_40 : decode cX12_carryRow 40 = .ok (.iaload, 1) := by decide +kernel
theorem dX12_carryRow_41 : decode cX12_carryRow 41 = .ok (.iastore, 1) := by decide +kernel
theorem dX12_carryRow_42 : decode cX12_carryRow 42 = .ok (.aload_n 0, 1) := by decide +kernel
theorem dX12_carryRow_43 : decode cX12_carryRow 43 = .ok (.dup, 1) := by decide +kernel
theorem dX12_carryRow_44 : decode cX12_carryRow 44 = .ok (.getfield 522, 3) := by decide +kernel
theorem dX12_carryRow_47 : decode cX12_carryRow 47 = .ok (.iconst 1, 1) := by decide +kernel
theorem dX12_carryRow_48 : decode cX12_carryRow 48 = .ok (.iadd, 1) := by decide +kernel
theorem dX12_carryRow_49 : decode cX12_carryRow 49 = .ok (.putfield 522, 3) := by decide +kernel
theorem dX12_carryRow_52 : decode cX12_carryRow 52 = .ok (.iinc 2 1, 3) := by decide +kernel
theorem dX12_carryRow_55 : decode cX12_carryRow 55 = .ok (.goto (-53), 3) := by decide +kernel
theorem dX12_carryRow_58 : decode cX12_carryRow 58 = .ok (.return_, 1) := by decide +kernel
theorem dX12_carriesAll_0 : decode cX12_carriesAll 0 = .ok (.aload_n 0, 1) := by decide +kernel
theorem dX12_carriesAll_1 : decode cX12_carriesAll 1 = .ok (.sipush 1300, 3) := by decide +kernel
theorem dX12_carriesAll_4 : decode cX12_carriesAll 4 = .ok (.iload_n 1, 1) := by decide +kernel
theorem dX12_carriesAll_5 : decode cX12_carriesAll 5 = .ok (.imul, 1) := by decide +kernel
theorem dX12_carriesAll_6 : decode cX12_carriesAll 6 = .ok (.putfield 522, 3) := by decide +kernel
theorem dX12_carriesAll_9 : decode cX12_carriesAll 9 = .ok (.aload_n 0, 1) := by decide +kernel
theorem dX12_carriesAll_10 : decode cX12_carriesAll 10 = .ok (.iload_n 2, 1) := by decide +kernel
theorem dX12_carriesAll_11 : decode cX12_carriesAll 11 = .ok (.putfield 519, 3) := by decide +kernel
theorem dX12_carriesAll_14 : decode cX12_carriesAll 14 = .ok (.aload_n 0, 1) := by decide +kernel
theorem dX12_carriesAll_15 : decode cX12_carriesAll 15 = .ok (.aload_n 0, 1) := by decide +kernel
theorem dX12_carriesAll_16 : decode cX12_carriesAll 16 = .ok (.getfield 9, 3) := by decide +kernel
theorem dX12_carriesAll_19 : decode cX12_carriesAll 19 = .ok (.invokevirtual 525, 3) := by decide +kernel
theorem dX12_carriesAll_22 : decode cX12_carriesAll 22 = .ok (.aload_n 0, 1) := by decide +kernel
theorem dX12_carriesAll_23 : decode cX12_carriesAll 23 = .ok (.aload_n 0, 1) := by decide +kernel
theorem dX12_carriesAll_24 : decode cX12_carriesAll 24 = .ok (.getfield 13, 3) := by decide +kernel
theorem dX12_carriesAll_27 : decode cX12_carriesAll 27 = .ok (.invokevirtual 525, 3) := by decide +kernel
theorem dX12_carriesAll_30 : decode cX12_carriesAll 30 = .ok (.aload_n 0, 1) := by decide +kernel
theorem dX12_carriesAll_31 : decode cX12_carriesAll 31 = .ok (.aload_n 0, 1) := by decide +kernel
theorem dX12_carriesAll_32 : decode cX12_carriesAll 32 = .ok (.getfield 16, 3) := by decide +kernel
theorem dX12_carriesAll_35 : decode cX12_carriesAll 35 = .ok (.invokevirtual 525, 3) := by decide +kernel
theorem dX12_carriesAll_38 : decode cX12_carriesAll 38 = .ok (.aload_n 0, 1) := by decide +kernel
theorem dX12_carriesAll_39 : decode cX12_carriesAll 39 = .ok (.aload_n 0, 1) := by decide +kernel
theorem dX12_carriesAll_40 : decode cX12_carriesAll 40 = .ok (.getfield 19, 3) := by decide +kernel
theorem dX12_carriesAll_43 : decode cX12_carriesAll 43 = .ok (.invokevirtual 525, 3) := by decide +kernel
theorem dX12_carriesAll_46 : decode cX12_carriesAll 46 = .ok (.iload_n 1, 1) := by decide +kernel
theorem dX12_carriesAll_47 : decode cX12_carriesAll 47 = .ok (.iconst 4, 1) := by decide +kernel
theorem dX12_carriesAll_48 : decode cX12_carriesAll 48 = .ok (.if_icmp .ne 4, 3) := by decide +kernel
theorem dX12_carriesAll_51 : decode cX12_carriesAll 51 = .ok (.return_, 1) := by decide +kernel
theorem dX12_carriesAll_52 : decode cX12_carriesAll 52 = .ok (.aload_n 0, 1) := by decide +kernel
theorem dX12_carriesAll_53 : decode cX12_carriesAll 53 = .ok (.getfield 106, 3) := by decide +kernel
theorem dX12_carriesAll_56 : decode cX12_carriesAll 56 = .ok (.iconst 0, 1) := by decide +kernel
theorem dX12_carriesAll_57 : decode cX12_carriesAll 57 = .ok (.aload_n 0, 1) := by decide +kernel
theorem dX12_carriesAll_58 : decode cX12_carriesAll 58 = .ok (.getfield 320, 3) := by decide +kernel
theorem dX12_carriesAll_61 : decode cX12_carriesAll 61 = .ok (.iastore, 1) := by decide +kernel
theorem dX12_carriesAll_62 : decode cX12_carriesAll 62 = .ok (.aload_n 0, 1) := by decide +kernel
theorem dX12_carriesAll_63 : decode cX12_carriesAll 63 = .ok (.aload_n 0, 1) := by decide +kernel
theorem dX12_carriesAll_64 : decode cX12_carriesAll 64 = .ok (.getfield 106, 3) := by decide +kernel
theorem dX12_carriesAll_67 : decode cX12_carriesAll 67 = .ok (.invokevirtual 525, 3) := by decide +kernel
theorem dX12_carriesAll_70 : decode cX12_carriesAll 70 = .ok (.aload_n 0, 1) := by decide +kernel
theorem dX12_carriesAll_71 : decode cX12_carriesAll 71 = .ok (.aload_n 0, 1) := by decide +kernel
theorem dX12_carriesAll_72 : decode cX12_carriesAll 72 = .ok (.getfield 106, 3) := by decide +kernel
theorem dX12_carriesAll_75 : decode cX12_carriesAll 75 = .ok (.iconst 0, 1) := by decide +kernel
theorem dX12_carriesAll_76 : decode cX12_carriesAll 76 = .ok (.iaload, 1) := by decide +kernel
theorem dX12_carriesAll_77 : decode cX12_carriesAll 77 = .ok (.putfield 320, 3) := by decide +kernel
theorem dX12_carriesAll_80 : decode cX12_carriesAll 80 = .ok (.aload_n 0, 1) := by decide +kernel
theorem dX12_carriesAll_81 : decode cX12_carriesAll 81 = .ok (.aload_n 0, 1) := by decide +kernel
theorem dX12_carriesAll_82 : decode cX12_carriesAll 82 = .ok (.getfield 22, 3) := by decide +kernel
theorem dX12_carriesAll_85 : decode cX12_carriesAll 85 = .ok (.invokevirtual 525, 3) := by decide +kernel
theorem dX12_carriesAll_88 : decode cX12_carriesAll 88 = .ok (.aload_n 0, 1) := by decide +kernel
theorem dX12_carriesAll_89 : decode cX12_carriesAll 89 = .ok (.aload_n 0, 1) := by decide +kernel
theorem dX12_carriesAll_90 : decode cX12_carriesAll 90 = .ok (.getfield 25, 3) := by decide +kernel
theorem dX12_carriesAll_93 : decode cX12_carriesAll 93 = .ok (.invokevirtual 525, 3) := by decide +kernel
theorem dX12_carriesAll_96 : decode cX12_carriesAll 96 = .ok (.aload_n 0, 1) := by decide +kernel
theorem dX12_carriesAll_97 : decode cX12_carriesAll 97 = .ok (.aload_n 0, 1) := by decide +kernel
theorem dX12_carriesAll_98 : decode cX12_carriesAll 98 = .ok (.getfield 28, 3) := by decide +kernel
theorem dX12_carriesAll_101 : decode cX12_carriesAll 101 = .ok (.invokevirtual 525, 3) := by decide +kernel
theorem dX12_carriesAll_104 : decode cX12_carriesAll 104 = .ok (.aload_n 0, 1) := by decide +kernel
theorem dX12_carriesAll_105 : decode cX12_carriesAll 105 = .ok (.aload_n 0, 1) := by decide +kernel
theorem dX12_carriesAll_106 : decode cX12_carriesAll 106 = .ok (.getfield 31, 3) := by decide +kernel
theorem dX12_carriesAll_109 : decode cX12_carriesAll 109 = .ok (.invokevirtual 525, 3) := by decide +kernel
theorem dX12_carriesAll_112 : decode cX12_carriesAll 112 = .ok (.aload_n 0, 1) := by decide +kernel
theorem dX12_carriesAll_113 : decode cX12_carriesAll 113 = .ok (.aload_n 0, 1) := by decide +kernel
theorem dX12_carriesAll_114 : decode cX12_carriesAll 114 = .ok (.getfield 34, 3) := by decide +kernel
theorem dX12_carriesAll_117 : decode cX12_carriesAll 117 = .ok (.invokevirtual 525, 3) := by decide +kernel
theorem dX12_carriesAll_120 : decode cX12_carriesAll 120 = .ok (.aload_n 0, 1) := by decide +kernel
theorem dX12_carriesAll_121 : decode cX12_carriesAll 121 = .ok (.aload_n 0, 1) := by decide +kernel
theorem dX12_carriesAll_122 : decode cX12_carriesAll 122 = .ok (.getfield 37, 3) := by decide +kernel
theorem dX12_carriesAll_125 : decode cX12_carriesAll 125 = .ok (.invokevirtual 525, 3) := by decide +kernel
theorem dX12_carriesAll_128 : decode cX12_carriesAll 128 = .ok (.aload_n 0, 1) := by decide +kernel
theorem dX12_carriesAll_129 : decode cX12_carriesAll 129 = .ok (.aload_n 0, 1) := by decide +kernel
theorem dX12_carriesAll_130 : decode cX12_carriesAll 130 = .ok (.getfield 40, 3) := by decide +kernel
theorem dX12_carriesAll_133 : decode cX12_carriesAll 133 = .ok (.invokevirtual 525, 3) := by decide +kernel
theorem dX12_carriesAll_136 : decode cX12_carriesAll 136 = .ok (.aload_n 0, 1) := by decide +kernel
theorem dX12_carriesAll_137 : decode cX12_carriesAll 137 = .ok (.aload_n 0, 1) := by decide +kernel
theorem dX12_carriesAll_138 : decode cX12_carriesAll 138 = .ok (.getfield 103, 3) := by decide +kernel
theorem dX12_carriesAll_141 : decode cX12_carriesAll 141 = .ok (.invokevirtual 525, 3) := by decide +kernel
theorem dX12_carriesAll_144 : decode cX12_carriesAll 144 = .ok (.return_, 1) := by decide +kernel
theorem dX12_image_0 : decode cX12_image 0 = .ok (.iload_n 1, 1) := by decide +kernel
theorem dX12_image_1 : decode cX12_image 1 = .ok (.i2l, 1) := by decide +kernel
theorem dX12_image_2 : decode cX12_image 2 = .ok (.lconst 0, 1) := by decide +kernel
theorem dX12_image_3 : decode cX12_image 3 = .ok (.ldc2_w 479, 3) := by decide +kernel
theorem dX12_image_6 : decode cX12_image 6 = .ok (.invokestatic 143, 3) := by decide +kernel
theorem dX12_image_9 : decode cX12_image 9 = .ok (.ifCond .ne 5, 3) := by decide +kernel
theorem dX12_image_12 : decode cX12_image 12 = .ok (.iconst (-1), 1) := by decide +kernel
theorem dX12_image_13 : decode cX12_image 13 = .ok (.ireturn, 1) := by decide +kernel
theorem dX12_image_14 : decode cX12_image 14 = .ok (.aload_n 0, 1) := by decide +kernel
theorem dX12_image_15 : decode cX12_image 15 = .ok (.getfield 136, 3) := by decide +kernel
theorem dX12_image_18 : decode cX12_image 18 = .ok (.iload_n 1, 1) := by decide +kernel
theorem dX12_image_19 : decode cX12_image 19 = .ok (.iconst 1, 1) := by decide +kernel
theorem dX12_image_20 : decode cX12_image 20 = .ok (.bastore, 1) := by decide +kernel
theorem dX12_image_21 : decode cX12_image 21 = .ok (.aload_n 0, 1) := by decide +kernel
theorem dX12_image_22 : decode cX12_image 22 = .ok (.iload_n 1, 1) := by decide +kernel
theorem dX12_image_23 : decode cX12_image 23 = .ok (.iconst 0, 1) := by decide +kernel
theorem dX12_image_24 : decode cX12_image 24 = .ok (.invokevirtual 443, 3) := by decide +kernel
theorem dX12_image_27 : decode cX12_image 27 = .ok (.aload_n 0, 1) := by decide +kernel
theorem dX12_image_28 : decode cX12_image 28 = .ok (.getfield 9, 3) := by decide +kernel
theorem dX12_image_31 : decode cX12_image 31 = .ok (.iconst 5, 1) := by decide +kernel
theorem dX12_image_32 : decode cX12_image 32 = .ok (.iaload, 1) := by decide +kernel
theorem dX12_image_33 : decode cX12_image 33 = .ok (.ireturn, 1) := by decide +kernel
theorem dX12_back_0 : decode cX12_back 0 = .ok (.iload_n 1, 1) := by decide +kernel
theorem dX12_back_1 : decode cX12_back 1 = .ok (.i2l, 1) := by decide +kernel
theorem dX12_back_2 : decode cX12_back 2 = .ok (.lconst 0, 1) := by decide +kernel
theorem dX12_back_3 : decode cX12_back 3 = .ok (.ldc2_w 479, 3) := by decide +kernel
theorem dX12_back_6 : decode cX12_back 6 = .ok (.invokestatic 143, 3) := by decide +kernel
theorem dX12_back_9 : decode cX12_back 9 = .ok (.ifCond .eq 12, 3) := by decide +kernel
theorem dX12_back_12 : decode cX12_back 12 = .ok (.aload_n 0, 1) := by decide +kernel
theorem dX12_back_13 : decode cX12_back 13 = .ok (.getfield 136, 3) := by decide +kernel
theorem dX12_back_16 : decode cX12_back 16 = .ok (.iload_n 1, 1) := by decide +kernel
theorem dX12_back_17 : decode cX12_back 17 = .ok (.baload, 1) := by decide +kernel
theorem dX12_back_18 : decode cX12_back 18 = .ok (.ifCond .ne 5, 3) := by decide +kernel
theorem dX12_back_21 : decode cX12_back 21 = .ok (.iconst (-1), 1) := by decide +kernel
theorem dX12_back_22 : decode cX12_back 22 = .ok (.ireturn, 1) := by decide +kernel
theorem dX12_back_23 : decode cX12_back 23 = .ok (.aload_n 0, 1) := by decide +kernel
theorem dX12_back_24 : decode cX12_back 24 = .ok (.iload_n 1, 1) := by decide +kernel
theorem dX12_back_25 : decode cX12_back 25 = .ok (.iconst 1, 1) := by decide +kernel
theorem dX12_back_26 : decode cX12_back 26 = .ok (.invokevirtual 443, 3) := by decide +kernel
theorem dX12_back_29 : decode cX12_back 29 = .ok (.aload_n 0, 1) := by decide +kernel
theorem dX12_back_30 : decode cX12_back 30 = .ok (.getfield 9, 3) := by decide +kernel
theorem dX12_back_33 : decode cX12_back 33 = .ok (.iconst 5, 1) := by decide +kernel
theorem dX12_back_34 : decode cX12_back 34 = .ok (.iaload, 1) := by decide +kernel
theorem dX12_back_35 : decode cX12_back 35 = .ok (.ireturn, 1) := by decide +kernel
