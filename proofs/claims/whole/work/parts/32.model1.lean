theorem dX12_init_0 : decode cX12_init 0 = .ok (.aload_n 0, 1) := by decide +kernel
theorem dX12_init_1 : decode cX12_init 1 = .ok (.invokespecial 3, 3) := by decide +kernel
theorem dX12_init_4 : decode cX12_init 4 = .ok (.aload_n 0, 1) := by decide +kernel
theorem dX12_init_5 : decode cX12_init 5 = .ok (.bipush 11, 2) := by decide +kernel
theorem dX12_init_7 : decode cX12_init 7 = .ok (.newarray .int, 2) := by decide +kernel
theorem dX12_init_9 : decode cX12_init 9 = .ok (.dup, 1) := by decide +kernel
theorem dX12_init_10 : decode cX12_init 10 = .ok (.iconst 0, 1) := by decide +kernel
theorem dX12_init_11 : decode cX12_init 11 = .ok (.iconst 0, 1) := by decide +kernel
theorem dX12_init_12 : decode cX12_init 12 = .ok (.iastore, 1) := by decide +kernel
theorem dX12_init_13 : decode cX12_init 13 = .ok (.dup, 1) := by decide +kernel
theorem dX12_init_14 : decode cX12_init 14 = .ok (.iconst 1, 1) := by decide +kernel
theorem dX12_init_15 : decode cX12_init 15 = .ok (.iconst 0, 1) := by decide +kernel
theorem dX12_init_16 : decode cX12_init 16 = .ok (.iastore, 1) := by decide +kernel
theorem dX12_init_17 : decode cX12_init 17 = .ok (.dup, 1) := by decide +kernel
theorem dX12_init_18 : decode cX12_init 18 = .ok (.iconst 2, 1) := by decide +kernel
theorem dX12_init_19 : decode cX12_init 19 = .ok (.iconst 0, 1) := by decide +kernel
theorem dX12_init_20 : decode cX12_init 20 = .ok (.iastore, 1) := by decide +kernel
theorem dX12_init_21 : decode cX12_init 21 = .ok (.dup, 1) := by decide +kernel
theorem dX12_init_22 : decode cX12_init 22 = .ok (.iconst 3, 1) := by decide +kernel
theorem dX12_init_23 : decode cX12_init 23 = .ok (.iconst 0, 1) := by decide +kernel
theorem dX12_init_24 : decode cX12_init 24 = .ok (.iastore, 1) := by decide +kernel
theorem dX12_init_25 : decode cX12_init 25 = .ok (.dup, 1) := by decide +kernel
theorem dX12_init_26 : decode cX12_init 26 = .ok (.iconst 4, 1) := by decide +kernel
theorem dX12_init_27 : decode cX12_init 27 = .ok (.iconst 0, 1) := by decide +kernel
theorem dX12_init_28 : decode cX12_init 28 = .ok (.iastore, 1) := by decide +kernel
theorem dX12_init_29 : decode cX12_init 29 = .ok (.dup, 1) := by decide +kernel
theorem dX12_init_30 : decode cX12_init 30 = .ok (.iconst 5, 1) := by decide +kernel
theorem dX12_init_31 : decode cX12_init 31 = .ok (.iconst 0, 1) := by decide +kernel
theorem dX12_init_32 : decode cX12_init 32 = .ok (.iastore, 1) := by decide +kernel
theorem dX12_init_33 : decode cX12_init 33 = .ok (.dup, 1) := by decide +kernel
theorem dX12_init_34 : decode cX12_init 34 = .ok (.bipush 6, 2) := by decide +kernel
theorem dX12_init_36 : decode cX12_init 36 = .ok (.iconst 0, 1) := by decide +kernel
theorem dX12_init_37 : decode cX12_init 37 = .ok (.iastore, 1) := by decide +kernel
theorem dX12_init_38 : decode cX12_init 38 = .ok (.dup, 1) := by decide +kernel
theorem dX12_init_39 : decode cX12_init 39 = .ok (.bipush 7, 2) := by decide +kernel
theorem dX12_init_41 : decode cX12_init 41 = .ok (.iconst 0, 1) := by decide +kernel
theorem dX12_init_42 : decode cX12_init 42 = .ok (.iastore, 1) := by decide +kernel
theorem dX12_init_43 : decode cX12_init 43 = .ok (.dup, 1) := by decide +kernel
theorem dX12_init_44 : decode cX12_init 44 = .ok (.bipush 8, 2) := by decide +kernel
theorem dX12_init_46 : decode cX12_init 46 = .ok (.iconst 0, 1) := by decide +kernel
theorem dX12_init_47 : decode cX12_init 47 = .ok (.iastore, 1) := by decide +kernel
theorem dX12_init_48 : decode cX12_init 48 = .ok (.dup, 1) := by decide +kernel
theorem dX12_init_49 : decode cX12_init 49 = .ok (.bipush 9, 2) := by decide +kernel
theorem dX12_init_51 : decode cX12_init 51 = .ok (.iconst 0, 1) := by decide +kernel
theorem dX12_init_52 : decode cX12_init 52 = .ok (.iastore, 1) := by decide +kernel
theorem dX12_init_53 : decode cX12_init 53 = .ok (.dup, 1) := by decide +kernel
theorem dX12_init_54 : decode cX12_init 54 = .ok (.bipush 10, 2) := by decide +kernel
theorem dX12_init_56 : decode cX12_init 56 = .ok (.iconst (-1), 1) := by decide +kernel
theorem dX12_init_57 : decode cX12_init 57 = .ok (.iastore, 1) := by decide +kernel
theorem dX12_init_58 : decode cX12_init 58 = .ok (.putfield 9, 3) := by decide +kernel
theorem dX12_init_61 : decode cX12_init 61 = .ok (.aload_n 0, 1) := by decide +kernel
theorem dX12_init_62 : decode cX12_init 62 = .ok (.bipush 48, 2) := by decide +kernel
theorem dX12_init_64 : decode cX12_init 64 = .ok (.newarray .int, 2) := by decide +kernel
theorem dX12_init_66 : decode cX12_init 66 = .ok (.putfield 13, 3) := by decide +kernel
theorem dX12_init_69 : decode cX12_init 69 = .ok (.aload_n 0, 1) := by decide +kernel
theorem dX12_init_70 : decode cX12_init 70 = .ok (.iconst 5, 1) := by decide +kernel
theorem dX12_init_71 : decode cX12_init 71 = .ok (.newarray .int, 2) := by decide +kernel
theorem dX12_init_73 : decode cX12_init 73 = .ok (.putfield 16, 3) := by decide +kernel
theorem dX12_init_76 : decode cX12_init 76 = .ok (.aload_n 0, 1) := by decide +kernel
theorem dX12_init_77 : decode cX12_init 77 = .ok (.iconst 5, 1) := by decide +kernel
theorem dX12_init_78 : decode cX12_init 78 = .ok (.newarray .int, 2) := by decide +kernel
theorem dX12_init_80 : decode cX12_init 80 = .ok (.putfield 19, 3) := by decide +kernel
theorem dX12_init_83 : decode cX12_init 83 = .ok (.aload_n 0, 1) := by decide +kernel
theorem dX12_init_84 : decode cX12_init 84 = .ok (.bipush 8, 2) := by decide +kernel
theorem dX12_init_86 : decode cX12_init 86 = .ok (.newarray .int, 2) := by decide +kernel
theorem dX12_init_88 : decode cX12_init 88 = .ok (.putfield 22, 3) := by decide +kernel
theorem dX12_init_91 : decode cX12_init 91 = .ok (.aload_n 0, 1) := by decide +kernel
theorem dX12_init_92 : decode cX12_init 92 = .ok (.bipush 8, 2) := by decide +kernel
theorem dX12_init_94 : decode cX12_init 94 = .ok (.newarray .int, 2) := by decide +kernel
theorem dX12_init_96 : decode cX12_init 96 = .ok (.putfield 25, 3) := by decide +kernel
theorem dX12_init_99 : decode cX12_init 99 = .ok (.aload_n 0, 1) := by decide +kernel
theorem dX12_init_100 : decode cX12_init 100 = .ok (.bipush 8, 2) := by decide +kernel
theorem dX12_init_102 : decode cX12_init 102 = .ok (.newarray .int, 2) := by decide +kernel
theorem dX12_init_104 : decode cX12_init 104 = .ok (.putfield 28, 3) := by decide +kernel
theorem dX12_init_107 : decode cX12_init 107 = .ok (.aload_n 0, 1) := by decide +kernel
theorem dX12_init_108 : decode cX12_init 108 = .ok (.bipush 8, 2) := by decide +kernel
theorem dX12_init_110 : decode cX12_init 110 = .ok (.newarray .int, 2) := by decide +kernel
theorem dX12_init_112 : decode cX12_init 112 = .ok (.putfield 31, 3) := by decide +kernel
theorem dX12_init_115 : decode cX12_init 115 = .ok (.aload_n 0, 1) := by decide +kernel
theorem dX12_init_116 : decode cX12_init 116 = .ok (.iconst 4, 1) := by decide +kernel
theorem dX12_init_117 : decode cX12_init 117 = .ok (.newarray .int, 2) := by decide +kernel
theorem dX12_init_119 : decode cX12_init 119 = .ok (.putfield 34, 3) := by decide +kernel
theorem dX12_init_122 : decode cX12_init 122 = .ok (.aload_n 0, 1) := by decide +kernel
theorem dX12_init_123 : decode cX12_init 123 = .ok (.bipush 8, 2) := by decide +kernel
theorem dX12_init_125 : decode cX12_init 125 = .ok (.newarray .int, 2) := by decide +kernel
theorem dX12_init_127 : decode cX12_init 127 = .ok (.putfield 37, 3) := by decide +kernel
theorem dX12_init_130 : decode cX12_init 130 = .ok (.aload_n 0, 1) := by decide +kernel
theorem dX12_init_131 : decode cX12_init 131 = .ok (.bipush 10, 2) := by decide +kernel
theorem dX12_init_133 : decode cX12_init 133 = .ok (.newarray .int, 2) := by decide +kernel
theorem dX12_init_135 : decode cX12_init 135 = .ok (.putfield 40, 3) := by decide +kernel
theorem dX12_init_138 : decode cX12_init 138 = .ok (.aload_n 0, 1) := by decide +kernel
theorem dX12_init_139 : decode cX12_init 139 = .ok (.bipush 10, 2) := by decide +kernel
theorem dX12_init_141 : decode cX12_init 141 = .ok (.newarray .int, 2) := by decide +kernel
theorem dX12_init_143 : decode cX12_init 143 = .ok (.putfield 43, 3) := by decide +kernel
theorem dX12_init_146 : decode cX12_init 146 = .ok (.aload_n 0, 1) := by decide +kernel
theorem dX12_init_147 : decode cX12_init 147 = .ok (.bipush 8, 2) := by decide +kernel
theorem dX12_init_149 : decode cX12_init 149 = .ok (.newarray .int, 2) := by decide +kernel
theorem dX12_init_151 : decode cX12_init 151 = .ok (.putfield 46, 3) := by decide +kernel
theorem dX12_init_154 : decode cX12_init 154 = .ok (.aload_n 0, 1) := by decide +kernel
theorem dX12_init_155 : decode cX12_init 155 = .ok (.bipush 8, 2) := by decide +kernel
theorem dX12_init_157 : decode cX12_init 157 = .ok (.newarray .int, 2) := by decide +kernel
theorem dX12_init_159 : decode cX12_init 159 = .ok (.putfield 49, 3) := by decide +kernel
theorem dX12_init_162 : decode cX12_init 162 = .ok (.aload_n 0, 1) := by decide +kernel
theorem dX12_init_163 : decode cX12_init 163 = .ok (.bipush 7, 2) := by decide +kernel
theorem dX12_init_165 : decode cX12_init 165 = .ok (.newarray .int, 2) := by decide +kernel
theorem dX12_init_167 : decode cX12_init 167 = .ok (.putfield 52, 3) := by decide +kernel
theorem dX12_init_170 : decode cX12_init 170 = .ok (.aload_n 0, 1) := by decide +kernel
theorem dX12_init_171 : decode cX12_init 171 = .ok (.bipush 48, 2) := by decide +kernel
theorem dX12_init_173 : decode cX12_init 173 = .ok (.newarray .int, 2) := by decide +kernel
theorem dX12_init_175 : decode cX12_init 175 = .ok (.putfield 55, 3) := by decide +kernel
theorem dX12_init_178 : decode cX12_init 178 = .ok (.aload_n 0, 1) := by decide +kernel
theorem dX12_init_179 : decode cX12_init 179 = .ok (.iconst 5, 1) := by decide +kernel
theorem dX12_init_180 : decode cX12_init 180 = .ok (.newarray .int, 2) := by decide +kernel
theorem dX12_init_182 : decode cX12_init 182 = .ok (.putfield 58, 3) := by decide +kernel
theorem dX12_init_185 : decode cX12_init 185 = .ok (.aload_n 0, 1) := by decide +kernel
theorem dX12_init_186 : decode cX12_init 186 = .ok (.iconst 5, 1) := by decide +kernel
theorem dX12_init_187 : decode cX12_init 187 = .ok (.newarray .int, 2) := by decide +kernel
theorem dX12_init_189 : decode cX12_init 189 = .ok (.putfield 61, 3) := by decide +kernel
theorem dX12_init_192 : decode cX12_init 192 = .ok (.aload_n 0, 1) := by decide +kernel
theorem dX12_init_193 : decode cX12_init 193 = .ok (.bipush 8, 2) := by decide +kernel
theorem dX12_init_195 : decode cX12_init 195 = .ok (.newarray .int, 2) := by decide +kernel
theorem dX12_init_197 : decode cX12_init 197 = .ok (.putfield 64, 3) := by decide +kernel
theorem dX12_init_200 : decode cX12_init 200 = .ok (.aload_n 0, 1) := by decide +kernel
theorem dX12_init_201 : decode cX12_init 201 = .ok (.bipush 8, 2) := by decide +kernel
theorem dX12_init_203 : decode cX12_init 203 = .ok (.newarray .int, 2) := by decide +kernel
theorem dX12_init_205 : decode cX12_init 205 = .ok (.putfield 67, 3) := by decide +kernel
theorem dX12_init_208 : decode cX12_init 208 = .ok (.aload_n 0, 1) := by decide +kernel
theorem dX12_init_209 : decode cX12_init 209 = .ok (.bipush 8, 2) := by decide +kernel
theorem dX12_init_211 : decode cX12_init 211 = .ok (.newarray .int, 2) := by decide +kernel
theorem dX12_init_213 : decode cX12_init 213 = .ok (.putfield 70, 3) := by decide +kernel
theorem dX12_init_216 : decode cX12_init 216 = .ok (.aload_n 0, 1) := by decide +kernel
theorem dX12_init_217 : decode cX12_init 217 = .ok (.bipush 8, 2) := by decide +kernel
theorem dX12_init_219 : decode cX12_init 219 = .ok (.newarray .int, 2) := by decide +kernel
theorem dX12_init_221 : decode cX12_init 221 = .ok (.putfield 73, 3) := by decide +kernel
theorem dX12_init_224 : decode cX12_init 224 = .ok (.aload_n 0, 1) := by decide +kernel
theorem dX12_init_225 : decode cX12_init 225 = .ok (.iconst 4, 1) := by decide +kernel
theorem dX12_init_226 : decode cX12_init 226 = .ok (.newarray .int, 2) := by decide +kernel
theorem dX12_init_228 : decode cX12_init 228 = .ok (.putfield 76, 3) := by decide +kernel
theorem dX12_init_231 : decode cX12_init 231 = .ok (.aload_n 0, 1) := by decide +kernel
theorem dX12_init_232 : decode cX12_init 232 = .ok (.bipush 8, 2) := by decide +kernel
theorem dX12_init_234 : decode cX12_init 234 = .ok (.newarray .int, 2) := by decide +kernel
theorem dX12_init_236 : decode cX12_init 236 = .ok (.putfield 79, 3) := by decide +kernel
theorem dX12_init_239 : decode cX12_init 239 = .ok (.aload_n 0, 1) := by decide +kernel
theorem dX12_init_240 : decode cX12_init 240 = .ok (.bipush 10, 2) := by decide +kernel
theorem dX12_init_242 : decode cX12_init 242 = .ok (.newarray .int, 2) := by decide +kernel
theorem dX12_init_244 : decode cX12_init 244 = .ok (.putfield 82, 3) := by decide +kernel
theorem dX12_init_247 : decode cX12_init 247 = .ok (.aload_n 0, 1) := by decide +kernel
theorem dX12_init_248 : decode cX12_init 248 = .ok (.bipush 10, 2) := by decide +kernel
theorem dX12_init_250 : decode cX12_init 250 = .ok (.newarray .int, 2) := by decide +kernel
theorem dX12_init_252 : decode cX12_init 252 = .ok (.putfield 85, 3) := by decide +kernel
theorem dX12_init_255 : decode cX12_init 255 = .ok (.aload_n 0, 1) := by decide +kernel
theorem dX12_init_256 : decode cX12_init 256 = .ok (.bipush 12, 2) := by decide +kernel
theorem dX12_init_258 : decode cX12_init 258 = .ok (.putfield 88, 3) := by decide +kernel
theorem dX12_init_261 : decode cX12_init 261 = .ok (.aload_n 0, 1) := by decide +kernel
theorem dX12_init_262 : decode cX12_init 262 = .ok (.sipush 400, 3) := by decide +kernel
theorem dX12_init_265 : decode cX12_init 265 = .ok (.newarray .byte, 2) := by decide +kernel
theorem dX12_init_267 : decode cX12_init 267 = .ok (.putfield 92, 3) := by decide +kernel
theorem dX12_init_270 : decode cX12_init 270 = .ok (.aload_n 0, 1) := by decide +kernel
theorem dX12_init_271 : decode cX12_init 271 = .ok (.sipush 1800, 3) := by decide +kernel
theorem dX12_init_274 : decode cX12_init 274 = .ok (.newarray .int, 2) := by decide +kernel
theorem dX12_init_276 : decode cX12_init 276 = .ok (.putfield 96, 3) := by decide +kernel
theorem dX12_init_279 : decode cX12_init 279 = .ok (.aload_n 0, 1) := by decide +kernel
theorem dX12_init_280 : decode cX12_init 280 = .ok (.sipush 1800, 3) := by decide +kernel
theorem dX12_init_283 : decode cX12_init 283 = .ok (.newarray .int, 2) := by decide +kernel
theorem dX12_init_285 : decode cX12_init 285 = .ok (.putfield 99, 3) := by decide +kernel
theorem dX12_init_288 : decode cX12_init 288 = .ok (.aload_n 0, 1) := by decide +kernel
theorem dX12_init_289 : decode cX12_init 289 = .ok (.bipush 6, 2) := by decide +kernel
theorem dX12_init_291 : decode cX12_init 291 = .ok (.newarray .int, 2) := by decide +kernel
theorem dX12_init_293 : decode cX12_init 293 = .ok (.putfield 102, 3) := by decide +kernel
theorem dX12_init_296 : decode cX12_init 296 = .ok (.aload_n 0, 1) := by decide +kernel
theorem dX12_init_297 : decode cX12_init 297 = .ok (.bipush 72, 2) := by decide +kernel
theorem dX12_init_299 : decode cX12_init 299 = .ok (.newarray .int, 2) := by decide +kernel
theorem dX12_init_301 : decode cX12_init 301 = .ok (.putfield 105, 3) := by decide +kernel
theorem dX12_init_304 : decode cX12_init 304 = .ok (.aload_n 0, 1) := by decide +kernel
theorem dX12_init_305 : decode cX12_init 305 = .ok (.bipush 72, 2) := by decide +kernel
theorem dX12_init_307 : decode cX12_init 307 = .ok (.newarray .int, 2) := by decide +kernel
theorem dX12_init_309 : decode cX12_init 309 = .ok (.putfield 108, 3) := by decide +kernel
theorem dX12_init_312 : decode cX12_init 312 = .ok (.aload_n 0, 1) := by decide +kernel
theorem dX12_init_313 : decode cX12_init 313 = .ok (.bipush 72, 2) := by decide +kernel
theorem dX12_init_315 : decode cX12_init 315 = .ok (.newarray .int, 2) := by decide +kernel
theorem dX12_init_317 : decode cX12_init 317 = .ok (.putfield 111, 3) := by decide +kernel
theorem dX12_init_320 : decode cX12_init 320 = .ok (.aload_n 0, 1) := by decide +kernel
theorem dX12_init_321 : decode cX12_init 321 = .ok (.sipush 402, 3) := by decide +kernel
theorem dX12_init_324 : decode cX12_init 324 = .ok (.newarray .int, 2) := by decide +kernel
theorem dX12_init_326 : decode cX12_init 326 = .ok (.putfield 114, 3) := by decide +kernel
theorem dX12_init_329 : decode cX12_init 329 = .ok (.aload_n 0, 1) := by decide +kernel
theorem dX12_init_330 : decode cX12_init 330 = .ok (.bipush 72, 2) := by decide +kernel
theorem dX12_init_332 : decode cX12_init 332 = .ok (.newarray .boolean, 2) := by decide +kernel
theorem dX12_init_334 : decode cX12_init 334 = .ok (.putfield 117, 3) := by decide +kernel
theorem dX12_init_337 : decode cX12_init 337 = .ok (.aload_n 0, 1) := by decide +kernel
theorem dX12_init_338 : decode cX12_init 338 = .ok (.bipush 12, 2) := by decide +kernel
theorem dX12_init_340 : decode cX12_init 340 = .ok (.newarray .long, 2) := by decide +kernel
theorem dX12_init_342 : decode cX12_init 342 = .ok (.putfield 121, 3) := by decide +kernel
theorem dX12_init_345 : decode cX12_init 345 = .ok (.aload_n 0, 1) := by decide +kernel
theorem dX12_init_346 : decode cX12_init 346 = .ok (.sipush 300, 3) := by decide +kernel
theorem dX12_init_349 : decode cX12_init 349 = .ok (.newarray .long, 2) := by decide +kernel
theorem dX12_init_351 : decode cX12_init 351 = .ok (.putfield 125, 3) := by decide +kernel
theorem dX12_init_354 : decode cX12_init 354 = .ok (.aload_n 0, 1) := by decide +kernel
theorem dX12_init_355 : decode cX12_init 355 = .ok (.sipush 280, 3) := by decide +kernel
theorem dX12_init_358 : decode cX12_init 358 = .ok (.newarray .int, 2) := by decide +kernel
theorem dX12_init_360 : decode cX12_init 360 = .ok (.putfield 128, 3) := by decide +kernel
theorem dX12_init_363 : decode cX12_init 363 = .ok (.aload_n 0, 1) := by decide +kernel
theorem dX12_init_364 : decode cX12_init 364 = .ok (.iconst 1, 1) := by decide +kernel
theorem dX12_init_365 : decode cX12_init 365 = .ok (.newarray .int, 2) := by decide +kernel
theorem dX12_init_367 : decode cX12_init 367 = .ok (.putfield 131, 3) := by decide +kernel
theorem dX12_init_370 : decode cX12_init 370 = .ok (.aload_n 0, 1) := by decide +kernel
theorem dX12_init_371 : decode cX12_init 371 = .ok (.bipush 11, 2) := by decide +kernel
theorem dX12_init_373 : decode cX12_init 373 = .ok (.newarray .int, 2) := by decide +kernel
theorem dX12_init_375 : decode cX12_init 375 = .ok (.putfield 134, 3) := by decide +kernel
theorem dX12_init_378 : decode cX12_init 378 = .ok (.aload_n 0, 1) := by decide +kernel
theorem dX12_init_379 : decode cX12_init 379 = .ok (.bipush 11, 2) := by decide +kernel
theorem dX12_init_381 : decode cX12_init 381 = .ok (.newarray .int, 2) := by decide +kernel
theorem dX12_init_383 : decode cX12_init 383 = .ok (.putfield 137, 3) := by decide +kernel
theorem dX12_init_386 : decode cX12_init 386 = .ok (.aload_n 0, 1) := by decide +kernel
theorem dX12_init_387 : decode cX12_init 387 = .ok (.bipush 11, 2) := by decide +kernel
theorem dX12_init_389 : decode cX12_init 389 = .ok (.newarray .int, 2) := by decide +kernel
theorem dX12_init_391 : decode cX12_init 391 = .ok (.putfield 140, 3) := by decide +kernel
theorem dX12_init_394 : decode cX12_init 394 = .ok (.aload_n 0, 1) := by decide +kernel
theorem dX12_init_395 : decode cX12_init 395 = .ok (.bipush 11, 2) := by decide +kernel
theorem dX12_init_397 : decode cX12_init 397 = .ok (.newarray .int, 2) := by decide +kernel
theorem dX12_init_399 : decode cX12_init 399 = .ok (.putfield 143, 3) := by decide +kernel
theorem dX12_init_402 : decode cX12_init 402 = .ok (.aload_n 0, 1) := by decide +kernel
theorem dX12_init_403 : decode cX12_init 403 = .ok (.bipush 11, 2) := by decide +kernel
theorem dX12_init_405 : decode cX12_init 405 = .ok (.newarray .int, 2) := by decide +kernel
theorem dX12_init_407 : decode cX12_init 407 = .ok (.putfield 146, 3) := by decide +kernel
theorem dX12_init_410 : decode cX12_init 410 = .ok (.aload_n 0, 1) := by decide +kernel
theorem dX12_init_411 : decode cX12_init 411 = .ok (.bipush 8, 2) := by decide +kernel
theorem dX12_init_413 : decode cX12_init 413 = .ok (.newarray .int, 2) := by decide +kernel
theorem dX12_init_415 : decode cX12_init 415 = .ok (.putfield 149, 3) := by decide +kernel
theorem dX12_init_418 : decode cX12_init 418 = .ok (.aload_n 0, 1) := by decide +kernel
theorem dX12_init_419 : decode cX12_init 419 = .ok (.iconst 4, 1) := by decide +kernel
theorem dX12_init_420 : decode cX12_init 420 = .ok (.newarray .int, 2) := by decide +kernel
theorem dX12_init_422 : decode cX12_init 422 = .ok (.putfield 152, 3) := by decide +kernel
theorem dX12_init_425 : decode cX12_init 425 = .ok (.aload_n 0, 1) := by decide +kernel
theorem dX12_init_426 : decode cX12_init 426 = .ok (.iconst 4, 1) := by decide +kernel
theorem dX12_init_427 : decode cX12_init 427 = .ok (.newarray .int, 2) := by decide +kernel
theorem dX12_init_429 : decode cX12_init 429 = .ok (.putfield 155, 3) := by decide +kernel
theorem dX12_init_432 : decode cX12_init 432 = .ok (.aload_n 0, 1) := by decide +kernel
theorem dX12_init_433 : decode cX12_init 433 = .ok (.bipush 48, 2) := by decide +kernel
theorem dX12_init_435 : decode cX12_init 435 = .ok (.newarray .boolean, 2) := by decide +kernel
theorem dX12_init_437 : decode cX12_init 437 = .ok (.putfield 158, 3) := by decide +kernel
theorem dX12_init_440 : decode cX12_init 440 = .ok (.aload_n 0, 1) := by decide +kernel
theorem dX12_init_441 : decode cX12_init 441 = .ok (.bipush 48, 2) := by decide +kernel
theorem dX12_init_443 : decode cX12_init 443 = .ok (.newarray .long, 2) := by decide +kernel
theorem dX12_init_445 : decode cX12_init 445 = .ok (.putfield 161, 3) := by decide +kernel
theorem dX12_init_448 : decode cX12_init 448 = .ok (.aload_n 0, 1) := by decide +kernel
theorem dX12_init_449 : decode cX12_init 449 = .ok (.bipush 8, 2) := by decide +kernel
theorem dX12_init_451 : decode cX12_init 451 = .ok (.newarray .int, 2) := by decide +kernel
theorem dX12_init_453 : decode cX12_init 453 = .ok (.putfield 164, 3) := by decide +kernel
theorem dX12_init_456 : decode cX12_init 456 = .ok (.aload_n 0, 1) := by decide +kernel
theorem dX12_init_457 : decode cX12_init 457 = .ok (.bipush 8, 2) := by decide +kernel
theorem dX12_init_459 : decode cX12_init 459 = .ok (.newarray .int, 2) := by decide +kernel
theorem dX12_init_461 : decode cX12_init 461 = .ok (.putfield 167, 3) := by decide +kernel
theorem dX12_init_464 : decode cX12_init 464 = .ok (.aload_n 0, 1) := by decide +kernel
theorem dX12_init_465 : decode cX12_init 465 = .ok (.sipush 2300, 3) := by decide +kernel
theorem dX12_init_468 : decode cX12_init 468 = .ok (.newarray .int, 2) := by decide +kernel
theorem dX12_init_470 : decode cX12_init 470 = .ok (.putfield 170, 3) := by decide +kernel
theorem dX12_init_473 : decode cX12_init 473 = .ok (.aload_n 0, 1) := by decide +kernel
theorem dX12_init_474 : decode cX12_init 474 = .ok (.iconst 4, 1) := by decide +kernel
theorem dX12_init_475 : decode cX12_init 475 = .ok (.newarray .boolean, 2) := by decide +kernel
theorem dX12_init_477 : decode cX12_init 477 = .ok (.putfield 173, 3) := by decide +kernel
theorem dX12_init_480 : decode cX12_init 480 = .ok (.return_, 1) := by decide +kernel
abbrev D_X12_init : Nat := 1
set_option maxRecDepth 100000 in
def f_X12_init (μ0 : Mm) (a1 : Nat) : Option Mm :=
 (bd (nA μ0 0 (11 : Int32)) fun a2 μ3 =>
    ((sI μ3 a2 0 (0 : Int32) (0 : Int32)).bind fun μ4 =>
    ((sI μ4 a2 0 (1 : Int32) (0 : Int32)).bind fun μ5 =>
    ((sI μ5 a2 0 (2 : Int32) (0 : Int32)).bind fun μ6 =>
    ((sI μ6 a2 0 (3 : Int32) (0 : Int32)).bind fun μ7 =>
    ((sI μ7 a2 0 (4 : Int32) (0 : Int32)).bind fun μ8 =>
    ((sI μ8 a2 0 (5 : Int32) (0 : Int32)).bind fun μ9 =>
    ((sI μ9 a2 0 (6 : Int32) (0 : Int32)).bind fun μ10 =>
    ((sI μ10 a2 0 (7 : Int32) (0 : Int32)).bind fun μ11 =>
    ((sI μ11 a2 0 (8 : Int32) (0 : Int32)).bind fun μ12 =>
    ((sI μ12 a2 0 (9 : Int32) (0 : Int32)).bind fun μ13 =>
    ((sI μ13 a2 0 (10 : Int32) (-1 : Int32)).bind fun μ14 =>
    ((pV μ14 a1 12 1 (.ref a2)).bind fun μ15 =>
    (bd (nA μ15 0 (48 : Int32)) fun a16 μ17 =>
    ((pV μ17 a1 12 2 (.ref a16)).bind fun μ18 =>
    (bd (nA μ18 0 (5 : Int32)) fun a19 μ20 =>
    ((pV μ20 a1 12 3 (.ref a19)).bind fun μ21 =>
    (bd (nA μ21 0 (5 : Int32)) fun a22 μ23 =>
    ((pV μ23 a1 12 4 (.ref a22)).bind fun μ24 =>
    (bd (nA μ24 0 (8 : Int32)) fun a25 μ26 =>
    ((pV μ26 a1 12 5 (.ref a25)).bind fun μ27 =>
    (bd (nA μ27 0 (8 : Int32)) fun a28 μ29 =>
    ((pV μ29 a1 12 6 (.ref a28)).bind fun μ30 =>
    (bd (nA μ30 0 (8 : Int32)) fun a31 μ32 =>
    ((pV μ32 a1 12 7 (.ref a31)).bind fun μ33 =>
    (bd (nA μ33 0 (8 : Int32)) fun a34 μ35 =>
    ((pV μ35 a1 12 8 (.ref a34)).bind fun μ36 =>
    (bd (nA μ36 0 (4 : Int32)) fun a37 μ38 =>
    ((pV μ38 a1 12 9 (.ref a37)).bind fun μ39 =>
    (bd (nA μ39 0 (8 : Int32)) fun a40 μ41 =>
    ((pV μ41 a1 12 10 (.ref a40)).bind fun μ42 =>
    (bd (nA μ42 0 (10 : Int32)) fun a43 μ44 =>
    ((pV μ44 a1 12 11 (.ref a43)).bind fun μ45 =>
    (bd (nA μ45 0 (10 : Int32)) fun a46 μ47 =>
    ((pV μ47 a1 12 12 (.ref a46)).bind fun μ48 =>
    (bd (nA μ48 0 (8 : Int32)) fun a49 μ50 =>
    ((pV μ50 a1 12 13 (.ref a49)).bind fun μ51 =>
    (bd (nA μ51 0 (8 : Int32)) fun a52 μ53 =>
    ((pV μ53 a1 12 14 (.ref a52)).bind fun μ54 =>
    (bd (nA μ54 0 (7 : Int32)) fun a55 μ56 =>
    ((pV μ56 a1 12 15 (.ref a55)).bind fun μ57 =>
    (bd (nA μ57 0 (48 : Int32)) fun a58 μ59 =>
    ((pV μ59 a1 12 16 (.ref a58)).bind fun μ60 =>
    (bd (nA μ60 0 (5 : Int32)) fun a61 μ62 =>
    ((pV μ62 a1 12 17 (.ref a61)).bind fun μ63 =>
    (bd (nA μ63 0 (5 : Int32)) fun a64 μ65 =>
    ((pV μ65 a1 12 18 (.ref a64)).bind fun μ66 =>
    (bd (nA μ66 0 (8 : Int32)) fun a67 μ68 =>
    ((pV μ68 a1 12 19 (.ref a67)).bind fun μ69 =>
    (bd (nA μ69 0 (8 : Int32)) fun a70 μ71 =>
    ((pV μ71 a1 12 20 (.ref a70)).bind fun μ72 =>
    (bd (nA μ72 0 (8 : Int32)) fun a73 μ74 =>
    ((pV μ74 a1 12 21 (.ref a73)).bind fun μ75 =>
    (bd (nA μ75 0 (8 : Int32)) fun a76 μ77 =>
    ((pV μ77 a1 12 22 (.ref a76)).bind fun μ78 =>
    (bd (nA μ78 0 (4 : Int32)) fun a79 μ80 =>
    ((pV μ80 a1 12 23 (.ref a79)).bind fun μ81 =>
    (bd (nA μ81 0 (8 : Int32)) fun a82 μ83 =>
    ((pV μ83 a1 12 24 (.ref a82)).bind fun μ84 =>
    (bd (nA μ84 0 (10 : Int32)) fun a85 μ86 =>
    ((pV μ86 a1 12 25 (.ref a85)).bind fun μ87 =>
    (bd (nA μ87 0 (10 : Int32)) fun a88 μ89 =>
    ((pV μ89 a1 12 26 (.ref a88)).bind fun μ90 =>
    ((pV μ90 a1 12 37 (.int (12 : Int32))).bind fun μ91 =>
    (bd (nA μ91 1 (400 : Int32)) fun a92 μ93 =>
    ((pV μ93 a1 12 38 (.ref a92)).bind fun μ94 =>
    (bd (nA μ94 0 (1800 : Int32)) fun a95 μ96 =>
    ((pV μ96 a1 12 39 (.ref a95)).bind fun μ97 =>
    (bd (nA μ97 0 (1800 : Int32)) fun a98 μ99 =>
    ((pV μ99 a1 12 40 (.ref a98)).bind fun μ100 =>
    (bd (nA μ100 0 (6 : Int32)) fun a101 μ102 =>
    ((pV μ102 a1 12 41 (.ref a101)).bind fun μ103 =>
    (bd (nA μ103 0 (72 : Int32)) fun a104 μ105 =>
    ((pV μ105 a1 12 42 (.ref a104)).bind fun μ106 =>
    (bd (nA μ106 0 (72 : Int32)) fun a107 μ108 =>
    ((pV μ108 a1 12 43 (.ref a107)).bind fun μ109 =>
    (bd (nA μ109 0 (72 : Int32)) fun a110 μ111 =>
    ((pV μ111 a1 12 44 (.ref a110)).bind fun μ112 =>
    (bd (nA μ112 0 (402 : Int32)) fun a113 μ114 =>
    ((pV μ114 a1 12 45 (.ref a113)).bind fun μ115 =>
    (bd (nA μ115 2 (72 : Int32)) fun a116 μ117 =>
    ((pV μ117 a1 12 46 (.ref a116)).bind fun μ118 =>
    (bd (nA μ118 3 (12 : Int32)) fun a119 μ120 =>
    ((pV μ120 a1 12 47 (.ref a119)).bind fun μ121 =>
    (bd (nA μ121 3 (300 : Int32)) fun a122 μ123 =>
    ((pV μ123 a1 12 48 (.ref a122)).bind fun μ124 =>
    (bd (nA μ124 0 (280 : Int32)) fun a125 μ126 =>
    ((pV μ126 a1 12 53 (.ref a125)).bind fun μ127 =>
    (bd (nA μ127 0 (1 : Int32)) fun a128 μ129 =>
    ((pV μ129 a1 12 54 (.ref a128)).bind fun μ130 =>
    (bd (nA μ130 0 (11 : Int32)) fun a131 μ132 =>
    ((pV μ132 a1 12 58 (.ref a131)).bind fun μ133 =>
    (bd (nA μ133 0 (11 : Int32)) fun a134 μ135 =>
    ((pV μ135 a1 12 59 (.ref a134)).bind fun μ136 =>
    (bd (nA μ136 0 (11 : Int32)) fun a137 μ138 =>
    ((pV μ138 a1 12 60 (.ref a137)).bind fun μ139 =>
    (bd (nA μ139 0 (11 : Int32)) fun a140 μ141 =>
    ((pV μ141 a1 12 61 (.ref a140)).bind fun μ142 =>
    (bd (nA μ142 0 (11 : Int32)) fun a143 μ144 =>
    ((pV μ144 a1 12 62 (.ref a143)).bind fun μ145 =>
    (bd (nA μ145 0 (8 : Int32)) fun a146 μ147 =>
    ((pV μ147 a1 12 65 (.ref a146)).bind fun μ148 =>
    (bd (nA μ148 0 (4 : Int32)) fun a149 μ150 =>
    ((pV μ150 a1 12 66 (.ref a149)).bind fun μ151 =>
    (bd (nA μ151 0 (4 : Int32)) fun a152 μ153 =>
    ((pV μ153 a1 12 67 (.ref a152)).bind fun μ154 =>
    (bd (nA μ154 2 (48 : Int32)) fun a155 μ156 =>
    ((pV μ156 a1 12 68 (.ref a155)).bind fun μ157 =>
    (bd (nA μ157 3 (48 : Int32)) fun a158 μ159 =>
    ((pV μ159 a1 12 69 (.ref a158)).bind fun μ160 =>
    (bd (nA μ160 0 (8 : Int32)) fun a161 μ162 =>
    ((pV μ162 a1 12 70 (.ref a161)).bind fun μ163 =>
    (bd (nA μ163 0 (8 : Int32)) fun a164 μ165 =>
    ((pV μ165 a1 12 71 (.ref a164)).bind fun μ166 =>
    (bd (nA μ166 0 (2300 : Int32)) fun a167 μ168 =>
    ((pV μ168 a1 12 73 (.ref a167)).bind fun μ169 =>
    (bd (nA μ169 2 (4 : Int32)) fun a170 μ171 =>
    ((pV μ171 a1 12 74 (.ref a170)).bind fun μ172 =>
    (some μ172)))))))))))))))))))))))))))))))))))))))))))))))))))))))))))))))))))))))))))))))))))))))))))))))))))))))))))))))))))))))
set_option maxHeartbeats 4000000 in
set_option maxRecDepth 100000 in
theorem f_X12_init_ok {l : Launch} {G : GG} {μ0 : Mm} {a1 : Nat} {μ' : Mm} (hf : f_X12_init μ0 a1 = some μ') : EvM l G D_X12_init yX12_init cX12_init 1 none [.ref a1] μ0 none μ' := by
  show Ev l G D_X12_init yX12_init cX12_init 1 none 0 [(0, .ref a1)] [] μ0 none μ'
  unfold f_X12_init at hf
  refine E_aload_n (pc := 0) dX12_init_0 rfl ?_
  refine E_objI (pc := 1) dX12_init_1 (by decide) (Nat.le_of_ble_eq_true rfl) ml_X12_3 ?_
  refine E_aload_n (pc := 4) dX12_init_4 rfl ?_
  refine E_bipush (pc := 5) (v := (11 : Int32)) dX12_init_5 (by decide) ?_
  refine E_newa2 (pc := 7) dX12_init_7 (by decide) ac_int hf (fun a2 μ3 hf => ?_)
  refine E_dup (pc := 9) dX12_init_9 rfl ?_
  refine E_iconst (pc := 10) (v := (0 : Int32)) dX12_init_10 (by decide) ?_
  refine E_iconst (pc := 11) (v := (0 : Int32)) dX12_init_11 (by decide) ?_
  refine E_iast (pc := 12) dX12_init_12 hf (fun μ4 hf => ?_)
  refine E_dup (pc := 13) dX12_init_13 rfl ?_
  refine E_iconst (pc := 14) (v := (1 : Int32)) dX12_init_14 (by decide) ?_
  refine E_iconst (pc := 15) (v := (0 : Int32)) dX12_init_15 (by decide) ?_
  refine E_iast (pc := 16) dX12_init_16 hf (fun μ5 hf => ?_)
  refine E_dup (pc := 17) dX12_init_17 rfl ?_
  refine E_iconst (pc := 18) (v := (2 : Int32)) dX12_init_18 (by decide) ?_
  refine E_iconst (pc := 19) (v := (0 : Int32)) dX12_init_19 (by decide) ?_
  refine E_iast (pc := 20) dX12_init_20 hf (fun μ6 hf => ?_)
  refine E_dup (pc := 21) dX12_init_21 rfl ?_
  refine E_iconst (pc := 22) (v := (3 : Int32)) dX12_init_22 (by decide) ?_
  refine E_iconst (pc := 23) (v := (0 : Int32)) dX12_init_23 (by decide) ?_
  refine E_iast (pc := 24) dX12_init_24 hf (fun μ7 hf => ?_)
  refine E_dup (pc := 25) dX12_init_25 rfl ?_
  refine E_iconst (pc := 26) (v := (4 : Int32)) dX12_init_26 (by decide) ?_
  refine E_iconst (pc := 27) (v := (0 : Int32)) dX12_init_27 (by decide) ?_
  refine E_iast (pc := 28) dX12_init_28 hf (fun μ8 hf => ?_)
  refine E_dup (pc := 29) dX12_init_29 rfl ?_
  refine E_iconst (pc := 30) (v := (5 : Int32)) dX12_init_30 (by decide) ?_
  refine E_iconst (pc := 31) (v := (0 : Int32)) dX12_init_31 (by decide) ?_
  refine E_iast (pc := 32) dX12_init_32 hf (fun μ9 hf => ?_)
  refine E_dup (pc := 33) dX12_init_33 rfl ?_
  refine E_bipush (pc := 34) (v := (6 : Int32)) dX12_init_34 (by decide) ?_
  refine E_iconst (pc := 36) (v := (0 : Int32)) dX12_init_36 (by decide) ?_
  refine E_iast (pc := 37) dX12_init_37 hf (fun μ10 hf => ?_)
  refine E_dup (pc := 38) dX12_init_38 rfl ?_
  refine E_bipush (pc := 39) (v := (7 : Int32)) dX12_init_39 (by decide) ?_
  refine E_iconst (pc := 41) (v := (0 : Int32)) dX12_init_41 (by decide) ?_
  refine E_iast (pc := 42) dX12_init_42 hf (fun μ11 hf => ?_)
  refine E_dup (pc := 43) dX12_init_43 rfl ?_
  refine E_bipush (pc := 44) (v := (8 : Int32)) dX12_init_44 (by decide) ?_
  refine E_iconst (pc := 46) (v := (0 : Int32)) dX12_init_46 (by decide) ?_
  refine E_iast (pc := 47) dX12_init_47 hf (fun μ12 hf => ?_)
  refine E_dup (pc := 48) dX12_init_48 rfl ?_
  refine E_bipush (pc := 49) (v := (9 : Int32)) dX12_init_49 (by decide) ?_
  refine E_iconst (pc := 51) (v := (0 : Int32)) dX12_init_51 (by decide) ?_
  refine E_iast (pc := 52) dX12_init_52 hf (fun μ13 hf => ?_)
  refine E_dup (pc := 53) dX12_init_53 rfl ?_
  refine E_bipush (pc := 54) (v := (10 : Int32)) dX12_init_54 (by decide) ?_
  refine E_iconst (pc := 56) (v := (-1 : Int32)) dX12_init_56 (by decide) ?_
  refine E_iast (pc := 57) dX12_init_57 hf (fun μ14 hf => ?_)
  refine E_putA (pc := 58) dX12_init_58 pl_X12_9 hf (fun μ15 hf => ?_)
  refine E_aload_n (pc := 61) dX12_init_61 rfl ?_
  refine E_bipush (pc := 62) (v := (48 : Int32)) dX12_init_62 (by decide) ?_
  refine E_newa2 (pc := 64) dX12_init_64 (by decide) ac_int hf (fun a16 μ17 hf => ?_)
  refine E_putA (pc := 66) dX12_init_66 pl_X12_13 hf (fun μ18 hf => ?_)
  refine E_aload_n (pc := 69) dX12_init_69 rfl ?_
  refine E_iconst (pc := 70) (v := (5 : Int32)) dX12_init_70 (by decide) ?_
  refine E_newa2 (pc := 71) dX12_init_71 (by decide) ac_int hf (fun a19 μ20 hf => ?_)
  refine E_putA (pc := 73) dX12_init_73 pl_X12_16 hf (fun μ21 hf => ?_)
  refine E_aload_n (pc := 76) dX12_init_76 rfl ?_
  refine E_iconst (pc := 77) (v := (5 : Int32)) dX12_init_77 (by decide) ?_
  refine E_newa2 (pc := 78) dX12_init_78 (by decide) ac_int hf (fun a22 μ23 hf => ?_)
  refine E_putA (pc := 80) dX12_init_80 pl_X12_19 hf (fun μ24 hf => ?_)
  refine E_aload_n (pc := 83) dX12_init_83 rfl ?_
  refine E_bipush (pc := 84) (v := (8 : Int32)) dX12_init_84 (by decide) ?_
  refine E_newa2 (pc := 86) dX12_init_86 (by decide) ac_int hf (fun a25 μ26 hf => ?_)
  refine E_putA (pc := 88) dX12_init_88 pl_X12_22 hf (fun μ27 hf => ?_)
  refine E_aload_n (pc := 91) dX12_init_91 rfl ?_
  refine E_bipush (pc := 92) (v := (8 : Int32)) dX12_init_92 (by decide) ?_
  refine E_newa2 (pc := 94) dX12_init_94 (by decide) ac_int hf (fun a28 μ29 hf => ?_)
  refine E_putA (pc := 96) dX12_init_96 pl_X12_25 hf (fun μ30 hf => ?_)
  refine E_aload_n (pc := 99) dX12_init_99 rfl ?_
  refine E_bipush (pc := 100) (v := (8 : Int32)) dX12_init_100 (by decide) ?_
  refine E_newa2 (pc := 102) dX12_init_102 (by decide) ac_int hf (fun a31 μ32 hf => ?_)
  refine E_putA (pc := 104) dX12_init_104 pl_X12_28 hf (fun μ33 hf => ?_)
  refine E_aload_n (pc := 107) dX12_init_107 rfl ?_
  refine E_bipush (pc := 108) (v := (8 : Int32)) dX12_init_108 (by decide) ?_
  refine E_newa2 (pc := 110) dX12_init_110 (by decide) ac_int hf (fun a34 μ35 hf => ?_)
  refine E_putA (pc := 112) dX12_init_112 pl_X12_31 hf (fun μ36 hf => ?_)
  refine E_aload_n (pc := 115) dX12_init_115 rfl ?_
  refine E_iconst (pc := 116) (v := (4 : Int32)) dX12_init_116 (by decide) ?_
  refine E_newa2 (pc := 117) dX12_init_117 (by decide) ac_int hf (fun a37 μ38 hf => ?_)
  refine E_putA (pc := 119) dX12_init_119 pl_X12_34 hf (fun μ39 hf => ?_)
  refine E_aload_n (pc := 122) dX12_init_122 rfl ?_
  refine E_bipush (pc := 123) (v := (8 : Int32)) dX12_init_123 (by decide) ?_
  refine E_newa2 (pc := 125) dX12_init_125 (by decide) ac_int hf (fun a40 μ41 hf => ?_)
  refine E_putA (pc := 127) dX12_init_127 pl_X12_37 hf (fun μ42 hf => ?_)
  refine E_aload_n (pc := 130) dX12_init_130 rfl ?_
  refine E_bipush (pc := 131) (v := (10 : Int32)) dX12_init_131 (by decide) ?_
  refine E_newa2 (pc := 133) dX12_init_133 (by decide) ac_int hf (fun a43 μ44 hf => ?_)
  refine E_putA (pc := 135) dX12_init_135 pl_X12_40 hf (fun μ45 hf => ?_)
  refine E_aload_n (pc := 138) dX12_init_138 rfl ?_
  refine E_bipush (pc := 139) (v := (10 : Int32)) dX12_init_139 (by decide) ?_
  refine E_newa2 (pc := 141) dX12_init_141 (by decide) ac_int hf (fun a46 μ47 hf => ?_)
  refine E_putA (pc := 143) dX12_init_143 pl_X12_43 hf (fun μ48 hf => ?_)
  refine E_aload_n (pc := 146) dX12_init_146 rfl ?_
  refine E_bipush (pc := 147) (v := (8 : Int32)) dX12_init_147 (by decide) ?_
  refine E_newa2 (pc := 149) dX12_init_149 (by decide) ac_int hf (fun a49 μ50 hf => ?_)
  refine E_putA (pc := 151) dX12_init_151 pl_X12_46 hf (fun μ51 hf => ?_)
  refine E_aload_n (pc := 154) dX12_init_154 rfl ?_
  refine E_bipush (pc := 155) (v := (8 : Int32)) dX12_init_155 (by decide) ?_
  refine E_newa2 (pc := 157) dX12_init_157 (by decide) ac_int hf (fun a52 μ53 hf => ?_)
  refine E_putA (pc := 159) dX12_init_159 pl_X12_49 hf (fun μ54 hf => ?_)
  refine E_aload_n (pc := 162) dX12_init_162 rfl ?_
  refine E_bipush (pc := 163) (v := (7 : Int32)) dX12_init_163 (by decide) ?_
  refine E_newa2 (pc := 165) dX12_init_165 (by decide) ac_int hf (fun a55 μ56 hf => ?_)
  refine E_putA (pc := 167) dX12_init_167 pl_X12_52 hf (fun μ57 hf => ?_)
  refine E_aload_n (pc := 170) dX12_init_170 rfl ?_
  refine E_bipush (pc := 171) (v := (48 : Int32)) dX12_init_171 (by decide) ?_
  refine E_newa2 (pc := 173) dX12_init_173 (by decide) ac_int hf (fun a58 μ59 hf => ?_)
  refine E_putA (pc := 175) dX12_init_175 pl_X12_55 hf (fun μ60 hf => ?_)
  refine E_aload_n (pc := 178) dX12_init_178 rfl ?_
  refine E_iconst (pc := 179) (v := (5 : Int32)) dX12_init_179 (by decide) ?_
  refine E_newa2 (pc := 180) dX12_init_180 (by decide) ac_int hf (fun a61 μ62 hf => ?_)
  refine E_putA (pc := 182) dX12_init_182 pl_X12_58 hf (fun μ63 hf => ?_)
  refine E_aload_n (pc := 185) dX12_init_185 rfl ?_
  refine E_iconst (pc := 186) (v := (5 : Int32)) dX12_init_186 (by decide) ?_
  refine E_newa2 (pc := 187) dX12_init_187 (by decide) ac_int hf (fun a64 μ65 hf => ?_)
  refine E_putA (pc := 189) dX12_init_189 pl_X12_61 hf (fun μ66 hf => ?_)
  refine E_aload_n (pc := 192) dX12_init_192 rfl ?_
  refine E_bipush (pc := 193) (v := (8 : Int32)) dX12_init_193 (by decide) ?_
  refine E_newa2 (pc := 195) dX12_init_195 (by decide) ac_int hf (fun a67 μ68 hf => ?_)
  refine E_putA (pc := 197) dX12_init_197 pl_X12_64 hf (fun μ69 hf => ?_)
  refine E_aload_n (pc := 200) dX12_init_200 rfl ?_
  refine E_bipush (pc := 201) (v := (8 : Int32)) dX12_init_201 (by decide) ?_
  refine E_newa2 (pc := 203) dX12_init_203 (by decide) ac_int hf (fun a70 μ71 hf => ?_)
  refine E_putA (pc := 205) dX12_init_205 pl_X12_67 hf (fun μ72 hf => ?_)
  refine E_aload_n (pc := 208) dX12_init_208 rfl ?_
  refine E_bipush (pc := 209) (v := (8 : Int32)) dX12_init_209 (by decide) ?_
  refine E_newa2 (pc := 211) dX12_init_211 (by decide) ac_int hf (fun a73 μ74 hf => ?_)
  refine E_putA (pc := 213) dX12_init_213 pl_X12_70 hf (fun μ75 hf => ?_)
  refine E_aload_n (pc := 216) dX12_init_216 rfl ?_
  refine E_bipush (pc := 217) (v := (8 : Int32)) dX12_init_217 (by decide) ?_
  refine E_newa2 (pc := 219) dX12_init_219 (by decide) ac_int hf (fun a76 μ77 hf => ?_)
  refine E_putA (pc := 221) dX12_init_221 pl_X12_73 hf (fun μ78 hf => ?_)
  refine E_aload_n (pc := 224) dX12_init_224 rfl ?_
  refine E_iconst (pc := 225) (v := (4 : Int32)) dX12_init_225 (by decide) ?_
  refine E_newa2 (pc := 226) dX12_init_226 (by decide) ac_int hf (fun a79 μ80 hf => ?_)
  refine E_putA (pc := 228) dX12_init_228 pl_X12_76 hf (fun μ81 hf => ?_)
  refine E_aload_n (pc := 231) dX12_init_231 rfl ?_
  refine E_bipush (pc := 232) (v := (8 : Int32)) dX12_init_232 (by decide) ?_
  refine E_newa2 (pc := 234) dX12_init_234 (by decide) ac_int hf (fun a82 μ83 hf => ?_)
  refine E_putA (pc := 236) dX12_init_236 pl_X12_79 hf (fun μ84 hf => ?_)
  refine E_aload_n (pc := 239) dX12_init_239 rfl ?_
  refine E_bipush (pc := 240) (v := (10 : Int32)) dX12_init_240 (by decide) ?_
  refine E_newa2 (pc := 242) dX12_init_242 (by decide) ac_int hf (fun a85 μ86 hf => ?_)
  refine E_putA (pc := 244) dX12_init_244 pl_X12_82 hf (fun μ87 hf => ?_)
  refine E_aload_n (pc := 247) dX12_init_247 rfl ?_
  refine E_bipush (pc := 248) (v := (10 : Int32)) dX12_init_248 (by decide) ?_
  refine E_newa2 (pc := 250) dX12_init_250 (by decide) ac_int hf (fun a88 μ89 hf => ?_)
  refine E_putA (pc := 252) dX12_init_252 pl_X12_85 hf (fun μ90 hf => ?_)
  refine E_aload_n (pc := 255) dX12_init_255 rfl ?_
  refine E_bipush (pc := 256) (v := (12 : Int32)) dX12_init_256 (by decide) ?_
  refine E_putI (pc := 258) dX12_init_258 (pl_X12_88 _) hf (fun μ91 hf => ?_)
  refine E_aload_n (pc := 261) dX12_init_261 rfl ?_
  refine E_sipush (pc := 262) (v := (400 : Int32)) dX12_init_262 (by decide) ?_
  refine E_newa2 (pc := 265) dX12_init_265 (by decide) ac_byte hf (fun a92 μ93 hf => ?_)
  refine E_putA (pc := 267) dX12_init_267 pl_X12_92 hf (fun μ94 hf => ?_)
  refine E_aload_n (pc := 270) dX12_init_270 rfl ?_
  refine E_sipush (pc := 271) (v := (1800 : Int32)) dX12_init_271 (by decide) ?_
  refine E_newa2 (pc := 274) dX12_init_274 (by decide) ac_int hf (fun a95 μ96 hf => ?_)
  refine E_putA (pc := 276) dX12_init_276 pl_X12_96 hf (fun μ97 hf => ?_)
  refine E_aload_n (pc := 279) dX12_init_279 rfl ?_
  refine E_sipush (pc := 280) (v := (1800 : Int32)) dX12_init_280 (by decide) ?_
  refine E_newa2 (pc := 283) dX12_init_283 (by decide) ac_int hf (fun a98 μ99 hf => ?_)
  refine E_putA (pc := 285) dX12_init_285 pl_X12_99 hf (fun μ100 hf => ?_)
  refine E_aload_n (pc := 288) dX12_init_288 rfl ?_
  refine E_bipush (pc := 289) (v := (6 : Int32)) dX12_init_289 (by decide) ?_
  refine E_newa2 (pc := 291) dX12_init_291 (by decide) ac_int hf (fun a101 μ102 hf => ?_)
  refine E_putA (pc := 293) dX12_init_293 pl_X12_102 hf (fun μ103 hf => ?_)
  refine E_aload_n (pc := 296) dX12_init_296 rfl ?_
  refine E_bipush (pc := 297) (v := (72 : Int32)) dX12_init_297 (by decide) ?_
  refine E_newa2 (pc := 299) dX12_init_299 (by decide) ac_int hf (fun a104 μ105 hf => ?_)
  refine E_putA (pc := 301) dX12_init_301 pl_X12_105 hf (fun μ106 hf => ?_)
  refine E_aload_n (pc := 304) dX12_init_304 rfl ?_
  refine E_bipush (pc := 305) (v := (72 : Int32)) dX12_init_305 (by decide) ?_
  refine E_newa2 (pc := 307) dX12_init_307 (by decide) ac_int hf (fun a107 μ108 hf => ?_)
  refine E_putA (pc := 309) dX12_init_309 pl_X12_108 hf (fun μ109 hf => ?_)
  refine E_aload_n (pc := 312) dX12_init_312 rfl ?_
  refine E_bipush (pc := 313) (v := (72 : Int32)) dX12_init_313 (by decide) ?_
  refine E_newa2 (pc := 315) dX12_init_315 (by decide) ac_int hf (fun a110 μ111 hf => ?_)
  refine E_putA (pc := 317) dX12_init_317 pl_X12_111 hf (fun μ112 hf => ?_)
  refine E_aload_n (pc := 320) dX12_init_320 rfl ?_
  refine E_sipush (pc := 321) (v := (402 : Int32)) dX12_init_321 (by decide) ?_
  refine E_newa2 (pc := 324) dX12_init_324 (by decide) ac_int hf (fun a113 μ114 hf => ?_)
  refine E_putA (pc := 326) dX12_init_326 pl_X12_114 hf (fun μ115 hf => ?_)
  refine E_aload_n (pc := 329) dX12_init_329 rfl ?_
  refine E_bipush (pc := 330) (v := (72 : Int32)) dX12_init_330 (by decide) ?_
  refine E_newa2 (pc := 332) dX12_init_332 (by decide) ac_boolean hf (fun a116 μ117 hf => ?_)
  refine E_putA (pc := 334) dX12_init_334 pl_X12_117 hf (fun μ118 hf => ?_)
  refine E_aload_n (pc := 337) dX12_init_337 rfl ?_
  refine E_bipush (pc := 338) (v := (12 : Int32)) dX12_init_338 (by decide) ?_
  refine E_newa2 (pc := 340) dX12_init_340 (by decide) ac_long hf (fun a119 μ120 hf => ?_)
  refine E_putA (pc := 342) dX12_init_342 pl_X12_121 hf (fun μ121 hf => ?_)
  refine E_aload_n (pc := 345) dX12_init_345 rfl ?_
  refine E_sipush (pc := 346) (v := (300 : Int32)) dX12_init_346 (by decide) ?_
  refine E_newa2 (pc := 349) dX12_init_349 (by decide) ac_long hf (fun a122 μ123 hf => ?_)
  refine E_putA (pc := 351) dX12_init_351 pl_X12_125 hf (fun μ124 hf => ?_)
  refine E_aload_n (pc := 354) dX12_init_354 rfl ?_
  refine E_sipush (pc := 355) (v := (280 : Int32)) dX12_init_355 (by decide) ?_
  refine E_newa2 (pc := 358) dX12_init_358 (by decide) ac_int hf (fun a125 μ126 hf => ?_)
  refine E_putA (pc := 360) dX12_init_360 pl_X12_128 hf (fun μ127 hf => ?_)
  refine E_aload_n (pc := 363) dX12_init_363 rfl ?_
  refine E_iconst (pc := 364) (v := (1 : Int32)) dX12_init_364 (by decide) ?_
  refine E_newa2 (pc := 365) dX12_init_365 (by decide) ac_int hf (fun a128 μ129 hf => ?_)
  refine E_putA (pc := 367) dX12_init_367 pl_X12_131 hf (fun μ130 hf => ?_)
  refine E_aload_n (pc := 370) dX12_init_370 rfl ?_
  refine E_bipush (pc := 371) (v := (11 : Int32)) dX12_init_371 (by decide) ?_
  refine E_newa2 (pc := 373) dX12_init_373 (by decide) ac_int hf (fun a131 μ132 hf => ?_)
  refine E_putA (pc := 375) dX12_init_375 pl_X12_134 hf (fun μ133 hf => ?_)
  refine E_aload_n (pc := 378) dX12_init_378 rfl ?_
  refine E_bipush (pc := 379) (v := (11 : Int32)) dX12_init_379 (by decide) ?_
  refine E_newa2 (pc := 381) dX12_init_381 (by decide) ac_int hf (fun a134 μ135 hf => ?_)
  refine E_putA (pc := 383) dX12_init_383 pl_X12_137 hf (fun μ136 hf => ?_)
  refine E_aload_n (pc := 386) dX12_init_386 rfl ?_
  refine E_bipush (pc := 387) (v := (11 : Int32)) dX12_init_387 (by decide) ?_
  refine E_newa2 (pc := 389) dX12_init_389 (by decide) ac_int hf (fun a137 μ138 hf => ?_)
  refine E_putA (pc := 391) dX12_init_391 pl_X12_140 hf (fun μ139 hf => ?_)
  refine E_aload_n (pc := 394) dX12_init_394 rfl ?_
  refine E_bipush (pc := 395) (v := (11 : Int32)) dX12_init_395 (by decide) ?_
  refine E_newa2 (pc := 397) dX12_init_397 (by decide) ac_int hf (fun a140 μ141 hf => ?_)
  refine E_putA (pc := 399) dX12_init_399 pl_X12_143 hf (fun μ142 hf => ?_)
  refine E_aload_n (pc := 402) dX12_init_402 rfl ?_
  refine E_bipush (pc := 403) (v := (11 : Int32)) dX12_init_403 (by decide) ?_
  refine E_newa2 (pc := 405) dX12_init_405 (by decide) ac_int hf (fun a143 μ144 hf => ?_)
  refine E_putA (pc := 407) dX12_init_407 pl_X12_146 hf (fun μ145 hf => ?_)
  refine E_aload_n (pc := 410) dX12_init_410 rfl ?_
  refine E_bipush (pc := 411) (v := (8 : Int32)) dX12_init_411 (by decide) ?_
  refine E_newa2 (pc := 413) dX12_init_413 (by decide) ac_int hf (fun a146 μ147 hf => ?_)
  refine E_putA (pc := 415) dX12_init_415 pl_X12_149 hf (fun μ148 hf => ?_)
  refine E_aload_n (pc := 418) dX12_init_418 rfl ?_
  refine E_iconst (pc := 419) (v := (4 : Int32)) dX12_init_419 (by decide) ?_
  refine E_newa2 (pc := 420) dX12_init_420 (by decide) ac_int hf (fun a149 μ150 hf => ?_)
  refine E_putA (pc := 422) dX12_init_422 pl_X12_152 hf (fun μ151 hf => ?_)
  refine E_aload_n (pc := 425) dX12_init_425 rfl ?_
  refine E_iconst (pc := 426) (v := (4 : Int32)) dX12_init_426 (by decide) ?_
  refine E_newa2 (pc := 427) dX12_init_427 (by decide) ac_int hf (fun a152 μ153 hf => ?_)
  refine E_putA (pc := 429) dX12_init_429 pl_X12_155 hf (fun μ154 hf => ?_)
  refine E_aload_n (pc := 432) dX12_init_432 rfl ?_
  refine E_bipush (pc := 433) (v := (48 : Int32)) dX12_init_433 (by decide) ?_
  refine E_newa2 (pc := 435) dX12_init_435 (by decide) ac_boolean hf (fun a155 μ156 hf => ?_)
  refine E_putA (pc := 437) dX12_init_437 pl_X12_158 hf (fun μ157 hf => ?_)
  refine E_aload_n (pc := 440) dX12_init_440 rfl ?_
  refine E_bipush (pc := 441) (v := (48 : Int32)) dX12_init_441 (by decide) ?_
  refine E_newa2 (pc := 443) dX12_init_443 (by decide) ac_long hf (fun a158 μ159 hf => ?_)
  refine E_putA (pc := 445) dX12_init_445 pl_X12_161 hf (fun μ160 hf => ?_)
  refine E_aload_n (pc := 448) dX12_init_448 rfl ?_
  refine E_bipush (pc := 449) (v := (8 : Int32)) dX12_init_449 (by decide) ?_
  refine E_newa2 (pc := 451) dX12_init_451 (by decide) ac_int hf (fun a161 μ162 hf => ?_)
  refine E_putA (pc := 453) dX12_init_453 pl_X12_164 hf (fun μ163 hf => ?_)
  refine E_aload_n (pc := 456) dX12_init_456 rfl ?_
  refine E_bipush (pc := 457) (v := (8 : Int32)) dX12_init_457 (by decide) ?_
  refine E_newa2 (pc := 459) dX12_init_459 (by decide) ac_int hf (fun a164 μ165 hf => ?_)
  refine E_putA (pc := 461) dX12_init_461 pl_X12_167 hf (fun μ166 hf => ?_)
  refine E_aload_n (pc := 464) dX12_init_464 rfl ?_
  refine E_sipush (pc := 465) (v := (2300 : Int32)) dX12_init_465 (by decide) ?_
  refine E_newa2 (pc := 468) dX12_init_468 (by decide) ac_int hf (fun a167 μ168 hf => ?_)
  refine E_putA (pc := 470) dX12_init_470 pl_X12_170 hf (fun μ169 hf => ?_)
  refine E_aload_n (pc := 473) dX12_init_473 rfl ?_
  refine E_iconst (pc := 474) (v := (4 : Int32)) dX12_init_474 (by decide) ?_
  refine E_newa2 (pc := 475) dX12_init_475 (by decide) ac_boolean hf (fun a170 μ171 hf => ?_)
  refine E_putA (pc := 477) dX12_init_477 pl_X12_173 hf (fun μ172 hf => ?_)
  exact E_vret (pc := 480) dX12_init_480 rfl hf
theorem dX12_in_0 : decode cX12_in 0 = .ok (.lload_n 0, 1) := by decide +kernel
theorem dX12_in_1 : decode cX12_in 1 = .ok (.lload_n 2, 1) := by decide +kernel
theorem dX12_in_2 : decode cX12_in 2 = .ok (.lcmp, 1) := by decide +kernel
theorem dX12_in_3 : decode cX12_in 3 = .ok (.ifCond .lt 14, 3) := by decide +kernel
theorem dX12_in_6 : decode cX12_in 6 = .ok (.lload_n 0, 1) := by decide +kernel
theorem dX12_in_7 : decode cX12_in 7 = .ok (.lload 4, 2) := by decide +kernel
theorem dX12_in_9 : decode cX12_in 9 = .ok (.lcmp, 1) := by decide +kernel
theorem dX12_in_10 : decode cX12_in 10 = .ok (.ifCond .gt 7, 3) := by decide +kernel
theorem dX12_in_13 : decode cX12_in 13 = .ok (.iconst 1, 1) := by decide +kernel
theorem dX12_in_14 : decode cX12_in 14 = .ok (.goto 4, 3) := by decide +kernel
theorem dX12_in_17 : decode cX12_in 17 = .ok (.iconst 0, 1) := by decide +kernel
theorem dX12_in_18 : decode cX12_in 18 = .ok (.ireturn, 1) := by decide +kernel
abbrev D_X12_in : Nat := 1
set_option maxRecDepth 100000 in
def f_X12_in (μ0 : Mm) (w1 : Int64) (w2 : Int64) (w3 : Int64) : Option (Int32 × Mm) :=
 (if (lg_cmp w1 w2) < 0 then
    (if (0 : Int32) = 0 ∨ (0 : Int32) = 1 then some ((0 : Int32), μ0) else none)
    else
    (if 0 < (lg_cmp w1 w3) then
    (if (0 : Int32) = 0 ∨ (0 : Int32) = 1 then some ((0 : Int32), μ0) else none)
    else
    (if (1 : Int32) = 0 ∨ (1 : Int32) = 1 then some ((1 : Int32), μ0) else none)))
set_option maxHeartbeats 4000000 in
set_option maxRecDepth 100000 in
theorem f_X12_in_ok {l : Launch} {G : GG} {μ0 : Mm} {w1 : Int64} {w2 : Int64} {w3 : Int64} {r : Int32} {μ' : Mm} (hf : f_X12_in μ0 w1 w2 w3 = some (r, μ')) : EvM l G D_X12_in yX12_in cX12_in 6 (some .boolean) [.long w1, .long w2, .long w3] μ0 (some (.int r)) μ' := by
  show Ev l G D_X12_in yX12_in cX12_in 6 (some .boolean) 0 [(0, .long w1), (2, .long w2), (4, .long w3)] [] μ0 (some (.int r)) μ'
  unfold f_X12_in at hf
  refine E_lload_n (pc := 0) dX12_in_0 rfl ?_
  refine E_lload_n (pc := 1) dX12_in_1 rfl ?_
  refine E_lcmp (pc := 2) dX12_in_2 ?_
  refine E_if_lt (pc := 3) (tgt := 17) dX12_in_3 (by decide) hf (fun hf => ?_) (fun hf => ?_)
  · refine E_iconst (pc := 17) (v := (0 : Int32)) dX12_in_17 (by decide) ?_
    exact E_zret (pc := 18) dX12_in_18 rfl hf
  · refine E_lload_n (pc := 6) dX12_in_6 rfl ?_
    refine E_lload (pc := 7) dX12_in_7 rfl ?_
    refine E_lcmp (pc := 9) dX12_in_9 ?_
    refine E_if_gt (pc := 10) (tgt := 17) dX12_in_10 (by decide) hf (fun hf => ?_) (fun hf => ?_)
    · refine E_iconst (pc := 17) (v := (0 : Int32)) dX12_in_17 (by decide) ?_
      exact E_zret (pc := 18) dX12_in_18 rfl hf
    · refine E_iconst (pc := 13) (v := (1 : Int32)) dX12_in_13 (by decide) ?_
      refine E_goto (pc := 14) (tgt := 18) dX12_in_14 (by decide) ?_
      exact E_zret (pc := 18) dX12_in_18 rfl hf
theorem dX12_bits_0 : decode cX12_bits 0 = .ok (.iconst 0, 1) := by decide +kernel
theorem dX12_bits_1 : decode cX12_bits 1 = .ok (.istore_n 1, 1) := by decide +kernel
theorem dX12_bits_2 : decode cX12_bits 2 = .ok (.iconst 0, 1) := by decide +kernel
theorem dX12_bits_3 : decode cX12_bits 3 = .ok (.istore_n 2, 1) := by decide +kernel
theorem dX12_bits_4 : decode cX12_bits 4 = .ok (.iload_n 2, 1) := by decide +kernel
theorem dX12_bits_5 : decode cX12_bits 5 = .ok (.bipush 16, 2) := by decide +kernel
theorem dX12_bits_7 : decode cX12_bits 7 = .ok (.if_icmp .ge 17, 3) := by decide +kernel
theorem dX12_bits_10 : decode cX12_bits 10 = .ok (.iload_n 1, 1) := by decide +kernel
theorem dX12_bits_11 : decode cX12_bits 11 = .ok (.iload_n 0, 1) := by decide +kernel
theorem dX12_bits_12 : decode cX12_bits 12 = .ok (.iload_n 2, 1) := by decide +kernel
theorem dX12_bits_13 : decode cX12_bits 13 = .ok (.ishr, 1) := by decide +kernel
theorem dX12_bits_14 : decode cX12_bits 14 = .ok (.iconst 1, 1) := by decide +kernel
theorem dX12_bits_15 : decode cX12_bits 15 = .ok (.iand, 1) := by decide +kernel
theorem dX12_bits_16 : decode cX12_bits 16 = .ok (.iadd, 1) := by decide +kernel
theorem dX12_bits_17 : decode cX12_bits 17 = .ok (.istore_n 1, 1) := by decide +kernel
theorem dX12_bits_18 : decode cX12_bits 18 = .ok (.iinc 2 1, 3) := by decide +kernel
theorem dX12_bits_21 : decode cX12_bits 21 = .ok (.goto (-17), 3) := by decide +kernel
theorem dX12_bits_24 : decode cX12_bits 24 = .ok (.iload_n 1, 1) := by decide +kernel
theorem dX12_bits_25 : decode cX12_bits 25 = .ok (.ireturn, 1) := by decide +kernel
abbrev D_X12_bits : Nat := 1
def f_X12_bits_L4 (K24 : Mm → Int32 → Option (Int32 × Mm)) : Nat → Mm → Int32 → Int32 → Int32 → Option (Int32 × Mm)
  | 0, _, _, _, _ => none
  | n + 1, μ0, x4, x5, x6 =>
    (if (16 : Int32) ≤ x6 then
    K24 μ0 x5
    else
    (nm (x5 + ((x4 >>> (x6 &&& 31)) &&& (1 : Int32))) fun x7 =>
    (nm (x6 + Int32.ofInt (1)) fun x8 =>
    f_X12_bits_L4 K24 n μ0 x4 x7 x8)))
set_option maxHeartbeats 4000000 in
set_option maxRecDepth 100000 in
theorem f_X12_bits_L4_ok {l : Launch} {G : GG} {K24 : Mm → Int32 → Option (Int32 × Mm)} {r : Int32} {μ' : Mm} (n : Nat) (μ0 : Mm) (x4 : Int32) (x5 : Int32) (x6 : Int32) (hf : f_X12_bits_L4 K24 n μ0 x4 x5 x6 = some (r, μ')) (hK24 : ∀ (μ1 : Mm) (y1 : Int32), K24 μ1 y1 = some (r, μ') → Ev l G D_X12_bits yX12_bits cX12_bits 3 (some .int) 24 [(1, .int y1)] [] μ1 (some (.int r)) μ') : Ev l G D_X12_bits yX12_bits cX12_bits 3 (some .int) 4 [(0, .int x4), (1, .int x5), (2, .int x6)] [] μ0 (some (.int r)) μ' := by
  induction n generalizing μ0 x4 x5 x6 with
  | zero => cases hf
  | succ n ih0 =>
    have ih : ∀ (μ0 : Mm) (x4 : Int32) (x5 : Int32) (x6 : Int32), f_X12_bits_L4 K24 n μ0 x4 x5 x6 = some (r, μ') → Ev l G D_X12_bits yX12_bits cX12_bits 3 (some .int) 4 [(0, .int x4), (1, .int x5), (2, .int x6)] [] μ0 (some (.int r)) μ' := fun μ0 x4 x5 x6 hf => ih0 μ0 x4 x5 x6 hf
    rw [f_X12_bits_L4] at hf
    refine E_iload_n (pc := 4) dX12_bits_4 rfl ?_
    refine E_bipush (pc := 5) (v := (16 : Int32)) dX12_bits_5 (by decide) ?_
    refine E_icmp_ge (pc := 7) (tgt := 24) dX12_bits_7 (by decide) hf (fun hf => ?_) (fun hf => ?_)
    · refine Ev.sub [1] rfl ?_
      exact hK24 _ _ hf
    · refine E_iload_n (pc := 10) dX12_bits_10 rfl ?_
      refine E_iload_n (pc := 11) dX12_bits_11 rfl ?_
      refine E_iload_n (pc := 12) dX12_bits_12 rfl ?_
      refine E_ishr (pc := 13) dX12_bits_13 ?_
      refine E_iconst (pc := 14) (v := (1 : Int32)) dX12_bits_14 (by decide) ?_
      refine E_iand (pc := 15) dX12_bits_15 ?_
      refine E_iadd (pc := 16) dX12_bits_16 ?_
      refine E_istore_n (pc := 17) (ls' := fun x7 => [(1, .int x7), (0, .int x4), (2, .int x6)]) dX12_bits_17 (by decide) (fun _ => rfl) hf (fun x7 hf => ?_)
      refine E_iinc (pc := 18) (ls' := fun x8 => [(2, .int x8), (1, .int x7), (0, .int x4)]) dX12_bits_18 rfl (by decide) (fun _ => rfl) hf (fun x8 hf => ?_)
      refine E_goto (pc := 21) (tgt := 4) dX12_bits_21 (by decide) ?_
      refine Ev.sub [2, 1, 0] rfl ?_
      exact ih _ _ _ _ hf
set_option maxRecDepth 100000 in
def f_X12_bits (μ0 : Mm) (x1 : Int32) : Option (Int32 × Mm) :=
 (nm (0 : Int32) fun x2 =>
    (nm (0 : Int32) fun x3 =>
    f_X12_bits_L4 (fun μ9 x10 =>
    (some (x10, μ9))) FU μ0 x1 x2 x3))
set_option maxHeartbeats 4000000 in
set_option maxRecDepth 100000 in
theorem f_X12_bits_ok {l : Launch} {G : GG} {μ0 : Mm} {x1 : Int32} {r : Int32} {μ' : Mm} (hf : f_X12_bits μ0 x1 = some (r, μ')) : EvM l G D_X12_bits yX12_bits cX12_bits 3 (some .int) [.int x1] μ0 (some (.int r)) μ' := by
  show Ev l G D_X12_bits yX12_bits cX12_bits 3 (some .int) 0 [(0, .int x1)] [] μ0 (some (.int r)) μ'
  unfold f_X12_bits at hf
  refine E_iconst (pc := 0) (v := (0 : Int32)) dX12_bits_0 (by decide) ?_
  refine E_istore_n (pc := 1) (ls' := fun x2 => [(1, .int x2), (0, .int x1)]) dX12_bits_1 (by decide) (fun _ => rfl) hf (fun x2 hf => ?_)
  refine E_iconst (pc := 2) (v := (0 : Int32)) dX12_bits_2 (by decide) ?_
  refine E_istore_n (pc := 3) (ls' := fun x3 => [(2, .int x3), (1, .int x2), (0, .int x1)]) dX12_bits_3 (by decide) (fun _ => rfl) hf (fun x3 hf => ?_)
  refine Ev.sub [2, 1, 0] rfl ?_
  refine f_X12_bits_L4_ok  _ _ _ _ _ hf (fun μ9 x10 hf => ?_)
  · refine E_iload_n (pc := 24) dX12_bits_24 rfl ?_
    exact E_iret (pc := 25) dX12_bits_25 rfl hf
theorem dX12_has_0 : decode cX12_has 0 = .ok (.iload_n 0, 1) := by decide +kernel
theorem dX12_has_1 : decode cX12_has 1 = .ok (.iload_n 1, 1) := by decide +kernel
theorem dX12_has_2 : decode cX12_has 2 = .ok (.ishr, 1) := by decide +kernel
theorem dX12_has_3 : decode cX12_has 3 = .ok (.iconst 1, 1) := by decide +kernel
theorem dX12_has_4 : decode cX12_has 4 = .ok (.iand, 1) := by decide +kernel
theorem dX12_has_5 : decode cX12_has 5 = .ok (.iconst 1, 1) := by decide +kernel
theorem dX12_has_6 : decode cX12_has 6 = .ok (.if_icmp .ne 7, 3) := by decide +kernel
theorem dX12_has_9 : decode cX12_has 9 = .ok (.iconst 1, 1) := by decide +kernel
theorem dX12_has_10 : decode cX12_has 10 = .ok (.goto 4, 3) := by decide +kernel
theorem dX12_has_13 : decode cX12_has 13 = .ok (.iconst 0, 1) := by decide +kernel
theorem dX12_has_14 : decode cX12_has 14 = .ok (.ireturn, 1) := by decide +kernel
abbrev D_X12_has : Nat := 1
set_option maxRecDepth 100000 in
def f_X12_has (μ0 : Mm) (x1 : Int32) (x2 : Int32) : Option (Int32 × Mm) :=
 (if ((x1 >>> (x2 &&& 31)) &&& (1 : Int32)) = (1 : Int32) then
    (if (1 : Int32) = 0 ∨ (1 : Int32) = 1 then some ((1 : Int32), μ0) else none)
    else
    (if (0 : Int32) = 0 ∨ (0 : Int32) = 1 then some ((0 : Int32), μ0) else none))
set_option maxHeartbeats 4000000 in
set_option maxRecDepth 100000 in
theorem f_X12_has_ok {l : Launch} {G : GG} {μ0 : Mm} {x1 : Int32} {x2 : Int32} {r : Int32} {μ' : Mm} (hf : f_X12_has μ0 x1 x2 = some (r, μ')) : EvM l G D_X12_has yX12_has cX12_has 2 (some .boolean) [.int x1, .int x2] μ0 (some (.int r)) μ' := by
  show Ev l G D_X12_has yX12_has cX12_has 2 (some .boolean) 0 [(0, .int x1), (1, .int x2)] [] μ0 (some (.int r)) μ'
  unfold f_X12_has at hf
  refine E_iload_n (pc := 0) dX12_has_0 rfl ?_
  refine E_iload_n (pc := 1) dX12_has_1 rfl ?_
  refine E_ishr (pc := 2) dX12_has_2 ?_
  refine E_iconst (pc := 3) (v := (1 : Int32)) dX12_has_3 (by decide) ?_
  refine E_iand (pc := 4) dX12_has_4 ?_
  refine E_iconst (pc := 5) (v := (1 : Int32)) dX12_has_5 (by decide) ?_
  refine E_icmp_ne (pc := 6) (tgt := 13) dX12_has_6 (by decide) hf (fun hf => ?_) (fun hf => ?_)
  · refine E_iconst (pc := 9) (v := (1 : Int32)) dX12_has_9 (by decide) ?_
    refine E_goto (pc := 10) (tgt := 14) dX12_has_10 (by decide) ?_
    exact E_zret (pc := 14) dX12_has_14 rfl hf
  · refine E_iconst (pc := 13) (v := (0 : Int32)) dX12_has_13 (by decide) ?_
    exact E_zret (pc := 14) dX12_has_14 rfl hf
theorem dX12_isGround_0 : decode cX12_isGround 0 = .ok (.aload_n 0, 1) := by decide +kernel
theorem dX12_isGround_1 : decode cX12_isGround 1 = .ok (.getfield 9, 3) := by decide +kernel
theorem dX12_isGround_4 : decode cX12_isGround 4 = .ok (.iconst 0, 1) := by decide +kernel
theorem dX12_isGround_5 : decode cX12_isGround 5 = .ok (.iaload, 1) := by decide +kernel
theorem dX12_isGround_6 : decode cX12_isGround 6 = .ok (.ifCond .le 7, 3) := by decide +kernel
theorem dX12_isGround_9 : decode cX12_isGround 9 = .ok (.iconst 1, 1) := by decide +kernel
theorem dX12_isGround_10 : decode cX12_isGround 10 = .ok (.goto 4, 3) := by decide +kernel
theorem dX12_isGround_13 : decode cX12_isGround 13 = .ok (.iconst 0, 1) := by decide +kernel
theorem dX12_isGround_14 : decode cX12_isGround 14 = .ok (.ireturn, 1) := by decide +kernel
abbrev D_X12_isGround : Nat := 1
set_option maxRecDepth 100000 in
def f_X12_isGround (μ0 : Mm) (a1 : Nat) : Option (Int32 × Mm) :=
 ((gR μ0 a1 12 1).bind fun v2 =>
    ((aI μ0 v2 0 (0 : Int32)).bind fun v3 =>
    (if v3 ≤ 0 then
    (if (0 : Int32) = 0 ∨ (0 : Int32) = 1 then some ((0 : Int32), μ0) else none)
    else
    (if (1 : Int32) = 0 ∨ (1 : Int32) = 1 then some ((1 : Int32), μ0) else none))))
set_option maxHeartbeats 4000000 in
set_option maxRecDepth 100000 in
theorem f_X12_isGround_ok {l : Launch} {G : GG} {μ0 : Mm} {a1 : Nat} {r : Int32} {μ' : Mm} (hf : f_X12_isGround μ0 a1 = some (r, μ')) : EvM l G D_X12_isGround yX12_isGround cX12_isGround 1 (some .boolean) [.ref a1] μ0 (some (.int r)) μ' := by
  show Ev l G D_X12_isGround yX12_isGround cX12_isGround 1 (some .boolean) 0 [(0, .ref a1)] [] μ0 (some (.int r)) μ'
  unfold f_X12_isGround at hf
  refine E_aload_n (pc := 0) dX12_isGround_0 rfl ?_
  refine E_getR (pc := 1) dX12_isGround_1 fl_X12_9 hf (fun v2 hf => ?_)
  refine E_iconst (pc := 4) (v := (0 : Int32)) dX12_isGround_4 (by decide) ?_
  refine E_iald (pc := 5) dX12_isGround_5 hf (fun v3 hf => ?_)
  refine E_if_le (pc := 6) (tgt := 13) dX12_isGround_6 (by decide) hf (fun hf => ?_) (fun hf => ?_)
  · refine E_iconst (pc := 13) (v := (0 : Int32)) dX12_isGround_13 (by decide) ?_
    exact E_zret (pc := 14) dX12_isGround_14 rfl hf
  · refine E_iconst (pc := 9) (v := (1 : Int32)) dX12_isGround_9 (by decide) ?_
    refine E_goto (pc := 10) (tgt := 14) dX12_isGround_10 (by decide) ?_
    exact E_zret (pc := 14) dX12_isGround_14 rfl hf
theorem dX12_cells_0 : decode cX12_cells 0 = .ok (.aload_n 0, 1) := by decide +kernel
theorem dX12_cells_1 : decode cX12_cells 1 = .ok (.getfield 9, 3) := by decide +kernel
theorem dX12_cells_4 : decode cX12_cells 4 = .ok (.iconst 0, 1) := by decide +kernel
theorem dX12_cells_5 : decode cX12_cells 5 = .ok (.iaload, 1) := by decide +kernel
theorem dX12_cells_6 : decode cX12_cells 6 = .ok (.aload_n 0, 1) := by decide +kernel
theorem dX12_cells_7 : decode cX12_cells 7 = .ok (.getfield 9, 3) := by decide +kernel
theorem dX12_cells_10 : decode cX12_cells 10 = .ok (.iconst 1, 1) := by decide +kernel
theorem dX12_cells_11 : decode cX12_cells 11 = .ok (.iaload, 1) := by decide +kernel
theorem dX12_cells_12 : decode cX12_cells 12 = .ok (.imul, 1) := by decide +kernel
theorem dX12_cells_13 : decode cX12_cells 13 = .ok (.ireturn, 1) := by decide +kernel
abbrev D_X12_cells : Nat := 1
set_option maxRecDepth 100000 in
def f_X12_cells (μ0 : Mm) (a1 : Nat) : Option (Int32 × Mm) :=
 ((gR μ0 a1 12 1).bind fun v2 =>
    ((aI μ0 v2 0 (0 : Int32)).bind fun v3 =>
    ((gR μ0 a1 12 1).bind fun v4 =>
    ((aI μ0 v4 0 (1 : Int32)).bind fun v5 =>
    (some ((v3 * v5), μ0))))))
set_option maxHeartbeats 4000000 in
set_option maxRecDepth 100000 in
theorem f_X12_cells_ok {l : Launch} {G : GG} {μ0 : Mm} {a1 : Nat} {r : Int32} {μ' : Mm} (hf : f_X12_cells μ0 a1 = some (r, μ')) : EvM l G D_X12_cells yX12_cells cX12_cells 1 (some .int) [.ref a1] μ0 (some (.int r)) μ' := by
  show Ev l G D_X12_cells yX12_cells cX12_cells 1 (some .int) 0 [(0, .ref a1)] [] μ0 (some (.int r)) μ'
  unfold f_X12_cells at hf
  refine E_aload_n (pc := 0) dX12_cells_0 rfl ?_
  refine E_getR (pc := 1) dX12_cells_1 fl_X12_9 hf (fun v2 hf => ?_)
  refine E_iconst (pc := 4) (v := (0 : Int32)) dX12_cells_4 (by decide) ?_
  refine E_iald (pc := 5) dX12_cells_5 hf (fun v3 hf => ?_)
  refine E_aload_n (pc := 6) dX12_cells_6 rfl ?_
  refine E_getR (pc := 7) dX12_cells_7 fl_X12_9 hf (fun v4 hf => ?_)
  refine E_iconst (pc := 10) (v := (1 : Int32)) dX12_cells_10 (by decide) ?_
  refine E_iald (pc := 11) dX12_cells_11 hf (fun v5 hf => ?_)
  refine E_imul (pc := 12) dX12_cells_12 ?_
  exact E_iret (pc := 13) dX12_cells_13 rfl hf
theorem dX12_isCell_0 : decode cX12_isCell 0 = .ok (.iload_n 1, 1) := by decide +kernel
theorem dX12_isCell_1 : decode cX12_isCell 1 = .ok (.i2l, 1) := by decide +kernel
theorem dX12_isCell_2 : decode cX12_isCell 2 = .ok (.lconst 0, 1) := by decide +kernel
theorem dX12_isCell_3 : decode cX12_isCell 3 = .ok (.aload_n 0, 1) := by decide +kernel
theorem dX12_isCell_4 : decode cX12_isCell 4 = .ok (.invokevirtual 179, 3) := by decide +kernel
theorem dX12_isCell_7 : decode cX12_isCell 7 = .ok (.iconst 1, 1) := by decide +kernel
theorem dX12_isCell_8 : decode cX12_isCell 8 = .ok (.isub, 1) := by decide +kernel
theorem dX12_isCell_9 : decode cX12_isCell 9 = .ok (.i2l, 1) := by decide +kernel
theorem dX12_isCell_10 : decode cX12_isCell 10 = .ok (.invokestatic 183, 3) := by decide +kernel
theorem dX12_isCell_13 : decode cX12_isCell 13 = .ok (.ireturn, 1) := by decide +kernel
abbrev D_X12_isCell : Nat := 2
set_option maxRecDepth 100000 in
def f_X12_isCell (μ0 : Mm) (a1 : Nat) (x2 : Int32) : Option (Int32 × Mm) :=
 ((ob μ0 a1 12).bind fun _ =>
    (bd (f_X12_cells μ0 a1) fun v4 μ3 =>
    (bd (f_X12_in μ3 (x2).toInt64 (0 : Int64) ((v4 - (1 : Int32))).toInt64) fun v6 μ5 =>
    (if v6 = 0 ∨ v6 = 1 then some (v6, μ5) else none))))
set_option maxHeartbeats 4000000 in
set_option maxRecDepth 100000 in
theorem f_X12_isCell_ok {l : Launch} {G : GG} {μ0 : Mm} {a1 : Nat} {x2 : Int32} {r : Int32} {μ' : Mm} (hf : f_X12_isCell μ0 a1 x2 = some (r, μ')) : EvM l G D_X12_isCell yX12_isCell cX12_isCell 2 (some .boolean) [.ref a1, .int x2] μ0 (some (.int r)) μ' := by
  show Ev l G D_X12_isCell yX12_isCell cX12_isCell 2 (some .boolean) 0 [(0, .ref a1), (1, .int x2)] [] μ0 (some (.int r)) μ'
  unfold f_X12_isCell at hf
  refine E_iload_n (pc := 0) dX12_isCell_0 rfl ?_
  refine E_i2l (pc := 1) dX12_isCell_1 ?_
  refine E_lconst (pc := 2) (v := (0 : Int64)) dX12_isCell_2 (by decide) ?_
  refine E_aload_n (pc := 3) dX12_isCell_3 rfl ?_
  refine E_Vi (pc := 4) (d2 := D_X12_cells) (ci := 12) [] dX12_isCell_4 ml_X12_179 mf_X12_cells im_X12_cells rfl rfl rfl (by decide) (Nat.le_of_ble_eq_true rfl) (Nat.le_of_ble_eq_true rfl) rfl (fun _ _ h => f_X12_cells_ok h) hf (fun v4 μ3 hf => ?_)
  refine E_iconst (pc := 7) (v := (1 : Int32)) dX12_isCell_7 (by decide) ?_
  refine E_isub (pc := 8) dX12_isCell_8 ?_
  refine E_i2l (pc := 9) dX12_isCell_9 ?_
  refine E_Si (pc := 10) (d2 := D_X12_in) [.long (x2).toInt64, .long (0 : Int64), .long ((v4 - (1 : Int32))).toInt64] dX12_isCell_10 ml_X12_183 mf_X12_in st_X12_in rfl (by decide) (Nat.le_of_ble_eq_true rfl) (Nat.le_of_ble_eq_true rfl) rfl (fun _ _ h => f_X12_in_ok h) hf (fun v6 μ5 hf => ?_)
  exact E_zret (pc := 13) dX12_isCell_13 rfl hf
theorem dX12_isPerson_0 : decode cX12_isPerson 0 = .ok (.iload_n 1, 1) := by decide +kernel
theorem dX12_isPerson_1 : decode cX12_isPerson 1 = .ok (.i2l, 1) := by decide +kernel
theorem dX12_isPerson_2 : decode cX12_isPerson 2 = .ok (.lconst 0, 1) := by decide +kernel
theorem dX12_isPerson_3 : decode cX12_isPerson 3 = .ok (.aload_n 0, 1) := by decide +kernel
theorem dX12_isPerson_4 : decode cX12_isPerson 4 = .ok (.getfield 9, 3) := by decide +kernel
theorem dX12_isPerson_7 : decode cX12_isPerson 7 = .ok (.iconst 2, 1) := by decide +kernel
theorem dX12_isPerson_8 : decode cX12_isPerson 8 = .ok (.iaload, 1) := by decide +kernel
theorem dX12_isPerson_9 : decode cX12_isPerson 9 = .ok (.iconst 1, 1) := by decide +kernel
theorem dX12_isPerson_10 : decode cX12_isPerson 10 = .ok (.isub, 1) := by decide +kernel
theorem dX12_isPerson_11 : decode cX12_isPerson 11 = .ok (.i2l, 1) := by decide +kernel
theorem dX12_isPerson_12 : decode cX12_isPerson 12 = .ok (.invokestatic 183, 3) := by decide +kernel
theorem dX12_isPerson_15 : decode cX12_isPerson 15 = .ok (.ireturn, 1) := by decide +kernel
abbrev D_X12_isPerson : Nat := 2
set_option maxRecDepth 100000 in
def f_X12_isPerson (μ0 : Mm) (a1 : Nat) (x2 : Int32) : Option (Int32 × Mm) :=
 ((gR μ0 a1 12 1).bind fun v3 =>
    ((aI μ0 v3 0 (2 : Int32)).bind fun v4 =>
    (bd (f_X12_in μ0 (x2).toInt64 (0 : Int64) ((v4 - (1 : Int32))).toInt64) fun v6 μ5 =>
    (if v6 = 0 ∨ v6 = 1 then some (v6, μ5) else none))))
set_option maxHeartbeats 4000000 in
set_option maxRecDepth 100000 in
theorem f_X12_isPerson_ok {l : Launch} {G : GG} {μ0 : Mm} {a1 : Nat} {x2 : Int32} {r : Int32} {μ' : Mm} (hf : f_X12_isPerson μ0 a1 x2 = some (r, μ')) : EvM l G D_X12_isPerson yX12_isPerson cX12_isPerson 2 (some .boolean) [.ref a1, .int x2] μ0 (some (.int r)) μ' := by
  show Ev l G D_X12_isPerson yX12_isPerson cX12_isPerson 2 (some .boolean) 0 [(0, .ref a1), (1, .int x2)] [] μ0 (some (.int r)) μ'
  unfold f_X12_isPerson at hf
  refine E_iload_n (pc := 0) dX12_isPerson_0 rfl ?_
  refine E_i2l (pc := 1) dX12_isPerson_1 ?_
  refine E_lconst (pc := 2) (v := (0 : Int64)) dX12_isPerson_2 (by decide) ?_
  refine E_aload_n (pc := 3) dX12_isPerson_3 rfl ?_
  refine E_getR (pc := 4) dX12_isPerson_4 fl_X12_9 hf (fun v3 hf => ?_)
  refine E_iconst (pc := 7) (v := (2 : Int32)) dX12_isPerson_7 (by decide) ?_
  refine E_iald (pc := 8) dX12_isPerson_8 hf (fun v4 hf => ?_)
  refine E_iconst (pc := 9) (v := (1 : Int32)) dX12_isPerson_9 (by decide) ?_
  refine E_isub (pc := 10) dX12_isPerson_10 ?_
  refine E_i2l (pc := 11) dX12_isPerson_11 ?_
  refine E_Si (pc := 12) (d2 := D_X12_in) [.long (x2).toInt64, .long (0 : Int64), .long ((v4 - (1 : Int32))).toInt64] dX12_isPerson_12 ml_X12_183 mf_X12_in st_X12_in rfl (by decide) (Nat.le_of_ble_eq_true rfl) (Nat.le_of_ble_eq_true rfl) rfl (fun _ _ h => f_X12_in_ok h) hf (fun v6 μ5 hf => ?_)
  exact E_zret (pc := 15) dX12_isPerson_15 rfl hf
theorem dX12_isThing_0 : decode cX12_isThing 0 = .ok (.iload_n 1, 1) := by decide +kernel
theorem dX12_isThing_1 : decode cX12_isThing 1 = .ok (.i2l, 1) := by decide +kernel
theorem dX12_isThing_2 : decode cX12_isThing 2 = .ok (.lconst 0, 1) := by decide +kernel
theorem dX12_isThing_3 : decode cX12_isThing 3 = .ok (.aload_n 0, 1) := by decide +kernel
theorem dX12_isThing_4 : decode cX12_isThing 4 = .ok (.getfield 9, 3) := by decide +kernel
theorem dX12_isThing_7 : decode cX12_isThing 7 = .ok (.iconst 3, 1) := by decide +kernel
theorem dX12_isThing_8 : decode cX12_isThing 8 = .ok (.iaload, 1) := by decide +kernel
theorem dX12_isThing_9 : decode cX12_isThing 9 = .ok (.iconst 1, 1) := by decide +kernel
theorem dX12_isThing_10 : decode cX12_isThing 10 = .ok (.isub, 1) := by decide +kernel
theorem dX12_isThing_11 : decode cX12_isThing 11 = .ok (.i2l, 1) := by decide +kernel
theorem dX12_isThing_12 : decode cX12_isThing 12 = .ok (.invokestatic 183, 3) := by decide +kernel
theorem dX12_isThing_15 : decode cX12_isThing 15 = .ok (.ireturn, 1) := by decide +kernel
abbrev D_X12_isThing : Nat := 2
set_option maxRecDepth 100000 in
def f_X12_isThing (μ0 : Mm) (a1 : Nat) (x2 : Int32) : Option (Int32 × Mm) :=
 ((gR μ0 a1 12 1).bind fun v3 =>
    ((aI μ0 v3 0 (3 : Int32)).bind fun v4 =>
    (bd (f_X12_in μ0 (x2).toInt64 (0 : Int64) ((v4 - (1 : Int32))).toInt64) fun v6 μ5 =>
    (if v6 = 0 ∨ v6 = 1 then some (v6, μ5) else none))))
set_option maxHeartbeats 4000000 in
set_option maxRecDepth 100000 in
theorem f_X12_isThing_ok {l : Launch} {G : GG} {μ0 : Mm} {a1 : Nat} {x2 : Int32} {r : Int32} {μ' : Mm} (hf : f_X12_isThing μ0 a1 x2 = some (r, μ')) : EvM l G D_X12_isThing yX12_isThing cX12_isThing 2 (some .boolean) [.ref a1, .int x2] μ0 (some (.int r)) μ' := by
  show Ev l G D_X12_isThing yX12_isThing cX12_isThing 2 (some .boolean) 0 [(0, .ref a1), (1, .int x2)] [] μ0 (some (.int r)) μ'
  unfold f_X12_isThing at hf
  refine E_iload_n (pc := 0) dX12_isThing_0 rfl ?_
  refine E_i2l (pc := 1) dX12_isThing_1 ?_
  refine E_lconst (pc := 2) (v := (0 : Int64)) dX12_isThing_2 (by decide) ?_
  refine E_aload_n (pc := 3) dX12_isThing_3 rfl ?_
  refine E_getR (pc := 4) dX12_isThing_4 fl_X12_9 hf (fun v3 hf => ?_)
  refine E_iconst (pc := 7) (v := (3 : Int32)) dX12_isThing_7 (by decide) ?_
  refine E_iald (pc := 8) dX12_isThing_8 hf (fun v4 hf => ?_)
  refine E_iconst (pc := 9) (v := (1 : Int32)) dX12_isThing_9 (by decide) ?_
  refine E_isub (pc := 10) dX12_isThing_10 ?_
  refine E_i2l (pc := 11) dX12_isThing_11 ?_
  refine E_Si (pc := 12) (d2 := D_X12_in) [.long (x2).toInt64, .long (0 : Int64), .long ((v4 - (1 : Int32))).toInt64] dX12_isThing_12 ml_X12_183 mf_X12_in st_X12_in rfl (by decide) (Nat.le_of_ble_eq_true rfl) (Nat.le_of_ble_eq_true rfl) rfl (fun _ _ h => f_X12_in_ok h) hf (fun v6 μ5 hf => ?_)
  exact E_zret (pc := 15) dX12_isThing_15 rfl hf
theorem dX12_isNet_0 : decode cX12_isNet 0 = .ok (.iconst 0, 1) := by decide +kernel
theorem dX12_isNet_1 : decode cX12_isNet 1 = .ok (.istore_n 2, 1) := by decide +kernel
theorem dX12_isNet_2 : decode cX12_isNet 2 = .ok (.iload_n 2, 1) := by decide +kernel
theorem dX12_isNet_3 : decode cX12_isNet 3 = .ok (.aload_n 0, 1) := by decide +kernel
theorem dX12_isNet_4 : decode cX12_isNet 4 = .ok (.getfield 9, 3) := by decide +kernel
theorem dX12_isNet_7 : decode cX12_isNet 7 = .ok (.iconst 4, 1) := by decide +kernel
theorem dX12_isNet_8 : decode cX12_isNet 8 = .ok (.iaload, 1) := by decide +kernel
theorem dX12_isNet_9 : decode cX12_isNet 9 = .ok (.if_icmp .ge 21, 3) := by decide +kernel
theorem dX12_isNet_12 : decode cX12_isNet 12 = .ok (.aload_n 0, 1) := by decide +kernel
theorem dX12_isNet_13 : decode cX12_isNet 13 = .ok (.getfield 34, 3) := by decide +kernel
theorem dX12_isNet_16 : decode cX12_isNet 16 = .ok (.iload_n 2, 1) := by decide +kernel
theorem dX12_isNet_17 : decode cX12_isNet 17 = .ok (.iaload, 1) := by decide +kernel
theorem dX12_isNet_18 : decode cX12_isNet 18 = .ok (.iload_n 1, 1) := by decide +kernel
theorem dX12_isNet_19 : decode cX12_isNet 19 = .ok (.if_icmp .ne 5, 3) := by decide +kernel
theorem dX12_isNet_22 : decode cX12_isNet 22 = .ok (.iconst 1, 1) := by decide +kernel
theorem dX12_isNet_23 : decode cX12_isNet 23 = .ok (.ireturn, 1) := by decide +kernel
theorem dX12_isNet_24 : decode cX12_isNet 24 = .ok (.iinc 2 1, 3) := by decide +kernel
theorem dX12_isNet_27 : decode cX12_isNet 27 = .ok (.goto (-25), 3) := by decide +kernel
theorem dX12_isNet_30 : decode cX12_isNet 30 = .ok (.iconst 0, 1) := by decide +kernel
theorem dX12_isNet_31 : decode cX12_isNet 31 = .ok (.ireturn, 1) := by decide +kernel
abbrev D_X12_isNet : Nat := 1
def f_X12_isNet_L2 (K22 : Mm → Option (Int32 × Mm)) (K30 : Mm → Option (Int32 × Mm)) : Nat → Mm → Nat → Int32 → Int32 → Option (Int32 × Mm)
  | 0, _, _, _, _ => none
  | n + 1, μ0, a4, x5, x6 =>
    ((gR μ0 a4 12 1).bind fun v7 =>
    ((aI μ0 v7 0 (4 : Int32)).bind fun v8 =>
    (if v8 ≤ x6 then
    K30 μ0
    else
    ((gR μ0 a4 12 9).bind fun v9 =>
    ((aI μ0 v9 0 x6).bind fun v10 =>
    (if v10 = x5 then
    K22 μ0
    else
    (nm (x6 + Int32.ofInt (1)) fun x11 =>
    f_X12_isNet_L2 K22 K30 n μ0 a4 x5 x11)))))))
set_option maxHeartbeats 4000000 in
set_option maxRecDepth 100000 in
theorem f_X12_isNet_L2_ok {l : Launch} {G : GG} {K22 : Mm → Option (Int32 × Mm)} {K30 : Mm → Option (Int32 × Mm)} {r : Int32} {μ' : Mm} (n : Nat) (μ0 : Mm) (a4 : Nat) (x5 : Int32) (x6 : Int32) (hf : f_X12_isNet_L2 K22 K30 n μ0 a4 x5 x6 = some (r, μ')) (hK22 : ∀ (μ1 : Mm), K22 μ1  = some (r, μ') → Ev l G D_X12_isNet yX12_isNet cX12_isNet 3 (some .boolean) 22 [] [] μ1 (some (.int r)) μ') (hK30 : ∀ (μ1 : Mm), K30 μ1  = some (r, μ') → Ev l G D_X12_isNet yX12_isNet cX12_isNet 3 (some .boolean) 30 [] [] μ1 (some (.int r)) μ') : Ev l G D_X12_isNet yX12_isNet cX12_isNet 3 (some .boolean) 2 [(0, .ref a4), (1, .int x5), (2, .int x6)] [] μ0 (some (.int r)) μ' := by
  induction n generalizing μ0 a4 x5 x6 with
  | zero => cases hf
  | succ n ih0 =>
    have ih : ∀ (μ0 : Mm) (a4 : Nat) (x5 : Int32) (x6 : Int32), f_X12_isNet_L2 K22 K30 n μ0 a4 x5 x6 = some (r, μ') → Ev l G D_X12_isNet yX12_isNet cX12_isNet 3 (some .boolean) 2 [(0, .ref a4), (1, .int x5), (2, .int x6)] [] μ0 (some (.int r)) μ' := fun μ0 a4 x5 x6 hf => ih0 μ0 a4 x5 x6 hf
    rw [f_X12_isNet_L2] at hf
    refine E_iload_n (pc := 2) dX12_isNet_2 rfl ?_
    refine E_aload_n (pc := 3) dX12_isNet_3 rfl ?_
    refine E_getR (pc := 4) dX12_isNet_4 fl_X12_9 hf (fun v7 hf => ?_)
    refine E_iconst (pc := 7) (v := (4 : Int32)) dX12_isNet_7 (by decide) ?_
    refine E_iald (pc := 8) dX12_isNet_8 hf (fun v8 hf => ?_)
    refine E_icmp_ge (pc := 9) (tgt := 30) dX12_isNet_9 (by decide) hf (fun hf => ?_) (fun hf => ?_)
    · refine Ev.sub [] rfl ?_
      exact hK30 _ hf
    · refine E_aload_n (pc := 12) dX12_isNet_12 rfl ?_
      refine E_getR (pc := 13) dX12_isNet_13 fl_X12_34 hf (fun v9 hf => ?_)
      refine E_iload_n (pc := 16) dX12_isNet_16 rfl ?_
      refine E_iald (pc := 17) dX12_isNet_17 hf (fun v10 hf => ?_)
      refine E_iload_n (pc := 18) dX12_isNet_18 rfl ?_
      refine E_icmp_ne (pc := 19) (tgt := 24) dX12_isNet_19 (by decide) hf (fun hf => ?_) (fun hf => ?_)
      · refine Ev.sub [] rfl ?_
        exact hK22 _ hf
      · refine E_iinc (pc := 24) (ls' := fun x11 => [(2, .int x11), (0, .ref a4), (1, .int x5)]) dX12_isNet_24 rfl (by decide) (fun _ => rfl) hf (fun x11 hf => ?_)
        refine E_goto (pc := 27) (tgt := 2) dX12_isNet_27 (by decide) ?_
        refine Ev.sub [1, 2, 0] rfl ?_
        exact ih _ _ _ _ hf
set_option maxRecDepth 100000 in
def f_X12_isNet (μ0 : Mm) (a1 : Nat) (x2 : Int32) : Option (Int32 × Mm) :=
 (nm (0 : Int32) fun x3 =>
    f_X12_isNet_L2 (fun μ12 =>
    (if (1 : Int32) = 0 ∨ (1 : Int32) = 1 then some ((1 : Int32), μ12) else none)) (fun μ13 =>
    (if (0 : Int32) = 0 ∨ (0 : Int32) = 1 then some ((0 : Int32), μ13) else none)) FU μ0 a1 x2 x3)
set_option maxHeartbeats 4000000 in
set_option maxRecDepth 100000 in
theorem f_X12_isNet_ok {l : Launch} {G : GG} {μ0 : Mm} {a1 : Nat} {x2 : Int32} {r : Int32} {μ' : Mm} (hf : f_X12_isNet μ0 a1 x2 = some (r, μ')) : EvM l G D_X12_isNet yX12_isNet cX12_isNet 3 (some .boolean) [.ref a1, .int x2] μ0 (some (.int r)) μ' := by
  show Ev l G D_X12_isNet yX12_isNet cX12_isNet 3 (some .boolean) 0 [(0, .ref a1), (1, .int x2)] [] μ0 (some (.int r)) μ'
  unfold f_X12_isNet at hf
  refine E_iconst (pc := 0) (v := (0 : Int32)) dX12_isNet_0 (by decide) ?_
  refine E_istore_n (pc := 1) (ls' := fun x3 => [(2, .int x3), (0, .ref a1), (1, .int x2)]) dX12_isNet_1 (by decide) (fun _ => rfl) hf (fun x3 hf => ?_)
  refine Ev.sub [1, 2, 0] rfl ?_
  refine f_X12_isNet_L2_ok  _ _ _ _ _ hf (fun μ12 hf => ?_) (fun μ13 hf => ?_)
  · refine E_iconst (pc := 22) (v := (1 : Int32)) dX12_isNet_22 (by decide) ?_
    exact E_zret (pc := 23) dX12_isNet_23 rfl hf
  · refine E_iconst (pc := 30) (v := (0 : Int32)) dX12_isNet_30 (by decide) ?_
    exact E_zret (pc := 31) dX12_isNet_31 rfl hf
theorem dX12_put_0 : decode cX12_put 0 = .ok (.bipush 24, 2) := by decide +kernel
theorem dX12_put_2 : decode cX12_put 2 = .ok (.istore_n 2, 1) := by decide +kernel
theorem dX12_put_3 : decode cX12_put 3 = .ok (.iload_n 2, 1) := by decide +kernel
theorem dX12_put_4 : decode cX12_put 4 = .ok (.ifCond .lt 32, 3) := by decide +kernel
theorem dX12_put_7 : decode cX12_put 7 = .ok (.aload_n 0, 1) := by decide +kernel
theorem dX12_put_8 : decode cX12_put 8 = .ok (.getfield 92, 3) := by decide +kernel
theorem dX12_put_11 : decode cX12_put 11 = .ok (.aload_n 0, 1) := by decide +kernel
theorem dX12_put_12 : decode cX12_put 12 = .ok (.getfield 187, 3) := by decide +kernel
theorem dX12_put_15 : decode cX12_put 15 = .ok (.iload_n 1, 1) := by decide +kernel
theorem dX12_put_16 : decode cX12_put 16 = .ok (.iload_n 2, 1) := by decide +kernel
theorem dX12_put_17 : decode cX12_put 17 = .ok (.ishr, 1) := by decide +kernel
theorem dX12_put_18 : decode cX12_put 18 = .ok (.i2b, 1) := by decide +kernel
theorem dX12_put_19 : decode cX12_put 19 = .ok (.bastore, 1) := by decide +kernel
theorem dX12_put_20 : decode cX12_put 20 = .ok (.aload_n 0, 1) := by decide +kernel
theorem dX12_put_21 : decode cX12_put 21 = .ok (.dup, 1) := by decide +kernel
theorem dX12_put_22 : decode cX12_put 22 = .ok (.getfield 187, 3) := by decide +kernel
theorem dX12_put_25 : decode cX12_put 25 = .ok (.iconst 1, 1) := by decide +kernel
theorem dX12_put_26 : decode cX12_put 26 = .ok (.iadd, 1) := by decide +kernel
theorem dX12_put_27 : decode cX12_put 27 = .ok (.putfield 187, 3) := by decide +kernel
theorem dX12_put_30 : decode cX12_put 30 = .ok (.iinc 2 (-8), 3) := by decide +kernel
theorem dX12_put_33 : decode cX12_put 33 = .ok (.goto (-30), 3) := by decide +kernel
theorem dX12_put_36 : decode cX12_put 36 = .ok (.return_, 1) := by decide +kernel
abbrev D_X12_put : Nat := 1
def f_X12_put_L3 (K36 : Mm → Option Mm) : Nat → Mm → Nat → Int32 → Int32 → Option Mm
  | 0, _, _, _, _ => none
  | n + 1, μ0, a4, x5, x6 =>
    (if x6 < 0 then
    K36 μ0
    else
    ((gR μ0 a4 12 38).bind fun v7 =>
    ((gI μ0 a4 12 28).bind fun v8 =>
    ((sI μ0 v7 1 v8 ((x5 >>> (x6 &&& 31))).toInt8.toInt32).bind fun μ9 =>
    ((gI μ9 a4 12 28).bind fun v10 =>
    ((pV μ9 a4 12 28 (.int (v10 + (1 : Int32)))).bind fun μ11 =>
    (nm (x6 + Int32.ofInt (-8)) fun x12 =>
    f_X12_put_L3 K36 n μ11 a4 x5 x12)))))))
set_option maxHeartbeats 4000000 in
set_option maxRecDepth 100000 in
theorem f_X12_put_L3_ok {l : Launch} {G : GG} {K36 : Mm → Option Mm} {μ' : Mm} (n : Nat) (μ0 : Mm) (a4 : Nat) (x5 : Int32) (x6 : Int32) (hf : f_X12_put_L3 K36 n μ0 a4 x5 x6 = some μ') (hK36 : ∀ (μ1 : Mm), K36 μ1  = some μ' → Ev l G D_X12_put yX12_put cX12_put 3 none 36 [] [] μ1 none μ') : Ev l G D_X12_put yX12_put cX12_put 3 none 3 [(0, .ref a4), (1, .int x5), (2, .int x6)] [] μ0 none μ' := by
  induction n generalizing μ0 a4 x5 x6 with
  | zero => cases hf
  | succ n ih0 =>
    have ih : ∀ (μ0 : Mm) (a4 : Nat) (x5 : Int32) (x6 : Int32), f_X12_put_L3 K36 n μ0 a4 x5 x6 = some μ' → Ev l G D_X12_put yX12_put cX12_put 3 none 3 [(0, .ref a4), (1, .int x5), (2, .int x6)] [] μ0 none μ' := fun μ0 a4 x5 x6 hf => ih0 μ0 a4 x5 x6 hf
    rw [f_X12_put_L3] at hf
    refine E_iload_n (pc := 3) dX12_put_3 rfl ?_
    refine E_if_lt (pc := 4) (tgt := 36) dX12_put_4 (by decide) hf (fun hf => ?_) (fun hf => ?_)
    · refine Ev.sub [] rfl ?_
      exact hK36 _ hf
    · refine E_aload_n (pc := 7) dX12_put_7 rfl ?_
      refine E_getR (pc := 8) dX12_put_8 fl_X12_92 hf (fun v7 hf => ?_)
      refine E_aload_n (pc := 11) dX12_put_11 rfl ?_
      refine E_getI (pc := 12) dX12_put_12 fl_X12_187 hf (fun v8 hf => ?_)
      refine E_iload_n (pc := 15) dX12_put_15 rfl ?_
      refine E_iload_n (pc := 16) dX12_put_16 rfl ?_
      refine E_ishr (pc := 17) dX12_put_17 ?_
      refine E_i2b (pc := 18) dX12_put_18 ?_
      refine E_bast (pc := 19) dX12_put_19 hf (fun μ9 hf => ?_)
      refine E_aload_n (pc := 20) dX12_put_20 rfl ?_
      refine E_dup (pc := 21) dX12_put_21 rfl ?_
      refine E_getI (pc := 22) dX12_put_22 fl_X12_187 hf (fun v10 hf => ?_)
      refine E_iconst (pc := 25) (v := (1 : Int32)) dX12_put_25 (by decide) ?_
      refine E_iadd (pc := 26) dX12_put_26 ?_
      refine E_putI (pc := 27) dX12_put_27 (pl_X12_187 _) hf (fun μ11 hf => ?_)
      refine E_iinc (pc := 30) (ls' := fun x12 => [(2, .int x12), (0, .ref a4), (1, .int x5)]) dX12_put_30 rfl (by decide) (fun _ => rfl) hf (fun x12 hf => ?_)
      refine E_goto (pc := 33) (tgt := 3) dX12_put_33 (by decide) ?_
      refine Ev.sub [1, 2, 0] rfl ?_
      exact ih _ _ _ _ hf
set_option maxRecDepth 100000 in
def f_X12_put (μ0 : Mm) (a1 : Nat) (x2 : Int32) : Option Mm :=
 (nm (24 : Int32) fun x3 =>
    f_X12_put_L3 (fun μ13 =>
    (some μ13)) FU μ0 a1 x2 x3)
set_option maxHeartbeats 4000000 in
set_option maxRecDepth 100000 in
theorem f_X12_put_ok {l : Launch} {G : GG} {μ0 : Mm} {a1 : Nat} {x2 : Int32} {μ' : Mm} (hf : f_X12_put μ0 a1 x2 = some μ') : EvM l G D_X12_put yX12_put cX12_put 3 none [.ref a1, .int x2] μ0 none μ' := by
  show Ev l G D_X12_put yX12_put cX12_put 3 none 0 [(0, .ref a1), (1, .int x2)] [] μ0 none μ'
  unfold f_X12_put at hf
  refine E_bipush (pc := 0) (v := (24 : Int32)) dX12_put_0 (by decide) ?_
  refine E_istore_n (pc := 2) (ls' := fun x3 => [(2, .int x3), (0, .ref a1), (1, .int x2)]) dX12_put_2 (by decide) (fun _ => rfl) hf (fun x3 hf => ?_)
  refine Ev.sub [1, 2, 0] rfl ?_
  refine f_X12_put_L3_ok  _ _ _ _ _ hf (fun μ13 hf => ?_)
  · exact E_vret (pc := 36) dX12_put_36 rfl hf
theorem dX12_feed_0 : decode cX12_feed 0 = .ok (.aload_n 0, 1) := by decide +kernel
theorem dX12_feed_1 : decode cX12_feed 1 = .ok (.getfield 187, 3) := by decide +kernel
theorem dX12_feed_4 : decode cX12_feed 4 = .ok (.bipush 20, 2) := by decide +kernel
theorem dX12_feed_6 : decode cX12_feed 6 = .ok (.iadd, 1) := by decide +kernel
theorem dX12_feed_7 : decode cX12_feed 7 = .ok (.sipush 400, 3) := by decide +kernel
theorem dX12_feed_10 : decode cX12_feed 10 = .ok (.if_icmp .le 5, 3) := by decide +kernel
theorem dX12_feed_13 : decode cX12_feed 13 = .ok (.iconst (-1), 1) := by decide +kernel
theorem dX12_feed_14 : decode cX12_feed 14 = .ok (.ireturn, 1) := by decide +kernel
theorem dX12_feed_15 : decode cX12_feed 15 = .ok (.aload_n 0, 1) := by decide +kernel
theorem dX12_feed_16 : decode cX12_feed 16 = .ok (.iload_n 1, 1) := by decide +kernel
theorem dX12_feed_17 : decode cX12_feed 17 = .ok (.invokevirtual 190, 3) := by decide +kernel
theorem dX12_feed_20 : decode cX12_feed 20 = .ok (.aload_n 0, 1) := by decide +kernel
theorem dX12_feed_21 : decode cX12_feed 21 = .ok (.iload_n 2, 1) := by decide +kernel
theorem dX12_feed_22 : decode cX12_feed 22 = .ok (.invokevirtual 190, 3) := by decide +kernel
theorem dX12_feed_25 : decode cX12_feed 25 = .ok (.aload_n 0, 1) := by decide +kernel
theorem dX12_feed_26 : decode cX12_feed 26 = .ok (.iload_n 3, 1) := by decide +kernel
theorem dX12_feed_27 : decode cX12_feed 27 = .ok (.invokevirtual 190, 3) := by decide +kernel
theorem dX12_feed_30 : decode cX12_feed 30 = .ok (.aload_n 0, 1) := by decide +kernel
theorem dX12_feed_31 : decode cX12_feed 31 = .ok (.iload 4, 2) := by decide +kernel
theorem dX12_feed_33 : decode cX12_feed 33 = .ok (.invokevirtual 190, 3) := by decide +kernel
theorem dX12_feed_36 : decode cX12_feed 36 = .ok (.aload_n 0, 1) := by decide +kernel
theorem dX12_feed_37 : decode cX12_feed 37 = .ok (.iload 5, 2) := by decide +kernel
theorem dX12_feed_39 : decode cX12_feed 39 = .ok (.invokevirtual 190, 3) := by decide +kernel
theorem dX12_feed_42 : decode cX12_feed 42 = .ok (.aload_n 0, 1) := by decide +kernel
theorem dX12_feed_43 : decode cX12_feed 43 = .ok (.getfield 187, 3) := by decide +kernel
theorem dX12_feed_46 : decode cX12_feed 46 = .ok (.ireturn, 1) := by decide +kernel
abbrev D_X12_feed : Nat := 2
set_option maxRecDepth 100000 in
def f_X12_feed (μ0 : Mm) (a1 : Nat) (x2 : Int32) (x3 : Int32) (x4 : Int32) (x5 : Int32) (x6 : Int32) : Option (Int32 × Mm) :=
 ((gI μ0 a1 12 28).bind fun v7 =>
    (if (v7 + (20 : Int32)) ≤ (400 : Int32) then
    ((ob μ0 a1 12).bind fun _ =>
    ((f_X12_put μ0 a1 x2).bind fun μ8 =>
    ((ob μ8 a1 12).bind fun _ =>
    ((f_X12_put μ8 a1 x3).bind fun μ9 =>
    ((ob μ9 a1 12).bind fun _ =>
    ((f_X12_put μ9 a1 x4).bind fun μ10 =>
    ((ob μ10 a1 12).bind fun _ =>
    ((f_X12_put μ10 a1 x5).bind fun μ11 =>
    ((ob μ11 a1 12).bind fun _ =>
    ((f_X12_put μ11 a1 x6).bind fun μ12 =>
    ((gI μ12 a1 12 28).bind fun v13 =>
    (some (v13, μ12)))))))))))))
    else
    (some ((-1 : Int32), μ0))))
set_option maxHeartbeats 4000000 in
set_option maxRecDepth 100000 in
theorem f_X12_feed_ok {l : Launch} {G : GG} {μ0 : Mm} {a1 : Nat} {x2 : Int32} {x3 : Int32} {x4 : Int32} {x5 : Int32} {x6 : Int32} {r : Int32} {μ' : Mm} (hf : f_X12_feed μ0 a1 x2 x3 x4 x5 x6 = some (r, μ')) : EvM l G D_X12_feed yX12_feed cX12_feed 6 (some .int) [.ref a1, .int x2, .int x3, .int x4, .int x5, .int x6] μ0 (some (.int r)) μ' := by
  show Ev l G D_X12_feed yX12_feed cX12_feed 6 (some .int) 0 [(0, .ref a1), (1, .int x2), (2, .int x3), (3, .int x4), (4, .int x5), (5, .int x6)] [] μ0 (some (.int r)) μ'
  unfold f_X12_feed at hf
  refine E_aload_n (pc := 0) dX12_feed_0 rfl ?_
  refine E_getI (pc := 1) dX12_feed_1 fl_X12_187 hf (fun v7 hf => ?_)
  refine E_bipush (pc := 4) (v := (20 : Int32)) dX12_feed_4 (by decide) ?_
  refine E_iadd (pc := 6) dX12_feed_6 ?_
  refine E_sipush (pc := 7) (v := (400 : Int32)) dX12_feed_7 (by decide) ?_
  refine E_icmp_le (pc := 10) (tgt := 15) dX12_feed_10 (by decide) hf (fun hf => ?_) (fun hf => ?_)
  · refine E_aload_n (pc := 15) dX12_feed_15 rfl ?_
    refine E_iload_n (pc := 16) dX12_feed_16 rfl ?_
    refine E_Vv (pc := 17) (d2 := D_X12_put) (ci := 12) [.int x2] dX12_feed_17 ml_X12_190 mf_X12_put im_X12_put rfl rfl rfl (by decide) (Nat.le_of_ble_eq_true rfl) (Nat.le_of_ble_eq_true rfl) rfl (fun _ h => f_X12_put_ok h) hf (fun μ8 hf => ?_)
    refine E_aload_n (pc := 20) dX12_feed_20 rfl ?_
    refine E_iload_n (pc := 21) dX12_feed_21 rfl ?_
    refine E_Vv (pc := 22) (d2 := D_X12_put) (ci := 12) [.int x3] dX12_feed_22 ml_X12_190 mf_X12_put im_X12_put rfl rfl rfl (by decide) (Nat.le_of_ble_eq_true rfl) (Nat.le_of_ble_eq_true rfl) rfl (fun _ h => f_X12_put_ok h) hf (fun μ9 hf => ?_)
    refine E_aload_n (pc := 25) dX12_feed_25 rfl ?_
    refine E_iload_n (pc := 26) dX12_feed_26 rfl ?_
    refine E_Vv (pc := 27) (d2 := D_X12_put) (ci := 12) [.int x4] dX12_feed_27 ml_X12_190 mf_X12_put im_X12_put rfl rfl rfl (by decide) (Nat.le_of_ble_eq_true rfl) (Nat.le_of_ble_eq_true rfl) rfl (fun _ h => f_X12_put_ok h) hf (fun μ10 hf => ?_)
    refine E_aload_n (pc := 30) dX12_feed_30 rfl ?_
    refine E_iload (pc := 31) dX12_feed_31 rfl ?_
    refine E_Vv (pc := 33) (d2 := D_X12_put) (ci := 12) [.int x5] dX12_feed_33 ml_X12_190 mf_X12_put im_X12_put rfl rfl rfl (by decide) (Nat.le_of_ble_eq_true rfl) (Nat.le_of_ble_eq_true rfl) rfl (fun _ h => f_X12_put_ok h) hf (fun μ11 hf => ?_)
    refine E_aload_n (pc := 36) dX12_feed_36 rfl ?_
    refine E_iload (pc := 37) dX12_feed_37 rfl ?_
    refine E_Vv (pc := 39) (d2 := D_X12_put) (ci := 12) [.int x6] dX12_feed_39 ml_X12_190 mf_X12_put im_X12_put rfl rfl rfl (by decide) (Nat.le_of_ble_eq_true rfl) (Nat.le_of_ble_eq_true rfl) rfl (fun _ h => f_X12_put_ok h) hf (fun μ12 hf => ?_)
    refine E_aload_n (pc := 42) dX12_feed_42 rfl ?_
    refine E_getI (pc := 43) dX12_feed_43 fl_X12_187 hf (fun v13 hf => ?_)
    exact E_iret (pc := 46) dX12_feed_46 rfl hf
  · refine E_iconst (pc := 13) (v := (-1 : Int32)) dX12_feed_13 (by decide) ?_
    exact E_iret (pc := 14) dX12_feed_14 rfl hf
theorem dX12_end_0 : decode cX12_end 0 = .ok (.iload_n 1, 1) := by decide +kernel
theorem dX12_end_1 : decode cX12_end 1 = .ok (.ifCond .lt 11, 3) := by decide +kernel
theorem dX12_end_4 : decode cX12_end 4 = .ok (.iload_n 1, 1) := by decide +kernel
theorem dX12_end_5 : decode cX12_end 5 = .ok (.aload_n 0, 1) := by decide +kernel
theorem dX12_end_6 : decode cX12_end 6 = .ok (.getfield 187, 3) := by decide +kernel
theorem dX12_end_9 : decode cX12_end 9 = .ok (.if_icmp .le 5, 3) := by decide +kernel
theorem dX12_end_12 : decode cX12_end 12 = .ok (.iconst (-1), 1) := by decide +kernel
theorem dX12_end_13 : decode cX12_end 13 = .ok (.ireturn, 1) := by decide +kernel
theorem dX12_end_14 : decode cX12_end 14 = .ok (.aload_n 0, 1) := by decide +kernel
theorem dX12_end_15 : decode cX12_end 15 = .ok (.iload_n 1, 1) := by decide +kernel
theorem dX12_end_16 : decode cX12_end 16 = .ok (.putfield 187, 3) := by decide +kernel
theorem dX12_end_19 : decode cX12_end 19 = .ok (.iload_n 1, 1) := by decide +kernel
theorem dX12_end_20 : decode cX12_end 20 = .ok (.ireturn, 1) := by decide +kernel
abbrev D_X12_end : Nat := 1
set_option maxRecDepth 100000 in
def f_X12_end (μ0 : Mm) (a1 : Nat) (x2 : Int32) : Option (Int32 × Mm) :=
 (if x2 < 0 then
    (some ((-1 : Int32), μ0))
    else
    ((gI μ0 a1 12 28).bind fun v3 =>
    (if x2 ≤ v3 then
    ((pV μ0 a1 12 28 (.int x2)).bind fun μ4 =>
    (some (x2, μ4)))
    else
    (some ((-1 : Int32), μ0)))))
set_option maxHeartbeats 4000000 in
set_option maxRecDepth 100000 in
theorem f_X12_end_ok {l : Launch} {G : GG} {μ0 : Mm} {a1 : Nat} {x2 : Int32} {r : Int32} {μ' : Mm} (hf : f_X12_end μ0 a1 x2 = some (r, μ')) : EvM l G D_X12_end yX12_end cX12_end 2 (some .int) [.ref a1, .int x2] μ0 (some (.int r)) μ' := by
  show Ev l G D_X12_end yX12_end cX12_end 2 (some .int) 0 [(0, .ref a1), (1, .int x2)] [] μ0 (some (.int r)) μ'
  unfold f_X12_end at hf
  refine E_iload_n (pc := 0) dX12_end_0 rfl ?_
  refine E_if_lt (pc := 1) (tgt := 12) dX12_end_1 (by decide) hf (fun hf => ?_) (fun hf => ?_)
  · refine E_iconst (pc := 12) (v := (-1 : Int32)) dX12_end_12 (by decide) ?_
    exact E_iret (pc := 13) dX12_end_13 rfl hf
  · refine E_iload_n (pc := 4) dX12_end_4 rfl ?_
    refine E_aload_n (pc := 5) dX12_end_5 rfl ?_
    refine E_getI (pc := 6) dX12_end_6 fl_X12_187 hf (fun v3 hf => ?_)
    refine E_icmp_le (pc := 9) (tgt := 14) dX12_end_9 (by decide) hf (fun hf => ?_) (fun hf => ?_)
    · refine E_aload_n (pc := 14) dX12_end_14 rfl ?_
      refine E_iload_n (pc := 15) dX12_end_15 rfl ?_
      refine E_putI (pc := 16) dX12_end_16 (pl_X12_187 _) hf (fun μ4 hf => ?_)
      refine E_iload_n (pc := 19) dX12_end_19 rfl ?_
      exact E_iret (pc := 20) dX12_end_20 rfl hf
    · refine E_iconst (pc := 12) (v := (-1 : Int32)) dX12_end_12 (by decide) ?_
      exact E_iret (pc := 13) dX12_end_13 rfl hf
theorem dX12_wordOf_0 : decode cX12_wordOf 0 = .ok (.iload_n 0, 1) := by decide +kernel
theorem dX12_wordOf_1 : decode cX12_wordOf 1 = .ok (.tableswitch 92 0 10 #[59, 62, 65, 68, 71, 74, 77, 80, 83, 86, 89], 59) := by decide +kernel
theorem dX12_wordOf_60 : decode cX12_wordOf 60 = .ok (.ldc 194, 2) := by decide +kernel
theorem dX12_wordOf_62 : decode cX12_wordOf 62 = .ok (.areturn, 1) := by decide +kernel
theorem dX12_wordOf_63 : decode cX12_wordOf 63 = .ok (.ldc 196, 2) := by decide +kernel
theorem dX12_wordOf_65 : decode cX12_wordOf 65 = .ok (.areturn, 1) := by decide +kernel
theorem dX12_wordOf_66 : decode cX12_wordOf 66 = .ok (.ldc 198, 2) := by decide +kernel
theorem dX12_wordOf_68 : decode cX12_wordOf 68 = .ok (.areturn, 1) := by decide +kernel
theorem dX12_wordOf_69 : decode cX12_wordOf 69 = .ok (.ldc 200, 2) := by decide +kernel
theorem dX12_wordOf_71 : decode cX12_wordOf 71 = .ok (.areturn, 1) := by decide +kernel
theorem dX12_wordOf_72 : decode cX12_wordOf 72 = .ok (.ldc 202, 2) := by decide +kernel
theorem dX12_wordOf_74 : decode cX12_wordOf 74 = .ok (.areturn, 1) := by decide +kernel
theorem dX12_wordOf_75 : decode cX12_wordOf 75 = .ok (.ldc 204, 2) := by decide +kernel
theorem dX12_wordOf_77 : decode cX12_wordOf 77 = .ok (.areturn, 1) := by decide +kernel
theorem dX12_wordOf_78 : decode cX12_wordOf 78 = .ok (.ldc 205, 2) := by decide +kernel
theorem dX12_wordOf_80 : decode cX12_wordOf 80 = .ok (.areturn, 1) := by decide +kernel
theorem dX12_wordOf_81 : decode cX12_wordOf 81 = .ok (.ldc 206, 2) := by decide +kernel
theorem dX12_wordOf_83 : decode cX12_wordOf 83 = .ok (.areturn, 1) := by decide +kernel
theorem dX12_wordOf_84 : decode cX12_wordOf 84 = .ok (.ldc 207, 2) := by decide +kernel
theorem dX12_wordOf_86 : decode cX12_wordOf 86 = .ok (.areturn, 1) := by decide +kernel
theorem dX12_wordOf_87 : decode cX12_wordOf 87 = .ok (.ldc 209, 2) := by decide +kernel
theorem dX12_wordOf_89 : decode cX12_wordOf 89 = .ok (.areturn, 1) := by decide +kernel
theorem dX12_wordOf_90 : decode cX12_wordOf 90 = .ok (.ldc 211, 2) := by decide +kernel
theorem dX12_wordOf_92 : decode cX12_wordOf 92 = .ok (.areturn, 1) := by decide +kernel
theorem dX12_wordOf_93 : decode cX12_wordOf 93 = .ok (.ldc 212, 2) := by decide +kernel
theorem dX12_wordOf_95 : decode cX12_wordOf 95 = .ok (.areturn, 1) := by decide +kernel
abbrev D_X12_wordOf : Nat := 1
set_option maxRecDepth 100000 in
def f_X12_wordOf (μ0 : Mm) (x1 : Int32) : Option (Nat × Mm) :=
 (if x1 = (0 : Int32) then
    (some ((11 : Nat), μ0))
    else
    (if x1 = (1 : Int32) then
    (some ((12 : Nat), μ0))
    else
    (if x1 = (2 : Int32) then
    (some ((18 : Nat), μ0))
    else
    (if x1 = (3 : Int32) then
    (some ((19 : Nat), μ0))
    else
    (if x1 = (4 : Int32) then
    (some ((20 : Nat), μ0))
    else
    (if x1 = (5 : Int32) then
    (some ((21 : Nat), μ0))
    else
    (if x1 = (6 : Int32) then
    (some ((22 : Nat), μ0))
    else
    (if x1 = (7 : Int32) then
    (some ((23 : Nat), μ0))
    else
    (if x1 = (8 : Int32) then
    (some ((24 : Nat), μ0))
    else
    (if x1 = (9 : Int32) then
    (some ((25 : Nat), μ0))
    else
    (if x1 = (10 : Int32) then
    (some ((26 : Nat), μ0))
    else
    (some ((27 : Nat), μ0)))))))))))))
set_option maxHeartbeats 4000000 in
set_option maxRecDepth 100000 in
theorem f_X12_wordOf_ok {l : Launch} {G : GG} {μ0 : Mm} {x1 : Int32} {r : Nat} {μ' : Mm} (hf : f_X12_wordOf μ0 x1 = some (r, μ')) : EvM l G D_X12_wordOf yX12_wordOf cX12_wordOf 1 (some (.object "java/lang/String")) [.int x1] μ0 (some (.ref r)) μ' := by
  show Ev l G D_X12_wordOf yX12_wordOf cX12_wordOf 1 (some (.object "java/lang/String")) 0 [(0, .int x1)] [] μ0 (some (.ref r)) μ'
  unfold f_X12_wordOf at hf
  refine E_iload_n (pc := 0) dX12_wordOf_0 rfl ?_
  refine ifS hf (fun n1_0 hf => ?_) (fun n1_0 hf => ?_)
  · refine E_tswI (pc := 1) (tgt := 60) (0) dX12_wordOf_1 (by rw [n1_0]; decide) (by decide) (by decide) rfl (by decide) ?_
    refine E_ldcS (pc := 60) (11 : Nat) dX12_wordOf_60 (by decide) ⟨rfl, rfl⟩ ?_
    exact E_aret (pc := 62) dX12_wordOf_62 rfl (Or.inl ⟨_, rfl⟩) hf
  · refine ifS hf (fun n1_1 hf => ?_) (fun n1_1 hf => ?_)
    · refine E_tswI (pc := 1) (tgt := 63) (1) dX12_wordOf_1 (by rw [n1_1]; decide) (by decide) (by decide) rfl (by decide) ?_
      refine E_ldcS (pc := 63) (12 : Nat) dX12_wordOf_63 (by decide) ⟨rfl, rfl⟩ ?_
      exact E_aret (pc := 65) dX12_wordOf_65 rfl (Or.inl ⟨_, rfl⟩) hf
    · refine ifS hf (fun n1_2 hf => ?_) (fun n1_2 hf => ?_)
      · refine E_tswI (pc := 1) (tgt := 66) (2) dX12_wordOf_1 (by rw [n1_2]; decide) (by decide) (by decide) rfl (by decide) ?_
        refine E_ldcS (pc := 66) (18 : Nat) dX12_wordOf_66 (by decide) ⟨rfl, rfl⟩ ?_
        exact E_aret (pc := 68) dX12_wordOf_68 rfl (Or.inl ⟨_, rfl⟩) hf
      · refine ifS hf (fun n1_3 hf => ?_) (fun n1_3 hf => ?_)
        · refine E_tswI (pc := 1) (tgt := 69) (3) dX12_wordOf_1 (by rw [n1_3]; decide) (by decide) (by decide) rfl (by decide) ?_
          refine E_ldcS (pc := 69) (19 : Nat) dX12_wordOf_69 (by decide) ⟨rfl, rfl⟩ ?_
          exact E_aret (pc := 71) dX12_wordOf_71 rfl (Or.inl ⟨_, rfl⟩) hf
        · refine ifS hf (fun n1_4 hf => ?_) (fun n1_4 hf => ?_)
          · refine E_tswI (pc := 1) (tgt := 72) (4) dX12_wordOf_1 (by rw [n1_4]; decide) (by decide) (by decide) rfl (by decide) ?_
            refine E_ldcS (pc := 72) (20 : Nat) dX12_wordOf_72 (by decide) ⟨rfl, rfl⟩ ?_
            exact E_aret (pc := 74) dX12_wordOf_74 rfl (Or.inl ⟨_, rfl⟩) hf
          · refine ifS hf (fun n1_5 hf => ?_) (fun n1_5 hf => ?_)
            · refine E_tswI (pc := 1) (tgt := 75) (5) dX12_wordOf_1 (by rw [n1_5]; decide) (by decide) (by decide) rfl (by decide) ?_
              refine E_ldcS (pc := 75) (21 : Nat) dX12_wordOf_75 (by decide) ⟨rfl, rfl⟩ ?_
              exact E_aret (pc := 77) dX12_wordOf_77 rfl (Or.inl ⟨_, rfl⟩) hf
            · refine ifS hf (fun n1_6 hf => ?_) (fun n1_6 hf => ?_)
              · refine E_tswI (pc := 1) (tgt := 78) (6) dX12_wordOf_1 (by rw [n1_6]; decide) (by decide) (by decide) rfl (by decide) ?_
                refine E_ldcS (pc := 78) (22 : Nat) dX12_wordOf_78 (by decide) ⟨rfl, rfl⟩ ?_
                exact E_aret (pc := 80) dX12_wordOf_80 rfl (Or.inl ⟨_, rfl⟩) hf
              · refine ifS hf (fun n1_7 hf => ?_) (fun n1_7 hf => ?_)
                · refine E_tswI (pc := 1) (tgt := 81) (7) dX12_wordOf_1 (by rw [n1_7]; decide) (by decide) (by decide) rfl (by decide) ?_
                  refine E_ldcS (pc := 81) (23 : Nat) dX12_wordOf_81 (by decide) ⟨rfl, rfl⟩ ?_
                  exact E_aret (pc := 83) dX12_wordOf_83 rfl (Or.inl ⟨_, rfl⟩) hf
                · refine ifS hf (fun n1_8 hf => ?_) (fun n1_8 hf => ?_)
                  · refine E_tswI (pc := 1) (tgt := 84) (8) dX12_wordOf_1 (by rw [n1_8]; decide) (by decide) (by decide) rfl (by decide) ?_
                    refine E_ldcS (pc := 84) (24 : Nat) dX12_wordOf_84 (by decide) ⟨rfl, rfl⟩ ?_
                    exact E_aret (pc := 86) dX12_wordOf_86 rfl (Or.inl ⟨_, rfl⟩) hf
                  · refine ifS hf (fun n1_9 hf => ?_) (fun n1_9 hf => ?_)
                    · refine E_tswI (pc := 1) (tgt := 87) (9) dX12_wordOf_1 (by rw [n1_9]; decide) (by decide) (by decide) rfl (by decide) ?_
                      refine E_ldcS (pc := 87) (25 : Nat) dX12_wordOf_87 (by decide) ⟨rfl, rfl⟩ ?_
                      exact E_aret (pc := 89) dX12_wordOf_89 rfl (Or.inl ⟨_, rfl⟩) hf
                    · refine ifS hf (fun n1_10 hf => ?_) (fun n1_10 hf => ?_)
                      · refine E_tswI (pc := 1) (tgt := 90) (10) dX12_wordOf_1 (by rw [n1_10]; decide) (by decide) (by decide) rfl (by decide) ?_
                        refine E_ldcS (pc := 90) (26 : Nat) dX12_wordOf_90 (by decide) ⟨rfl, rfl⟩ ?_
                        exact E_aret (pc := 92) dX12_wordOf_92 rfl (Or.inl ⟨_, rfl⟩) hf
                      · refine E_tswD (pc := 1) (tgt := 93) dX12_wordOf_1 (by have q0 : ¬ (x1).toInt = 0 := i32ne n1_0; have q1 : ¬ (x1).toInt = 1 := i32ne n1_1; have q2 : ¬ (x1).toInt = 2 := i32ne n1_2; have q3 : ¬ (x1).toInt = 3 := i32ne n1_3; have q4 : ¬ (x1).toInt = 4 := i32ne n1_4; have q5 : ¬ (x1).toInt = 5 := i32ne n1_5; have q6 : ¬ (x1).toInt = 6 := i32ne n1_6; have q7 : ¬ (x1).toInt = 7 := i32ne n1_7; have q8 : ¬ (x1).toInt = 8 := i32ne n1_8; have q9 : ¬ (x1).toInt = 9 := i32ne n1_9; have q10 : ¬ (x1).toInt = 10 := i32ne n1_10;  omega) (by decide) ?_
                        refine E_ldcS (pc := 93) (27 : Nat) dX12_wordOf_93 (by decide) ⟨rfl, rfl⟩ ?_
                        exact E_aret (pc := 95) dX12_wordOf_95 rfl (Or.inl ⟨_, rfl⟩) hf
theorem dX12_fails_0 : decode cX12_fails 0 = .ok (.aload_n 0, 1) := by decide +kernel
theorem dX12_fails_1 : decode cX12_fails 1 = .ok (.aload_n 0, 1) := by decide +kernel
theorem dX12_fails_2 : decode cX12_fails 2 = .ok (.getfield 214, 3) := by decide +kernel
theorem dX12_fails_5 : decode cX12_fails 5 = .ok (.ifCond .ne 14, 3) := by decide +kernel
theorem dX12_fails_8 : decode cX12_fails 8 = .ok (.iconst 1, 1) := by decide +kernel
theorem dX12_fails_9 : decode cX12_fails 9 = .ok (.bipush 8, 2) := by decide +kernel
theorem dX12_fails_11 : decode cX12_fails 11 = .ok (.iload_n 2, 1) := by decide +kernel
theorem dX12_fails_12 : decode cX12_fails 12 = .ok (.imul, 1) := by decide +kernel
theorem dX12_fails_13 : decode cX12_fails 13 = .ok (.iadd, 1) := by decide +kernel
theorem dX12_fails_14 : decode cX12_fails 14 = .ok (.iload_n 1, 1) := by decide +kernel
theorem dX12_fails_15 : decode cX12_fails 15 = .ok (.iadd, 1) := by decide +kernel
theorem dX12_fails_16 : decode cX12_fails 16 = .ok (.goto 7, 3) := by decide +kernel
theorem dX12_fails_19 : decode cX12_fails 19 = .ok (.aload_n 0, 1) := by decide +kernel
theorem dX12_fails_20 : decode cX12_fails 20 = .ok (.getfield 214, 3) := by decide +kernel
theorem dX12_fails_23 : decode cX12_fails 23 = .ok (.putfield 214, 3) := by decide +kernel
theorem dX12_fails_26 : decode cX12_fails 26 = .ok (.return_, 1) := by decide +kernel
abbrev D_X12_fails : Nat := 1
set_option maxRecDepth 100000 in
def f_X12_fails (μ0 : Mm) (a1 : Nat) (x2 : Int32) (x3 : Int32) : Option Mm :=
 ((gI μ0 a1 12 30).bind fun v4 =>
    (if v4 = 0 then
    ((pV μ0 a1 12 30 (.int (((1 : Int32) + ((8 : Int32) * x3)) + x2))).bind fun μ5 =>
    (some μ5))
    else
    ((gI μ0 a1 12 30).bind fun v6 =>
    ((pV μ0 a1 12 30 (.int v6)).bind fun μ7 =>
    (some μ7)))))
set_option maxHeartbeats 4000000 in
set_option maxRecDepth 100000 in
theorem f_X12_fails_ok {l : Launch} {G : GG} {μ0 : Mm} {a1 : Nat} {x2 : Int32} {x3 : Int32} {μ' : Mm} (hf : f_X12_fails μ0 a1 x2 x3 = some μ') : EvM l G D_X12_fails yX12_fails cX12_fails 3 none [.ref a1, .int x2, .int x3] μ0 none μ' := by
  show Ev l G D_X12_fails yX12_fails cX12_fails 3 none 0 [(0, .ref a1), (1, .int x2), (2, .int x3)] [] μ0 none μ'
  unfold f_X12_fails at hf
  refine E_aload_n (pc := 0) dX12_fails_0 rfl ?_
  refine E_aload_n (pc := 1) dX12_fails_1 rfl ?_
  refine E_getI (pc := 2) dX12_fails_2 fl_X12_214 hf (fun v4 hf => ?_)
  refine E_if_ne (pc := 5) (tgt := 19) dX12_fails_5 (by decide) hf (fun hf => ?_) (fun hf => ?_)
  · refine E_iconst (pc := 8) (v := (1 : Int32)) dX12_fails_8 (by decide) ?_
    refine E_bipush (pc := 9) (v := (8 : Int32)) dX12_fails_9 (by decide) ?_
    refine E_iload_n (pc := 11) dX12_fails_11 rfl ?_
    refine E_imul (pc := 12) dX12_fails_12 ?_
    refine E_iadd (pc := 13) dX12_fails_13 ?_
    refine E_iload_n (pc := 14) dX12_fails_14 rfl ?_
    refine E_iadd (pc := 15) dX12_fails_15 ?_
    refine E_goto (pc := 16) (tgt := 23) dX12_fails_16 (by decide) ?_
    refine E_putI (pc := 23) dX12_fails_23 (pl_X12_214 _) hf (fun μ5 hf => ?_)
    exact E_vret (pc := 26) dX12_fails_26 rfl hf
  · refine E_aload_n (pc := 19) dX12_fails_19 rfl ?_
    refine E_getI (pc := 20) dX12_fails_20 fl_X12_214 hf (fun v6 hf => ?_)
    refine E_putI (pc := 23) dX12_fails_23 (pl_X12_214 _) hf (fun μ7 hf => ?_)
    exact E_vret (pc := 26) dX12_fails_26 rfl hf
theorem dX12_sign_0 : decode cX12_sign 0 = .ok (.aload_n 0, 1) := by decide +kernel
theorem dX12_sign_1 : decode cX12_sign 1 = .ok (.getfield 217, 3) := by decide +kernel
theorem dX12_sign_4 : decode cX12_sign 4 = .ok (.aload_n 0, 1) := by decide +kernel
theorem dX12_sign_5 : decode cX12_sign 5 = .ok (.getfield 187, 3) := by decide +kernel
theorem dX12_sign_8 : decode cX12_sign 8 = .ok (.if_icmp .ge 19, 3) := by decide +kernel
theorem dX12_sign_11 : decode cX12_sign 11 = .ok (.aload_n 0, 1) := by decide +kernel
theorem dX12_sign_12 : decode cX12_sign 12 = .ok (.getfield 92, 3) := by decide +kernel
theorem dX12_sign_15 : decode cX12_sign 15 = .ok (.aload_n 0, 1) := by decide +kernel
theorem dX12_sign_16 : decode cX12_sign 16 = .ok (.getfield 217, 3) := by decide +kernel
theorem dX12_sign_19 : decode cX12_sign 19 = .ok (.baload, 1) := by decide +kernel
theorem dX12_sign_20 : decode cX12_sign 20 = .ok (.sipush 255, 3) := by decide +kernel
theorem dX12_sign_23 : decode cX12_sign 23 = .ok (.iand, 1) := by decide +kernel
theorem dX12_sign_24 : decode cX12_sign 24 = .ok (.goto 4, 3) := by decide +kernel
theorem dX12_sign_27 : decode cX12_sign 27 = .ok (.iconst (-1), 1) := by decide +kernel
theorem dX12_sign_28 : decode cX12_sign 28 = .ok (.ireturn, 1) := by decide +kernel
abbrev D_X12_sign : Nat := 1
set_option maxRecDepth 100000 in
def f_X12_sign (μ0 : Mm) (a1 : Nat) : Option (Int32 × Mm) :=
 ((gI μ0 a1 12 29).bind fun v2 =>
    ((gI μ0 a1 12 28).bind fun v3 =>
    (if v3 ≤ v2 then
    (some ((-1 : Int32), μ0))
    else
    ((gR μ0 a1 12 38).bind fun v4 =>
    ((gI μ0 a1 12 29).bind fun v5 =>
    ((aI μ0 v4 1 v5).bind fun v6 =>
    (some ((v6 &&& (255 : Int32)), μ0))))))))
set_option maxHeartbeats 4000000 in
set_option maxRecDepth 100000 in
theorem f_X12_sign_ok {l : Launch} {G : GG} {μ0 : Mm} {a1 : Nat} {r : Int32} {μ' : Mm} (hf : f_X12_sign μ0 a1 = some (r, μ')) : EvM l G D_X12_sign yX12_sign cX12_sign 1 (some .int) [.ref a1] μ0 (some (.int r)) μ' := by
  show Ev l G D_X12_sign yX12_sign cX12_sign 1 (some .int) 0 [(0, .ref a1)] [] μ0 (some (.int r)) μ'
  unfold f_X12_sign at hf
  refine E_aload_n (pc := 0) dX12_sign_0 rfl ?_
  refine E_getI (pc := 1) dX12_sign_1 fl_X12_217 hf (fun v2 hf => ?_)
  refine E_aload_n (pc := 4) dX12_sign_4 rfl ?_
  refine E_getI (pc := 5) dX12_sign_5 fl_X12_187 hf (fun v3 hf => ?_)
  refine E_icmp_ge (pc := 8) (tgt := 27) dX12_sign_8 (by decide) hf (fun hf => ?_) (fun hf => ?_)
  · refine E_iconst (pc := 27) (v := (-1 : Int32)) dX12_sign_27 (by decide) ?_
    exact E_iret (pc := 28) dX12_sign_28 rfl hf
  · refine E_aload_n (pc := 11) dX12_sign_11 rfl ?_
    refine E_getR (pc := 12) dX12_sign_12 fl_X12_92 hf (fun v4 hf => ?_)
    refine E_aload_n (pc := 15) dX12_sign_15 rfl ?_
    refine E_getI (pc := 16) dX12_sign_16 fl_X12_217 hf (fun v5 hf => ?_)
    refine E_bald (pc := 19) dX12_sign_19 hf (fun v6 hf => ?_)
    refine E_sipush (pc := 20) (v := (255 : Int32)) dX12_sign_20 (by decide) ?_
    refine E_iand (pc := 23) dX12_sign_23 ?_
    refine E_goto (pc := 24) (tgt := 28) dX12_sign_24 (by decide) ?_
    exact E_iret (pc := 28) dX12_sign_28 rfl hf
theorem dX12_blanks_0 : decode cX12_blanks 0 = .ok (.aload_n 0, 1) := by decide +kernel
theorem dX12_blanks_1 : decode cX12_blanks 1 = .ok (.invokevirtual 220, 3) := by decide +kernel
theorem dX12_blanks_4 : decode cX12_blanks 4 = .ok (.bipush 32, 2) := by decide +kernel
theorem dX12_blanks_6 : decode cX12_blanks 6 = .ok (.if_icmp .ne 16, 3) := by decide +kernel
theorem dX12_blanks_9 : decode cX12_blanks 9 = .ok (.aload_n 0, 1) := by decide +kernel
theorem dX12_blanks_10 : decode cX12_blanks 10 = .ok (.dup, 1) := by decide +kernel
theorem dX12_blanks_11 : decode cX12_blanks 11 = .ok (.getfield 217, 3) := by decide +kernel
theorem dX12_blanks_14 : decode cX12_blanks 14 = .ok (.iconst 1, 1) := by decide +kernel
theorem dX12_blanks_15 : decode cX12_blanks 15 = .ok (.iadd, 1) := by decide +kernel
theorem dX12_blanks_16 : decode cX12_blanks 16 = .ok (.putfield 217, 3) := by decide +kernel
theorem dX12_blanks_19 : decode cX12_blanks 19 = .ok (.goto (-19), 3) := by decide +kernel
theorem dX12_blanks_22 : decode cX12_blanks 22 = .ok (.return_, 1) := by decide +kernel
abbrev D_X12_blanks : Nat := 2
def f_X12_blanks_L0 (K22 : Mm → Option Mm) : Nat → Mm → Nat → Option Mm
  | 0, _, _ => none
  | n + 1, μ0, a2 =>
    ((ob μ0 a2 12).bind fun _ =>
    (bd (f_X12_sign μ0 a2) fun v4 μ3 =>
    (if v4 = (32 : Int32) then
    ((gI μ3 a2 12 29).bind fun v5 =>
    ((pV μ3 a2 12 29 (.int (v5 + (1 : Int32)))).bind fun μ6 =>
    f_X12_blanks_L0 K22 n μ6 a2))
    else
    K22 μ3)))
set_option maxHeartbeats 4000000 in
set_option maxRecDepth 100000 in
theorem f_X12_blanks_L0_ok {l : Launch} {G : GG} {K22 : Mm → Option Mm} {μ' : Mm} (n : Nat) (μ0 : Mm) (a2 : Nat) (hf : f_X12_blanks_L0 K22 n μ0 a2 = some μ') (hK22 : ∀ (μ1 : Mm), K22 μ1  = some μ' → Ev l G D_X12_blanks yX12_blanks cX12_blanks 1 none 22 [] [] μ1 none μ') : Ev l G D_X12_blanks yX12_blanks cX12_blanks 1 none 0 [(0, .ref a2)] [] μ0 none μ' := by
  induction n generalizing μ0 a2 with
  | zero => cases hf
  | succ n ih0 =>
    have ih : ∀ (μ0 : Mm) (a2 : Nat), f_X12_blanks_L0 K22 n μ0 a2 = some μ' → Ev l G D_X12_blanks yX12_blanks cX12_blanks 1 none 0 [(0, .ref a2)] [] μ0 none μ' := fun μ0 a2 hf => ih0 μ0 a2 hf
    rw [f_X12_blanks_L0] at hf
    refine E_aload_n (pc := 0) dX12_blanks_0 rfl ?_
    refine E_Vi (pc := 1) (d2 := D_X12_sign) (ci := 12) [] dX12_blanks_1 ml_X12_220 mf_X12_sign im_X12_sign rfl rfl rfl (by decide) (Nat.le_of_ble_eq_true rfl) (Nat.le_of_ble_eq_true rfl) rfl (fun _ _ h => f_X12_sign_ok h) hf (fun v4 μ3 hf => ?_)
    refine E_bipush (pc := 4) (v := (32 : Int32)) dX12_blanks_4 (by decide) ?_
    refine E_icmp_ne (pc := 6) (tgt := 22) dX12_blanks_6 (by decide) hf (fun hf => ?_) (fun hf => ?_)
    · refine E_aload_n (pc := 9) dX12_blanks_9 rfl ?_
      refine E_dup (pc := 10) dX12_blanks_10 rfl ?_
      refine E_getI (pc := 11) dX12_blanks_11 fl_X12_217 hf (fun v5 hf => ?_)
      refine E_iconst (pc := 14) (v := (1 : Int32)) dX12_blanks_14 (by decide) ?_
      refine E_iadd (pc := 15) dX12_blanks_15 ?_
      refine E_putI (pc := 16) dX12_blanks_16 (pl_X12_217 _) hf (fun μ6 hf => ?_)
      refine E_goto (pc := 19) (tgt := 0) dX12_blanks_19 (by decide) ?_
      refine Ev.sub [0] rfl ?_
      exact ih _ _ hf
    · refine Ev.sub [] rfl ?_
      exact hK22 _ hf
set_option maxRecDepth 100000 in
def f_X12_blanks (μ0 : Mm) (a1 : Nat) : Option Mm :=
 f_X12_blanks_L0 (fun μ7 =>
    (some μ7)) FU μ0 a1
set_option maxHeartbeats 4000000 in
set_option maxRecDepth 100000 in
theorem f_X12_blanks_ok {l : Launch} {G : GG} {μ0 : Mm} {a1 : Nat} {μ' : Mm} (hf : f_X12_blanks μ0 a1 = some μ') : EvM l G D_X12_blanks yX12_blanks cX12_blanks 1 none [.ref a1] μ0 none μ' := by
  show Ev l G D_X12_blanks yX12_blanks cX12_blanks 1 none 0 [(0, .ref a1)] [] μ0 none μ'
  unfold f_X12_blanks at hf
  refine Ev.sub [0] rfl ?_
  refine f_X12_blanks_L0_ok  _ _ _ hf (fun μ7 hf => ?_)
  · exact E_vret (pc := 22) dX12_blanks_22 rfl hf
theorem dX12_isDigit_0 : decode cX12_isDigit 0 = .ok (.aload_n 0, 1) := by decide +kernel
theorem dX12_isDigit_1 : decode cX12_isDigit 1 = .ok (.invokevirtual 220, 3) := by decide +kernel
theorem dX12_isDigit_4 : decode cX12_isDigit 4 = .ok (.i2l, 1) := by decide +kernel
theorem dX12_isDigit_5 : decode cX12_isDigit 5 = .ok (.ldc2_w 223, 3) := by decide +kernel
theorem dX12_isDigit_8 : decode cX12_isDigit 8 = .ok (.ldc2_w 225, 3) := by decide +kernel
theorem dX12_isDigit_11 : decode cX12_isDigit 11 = .ok (.invokestatic 183, 3) := by decide +kernel
theorem dX12_isDigit_14 : decode cX12_isDigit 14 = .ok (.ireturn, 1) := by decide +kernel
abbrev D_X12_isDigit : Nat := 2
set_option maxRecDepth 100000 in
def f_X12_isDigit (μ0 : Mm) (a1 : Nat) : Option (Int32 × Mm) :=
 ((ob μ0 a1 12).bind fun _ =>
    (bd (f_X12_sign μ0 a1) fun v3 μ2 =>
    (bd (f_X12_in μ2 (v3).toInt64 (48 : Int64) (57 : Int64)) fun v5 μ4 =>
    (if v5 = 0 ∨ v5 = 1 then some (v5, μ4) else none))))
set_option maxHeartbeats 4000000 in
set_option maxRecDepth 100000 in
theorem f_X12_isDigit_ok {l : Launch} {G : GG} {μ0 : Mm} {a1 : Nat} {r : Int32} {μ' : Mm} (hf : f_X12_isDigit μ0 a1 = some (r, μ')) : EvM l G D_X12_isDigit yX12_isDigit cX12_isDigit 1 (some .boolean) [.ref a1] μ0 (some (.int r)) μ' := by
  show Ev l G D_X12_isDigit yX12_isDigit cX12_isDigit 1 (some .boolean) 0 [(0, .ref a1)] [] μ0 (some (.int r)) μ'
  unfold f_X12_isDigit at hf
  refine E_aload_n (pc := 0) dX12_isDigit_0 rfl ?_
  refine E_Vi (pc := 1) (d2 := D_X12_sign) (ci := 12) [] dX12_isDigit_1 ml_X12_220 mf_X12_sign im_X12_sign rfl rfl rfl (by decide) (Nat.le_of_ble_eq_true rfl) (Nat.le_of_ble_eq_true rfl) rfl (fun _ _ h => f_X12_sign_ok h) hf (fun v3 μ2 hf => ?_)
  refine E_i2l (pc := 4) dX12_isDigit_4 ?_
  refine E_ldc2 (pc := 5) (v := (48 : Int64)) dX12_isDigit_5 co_X12_223 ?_
  refine E_ldc2 (pc := 8) (v := (57 : Int64)) dX12_isDigit_8 co_X12_225 ?_
  refine E_Si (pc := 11) (d2 := D_X12_in) [.long (v3).toInt64, .long (48 : Int64), .long (57 : Int64)] dX12_isDigit_11 ml_X12_183 mf_X12_in st_X12_in rfl (by decide) (Nat.le_of_ble_eq_true rfl) (Nat.le_of_ble_eq_true rfl) rfl (fun _ _ h => f_X12_in_ok h) hf (fun v5 μ4 hf => ?_)
  exact E_zret (pc := 14) dX12_isDigit_14 rfl hf
theorem dX12_stood_0 : decode cX12_stood 0 = .ok (.aload_n 0, 1) := by decide +kernel
theorem dX12_stood_1 : decode cX12_stood 1 = .ok (.getfield 217, 3) := by decide +kernel
theorem dX12_stood_4 : decode cX12_stood 4 = .ok (.istore_n 2, 1) := by decide +kernel
theorem dX12_stood_5 : decode cX12_stood 5 = .ok (.iload_n 2, 1) := by decide +kernel
theorem dX12_stood_6 : decode cX12_stood 6 = .ok (.aload_n 0, 1) := by decide +kernel
theorem dX12_stood_7 : decode cX12_stood 7 = .ok (.getfield 187, 3) := by decide +kernel
theorem dX12_stood_10 : decode cX12_stood 10 = .ok (.if_icmp .ge 31, 3) := by decide +kernel
theorem dX12_stood_13 : decode cX12_stood 13 = .ok (.aload_n 0, 1) := by decide +kernel
theorem dX12_stood_14 : decode cX12_stood 14 = .ok (.getfield 92, 3) := by decide +kernel
theorem dX12_stood_17 : decode cX12_stood 17 = .ok (.iload_n 2, 1) := by decide +kernel
theorem dX12_stood_18 : decode cX12_stood 18 = .ok (.baload, 1) := by decide +kernel
theorem dX12_stood_19 : decode cX12_stood 19 = .ok (.bipush 97, 2) := by decide +kernel
theorem dX12_stood_21 : decode cX12_stood 21 = .ok (.if_icmp .lt 20, 3) := by decide +kernel
theorem dX12_stood_24 : decode cX12_stood 24 = .ok (.aload_n 0, 1) := by decide +kernel
theorem dX12_stood_25 : decode cX12_stood 25 = .ok (.getfield 92, 3) := by decide +kernel
theorem dX12_stood_28 : decode cX12_stood 28 = .ok (.iload_n 2, 1) := by decide +kernel
theorem dX12_stood_29 : decode cX12_stood 29 = .ok (.baload, 1) := by decide +kernel
theorem dX12_stood_30 : decode cX12_stood 30 = .ok (.bipush 122, 2) := by decide +kernel
theorem dX12_stood_32 : decode cX12_stood 32 = .ok (.if_icmp .gt 9, 3) := by decide +kernel
theorem dX12_stood_35 : decode cX12_stood 35 = .ok (.iinc 2 1, 3) := by decide +kernel
theorem dX12_stood_38 : decode cX12_stood 38 = .ok (.goto (-33), 3) := by decide +kernel
theorem dX12_stood_41 : decode cX12_stood 41 = .ok (.iload_n 2, 1) := by decide +kernel
theorem dX12_stood_42 : decode cX12_stood 42 = .ok (.aload_n 0, 1) := by decide +kernel
theorem dX12_stood_43 : decode cX12_stood 43 = .ok (.getfield 217, 3) := by decide +kernel
theorem dX12_stood_46 : decode cX12_stood 46 = .ok (.isub, 1) := by decide +kernel
theorem dX12_stood_47 : decode cX12_stood 47 = .ok (.aload_n 1, 1) := by decide +kernel
theorem dX12_stood_48 : decode cX12_stood 48 = .ok (.invokevirtual 227, 3) := by decide +kernel
theorem dX12_stood_51 : decode cX12_stood 51 = .ok (.if_icmp .ne 7, 3) := by decide +kernel
theorem dX12_stood_54 : decode cX12_stood 54 = .ok (.iconst 1, 1) := by decide +kernel
theorem dX12_stood_55 : decode cX12_stood 55 = .ok (.goto 4, 3) := by decide +kernel
theorem dX12_stood_58 : decode cX12_stood 58 = .ok (.iconst 0, 1) := by decide +kernel
theorem dX12_stood_59 : decode cX12_stood 59 = .ok (.istore_n 3, 1) := by decide +kernel
theorem dX12_stood_60 : decode cX12_stood 60 = .ok (.iconst 0, 1) := by decide +kernel
theorem dX12_stood_61 : decode cX12_stood 61 = .ok (.istore 4, 2) := by decide +kernel
theorem dX12_stood_63 : decode cX12_stood 63 = .ok (.iload 4, 2) := by decide +kernel
theorem dX12_stood_65 : decode cX12_stood 65 = .ok (.aload_n 1, 1) := by decide +kernel
theorem dX12_stood_66 : decode cX12_stood 66 = .ok (.invokevirtual 227, 3) := by decide +kernel
theorem dX12_stood_69 : decode cX12_stood 69 = .ok (.if_icmp .ge 40, 3) := by decide +kernel
theorem dX12_stood_72 : decode cX12_stood 72 = .ok (.iload_n 3, 1) := by decide +kernel
theorem dX12_stood_73 : decode cX12_stood 73 = .ok (.ifCond .eq 36, 3) := by decide +kernel
theorem dX12_stood_76 : decode cX12_stood 76 = .ok (.aload_n 0, 1) := by decide +kernel
theorem dX12_stood_77 : decode cX12_stood 77 = .ok (.getfield 92, 3) := by decide +kernel
theorem dX12_stood_80 : decode cX12_stood 80 = .ok (.aload_n 0, 1) := by decide +kernel
theorem dX12_stood_81 : decode cX12_stood 81 = .ok (.getfield 217, 3) := by decide +kernel
theorem dX12_stood_84 : decode cX12_stood 84 = .ok (.iload 4, 2) := by decide +kernel
theorem dX12_stood_86 : decode cX12_stood 86 = .ok (.iadd, 1) := by decide +kernel
theorem dX12_stood_87 : decode cX12_stood 87 = .ok (.baload, 1) := by decide +kernel
theorem dX12_stood_88 : decode cX12_stood 88 = .ok (.aload_n 1, 1) := by decide +kernel
theorem dX12_stood_89 : decode cX12_stood 89 = .ok (.iload 4, 2) := by decide +kernel
theorem dX12_stood_91 : decode cX12_stood 91 = .ok (.invokevirtual 232, 3) := by decide +kernel
theorem dX12_stood_94 : decode cX12_stood 94 = .ok (.if_icmp .ne 7, 3) := by decide +kernel
theorem dX12_stood_97 : decode cX12_stood 97 = .ok (.iconst 1, 1) := by decide +kernel
theorem dX12_stood_98 : decode cX12_stood 98 = .ok (.goto 4, 3) := by decide +kernel
theorem dX12_stood_101 : decode cX12_stood 101 = .ok (.iconst 0, 1) := by decide +kernel
theorem dX12_stood_102 : decode cX12_stood 102 = .ok (.istore_n 3, 1) := by decide +kernel
theorem dX12_stood_103 : decode cX12_stood 103 = .ok (.iinc 4 1, 3) := by decide +kernel
theorem dX12_stood_106 : decode cX12_stood 106 = .ok (.goto (-43), 3) := by decide +kernel
theorem dX12_stood_109 : decode cX12_stood 109 = .ok (.iload_n 3, 1) := by decide +kernel
theorem dX12_stood_110 : decode cX12_stood 110 = .ok (.ireturn, 1) := by decide +kernel
abbrev D_X12_stood : Nat := 7
def f_X12_stood_L5 (K41 : Mm → Nat → Nat → Int32 → Option (Int32 × Mm)) : Nat → Mm → Nat → Nat → Int32 → Option (Int32 × Mm)
  | 0, _, _, _, _ => none
  | n + 1, μ0, a5, a6, x7 =>
    ((gI μ0 a5 12 28).bind fun v8 =>
    (if v8 ≤ x7 then
    K41 μ0 a5 a6 x7
    else
    ((gR μ0 a5 12 38).bind fun v9 =>
    ((aI μ0 v9 1 x7).bind fun v10 =>
    (if v10 < (97 : Int32) then
    K41 μ0 a5 a6 x7
    else
    ((gR μ0 a5 12 38).bind fun v11 =>
    ((aI μ0 v11 1 x7).bind fun v12 =>
    (if (122 : Int32) < v12 then
    K41 μ0 a5 a6 x7
    else
    (nm (x7 + Int32.ofInt (1)) fun x13 =>
    f_X12_stood_L5 K41 n μ0 a5 a6 x13)))))))))
set_option maxHeartbeats 4000000 in
set_option maxRecDepth 100000 in
theorem f_X12_stood_L5_ok {l : Launch} {G : GG} {K41 : Mm → Nat → Nat → Int32 → Option (Int32 × Mm)} {r : Int32} {μ' : Mm} (n : Nat) (μ0 : Mm) (a5 : Nat) (a6 : Nat) (x7 : Int32) (hf : f_X12_stood_L5 K41 n μ0 a5 a6 x7 = some (r, μ')) (hK41 : ∀ (μ1 : Mm) (y0 : Nat) (y1 : Nat) (y2 : Int32), K41 μ1 y0 y1 y2 = some (r, μ') → Ev l G D_X12_stood yX12_stood cX12_stood 5 (some .boolean) 41 [(0, .ref y0), (1, .ref y1), (2, .int y2)] [] μ1 (some (.int r)) μ') : Ev l G D_X12_stood yX12_stood cX12_stood 5 (some .boolean) 5 [(0, .ref a5), (1, .ref a6), (2, .int x7)] [] μ0 (some (.int r)) μ' := by
  induction n generalizing μ0 a5 a6 x7 with
  | zero => cases hf
  | succ n ih0 =>
    have ih : ∀ (μ0 : Mm) (a5 : Nat) (a6 : Nat) (x7 : Int32), f_X12_stood_L5 K41 n μ0 a5 a6 x7 = some (r, μ') → Ev l G D_X12_stood yX12_stood cX12_stood 5 (some .boolean) 5 [(0, .ref a5), (1, .ref a6), (2, .int x7)] [] μ0 (some (.int r)) μ' := fun μ0 a5 a6 x7 hf => ih0 μ0 a5 a6 x7 hf
    rw [f_X12_stood_L5] at hf
    refine E_iload_n (pc := 5) dX12_stood_5 rfl ?_
    refine E_aload_n (pc := 6) dX12_stood_6 rfl ?_
    refine E_getI (pc := 7) dX12_stood_7 fl_X12_187 hf (fun v8 hf => ?_)
    refine E_icmp_ge (pc := 10) (tgt := 41) dX12_stood_10 (by decide) hf (fun hf => ?_) (fun hf => ?_)
    · refine Ev.sub [0, 1, 2] rfl ?_
      exact hK41 _ _ _ _ hf
    · refine E_aload_n (pc := 13) dX12_stood_13 rfl ?_
      refine E_getR (pc := 14) dX12_stood_14 fl_X12_92 hf (fun v9 hf => ?_)
      refine E_iload_n (pc := 17) dX12_stood_17 rfl ?_
      refine E_bald (pc := 18) dX12_stood_18 hf (fun v10 hf => ?_)
      refine E_bipush (pc := 19) (v := (97 : Int32)) dX12_stood_19 (by decide) ?_
      refine E_icmp_lt (pc := 21) (tgt := 41) dX12_stood_21 (by decide) hf (fun hf => ?_) (fun hf => ?_)
      · refine Ev.sub [0, 1, 2] rfl ?_
        exact hK41 _ _ _ _ hf
      · refine E_aload_n (pc := 24) dX12_stood_24 rfl ?_
        refine E_getR (pc := 25) dX12_stood_25 fl_X12_92 hf (fun v11 hf => ?_)
        refine E_iload_n (pc := 28) dX12_stood_28 rfl ?_
        refine E_bald (pc := 29) dX12_stood_29 hf (fun v12 hf => ?_)
        refine E_bipush (pc := 30) (v := (122 : Int32)) dX12_stood_30 (by decide) ?_
        refine E_icmp_gt (pc := 32) (tgt := 41) dX12_stood_32 (by decide) hf (fun hf => ?_) (fun hf => ?_)
        · refine Ev.sub [0, 1, 2] rfl ?_
          exact hK41 _ _ _ _ hf
        · refine E_iinc (pc := 35) (ls' := fun x13 => [(2, .int x13), (0, .ref a5), (1, .ref a6)]) dX12_stood_35 rfl (by decide) (fun _ => rfl) hf (fun x13 hf => ?_)
          refine E_goto (pc := 38) (tgt := 5) dX12_stood_38 (by decide) ?_
          refine Ev.sub [1, 2, 0] rfl ?_
          exact ih _ _ _ _ hf
def f_X12_stood_L63 (K109 : Mm → Int32 → Option (Int32 × Mm)) : Nat → Mm → Nat → Nat → Int32 → Int32 → Option (Int32 × Mm)
  | 0, _, _, _, _, _ => none
  | n + 1, μ0, a22, a23, x24, x25 =>
    ((tL a23).bind fun v26 =>
    (if v26 ≤ x25 then
    K109 μ0 x24
    else
    (if x24 = 0 then
    K109 μ0 x24
    else
    ((gR μ0 a22 12 38).bind fun v27 =>
    ((gI μ0 a22 12 29).bind fun v28 =>
    ((aI μ0 v27 1 (v28 + x25)).bind fun v29 =>
    ((tC a23 x25).bind fun v30 =>
    (if v29 = v30 then
    (nm (1 : Int32) fun x31 =>
    (nm (x25 + Int32.ofInt (1)) fun x32 =>
    f_X12_stood_L63 K109 n μ0 a22 a23 x31 x32))
    else
    (nm (0 : Int32) fun x33 =>
    (nm (x25 + Int32.ofInt (1)) fun x34 =>
    f_X12_stood_L63 K109 n μ0 a22 a23 x33 x34))))))))))
set_option maxHeartbeats 4000000 in
set_option maxRecDepth 100000 in
theorem f_X12_stood_L63_ok {l : Launch} {G : GG} {K109 : Mm → Int32 → Option (Int32 × Mm)} {r : Int32} {μ' : Mm} (n : Nat) (μ0 : Mm) (a22 : Nat) (a23 : Nat) (x24 : Int32) (x25 : Int32) (hf : f_X12_stood_L63 K109 n μ0 a22 a23 x24 x25 = some (r, μ')) (hK109 : ∀ (μ1 : Mm) (y3 : Int32), K109 μ1 y3 = some (r, μ') → Ev l G D_X12_stood yX12_stood cX12_stood 5 (some .boolean) 109 [(3, .int y3)] [] μ1 (some (.int r)) μ') : Ev l G D_X12_stood yX12_stood cX12_stood 5 (some .boolean) 63 [(0, .ref a22), (1, .ref a23), (3, .int x24), (4, .int x25)] [] μ0 (some (.int r)) μ' := by
  induction n generalizing μ0 a22 a23 x24 x25 with
  | zero => cases hf
  | succ n ih0 =>
    have ih : ∀ (μ0 : Mm) (a22 : Nat) (a23 : Nat) (x24 : Int32) (x25 : Int32), f_X12_stood_L63 K109 n μ0 a22 a23 x24 x25 = some (r, μ') → Ev l G D_X12_stood yX12_stood cX12_stood 5 (some .boolean) 63 [(0, .ref a22), (1, .ref a23), (3, .int x24), (4, .int x25)] [] μ0 (some (.int r)) μ' := fun μ0 a22 a23 x24 x25 hf => ih0 μ0 a22 a23 x24 x25 hf
    rw [f_X12_stood_L63] at hf
    refine E_iload (pc := 63) dX12_stood_63 rfl ?_
    refine E_aload_n (pc := 65) dX12_stood_65 rfl ?_
    refine E_slen (pc := 66) dX12_stood_66 ml_X12_227 (by decide) (Nat.le_of_ble_eq_true rfl) hf (fun v26 hf => ?_)
    refine E_icmp_ge (pc := 69) (tgt := 109) dX12_stood_69 (by decide) hf (fun hf => ?_) (fun hf => ?_)
    · refine Ev.sub [2] rfl ?_
      exact hK109 _ _ hf
    · refine E_iload_n (pc := 72) dX12_stood_72 rfl ?_
      refine E_if_eq (pc := 73) (tgt := 109) dX12_stood_73 (by decide) hf (fun hf => ?_) (fun hf => ?_)
      · refine Ev.sub [2] rfl ?_
        exact hK109 _ _ hf
      · refine E_aload_n (pc := 76) dX12_stood_76 rfl ?_
        refine E_getR (pc := 77) dX12_stood_77 fl_X12_92 hf (fun v27 hf => ?_)
        refine E_aload_n (pc := 80) dX12_stood_80 rfl ?_
        refine E_getI (pc := 81) dX12_stood_81 fl_X12_217 hf (fun v28 hf => ?_)
        refine E_iload (pc := 84) dX12_stood_84 rfl ?_
        refine E_iadd (pc := 86) dX12_stood_86 ?_
        refine E_bald (pc := 87) dX12_stood_87 hf (fun v29 hf => ?_)
        refine E_aload_n (pc := 88) dX12_stood_88 rfl ?_
        refine E_iload (pc := 89) dX12_stood_89 rfl ?_
        refine E_schr (pc := 91) dX12_stood_91 ml_X12_232 (by decide) (Nat.le_of_ble_eq_true rfl) hf (fun v30 hf => ?_)
        refine E_icmp_ne (pc := 94) (tgt := 101) dX12_stood_94 (by decide) hf (fun hf => ?_) (fun hf => ?_)
        · refine E_iconst (pc := 97) (v := (1 : Int32)) dX12_stood_97 (by decide) ?_
          refine E_goto (pc := 98) (tgt := 102) dX12_stood_98 (by decide) ?_
          refine E_istore_n (pc := 102) (ls' := fun x31 => [(3, .int x31), (0, .ref a22), (1, .ref a23), (4, .int x25)]) dX12_stood_102 (by decide) (fun _ => rfl) hf (fun x31 hf => ?_)
          refine E_iinc (pc := 103) (ls' := fun x32 => [(4, .int x32), (3, .int x31), (0, .ref a22), (1, .ref a23)]) dX12_stood_103 rfl (by decide) (fun _ => rfl) hf (fun x32 hf => ?_)
          refine E_goto (pc := 106) (tgt := 63) dX12_stood_106 (by decide) ?_
          refine Ev.sub [2, 3, 1, 0] rfl ?_
          exact ih _ _ _ _ _ hf
        · refine E_iconst (pc := 101) (v := (0 : Int32)) dX12_stood_101 (by decide) ?_
          refine E_istore_n (pc := 102) (ls' := fun x33 => [(3, .int x33), (0, .ref a22), (1, .ref a23), (4, .int x25)]) dX12_stood_102 (by decide) (fun _ => rfl) hf (fun x33 hf => ?_)
          refine E_iinc (pc := 103) (ls' := fun x34 => [(4, .int x34), (3, .int x33), (0, .ref a22), (1, .ref a23)]) dX12_stood_103 rfl (by decide) (fun _ => rfl) hf (fun x34 hf => ?_)
          refine E_goto (pc := 106) (tgt := 63) dX12_stood_106 (by decide) ?_
          refine Ev.sub [2, 3, 1, 0] rfl ?_
          exact ih _ _ _ _ _ hf
set_option maxRecDepth 100000 in
def f_X12_stood (μ0 : Mm) (a1 : Nat) (a2 : Nat) : Option (Int32 × Mm) :=
 ((gI μ0 a1 12 29).bind fun v3 =>
    (nm v3 fun x4 =>
    f_X12_stood_L5 (fun μ14 a15 a16 x17 =>
    ((gI μ14 a15 12 29).bind fun v18 =>
    ((tL a16).bind fun v19 =>
    (if (x17 - v18) = v19 then
    (nm (1 : Int32) fun x20 =>
    (nm (0 : Int32) fun x21 =>
    f_X12_stood_L63 (fun μ35 x36 =>
    (if x36 = 0 ∨ x36 = 1 then some (x36, μ35) else none)) FU μ14 a15 a16 x20 x21))
    else
    (nm (0 : Int32) fun x37 =>
    (nm (0 : Int32) fun x38 =>
    f_X12_stood_L63 (fun μ39 x40 =>
    (if x40 = 0 ∨ x40 = 1 then some (x40, μ39) else none)) FU μ14 a15 a16 x37 x38)))))) FU μ0 a1 a2 x4))
set_option maxHeartbeats 4000000 in
set_option maxRecDepth 100000 in
theorem f_X12_stood_ok {l : Launch} {G : GG} {μ0 : Mm} {a1 : Nat} {a2 : Nat} {r : Int32} {μ' : Mm} (hf : f_X12_stood μ0 a1 a2 = some (r, μ')) : EvM l G D_X12_stood yX12_stood cX12_stood 5 (some .boolean) [.ref a1, .ref a2] μ0 (some (.int r)) μ' := by
  show Ev l G D_X12_stood yX12_stood cX12_stood 5 (some .boolean) 0 [(0, .ref a1), (1, .ref a2)] [] μ0 (some (.int r)) μ'
  unfold f_X12_stood at hf
  refine E_aload_n (pc := 0) dX12_stood_0 rfl ?_
  refine E_getI (pc := 1) dX12_stood_1 fl_X12_217 hf (fun v3 hf => ?_)
  refine E_istore_n (pc := 4) (ls' := fun x4 => [(2, .int x4), (0, .ref a1), (1, .ref a2)]) dX12_stood_4 (by decide) (fun _ => rfl) hf (fun x4 hf => ?_)
  refine Ev.sub [1, 2, 0] rfl ?_
  refine f_X12_stood_L5_ok  _ _ _ _ _ hf (fun μ14 a15 a16 x17 hf => ?_)
  · refine E_iload_n (pc := 41) dX12_stood_41 rfl ?_
    refine E_aload_n (pc := 42) dX12_stood_42 rfl ?_
    refine E_getI (pc := 43) dX12_stood_43 fl_X12_217 hf (fun v18 hf => ?_)
    refine E_isub (pc := 46) dX12_stood_46 ?_
    refine E_aload_n (pc := 47) dX12_stood_47 rfl ?_
    refine E_slen (pc := 48) dX12_stood_48 ml_X12_227 (by decide) (Nat.le_of_ble_eq_true rfl) hf (fun v19 hf => ?_)
    refine E_icmp_ne (pc := 51) (tgt := 58) dX12_stood_51 (by decide) hf (fun hf => ?_) (fun hf => ?_)
    · refine E_iconst (pc := 54) (v := (1 : Int32)) dX12_stood_54 (by decide) ?_
      refine E_goto (pc := 55) (tgt := 59) dX12_stood_55 (by decide) ?_
      refine E_istore_n (pc := 59) (ls' := fun x20 => [(3, .int x20), (0, .ref a15), (1, .ref a16), (2, .int x17)]) dX12_stood_59 (by decide) (fun _ => rfl) hf (fun x20 hf => ?_)
      refine E_iconst (pc := 60) (v := (0 : Int32)) dX12_stood_60 (by decide) ?_
      refine E_istore (pc := 61) (ls' := fun x21 => [(4, .int x21), (3, .int x20), (0, .ref a15), (1, .ref a16), (2, .int x17)]) dX12_stood_61 (by decide) (fun _ => rfl) hf (fun x21 hf => ?_)
      refine Ev.sub [2, 3, 1, 0] rfl ?_
      refine f_X12_stood_L63_ok  _ _ _ _ _ _ hf (fun μ35 x36 hf => ?_)
      · refine E_iload_n (pc := 109) dX12_stood_109 rfl ?_
        exact E_zret (pc := 110) dX12_stood_110 rfl hf
    · refine E_iconst (pc := 58) (v := (0 : Int32)) dX12_stood_58 (by decide) ?_
      refine E_istore_n (pc := 59) (ls' := fun x37 => [(3, .int x37), (0, .ref a15), (1, .ref a16), (2, .int x17)]) dX12_stood_59 (by decide) (fun _ => rfl) hf (fun x37 hf => ?_)
      refine E_iconst (pc := 60) (v := (0 : Int32)) dX12_stood_60 (by decide) ?_
      refine E_istore (pc := 61) (ls' := fun x38 => [(4, .int x38), (3, .int x37), (0, .ref a15), (1, .ref a16), (2, .int x17)]) dX12_stood_61 (by decide) (fun _ => rfl) hf (fun x38 hf => ?_)
      refine Ev.sub [2, 3, 1, 0] rfl ?_
      refine f_X12_stood_L63_ok  _ _ _ _ _ _ hf (fun μ39 x40 hf => ?_)
      · refine E_iload_n (pc := 109) dX12_stood_109 rfl ?_
        exact E_zret (pc := 110) dX12_stood_110 rfl hf
theorem dX12_takes_0 : decode cX12_takes 0 = .ok (.aload_n 0, 1) := by decide +kernel
theorem dX12_takes_1 : decode cX12_takes 1 = .ok (.invokevirtual 236, 3) := by decide +kernel
theorem dX12_takes_4 : decode cX12_takes 4 = .ok (.aload_n 0, 1) := by decide +kernel
theorem dX12_takes_5 : decode cX12_takes 5 = .ok (.aload_n 1, 1) := by decide +kernel
theorem dX12_takes_6 : decode cX12_takes 6 = .ok (.invokevirtual 239, 3) := by decide +kernel
theorem dX12_takes_9 : decode cX12_takes 9 = .ok (.istore_n 2, 1) := by decide +kernel
theorem dX12_takes_10 : decode cX12_takes 10 = .ok (.aload_n 0, 1) := by decide +kernel
theorem dX12_takes_11 : decode cX12_takes 11 = .ok (.dup, 1) := by decide +kernel
theorem dX12_takes_12 : decode cX12_takes 12 = .ok (.getfield 217, 3) := by decide +kernel
theorem dX12_takes_15 : decode cX12_takes 15 = .ok (.iload_n 2, 1) := by decide +kernel
theorem dX12_takes_16 : decode cX12_takes 16 = .ok (.ifCond .eq 10, 3) := by decide +kernel
theorem dX12_takes_19 : decode cX12_takes 19 = .ok (.aload_n 1, 1) := by decide +kernel
theorem dX12_takes_20 : decode cX12_takes 20 = .ok (.invokevirtual 227, 3) := by decide +kernel
theorem dX12_takes_23 : decode cX12_takes 23 = .ok (.goto 4, 3) := by decide +kernel
theorem dX12_takes_26 : decode cX12_takes 26 = .ok (.iconst 0, 1) := by decide +kernel
theorem dX12_takes_27 : decode cX12_takes 27 = .ok (.iadd, 1) := by decide +kernel
theorem dX12_takes_28 : decode cX12_takes 28 = .ok (.putfield 217, 3) := by decide +kernel
theorem dX12_takes_31 : decode cX12_takes 31 = .ok (.iload_n 2, 1) := by decide +kernel
theorem dX12_takes_32 : decode cX12_takes 32 = .ok (.ireturn, 1) := by decide +kernel
abbrev D_X12_takes : Nat := 8
set_option maxRecDepth 100000 in
def f_X12_takes (μ0 : Mm) (a1 : Nat) (a2 : Nat) : Option (Int32 × Mm) :=
 ((ob μ0 a1 12).bind fun _ =>
    ((f_X12_blanks μ0 a1).bind fun μ3 =>
    ((ob μ3 a1 12).bind fun _ =>
    (bd (f_X12_stood μ3 a1 a2) fun v5 μ4 =>
    (nm v5 fun x6 =>
    ((gI μ4 a1 12 29).bind fun v7 =>
    (if x6 = 0 then
    ((pV μ4 a1 12 29 (.int (v7 + (0 : Int32)))).bind fun μ8 =>
    (if x6 = 0 ∨ x6 = 1 then some (x6, μ8) else none))
    else
    ((tL a2).bind fun v9 =>
    ((pV μ4 a1 12 29 (.int (v7 + v9))).bind fun μ10 =>
    (if x6 = 0 ∨ x6 = 1 then some (x6, μ10) else none))))))))))
set_option maxHeartbeats 4000000 in
set_option maxRecDepth 100000 in
theorem f_X12_takes_ok {l : Launch} {G : GG} {μ0 : Mm} {a1 : Nat} {a2 : Nat} {r : Int32} {μ' : Mm} (hf : f_X12_takes μ0 a1 a2 = some (r, μ')) : EvM l G D_X12_takes yX12_takes cX12_takes 3 (some .boolean) [.ref a1, .ref a2] μ0 (some (.int r)) μ' := by
  show Ev l G D_X12_takes yX12_takes cX12_takes 3 (some .boolean) 0 [(0, .ref a1), (1, .ref a2)] [] μ0 (some (.int r)) μ'
  unfold f_X12_takes at hf
  refine E_aload_n (pc := 0) dX12_takes_0 rfl ?_
  refine E_Vv (pc := 1) (d2 := D_X12_blanks) (ci := 12) [] dX12_takes_1 ml_X12_236 mf_X12_blanks im_X12_blanks rfl rfl rfl (by decide) (Nat.le_of_ble_eq_true rfl) (Nat.le_of_ble_eq_true rfl) rfl (fun _ h => f_X12_blanks_ok h) hf (fun μ3 hf => ?_)
  refine E_aload_n (pc := 4) dX12_takes_4 rfl ?_
  refine E_aload_n (pc := 5) dX12_takes_5 rfl ?_
  refine E_Vi (pc := 6) (d2 := D_X12_stood) (ci := 12) [.ref a2] dX12_takes_6 ml_X12_239 mf_X12_stood im_X12_stood rfl rfl rfl (by decide) (Nat.le_of_ble_eq_true rfl) (Nat.le_of_ble_eq_true rfl) rfl (fun _ _ h => f_X12_stood_ok h) hf (fun v5 μ4 hf => ?_)
  refine E_istore_n (pc := 9) (ls' := fun x6 => [(2, .int x6), (0, .ref a1), (1, .ref a2)]) dX12_takes_9 (by decide) (fun _ => rfl) hf (fun x6 hf => ?_)
  refine E_aload_n (pc := 10) dX12_takes_10 rfl ?_
  refine E_dup (pc := 11) dX12_takes_11 rfl ?_
  refine E_getI (pc := 12) dX12_takes_12 fl_X12_217 hf (fun v7 hf => ?_)
  refine E_iload_n (pc := 15) dX12_takes_15 rfl ?_
  refine E_if_eq (pc := 16) (tgt := 26) dX12_takes_16 (by decide) hf (fun hf => ?_) (fun hf => ?_)
  · refine E_iconst (pc := 26) (v := (0 : Int32)) dX12_takes_26 (by decide) ?_
    refine E_iadd (pc := 27) dX12_takes_27 ?_
    refine E_putI (pc := 28) dX12_takes_28 (pl_X12_217 _) hf (fun μ8 hf => ?_)
    refine E_iload_n (pc := 31) dX12_takes_31 rfl ?_
    exact E_zret (pc := 32) dX12_takes_32 rfl hf
  · refine E_aload_n (pc := 19) dX12_takes_19 rfl ?_
    refine E_slen (pc := 20) dX12_takes_20 ml_X12_227 (by decide) (Nat.le_of_ble_eq_true rfl) hf (fun v9 hf => ?_)
    refine E_goto (pc := 23) (tgt := 27) dX12_takes_23 (by decide) ?_
    refine E_iadd (pc := 27) dX12_takes_27 ?_
    refine E_putI (pc := 28) dX12_takes_28 (pl_X12_217 _) hf (fun μ10 hf => ?_)
    refine E_iload_n (pc := 31) dX12_takes_31 rfl ?_
    exact E_zret (pc := 32) dX12_takes_32 rfl hf
theorem dX12_entry_0 : decode cX12_entry 0 = .ok (.aload_n 0, 1) := by decide +kernel
theorem dX12_entry_1 : decode cX12_entry 1 = .ok (.getfield 214, 3) := by decide +kernel
theorem dX12_entry_4 : decode cX12_entry 4 = .ok (.ifCond .ne 51, 3) := by decide +kernel
theorem dX12_entry_7 : decode cX12_entry 7 = .ok (.aload_n 0, 1) := by decide +kernel
theorem dX12_entry_8 : decode cX12_entry 8 = .ok (.getfield 96, 3) := by decide +kernel
theorem dX12_entry_11 : decode cX12_entry 11 = .ok (.sipush 300, 3) := by decide +kernel
theorem dX12_entry_14 : decode cX12_entry 14 = .ok (.aload_n 0, 1) := by decide +kernel
theorem dX12_entry_15 : decode cX12_entry 15 = .ok (.getfield 243, 3) := by decide +kernel
theorem dX12_entry_18 : decode cX12_entry 18 = .ok (.imul, 1) := by decide +kernel
theorem dX12_entry_19 : decode cX12_entry 19 = .ok (.aload_n 0, 1) := by decide +kernel
theorem dX12_entry_20 : decode cX12_entry 20 = .ok (.getfield 246, 3) := by decide +kernel
theorem dX12_entry_23 : decode cX12_entry 23 = .ok (.iadd, 1) := by decide +kernel
theorem dX12_entry_24 : decode cX12_entry 24 = .ok (.iload_n 1, 1) := by decide +kernel
theorem dX12_entry_25 : decode cX12_entry 25 = .ok (.iastore, 1) := by decide +kernel
theorem dX12_entry_26 : decode cX12_entry 26 = .ok (.aload_n 0, 1) := by decide +kernel
theorem dX12_entry_27 : decode cX12_entry 27 = .ok (.getfield 99, 3) := by decide +kernel
theorem dX12_entry_30 : decode cX12_entry 30 = .ok (.sipush 300, 3) := by decide +kernel
theorem dX12_entry_33 : decode cX12_entry 33 = .ok (.aload_n 0, 1) := by decide +kernel
theorem dX12_entry_34 : decode cX12_entry 34 = .ok (.getfield 243, 3) := by decide +kernel
theorem dX12_entry_37 : decode cX12_entry 37 = .ok (.imul, 1) := by decide +kernel
theorem dX12_entry_38 : decode cX12_entry 38 = .ok (.aload_n 0, 1) := by decide +kernel
theorem dX12_entry_39 : decode cX12_entry 39 = .ok (.getfield 246, 3) := by decide +kernel
theorem dX12_entry_42 : decode cX12_entry 42 = .ok (.iadd, 1) := by decide +kernel
theorem dX12_entry_43 : decode cX12_entry 43 = .ok (.iload_n 2, 1) := by decide +kernel
theorem dX12_entry_44 : decode cX12_entry 44 = .ok (.iastore, 1) := by decide +kernel
theorem dX12_entry_45 : decode cX12_entry 45 = .ok (.aload_n 0, 1) := by decide +kernel
theorem dX12_entry_46 : decode cX12_entry 46 = .ok (.dup, 1) := by decide +kernel
theorem dX12_entry_47 : decode cX12_entry 47 = .ok (.getfield 246, 3) := by decide +kernel
theorem dX12_entry_50 : decode cX12_entry 50 = .ok (.iconst 1, 1) := by decide +kernel
theorem dX12_entry_51 : decode cX12_entry 51 = .ok (.iadd, 1) := by decide +kernel
theorem dX12_entry_52 : decode cX12_entry 52 = .ok (.putfield 246, 3) := by decide +kernel
theorem dX12_entry_55 : decode cX12_entry 55 = .ok (.return_, 1) := by decide +kernel
abbrev D_X12_entry : Nat := 1
set_option maxRecDepth 100000 in
def f_X12_entry (μ0 : Mm) (a1 : Nat) (x2 : Int32) (x3 : Int32) : Option Mm :=
 ((gI μ0 a1 12 30).bind fun v4 =>
    (if v4 = 0 then
    ((gR μ0 a1 12 39).bind fun v5 =>
    ((gI μ0 a1 12 31).bind fun v6 =>
    ((gI μ0 a1 12 33).bind fun v7 =>
    ((sI μ0 v5 0 (((300 : Int32) * v6) + v7) x2).bind fun μ8 =>
    ((gR μ8 a1 12 40).bind fun v9 =>
    ((gI μ8 a1 12 31).bind fun v10 =>
    ((gI μ8 a1 12 33).bind fun v11 =>
    ((sI μ8 v9 0 (((300 : Int32) * v10) + v11) x3).bind fun μ12 =>
    ((gI μ12 a1 12 33).bind fun v13 =>
    ((pV μ12 a1 12 33 (.int (v13 + (1 : Int32)))).bind fun μ14 =>
    (some μ14)))))))))))
    else
    (some μ0)))
set_option maxHeartbeats 4000000 in
set_option maxRecDepth 100000 in
theorem f_X12_entry_ok {l : Launch} {G : GG} {μ0 : Mm} {a1 : Nat} {x2 : Int32} {x3 : Int32} {μ' : Mm} (hf : f_X12_entry μ0 a1 x2 x3 = some μ') : EvM l G D_X12_entry yX12_entry cX12_entry 3 none [.ref a1, .int x2, .int x3] μ0 none μ' := by
  show Ev l G D_X12_entry yX12_entry cX12_entry 3 none 0 [(0, .ref a1), (1, .int x2), (2, .int x3)] [] μ0 none μ'
  unfold f_X12_entry at hf
  refine E_aload_n (pc := 0) dX12_entry_0 rfl ?_
  refine E_getI (pc := 1) dX12_entry_1 fl_X12_214 hf (fun v4 hf => ?_)
  refine E_if_ne (pc := 4) (tgt := 55) dX12_entry_4 (by decide) hf (fun hf => ?_) (fun hf => ?_)
  · refine E_aload_n (pc := 7) dX12_entry_7 rfl ?_
    refine E_getR (pc := 8) dX12_entry_8 fl_X12_96 hf (fun v5 hf => ?_)
    refine E_sipush (pc := 11) (v := (300 : Int32)) dX12_entry_11 (by decide) ?_
    refine E_aload_n (pc := 14) dX12_entry_14 rfl ?_
    refine E_getI (pc := 15) dX12_entry_15 fl_X12_243 hf (fun v6 hf => ?_)
    refine E_imul (pc := 18) dX12_entry_18 ?_
    refine E_aload_n (pc := 19) dX12_entry_19 rfl ?_
    refine E_getI (pc := 20) dX12_entry_20 fl_X12_246 hf (fun v7 hf => ?_)
    refine E_iadd (pc := 23) dX12_entry_23 ?_
    refine E_iload_n (pc := 24) dX12_entry_24 rfl ?_
    refine E_iast (pc := 25) dX12_entry_25 hf (fun μ8 hf => ?_)
    refine E_aload_n (pc := 26) dX12_entry_26 rfl ?_
    refine E_getR (pc := 27) dX12_entry_27 fl_X12_99 hf (fun v9 hf => ?_)
    refine E_sipush (pc := 30) (v := (300 : Int32)) dX12_entry_30 (by decide) ?_
    refine E_aload_n (pc := 33) dX12_entry_33 rfl ?_
    refine E_getI (pc := 34) dX12_entry_34 fl_X12_243 hf (fun v10 hf => ?_)
    refine E_imul (pc := 37) dX12_entry_37 ?_
    refine E_aload_n (pc := 38) dX12_entry_38 rfl ?_
    refine E_getI (pc := 39) dX12_entry_39 fl_X12_246 hf (fun v11 hf => ?_)
    refine E_iadd (pc := 42) dX12_entry_42 ?_
    refine E_iload_n (pc := 43) dX12_entry_43 rfl ?_
    refine E_iast (pc := 44) dX12_entry_44 hf (fun μ12 hf => ?_)
    refine E_aload_n (pc := 45) dX12_entry_45 rfl ?_
    refine E_dup (pc := 46) dX12_entry_46 rfl ?_
    refine E_getI (pc := 47) dX12_entry_47 fl_X12_246 hf (fun v13 hf => ?_)
    refine E_iconst (pc := 50) (v := (1 : Int32)) dX12_entry_50 (by decide) ?_
    refine E_iadd (pc := 51) dX12_entry_51 ?_
    refine E_putI (pc := 52) dX12_entry_52 (pl_X12_246 _) hf (fun μ14 hf => ?_)
    exact E_vret (pc := 55) dX12_entry_55 rfl hf
  · exact E_vret (pc := 55) dX12_entry_55 rfl hf
theorem dX12_isCounted_0 : decode cX12_isCounted 0 = .ok (.aload_n 0, 1) := by decide +kernel
theorem dX12_isCounted_1 : decode cX12_isCounted 1 = .ok (.getfield 249, 3) := by decide +kernel
theorem dX12_isCounted_4 : decode cX12_isCounted 4 = .ok (.bipush 60, 2) := by decide +kernel
theorem dX12_isCounted_6 : decode cX12_isCounted 6 = .ok (.if_icmp .ne 9, 3) := by decide +kernel
theorem dX12_isCounted_9 : decode cX12_isCounted 9 = .ok (.aload_n 0, 1) := by decide +kernel
theorem dX12_isCounted_10 : decode cX12_isCounted 10 = .ok (.iconst 3, 1) := by decide +kernel
theorem dX12_isCounted_11 : decode cX12_isCounted 11 = .ok (.iload_n 1, 1) := by decide +kernel
theorem dX12_isCounted_12 : decode cX12_isCounted 12 = .ok (.invokevirtual 252, 3) := by decide +kernel
theorem dX12_isCounted_15 : decode cX12_isCounted 15 = .ok (.aload_n 0, 1) := by decide +kernel
theorem dX12_isCounted_16 : decode cX12_isCounted 16 = .ok (.dup, 1) := by decide +kernel
theorem dX12_isCounted_17 : decode cX12_isCounted 17 = .ok (.getfield 249, 3) := by decide +kernel
theorem dX12_isCounted_20 : decode cX12_isCounted 20 = .ok (.iconst 1, 1) := by decide +kernel
theorem dX12_isCounted_21 : decode cX12_isCounted 21 = .ok (.iadd, 1) := by decide +kernel
theorem dX12_isCounted_22 : decode cX12_isCounted 22 = .ok (.putfield 249, 3) := by decide +kernel
theorem dX12_isCounted_25 : decode cX12_isCounted 25 = .ok (.return_, 1) := by decide +kernel
abbrev D_X12_isCounted : Nat := 2
set_option maxRecDepth 100000 in
def f_X12_isCounted (μ0 : Mm) (a1 : Nat) (x2 : Int32) : Option Mm :=
 ((gI μ0 a1 12 35).bind fun v3 =>
    (if v3 = (60 : Int32) then
    ((ob μ0 a1 12).bind fun _ =>
    ((f_X12_fails μ0 a1 (3 : Int32) x2).bind fun μ4 =>
    ((gI μ4 a1 12 35).bind fun v5 =>
    ((pV μ4 a1 12 35 (.int (v5 + (1 : Int32)))).bind fun μ6 =>
    (some μ6)))))
    else
    ((gI μ0 a1 12 35).bind fun v7 =>
    ((pV μ0 a1 12 35 (.int (v7 + (1 : Int32)))).bind fun μ8 =>
    (some μ8)))))
set_option maxHeartbeats 4000000 in
set_option maxRecDepth 100000 in
theorem f_X12_isCounted_ok {l : Launch} {G : GG} {μ0 : Mm} {a1 : Nat} {x2 : Int32} {μ' : Mm} (hf : f_X12_isCounted μ0 a1 x2 = some μ') : EvM l G D_X12_isCounted yX12_isCounted cX12_isCounted 2 none [.ref a1, .int x2] μ0 none μ' := by
  show Ev l G D_X12_isCounted yX12_isCounted cX12_isCounted 2 none 0 [(0, .ref a1), (1, .int x2)] [] μ0 none μ'
  unfold f_X12_isCounted at hf
  refine E_aload_n (pc := 0) dX12_isCounted_0 rfl ?_
  refine E_getI (pc := 1) dX12_isCounted_1 fl_X12_249 hf (fun v3 hf => ?_)
  refine E_bipush (pc := 4) (v := (60 : Int32)) dX12_isCounted_4 (by decide) ?_
  refine E_icmp_ne (pc := 6) (tgt := 15) dX12_isCounted_6 (by decide) hf (fun hf => ?_) (fun hf => ?_)
  · refine E_aload_n (pc := 9) dX12_isCounted_9 rfl ?_
    refine E_iconst (pc := 10) (v := (3 : Int32)) dX12_isCounted_10 (by decide) ?_
    refine E_iload_n (pc := 11) dX12_isCounted_11 rfl ?_
    refine E_Vv (pc := 12) (d2 := D_X12_fails) (ci := 12) [.int (3 : Int32), .int x2] dX12_isCounted_12 ml_X12_252 mf_X12_fails im_X12_fails rfl rfl rfl (by decide) (Nat.le_of_ble_eq_true rfl) (Nat.le_of_ble_eq_true rfl) rfl (fun _ h => f_X12_fails_ok h) hf (fun μ4 hf => ?_)
    refine E_aload_n (pc := 15) dX12_isCounted_15 rfl ?_
    refine E_dup (pc := 16) dX12_isCounted_16 rfl ?_
    refine E_getI (pc := 17) dX12_isCounted_17 fl_X12_249 hf (fun v5 hf => ?_)
    refine E_iconst (pc := 20) (v := (1 : Int32)) dX12_isCounted_20 (by decide) ?_
    refine E_iadd (pc := 21) dX12_isCounted_21 ?_
    refine E_putI (pc := 22) dX12_isCounted_22 (pl_X12_249 _) hf (fun μ6 hf => ?_)
    exact E_vret (pc := 25) dX12_isCounted_25 rfl hf
  · refine E_aload_n (pc := 15) dX12_isCounted_15 rfl ?_
    refine E_dup (pc := 16) dX12_isCounted_16 rfl ?_
    refine E_getI (pc := 17) dX12_isCounted_17 fl_X12_249 hf (fun v7 hf => ?_)
    refine E_iconst (pc := 20) (v := (1 : Int32)) dX12_isCounted_20 (by decide) ?_
    refine E_iadd (pc := 21) dX12_isCounted_21 ?_
    refine E_putI (pc := 22) dX12_isCounted_22 (pl_X12_249 _) hf (fun μ8 hf => ?_)
    exact E_vret (pc := 25) dX12_isCounted_25 rfl hf
theorem dX12_digits_0 : decode cX12_digits 0 = .ok (.aload_n 0, 1) := by decide +kernel
theorem dX12_digits_1 : decode cX12_digits 1 = .ok (.invokevirtual 256, 3) := by decide +kernel
theorem dX12_digits_4 : decode cX12_digits 4 = .ok (.ifCond .ne 14, 3) := by decide +kernel
theorem dX12_digits_7 : decode cX12_digits 7 = .ok (.aload_n 0, 1) := by decide +kernel
theorem dX12_digits_8 : decode cX12_digits 8 = .ok (.iconst 0, 1) := by decide +kernel
theorem dX12_digits_9 : decode cX12_digits 9 = .ok (.aload_n 0, 1) := by decide +kernel
theorem dX12_digits_10 : decode cX12_digits 10 = .ok (.getfield 217, 3) := by decide +kernel
theorem dX12_digits_13 : decode cX12_digits 13 = .ok (.invokevirtual 252, 3) := by decide +kernel
theorem dX12_digits_16 : decode cX12_digits 16 = .ok (.iconst 0, 1) := by decide +kernel
theorem dX12_digits_17 : decode cX12_digits 17 = .ok (.ireturn, 1) := by decide +kernel
theorem dX12_digits_18 : decode cX12_digits 18 = .ok (.aload_n 0, 1) := by decide +kernel
theorem dX12_digits_19 : decode cX12_digits 19 = .ok (.getfield 217, 3) := by decide +kernel
theorem dX12_digits_22 : decode cX12_digits 22 = .ok (.istore_n 2, 1) := by decide +kernel
theorem dX12_digits_23 : decode cX12_digits 23 = .ok (.iconst 0, 1) := by decide +kernel
theorem dX12_digits_24 : decode cX12_digits 24 = .ok (.istore_n 3, 1) := by decide +kernel
theorem dX12_digits_25 : decode cX12_digits 25 = .ok (.aload_n 0, 1) := by decide +kernel
theorem dX12_digits_26 : decode cX12_digits 26 = .ok (.invokevirtual 256, 3) := by decide +kernel
theorem dX12_digits_29 : decode cX12_digits 29 = .ok (.ifCond .eq 43, 3) := by decide +kernel
theorem dX12_digits_32 : decode cX12_digits 32 = .ok (.aload_n 0, 1) := by decide +kernel
theorem dX12_digits_33 : decode cX12_digits 33 = .ok (.getfield 217, 3) := by decide +kernel
theorem dX12_digits_36 : decode cX12_digits 36 = .ok (.iload_n 2, 1) := by decide +kernel
theorem dX12_digits_37 : decode cX12_digits 37 = .ok (.isub, 1) := by decide +kernel
theorem dX12_digits_38 : decode cX12_digits 38 = .ok (.iconst 5, 1) := by decide +kernel
theorem dX12_digits_39 : decode cX12_digits 39 = .ok (.if_icmp .ge 18, 3) := by decide +kernel
theorem dX12_digits_42 : decode cX12_digits 42 = .ok (.bipush 10, 2) := by decide +kernel
theorem dX12_digits_44 : decode cX12_digits 44 = .ok (.iload_n 3, 1) := by decide +kernel
theorem dX12_digits_45 : decode cX12_digits 45 = .ok (.imul, 1) := by decide +kernel
theorem dX12_digits_46 : decode cX12_digits 46 = .ok (.aload_n 0, 1) := by decide +kernel
theorem dX12_digits_47 : decode cX12_digits 47 = .ok (.invokevirtual 220, 3) := by decide +kernel
theorem dX12_digits_50 : decode cX12_digits 50 = .ok (.iadd, 1) := by decide +kernel
theorem dX12_digits_51 : decode cX12_digits 51 = .ok (.bipush 48, 2) := by decide +kernel
theorem dX12_digits_53 : decode cX12_digits 53 = .ok (.isub, 1) := by decide +kernel
theorem dX12_digits_54 : decode cX12_digits 54 = .ok (.goto 4, 3) := by decide +kernel
theorem dX12_digits_57 : decode cX12_digits 57 = .ok (.iload_n 3, 1) := by decide +kernel
theorem dX12_digits_58 : decode cX12_digits 58 = .ok (.istore_n 3, 1) := by decide +kernel
theorem dX12_digits_59 : decode cX12_digits 59 = .ok (.aload_n 0, 1) := by decide +kernel
theorem dX12_digits_60 : decode cX12_digits 60 = .ok (.dup, 1) := by decide +kernel
theorem dX12_digits_61 : decode cX12_digits 61 = .ok (.getfield 217, 3) := by decide +kernel
theorem dX12_digits_64 : decode cX12_digits 64 = .ok (.iconst 1, 1) := by decide +kernel
theorem dX12_digits_65 : decode cX12_digits 65 = .ok (.iadd, 1) := by decide +kernel
theorem dX12_digits_66 : decode cX12_digits 66 = .ok (.putfield 217, 3) := by decide +kernel
theorem dX12_digits_69 : decode cX12_digits 69 = .ok (.goto (-44), 3) := by decide +kernel
theorem dX12_digits_72 : decode cX12_digits 72 = .ok (.aload_n 0, 1) := by decide +kernel
theorem dX12_digits_73 : decode cX12_digits 73 = .ok (.getfield 217, 3) := by decide +kernel
theorem dX12_digits_76 : decode cX12_digits 76 = .ok (.iload_n 2, 1) := by decide +kernel
theorem dX12_digits_77 : decode cX12_digits 77 = .ok (.isub, 1) := by decide +kernel
theorem dX12_digits_78 : decode cX12_digits 78 = .ok (.iconst 5, 1) := by decide +kernel
theorem dX12_digits_79 : decode cX12_digits 79 = .ok (.if_icmp .gt 8, 3) := by decide +kernel
theorem dX12_digits_82 : decode cX12_digits 82 = .ok (.iload_n 3, 1) := by decide +kernel
theorem dX12_digits_83 : decode cX12_digits 83 = .ok (.iload_n 1, 1) := by decide +kernel
theorem dX12_digits_84 : decode cX12_digits 84 = .ok (.if_icmp .le 9, 3) := by decide +kernel
theorem dX12_digits_87 : decode cX12_digits 87 = .ok (.aload_n 0, 1) := by decide +kernel
theorem dX12_digits_88 : decode cX12_digits 88 = .ok (.iconst 1, 1) := by decide +kernel
theorem dX12_digits_89 : decode cX12_digits 89 = .ok (.iload_n 2, 1) := by decide +kernel
theorem dX12_digits_90 : decode cX12_digits 90 = .ok (.invokevirtual 252, 3) := by decide +kernel
theorem dX12_digits_93 : decode cX12_digits 93 = .ok (.iload_n 3, 1) := by decide +kernel
theorem dX12_digits_94 : decode cX12_digits 94 = .ok (.ireturn, 1) := by decide +kernel
abbrev D_X12_digits : Nat := 3
def f_X12_digits_L25 (K72 : Mm → Nat → Int32 → Int32 → Int32 → Option (Int32 × Mm)) : Nat → Mm → Nat → Int32 → Int32 → Int32 → Option (Int32 × Mm)
  | 0, _, _, _, _, _ => none
  | n + 1, μ0, a10, x11, x12, x13 =>
    ((ob μ0 a10 12).bind fun _ =>
    (bd (f_X12_isDigit μ0 a10) fun v15 μ14 =>
    (if v15 = 0 then
    K72 μ14 a10 x11 x12 x13
    else
    ((gI μ14 a10 12 29).bind fun v16 =>
    (if (5 : Int32) ≤ (v16 - x12) then
    (nm x13 fun x17 =>
    ((gI μ14 a10 12 29).bind fun v18 =>
    ((pV μ14 a10 12 29 (.int (v18 + (1 : Int32)))).bind fun μ19 =>
    f_X12_digits_L25 K72 n μ19 a10 x11 x12 x17)))
    else
    ((ob μ14 a10 12).bind fun _ =>
    (bd (f_X12_sign μ14 a10) fun v21 μ20 =>
    (nm ((((10 : Int32) * x13) + v21) - (48 : Int32)) fun x22 =>
    ((gI μ20 a10 12 29).bind fun v23 =>
    ((pV μ20 a10 12 29 (.int (v23 + (1 : Int32)))).bind fun μ24 =>
    f_X12_digits_L25 K72 n μ24 a10 x11 x12 x22))))))))))
set_option maxHeartbeats 4000000 in
set_option maxRecDepth 100000 in
theorem f_X12_digits_L25_ok {l : Launch} {G : GG} {K72 : Mm → Nat → Int32 → Int32 → Int32 → Option (Int32 × Mm)} {r : Int32} {μ' : Mm} (n : Nat) (μ0 : Mm) (a10 : Nat) (x11 : Int32) (x12 : Int32) (x13 : Int32) (hf : f_X12_digits_L25 K72 n μ0 a10 x11 x12 x13 = some (r, μ')) (hK72 : ∀ (μ1 : Mm) (y0 : Nat) (y1 : Int32) (y2 : Int32) (y3 : Int32), K72 μ1 y0 y1 y2 y3 = some (r, μ') → Ev l G D_X12_digits yX12_digits cX12_digits 4 (some .int) 72 [(0, .ref y0), (1, .int y1), (2, .int y2), (3, .int y3)] [] μ1 (some (.int r)) μ') : Ev l G D_X12_digits yX12_digits cX12_digits 4 (some .int) 25 [(0, .ref a10), (1, .int x11), (2, .int x12), (3, .int x13)] [] μ0 (some (.int r)) μ' := by
  induction n generalizing μ0 a10 x11 x12 x13 with
  | zero => cases hf
  | succ n ih0 =>
    have ih : ∀ (μ0 : Mm) (a10 : Nat) (x11 : Int32) (x12 : Int32) (x13 : Int32), f_X12_digits_L25 K72 n μ0 a10 x11 x12 x13 = some (r, μ') → Ev l G D_X12_digits yX12_digits cX12_digits 4 (some .int) 25 [(0, .ref a10), (1, .int x11), (2, .int x12), (3, .int x13)] [] μ0 (some (.int r)) μ' := fun μ0 a10 x11 x12 x13 hf => ih0 μ0 a10 x11 x12 x13 hf
    rw [f_X12_digits_L25] at hf
    refine E_aload_n (pc := 25) dX12_digits_25 rfl ?_
    refine E_Vi (pc := 26) (d2 := D_X12_isDigit) (ci := 12) [] dX12_digits_26 ml_X12_256 mf_X12_isDigit im_X12_isDigit rfl rfl rfl (by decide) (Nat.le_of_ble_eq_true rfl) (Nat.le_of_ble_eq_true rfl) rfl (fun _ _ h => f_X12_isDigit_ok h) hf (fun v15 μ14 hf => ?_)
    refine E_if_eq (pc := 29) (tgt := 72) dX12_digits_29 (by decide) hf (fun hf => ?_) (fun hf => ?_)
    · refine Ev.sub [0, 1, 2, 3] rfl ?_
      exact hK72 _ _ _ _ _ hf
    · refine E_aload_n (pc := 32) dX12_digits_32 rfl ?_
      refine E_getI (pc := 33) dX12_digits_33 fl_X12_217 hf (fun v16 hf => ?_)
      refine E_iload_n (pc := 36) dX12_digits_36 rfl ?_
      refine E_isub (pc := 37) dX12_digits_37 ?_
      refine E_iconst (pc := 38) (v := (5 : Int32)) dX12_digits_38 (by decide) ?_
      refine E_icmp_ge (pc := 39) (tgt := 57) dX12_digits_39 (by decide) hf (fun hf => ?_) (fun hf => ?_)
      · refine E_iload_n (pc := 57) dX12_digits_57 rfl ?_
        refine E_istore_n (pc := 58) (ls' := fun x17 => [(3, .int x17), (0, .ref a10), (1, .int x11), (2, .int x12)]) dX12_digits_58 (by decide) (fun _ => rfl) hf (fun x17 hf => ?_)
        refine E_aload_n (pc := 59) dX12_digits_59 rfl ?_
        refine E_dup (pc := 60) dX12_digits_60 rfl ?_
        refine E_getI (pc := 61) dX12_digits_61 fl_X12_217 hf (fun v18 hf => ?_)
        refine E_iconst (pc := 64) (v := (1 : Int32)) dX12_digits_64 (by decide) ?_
        refine E_iadd (pc := 65) dX12_digits_65 ?_
        refine E_putI (pc := 66) dX12_digits_66 (pl_X12_217 _) hf (fun μ19 hf => ?_)
        refine E_goto (pc := 69) (tgt := 25) dX12_digits_69 (by decide) ?_
        refine Ev.sub [1, 2, 3, 0] rfl ?_
        exact ih _ _ _ _ _ hf
      · refine E_bipush (pc := 42) (v := (10 : Int32)) dX12_digits_42 (by decide) ?_
        refine E_iload_n (pc := 44) dX12_digits_44 rfl ?_
        refine E_imul (pc := 45) dX12_digits_45 ?_
        refine E_aload_n (pc := 46) dX12_digits_46 rfl ?_
        refine E_Vi (pc := 47) (d2 := D_X12_sign) (ci := 12) [] dX12_digits_47 ml_X12_220 mf_X12_sign im_X12_sign rfl rfl rfl (by decide) (Nat.le_of_ble_eq_true rfl) (Nat.le_of_ble_eq_true rfl) rfl (fun _ _ h => f_X12_sign_ok h) hf (fun v21 μ20 hf => ?_)
        refine E_iadd (pc := 50) dX12_digits_50 ?_
        refine E_bipush (pc := 51) (v := (48 : Int32)) dX12_digits_51 (by decide) ?_
        refine E_isub (pc := 53) dX12_digits_53 ?_
        refine E_goto (pc := 54) (tgt := 58) dX12_digits_54 (by decide) ?_
        refine E_istore_n (pc := 58) (ls' := fun x22 => [(3, .int x22), (0, .ref a10), (1, .int x11), (2, .int x12)]) dX12_digits_58 (by decide) (fun _ => rfl) hf (fun x22 hf => ?_)
        refine E_aload_n (pc := 59) dX12_digits_59 rfl ?_
        refine E_dup (pc := 60) dX12_digits_60 rfl ?_
        refine E_getI (pc := 61) dX12_digits_61 fl_X12_217 hf (fun v23 hf => ?_)
        refine E_iconst (pc := 64) (v := (1 : Int32)) dX12_digits_64 (by decide) ?_
        refine E_iadd (pc := 65) dX12_digits_65 ?_
        refine E_putI (pc := 66) dX12_digits_66 (pl_X12_217 _) hf (fun μ24 hf => ?_)
        refine E_goto (pc := 69) (tgt := 25) dX12_digits_69 (by decide) ?_
        refine Ev.sub [1, 2, 3, 0] rfl ?_
        exact ih _ _ _ _ _ hf
set_option maxRecDepth 100000 in
def f_X12_digits (μ0 : Mm) (a1 : Nat) (x2 : Int32) : Option (Int32 × Mm) :=
 ((ob μ0 a1 12).bind fun _ =>
    (bd (f_X12_isDigit μ0 a1) fun v4 μ3 =>
    (if v4 = 0 then
    ((gI μ3 a1 12 29).bind fun v5 =>
    ((ob μ3 a1 12).bind fun _ =>
    ((f_X12_fails μ3 a1 (0 : Int32) v5).bind fun μ6 =>
    (some ((0 : Int32), μ6)))))
    else
    ((gI μ3 a1 12 29).bind fun v7 =>
    (nm v7 fun x8 =>
    (nm (0 : Int32) fun x9 =>
    f_X12_digits_L25 (fun μ25 a26 x27 x28 x29 =>
    ((gI μ25 a26 12 29).bind fun v30 =>
    (if (5 : Int32) < (v30 - x28) then
    ((ob μ25 a26 12).bind fun _ =>
    ((f_X12_fails μ25 a26 (1 : Int32) x28).bind fun μ31 =>
    (some (x29, μ31))))
    else
    (if x29 ≤ x27 then
    (some (x29, μ25))
    else
    ((ob μ25 a26 12).bind fun _ =>
    ((f_X12_fails μ25 a26 (1 : Int32) x28).bind fun μ32 =>
    (some (x29, μ32)))))))) FU μ3 a1 x2 x8 x9))))))
set_option maxHeartbeats 4000000 in
set_option maxRecDepth 100000 in
theorem f_X12_digits_ok {l : Launch} {G : GG} {μ0 : Mm} {a1 : Nat} {x2 : Int32} {r : Int32} {μ' : Mm} (hf : f_X12_digits μ0 a1 x2 = some (r, μ')) : EvM l G D_X12_digits yX12_digits cX12_digits 4 (some .int) [.ref a1, .int x2] μ0 (some (.int r)) μ' := by
  show Ev l G D_X12_digits yX12_digits cX12_digits 4 (some .int) 0 [(0, .ref a1), (1, .int x2)] [] μ0 (some (.int r)) μ'
  unfold f_X12_digits at hf
  refine E_aload_n (pc := 0) dX12_digits_0 rfl ?_
  refine E_Vi (pc := 1) (d2 := D_X12_isDigit) (ci := 12) [] dX12_digits_1 ml_X12_256 mf_X12_isDigit im_X12_isDigit rfl rfl rfl (by decide) (Nat.le_of_ble_eq_true rfl) (Nat.le_of_ble_eq_true rfl) rfl (fun _ _ h => f_X12_isDigit_ok h) hf (fun v4 μ3 hf => ?_)
  refine E_if_ne (pc := 4) (tgt := 18) dX12_digits_4 (by decide) hf (fun hf => ?_) (fun hf => ?_)
  · refine E_aload_n (pc := 7) dX12_digits_7 rfl ?_
    refine E_iconst (pc := 8) (v := (0 : Int32)) dX12_digits_8 (by decide) ?_
    refine E_aload_n (pc := 9) dX12_digits_9 rfl ?_
    refine E_getI (pc := 10) dX12_digits_10 fl_X12_217 hf (fun v5 hf => ?_)
    refine E_Vv (pc := 13) (d2 := D_X12_fails) (ci := 12) [.int (0 : Int32), .int v5] dX12_digits_13 ml_X12_252 mf_X12_fails im_X12_fails rfl rfl rfl (by decide) (Nat.le_of_ble_eq_true rfl) (Nat.le_of_ble_eq_true rfl) rfl (fun _ h => f_X12_fails_ok h) hf (fun μ6 hf => ?_)
    refine E_iconst (pc := 16) (v := (0 : Int32)) dX12_digits_16 (by decide) ?_
    exact E_iret (pc := 17) dX12_digits_17 rfl hf
  · refine E_aload_n (pc := 18) dX12_digits_18 rfl ?_
    refine E_getI (pc := 19) dX12_digits_19 fl_X12_217 hf (fun v7 hf => ?_)
    refine E_istore_n (pc := 22) (ls' := fun x8 => [(2, .int x8), (0, .ref a1), (1, .int x2)]) dX12_digits_22 (by decide) (fun _ => rfl) hf (fun x8 hf => ?_)
    refine E_iconst (pc := 23) (v := (0 : Int32)) dX12_digits_23 (by decide) ?_
    refine E_istore_n (pc := 24) (ls' := fun x9 => [(3, .int x9), (2, .int x8), (0, .ref a1), (1, .int x2)]) dX12_digits_24 (by decide) (fun _ => rfl) hf (fun x9 hf => ?_)
    refine Ev.sub [2, 3, 1, 0] rfl ?_
    refine f_X12_digits_L25_ok  _ _ _ _ _ _ hf (fun μ25 a26 x27 x28 x29 hf => ?_)
    · refine E_aload_n (pc := 72) dX12_digits_72 rfl ?_
      refine E_getI (pc := 73) dX12_digits_73 fl_X12_217 hf (fun v30 hf => ?_)
      refine E_iload_n (pc := 76) dX12_digits_76 rfl ?_
      refine E_isub (pc := 77) dX12_digits_77 ?_
      refine E_iconst (pc := 78) (v := (5 : Int32)) dX12_digits_78 (by decide) ?_
      refine E_icmp_gt (pc := 79) (tgt := 87) dX12_digits_79 (by decide) hf (fun hf => ?_) (fun hf => ?_)
      · refine E_aload_n (pc := 87) dX12_digits_87 rfl ?_
        refine E_iconst (pc := 88) (v := (1 : Int32)) dX12_digits_88 (by decide) ?_
        refine E_iload_n (pc := 89) dX12_digits_89 rfl ?_
        refine E_Vv (pc := 90) (d2 := D_X12_fails) (ci := 12) [.int (1 : Int32), .int x28] dX12_digits_90 ml_X12_252 mf_X12_fails im_X12_fails rfl rfl rfl (by decide) (Nat.le_of_ble_eq_true rfl) (Nat.le_of_ble_eq_true rfl) rfl (fun _ h => f_X12_fails_ok h) hf (fun μ31 hf => ?_)
        refine E_iload_n (pc := 93) dX12_digits_93 rfl ?_
        exact E_iret (pc := 94) dX12_digits_94 rfl hf
      · refine E_iload_n (pc := 82) dX12_digits_82 rfl ?_
        refine E_iload_n (pc := 83) dX12_digits_83 rfl ?_
        refine E_icmp_le (pc := 84) (tgt := 93) dX12_digits_84 (by decide) hf (fun hf => ?_) (fun hf => ?_)
        · refine E_iload_n (pc := 93) dX12_digits_93 rfl ?_
          exact E_iret (pc := 94) dX12_digits_94 rfl hf
        · refine E_aload_n (pc := 87) dX12_digits_87 rfl ?_
          refine E_iconst (pc := 88) (v := (1 : Int32)) dX12_digits_88 (by decide) ?_
          refine E_iload_n (pc := 89) dX12_digits_89 rfl ?_
          refine E_Vv (pc := 90) (d2 := D_X12_fails) (ci := 12) [.int (1 : Int32), .int x28] dX12_digits_90 ml_X12_252 mf_X12_fails im_X12_fails rfl rfl rfl (by decide) (Nat.le_of_ble_eq_true rfl) (Nat.le_of_ble_eq_true rfl) rfl (fun _ h => f_X12_fails_ok h) hf (fun μ32 hf => ?_)
          refine E_iload_n (pc := 93) dX12_digits_93 rfl ?_
          exact E_iret (pc := 94) dX12_digits_94 rfl hf
