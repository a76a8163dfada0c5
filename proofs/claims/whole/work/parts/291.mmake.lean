theorem dX12_init_0 : decode cX12_init 0 = .ok (.aload_n 0, 1) := by decide +kernel
theorem dX12_init_1 : decode cX12_init 1 = .ok (.invokespecial 1, 3) := by decide +kernel
theorem dX12_init_4 : decode cX12_init 4 = .ok (.aload_n 0, 1) := by decide +kernel
theorem dX12_init_5 : decode cX12_init 5 = .ok (.bipush 80, 2) := by decide +kernel
theorem dX12_init_7 : decode cX12_init 7 = .ok (.newarray .int, 2) := by decide +kernel
theorem dX12_init_9 : decode cX12_init 9 = .ok (.putfield 7, 3) := by decide +kernel
theorem dX12_init_12 : decode cX12_init 12 = .ok (.aload_n 0, 1) := by decide +kernel
theorem dX12_init_13 : decode cX12_init 13 = .ok (.bipush 20, 2) := by decide +kernel
theorem dX12_init_15 : decode cX12_init 15 = .ok (.newarray .int, 2) := by decide +kernel
theorem dX12_init_17 : decode cX12_init 17 = .ok (.putfield 13, 3) := by decide +kernel
theorem dX12_init_20 : decode cX12_init 20 = .ok (.aload_n 0, 1) := by decide +kernel
theorem dX12_init_21 : decode cX12_init 21 = .ok (.bipush 20, 2) := by decide +kernel
theorem dX12_init_23 : decode cX12_init 23 = .ok (.newarray .int, 2) := by decide +kernel
theorem dX12_init_25 : decode cX12_init 25 = .ok (.putfield 16, 3) := by decide +kernel
theorem dX12_init_28 : decode cX12_init 28 = .ok (.aload_n 0, 1) := by decide +kernel
theorem dX12_init_29 : decode cX12_init 29 = .ok (.bipush 20, 2) := by decide +kernel
theorem dX12_init_31 : decode cX12_init 31 = .ok (.newarray .int, 2) := by decide +kernel
theorem dX12_init_33 : decode cX12_init 33 = .ok (.putfield 19, 3) := by decide +kernel
theorem dX12_init_36 : decode cX12_init 36 = .ok (.aload_n 0, 1) := by decide +kernel
theorem dX12_init_37 : decode cX12_init 37 = .ok (.bipush 40, 2) := by decide +kernel
theorem dX12_init_39 : decode cX12_init 39 = .ok (.newarray .int, 2) := by decide +kernel
theorem dX12_init_41 : decode cX12_init 41 = .ok (.putfield 22, 3) := by decide +kernel
theorem dX12_init_44 : decode cX12_init 44 = .ok (.aload_n 0, 1) := by decide +kernel
theorem dX12_init_45 : decode cX12_init 45 = .ok (.bipush 40, 2) := by decide +kernel
theorem dX12_init_47 : decode cX12_init 47 = .ok (.newarray .int, 2) := by decide +kernel
theorem dX12_init_49 : decode cX12_init 49 = .ok (.putfield 25, 3) := by decide +kernel
theorem dX12_init_52 : decode cX12_init 52 = .ok (.aload_n 0, 1) := by decide +kernel
theorem dX12_init_53 : decode cX12_init 53 = .ok (.bipush 10, 2) := by decide +kernel
theorem dX12_init_55 : decode cX12_init 55 = .ok (.newarray .int, 2) := by decide +kernel
theorem dX12_init_57 : decode cX12_init 57 = .ok (.putfield 28, 3) := by decide +kernel
theorem dX12_init_60 : decode cX12_init 60 = .ok (.aload_n 0, 1) := by decide +kernel
theorem dX12_init_61 : decode cX12_init 61 = .ok (.bipush 10, 2) := by decide +kernel
theorem dX12_init_63 : decode cX12_init 63 = .ok (.newarray .boolean, 2) := by decide +kernel
theorem dX12_init_65 : decode cX12_init 65 = .ok (.putfield 31, 3) := by decide +kernel
theorem dX12_init_68 : decode cX12_init 68 = .ok (.aload_n 0, 1) := by decide +kernel
theorem dX12_init_69 : decode cX12_init 69 = .ok (.bipush 40, 2) := by decide +kernel
theorem dX12_init_71 : decode cX12_init 71 = .ok (.newarray .int, 2) := by decide +kernel
theorem dX12_init_73 : decode cX12_init 73 = .ok (.putfield 35, 3) := by decide +kernel
theorem dX12_init_76 : decode cX12_init 76 = .ok (.aload_n 0, 1) := by decide +kernel
theorem dX12_init_77 : decode cX12_init 77 = .ok (.bipush 10, 2) := by decide +kernel
theorem dX12_init_79 : decode cX12_init 79 = .ok (.newarray .int, 2) := by decide +kernel
theorem dX12_init_81 : decode cX12_init 81 = .ok (.putfield 38, 3) := by decide +kernel
theorem dX12_init_84 : decode cX12_init 84 = .ok (.aload_n 0, 1) := by decide +kernel
theorem dX12_init_85 : decode cX12_init 85 = .ok (.bipush 10, 2) := by decide +kernel
theorem dX12_init_87 : decode cX12_init 87 = .ok (.newarray .int, 2) := by decide +kernel
theorem dX12_init_89 : decode cX12_init 89 = .ok (.putfield 41, 3) := by decide +kernel
theorem dX12_init_92 : decode cX12_init 92 = .ok (.aload_n 0, 1) := by decide +kernel
theorem dX12_init_93 : decode cX12_init 93 = .ok (.bipush 10, 2) := by decide +kernel
theorem dX12_init_95 : decode cX12_init 95 = .ok (.newarray .boolean, 2) := by decide +kernel
theorem dX12_init_97 : decode cX12_init 97 = .ok (.putfield 44, 3) := by decide +kernel
theorem dX12_init_100 : decode cX12_init 100 = .ok (.aload_n 0, 1) := by decide +kernel
theorem dX12_init_101 : decode cX12_init 101 = .ok (.iconst 4, 1) := by decide +kernel
theorem dX12_init_102 : decode cX12_init 102 = .ok (.newarray .int, 2) := by decide +kernel
theorem dX12_init_104 : decode cX12_init 104 = .ok (.putfield 47, 3) := by decide +kernel
theorem dX12_init_107 : decode cX12_init 107 = .ok (.aload_n 0, 1) := by decide +kernel
theorem dX12_init_108 : decode cX12_init 108 = .ok (.iconst 4, 1) := by decide +kernel
theorem dX12_init_109 : decode cX12_init 109 = .ok (.newarray .int, 2) := by decide +kernel
theorem dX12_init_111 : decode cX12_init 111 = .ok (.putfield 50, 3) := by decide +kernel
theorem dX12_init_114 : decode cX12_init 114 = .ok (.aload_n 0, 1) := by decide +kernel
theorem dX12_init_115 : decode cX12_init 115 = .ok (.iconst 4, 1) := by decide +kernel
theorem dX12_init_116 : decode cX12_init 116 = .ok (.newarray .int, 2) := by decide +kernel
theorem dX12_init_118 : decode cX12_init 118 = .ok (.putfield 53, 3) := by decide +kernel
theorem dX12_init_121 : decode cX12_init 121 = .ok (.aload_n 0, 1) := by decide +kernel
theorem dX12_init_122 : decode cX12_init 122 = .ok (.iconst 4, 1) := by decide +kernel
theorem dX12_init_123 : decode cX12_init 123 = .ok (.newarray .int, 2) := by decide +kernel
theorem dX12_init_125 : decode cX12_init 125 = .ok (.putfield 56, 3) := by decide +kernel
theorem dX12_init_128 : decode cX12_init 128 = .ok (.aload_n 0, 1) := by decide +kernel
theorem dX12_init_129 : decode cX12_init 129 = .ok (.iconst 4, 1) := by decide +kernel
theorem dX12_init_130 : decode cX12_init 130 = .ok (.newarray .int, 2) := by decide +kernel
theorem dX12_init_132 : decode cX12_init 132 = .ok (.putfield 59, 3) := by decide +kernel
theorem dX12_init_135 : decode cX12_init 135 = .ok (.aload_n 0, 1) := by decide +kernel
theorem dX12_init_136 : decode cX12_init 136 = .ok (.bipush 20, 2) := by decide +kernel
theorem dX12_init_138 : decode cX12_init 138 = .ok (.newarray .int, 2) := by decide +kernel
theorem dX12_init_140 : decode cX12_init 140 = .ok (.putfield 62, 3) := by decide +kernel
theorem dX12_init_143 : decode cX12_init 143 = .ok (.aload_n 0, 1) := by decide +kernel
theorem dX12_init_144 : decode cX12_init 144 = .ok (.bipush 20, 2) := by decide +kernel
theorem dX12_init_146 : decode cX12_init 146 = .ok (.newarray .int, 2) := by decide +kernel
theorem dX12_init_148 : decode cX12_init 148 = .ok (.putfield 65, 3) := by decide +kernel
theorem dX12_init_151 : decode cX12_init 151 = .ok (.aload_n 0, 1) := by decide +kernel
theorem dX12_init_152 : decode cX12_init 152 = .ok (.bipush 20, 2) := by decide +kernel
theorem dX12_init_154 : decode cX12_init 154 = .ok (.newarray .int, 2) := by decide +kernel
theorem dX12_init_156 : decode cX12_init 156 = .ok (.putfield 68, 3) := by decide +kernel
theorem dX12_init_159 : decode cX12_init 159 = .ok (.aload_n 0, 1) := by decide +kernel
theorem dX12_init_160 : decode cX12_init 160 = .ok (.iconst 4, 1) := by decide +kernel
theorem dX12_init_161 : decode cX12_init 161 = .ok (.newarray .boolean, 2) := by decide +kernel
theorem dX12_init_163 : decode cX12_init 163 = .ok (.putfield 71, 3) := by decide +kernel
theorem dX12_init_166 : decode cX12_init 166 = .ok (.aload_n 0, 1) := by decide +kernel
theorem dX12_init_167 : decode cX12_init 167 = .ok (.iconst 4, 1) := by decide +kernel
theorem dX12_init_168 : decode cX12_init 168 = .ok (.newarray .int, 2) := by decide +kernel
theorem dX12_init_170 : decode cX12_init 170 = .ok (.putfield 74, 3) := by decide +kernel
theorem dX12_init_173 : decode cX12_init 173 = .ok (.aload_n 0, 1) := by decide +kernel
theorem dX12_init_174 : decode cX12_init 174 = .ok (.iconst 4, 1) := by decide +kernel
theorem dX12_init_175 : decode cX12_init 175 = .ok (.newarray .int, 2) := by decide +kernel
theorem dX12_init_177 : decode cX12_init 177 = .ok (.putfield 77, 3) := by decide +kernel
theorem dX12_init_180 : decode cX12_init 180 = .ok (.aload_n 0, 1) := by decide +kernel
theorem dX12_init_181 : decode cX12_init 181 = .ok (.iconst 4, 1) := by decide +kernel
theorem dX12_init_182 : decode cX12_init 182 = .ok (.newarray .int, 2) := by decide +kernel
theorem dX12_init_184 : decode cX12_init 184 = .ok (.putfield 80, 3) := by decide +kernel
theorem dX12_init_187 : decode cX12_init 187 = .ok (.aload_n 0, 1) := by decide +kernel
theorem dX12_init_188 : decode cX12_init 188 = .ok (.iconst 4, 1) := by decide +kernel
theorem dX12_init_189 : decode cX12_init 189 = .ok (.newarray .int, 2) := by decide +kernel
theorem dX12_init_191 : decode cX12_init 191 = .ok (.putfield 83, 3) := by decide +kernel
theorem dX12_init_194 : decode cX12_init 194 = .ok (.aload_n 0, 1) := by decide +kernel
theorem dX12_init_195 : decode cX12_init 195 = .ok (.iconst 4, 1) := by decide +kernel
theorem dX12_init_196 : decode cX12_init 196 = .ok (.putfield 86, 3) := by decide +kernel
theorem dX12_init_199 : decode cX12_init 199 = .ok (.aload_n 0, 1) := by decide +kernel
theorem dX12_init_200 : decode cX12_init 200 = .ok (.sipush 1500, 3) := by decide +kernel
theorem dX12_init_203 : decode cX12_init 203 = .ok (.newarray .int, 2) := by decide +kernel
theorem dX12_init_205 : decode cX12_init 205 = .ok (.putfield 90, 3) := by decide +kernel
theorem dX12_init_208 : decode cX12_init 208 = .ok (.aload_n 0, 1) := by decide +kernel
theorem dX12_init_209 : decode cX12_init 209 = .ok (.sipush 1500, 3) := by decide +kernel
theorem dX12_init_212 : decode cX12_init 212 = .ok (.newarray .int, 2) := by decide +kernel
theorem dX12_init_214 : decode cX12_init 214 = .ok (.putfield 93, 3) := by decide +kernel
theorem dX12_init_217 : decode cX12_init 217 = .ok (.aload_n 0, 1) := by decide +kernel
theorem dX12_init_218 : decode cX12_init 218 = .ok (.sipush 1500, 3) := by decide +kernel
theorem dX12_init_221 : decode cX12_init 221 = .ok (.newarray .int, 2) := by decide +kernel
theorem dX12_init_223 : decode cX12_init 223 = .ok (.putfield 96, 3) := by decide +kernel
theorem dX12_init_226 : decode cX12_init 226 = .ok (.aload_n 0, 1) := by decide +kernel
theorem dX12_init_227 : decode cX12_init 227 = .ok (.sipush 1500, 3) := by decide +kernel
theorem dX12_init_230 : decode cX12_init 230 = .ok (.newarray .int, 2) := by decide +kernel
theorem dX12_init_232 : decode cX12_init 232 = .ok (.putfield 99, 3) := by decide +kernel
theorem dX12_init_235 : decode cX12_init 235 = .ok (.aload_n 0, 1) := by decide +kernel
theorem dX12_init_236 : decode cX12_init 236 = .ok (.sipush 1500, 3) := by decide +kernel
theorem dX12_init_239 : decode cX12_init 239 = .ok (.newarray .int, 2) := by decide +kernel
theorem dX12_init_241 : decode cX12_init 241 = .ok (.putfield 102, 3) := by decide +kernel
theorem dX12_init_244 : decode cX12_init 244 = .ok (.aload_n 0, 1) := by decide +kernel
theorem dX12_init_245 : decode cX12_init 245 = .ok (.sipush 1500, 3) := by decide +kernel
theorem dX12_init_248 : decode cX12_init 248 = .ok (.newarray .int, 2) := by decide +kernel
theorem dX12_init_250 : decode cX12_init 250 = .ok (.putfield 105, 3) := by decide +kernel
theorem dX12_init_253 : decode cX12_init 253 = .ok (.aload_n 0, 1) := by decide +kernel
theorem dX12_init_254 : decode cX12_init 254 = .ok (.sipush 4096, 3) := by decide +kernel
theorem dX12_init_257 : decode cX12_init 257 = .ok (.newarray .int, 2) := by decide +kernel
theorem dX12_init_259 : decode cX12_init 259 = .ok (.putfield 108, 3) := by decide +kernel
theorem dX12_init_262 : decode cX12_init 262 = .ok (.aload_n 0, 1) := by decide +kernel
theorem dX12_init_263 : decode cX12_init 263 = .ok (.bipush 12, 2) := by decide +kernel
theorem dX12_init_265 : decode cX12_init 265 = .ok (.newarray .int, 2) := by decide +kernel
theorem dX12_init_267 : decode cX12_init 267 = .ok (.putfield 111, 3) := by decide +kernel
theorem dX12_init_270 : decode cX12_init 270 = .ok (.aload_n 0, 1) := by decide +kernel
theorem dX12_init_271 : decode cX12_init 271 = .ok (.bipush 16, 2) := by decide +kernel
theorem dX12_init_273 : decode cX12_init 273 = .ok (.newarray .int, 2) := by decide +kernel
theorem dX12_init_275 : decode cX12_init 275 = .ok (.putfield 114, 3) := by decide +kernel
theorem dX12_init_278 : decode cX12_init 278 = .ok (.aload_n 0, 1) := by decide +kernel
theorem dX12_init_279 : decode cX12_init 279 = .ok (.bipush 16, 2) := by decide +kernel
theorem dX12_init_281 : decode cX12_init 281 = .ok (.newarray .int, 2) := by decide +kernel
theorem dX12_init_283 : decode cX12_init 283 = .ok (.putfield 117, 3) := by decide +kernel
theorem dX12_init_286 : decode cX12_init 286 = .ok (.aload_n 0, 1) := by decide +kernel
theorem dX12_init_287 : decode cX12_init 287 = .ok (.bipush 16, 2) := by decide +kernel
theorem dX12_init_289 : decode cX12_init 289 = .ok (.newarray .int, 2) := by decide +kernel
theorem dX12_init_291 : decode cX12_init 291 = .ok (.putfield 120, 3) := by decide +kernel
theorem dX12_init_294 : decode cX12_init 294 = .ok (.aload_n 0, 1) := by decide +kernel
theorem dX12_init_295 : decode cX12_init 295 = .ok (.iconst 3, 1) := by decide +kernel
theorem dX12_init_296 : decode cX12_init 296 = .ok (.putfield 123, 3) := by decide +kernel
theorem dX12_init_299 : decode cX12_init 299 = .ok (.aload_n 0, 1) := by decide +kernel
theorem dX12_init_300 : decode cX12_init 300 = .ok (.bipush 20, 2) := by decide +kernel
theorem dX12_init_302 : decode cX12_init 302 = .ok (.putfield 126, 3) := by decide +kernel
theorem dX12_init_305 : decode cX12_init 305 = .ok (.aload_n 0, 1) := by decide +kernel
theorem dX12_init_306 : decode cX12_init 306 = .ok (.bipush 12, 2) := by decide +kernel
theorem dX12_init_308 : decode cX12_init 308 = .ok (.putfield 129, 3) := by decide +kernel
theorem dX12_init_311 : decode cX12_init 311 = .ok (.aload_n 0, 1) := by decide +kernel
theorem dX12_init_312 : decode cX12_init 312 = .ok (.iconst 4, 1) := by decide +kernel
theorem dX12_init_313 : decode cX12_init 313 = .ok (.newarray .int, 2) := by decide +kernel
theorem dX12_init_315 : decode cX12_init 315 = .ok (.putfield 132, 3) := by decide +kernel
theorem dX12_init_318 : decode cX12_init 318 = .ok (.aload_n 0, 1) := by decide +kernel
theorem dX12_init_319 : decode cX12_init 319 = .ok (.bipush 6, 2) := by decide +kernel
theorem dX12_init_321 : decode cX12_init 321 = .ok (.newarray .int, 2) := by decide +kernel
theorem dX12_init_323 : decode cX12_init 323 = .ok (.putfield 135, 3) := by decide +kernel
theorem dX12_init_326 : decode cX12_init 326 = .ok (.aload_n 0, 1) := by decide +kernel
theorem dX12_init_327 : decode cX12_init 327 = .ok (.iconst 2, 1) := by decide +kernel
theorem dX12_init_328 : decode cX12_init 328 = .ok (.putfield 138, 3) := by decide +kernel
theorem dX12_init_331 : decode cX12_init 331 = .ok (.aload_n 0, 1) := by decide +kernel
theorem dX12_init_332 : decode cX12_init 332 = .ok (.sipush 1792, 3) := by decide +kernel
theorem dX12_init_335 : decode cX12_init 335 = .ok (.newarray .int, 2) := by decide +kernel
theorem dX12_init_337 : decode cX12_init 337 = .ok (.putfield 141, 3) := by decide +kernel
theorem dX12_init_340 : decode cX12_init 340 = .ok (.aload_n 0, 1) := by decide +kernel
theorem dX12_init_341 : decode cX12_init 341 = .ok (.bipush 6, 2) := by decide +kernel
theorem dX12_init_343 : decode cX12_init 343 = .ok (.newarray .int, 2) := by decide +kernel
theorem dX12_init_345 : decode cX12_init 345 = .ok (.putfield 144, 3) := by decide +kernel
theorem dX12_init_348 : decode cX12_init 348 = .ok (.aload_n 0, 1) := by decide +kernel
theorem dX12_init_349 : decode cX12_init 349 = .ok (.bipush 20, 2) := by decide +kernel
theorem dX12_init_351 : decode cX12_init 351 = .ok (.newarray .int, 2) := by decide +kernel
theorem dX12_init_353 : decode cX12_init 353 = .ok (.putfield 147, 3) := by decide +kernel
theorem dX12_init_356 : decode cX12_init 356 = .ok (.aload_n 0, 1) := by decide +kernel
theorem dX12_init_357 : decode cX12_init 357 = .ok (.bipush 20, 2) := by decide +kernel
theorem dX12_init_359 : decode cX12_init 359 = .ok (.newarray .boolean, 2) := by decide +kernel
theorem dX12_init_361 : decode cX12_init 361 = .ok (.putfield 150, 3) := by decide +kernel
theorem dX12_init_364 : decode cX12_init 364 = .ok (.aload_n 0, 1) := by decide +kernel
theorem dX12_init_365 : decode cX12_init 365 = .ok (.iconst 4, 1) := by decide +kernel
theorem dX12_init_366 : decode cX12_init 366 = .ok (.newarray .int, 2) := by decide +kernel
theorem dX12_init_368 : decode cX12_init 368 = .ok (.putfield 153, 3) := by decide +kernel
theorem dX12_init_371 : decode cX12_init 371 = .ok (.aload_n 0, 1) := by decide +kernel
theorem dX12_init_372 : decode cX12_init 372 = .ok (.iconst 4, 1) := by decide +kernel
theorem dX12_init_373 : decode cX12_init 373 = .ok (.newarray .int, 2) := by decide +kernel
theorem dX12_init_375 : decode cX12_init 375 = .ok (.putfield 156, 3) := by decide +kernel
theorem dX12_init_378 : decode cX12_init 378 = .ok (.aload_n 0, 1) := by decide +kernel
theorem dX12_init_379 : decode cX12_init 379 = .ok (.iconst 4, 1) := by decide +kernel
theorem dX12_init_380 : decode cX12_init 380 = .ok (.newarray .int, 2) := by decide +kernel
theorem dX12_init_382 : decode cX12_init 382 = .ok (.putfield 159, 3) := by decide +kernel
theorem dX12_init_385 : decode cX12_init 385 = .ok (.aload_n 0, 1) := by decide +kernel
theorem dX12_init_386 : decode cX12_init 386 = .ok (.iconst 4, 1) := by decide +kernel
theorem dX12_init_387 : decode cX12_init 387 = .ok (.newarray .int, 2) := by decide +kernel
theorem dX12_init_389 : decode cX12_init 389 = .ok (.putfield 162, 3) := by decide +kernel
theorem dX12_init_392 : decode cX12_init 392 = .ok (.aload_n 0, 1) := by decide +kernel
theorem dX12_init_393 : decode cX12_init 393 = .ok (.iconst 4, 1) := by decide +kernel
theorem dX12_init_394 : decode cX12_init 394 = .ok (.newarray .int, 2) := by decide +kernel
theorem dX12_init_396 : decode cX12_init 396 = .ok (.putfield 165, 3) := by decide +kernel
theorem dX12_init_399 : decode cX12_init 399 = .ok (.aload_n 0, 1) := by decide +kernel
theorem dX12_init_400 : decode cX12_init 400 = .ok (.iconst 4, 1) := by decide +kernel
theorem dX12_init_401 : decode cX12_init 401 = .ok (.newarray .int, 2) := by decide +kernel
theorem dX12_init_403 : decode cX12_init 403 = .ok (.putfield 168, 3) := by decide +kernel
theorem dX12_init_406 : decode cX12_init 406 = .ok (.aload_n 0, 1) := by decide +kernel
theorem dX12_init_407 : decode cX12_init 407 = .ok (.iconst 4, 1) := by decide +kernel
theorem dX12_init_408 : decode cX12_init 408 = .ok (.newarray .int, 2) := by decide +kernel
theorem dX12_init_410 : decode cX12_init 410 = .ok (.putfield 171, 3) := by decide +kernel
theorem dX12_init_413 : decode cX12_init 413 = .ok (.aload_n 0, 1) := by decide +kernel
theorem dX12_init_414 : decode cX12_init 414 = .ok (.iconst 4, 1) := by decide +kernel
theorem dX12_init_415 : decode cX12_init 415 = .ok (.newarray .int, 2) := by decide +kernel
theorem dX12_init_417 : decode cX12_init 417 = .ok (.putfield 174, 3) := by decide +kernel
theorem dX12_init_420 : decode cX12_init 420 = .ok (.aload_n 0, 1) := by decide +kernel
theorem dX12_init_421 : decode cX12_init 421 = .ok (.bipush 12, 2) := by decide +kernel
theorem dX12_init_423 : decode cX12_init 423 = .ok (.newarray .int, 2) := by decide +kernel
theorem dX12_init_425 : decode cX12_init 425 = .ok (.putfield 177, 3) := by decide +kernel
theorem dX12_init_428 : decode cX12_init 428 = .ok (.aload_n 0, 1) := by decide +kernel
theorem dX12_init_429 : decode cX12_init 429 = .ok (.bipush 12, 2) := by decide +kernel
theorem dX12_init_431 : decode cX12_init 431 = .ok (.newarray .int, 2) := by decide +kernel
theorem dX12_init_433 : decode cX12_init 433 = .ok (.putfield 180, 3) := by decide +kernel
theorem dX12_init_436 : decode cX12_init 436 = .ok (.aload_n 0, 1) := by decide +kernel
theorem dX12_init_437 : decode cX12_init 437 = .ok (.bipush 12, 2) := by decide +kernel
theorem dX12_init_439 : decode cX12_init 439 = .ok (.newarray .int, 2) := by decide +kernel
theorem dX12_init_441 : decode cX12_init 441 = .ok (.putfield 183, 3) := by decide +kernel
theorem dX12_init_444 : decode cX12_init 444 = .ok (.aload_n 0, 1) := by decide +kernel
theorem dX12_init_445 : decode cX12_init 445 = .ok (.iconst 1, 1) := by decide +kernel
theorem dX12_init_446 : decode cX12_init 446 = .ok (.putfield 186, 3) := by decide +kernel
theorem dX12_init_449 : decode cX12_init 449 = .ok (.aload_n 0, 1) := by decide +kernel
theorem dX12_init_450 : decode cX12_init 450 = .ok (.iconst 4, 1) := by decide +kernel
theorem dX12_init_451 : decode cX12_init 451 = .ok (.newarray .int, 2) := by decide +kernel
theorem dX12_init_453 : decode cX12_init 453 = .ok (.putfield 189, 3) := by decide +kernel
theorem dX12_init_456 : decode cX12_init 456 = .ok (.aload_n 0, 1) := by decide +kernel
theorem dX12_init_457 : decode cX12_init 457 = .ok (.bipush 80, 2) := by decide +kernel
theorem dX12_init_459 : decode cX12_init 459 = .ok (.newarray .int, 2) := by decide +kernel
theorem dX12_init_461 : decode cX12_init 461 = .ok (.putfield 192, 3) := by decide +kernel
theorem dX12_init_464 : decode cX12_init 464 = .ok (.aload_n 0, 1) := by decide +kernel
theorem dX12_init_465 : decode cX12_init 465 = .ok (.iconst 4, 1) := by decide +kernel
theorem dX12_init_466 : decode cX12_init 466 = .ok (.newarray .boolean, 2) := by decide +kernel
theorem dX12_init_468 : decode cX12_init 468 = .ok (.putfield 195, 3) := by decide +kernel
theorem dX12_init_471 : decode cX12_init 471 = .ok (.aload_n 0, 1) := by decide +kernel
theorem dX12_init_472 : decode cX12_init 472 = .ok (.iconst 4, 1) := by decide +kernel
theorem dX12_init_473 : decode cX12_init 473 = .ok (.newarray .int, 2) := by decide +kernel
theorem dX12_init_475 : decode cX12_init 475 = .ok (.putfield 198, 3) := by decide +kernel
theorem dX12_init_478 : decode cX12_init 478 = .ok (.aload_n 0, 1) := by decide +kernel
theorem dX12_init_479 : decode cX12_init 479 = .ok (.iconst 4, 1) := by decide +kernel
theorem dX12_init_480 : decode cX12_init 480 = .ok (.newarray .int, 2) := by decide +kernel
theorem dX12_init_482 : decode cX12_init 482 = .ok (.putfield 201, 3) := by decide +kernel
theorem dX12_init_485 : decode cX12_init 485 = .ok (.aload_n 0, 1) := by decide +kernel
theorem dX12_init_486 : decode cX12_init 486 = .ok (.sipush 240, 3) := by decide +kernel
theorem dX12_init_489 : decode cX12_init 489 = .ok (.newarray .int, 2) := by decide +kernel
theorem dX12_init_491 : decode cX12_init 491 = .ok (.putfield 204, 3) := by decide +kernel
theorem dX12_init_494 : decode cX12_init 494 = .ok (.aload_n 0, 1) := by decide +kernel
theorem dX12_init_495 : decode cX12_init 495 = .ok (.bipush 60, 2) := by decide +kernel
theorem dX12_init_497 : decode cX12_init 497 = .ok (.newarray .int, 2) := by decide +kernel
theorem dX12_init_499 : decode cX12_init 499 = .ok (.putfield 207, 3) := by decide +kernel
theorem dX12_init_502 : decode cX12_init 502 = .ok (.iconst 0, 1) := by decide +kernel
theorem dX12_init_503 : decode cX12_init 503 = .ok (.istore_n 1, 1) := by decide +kernel
theorem dX12_init_504 : decode cX12_init 504 = .ok (.iload_n 1, 1) := by decide +kernel
theorem dX12_init_505 : decode cX12_init 505 = .ok (.bipush 20, 2) := by decide +kernel
theorem dX12_init_507 : decode cX12_init 507 = .ok (.if_icmp .ge 17, 3) := by decide +kernel
theorem dX12_init_510 : decode cX12_init 510 = .ok (.aload_n 0, 1) := by decide +kernel
theorem dX12_init_511 : decode cX12_init 511 = .ok (.getfield 147, 3) := by decide +kernel
theorem dX12_init_514 : decode cX12_init 514 = .ok (.iload_n 1, 1) := by decide +kernel
theorem dX12_init_515 : decode cX12_init 515 = .ok (.bipush 10, 2) := by decide +kernel
theorem dX12_init_517 : decode cX12_init 517 = .ok (.iastore, 1) := by decide +kernel
theorem dX12_init_518 : decode cX12_init 518 = .ok (.iinc 1 1, 3) := by decide +kernel
theorem dX12_init_521 : decode cX12_init 521 = .ok (.goto (-17), 3) := by decide +kernel
theorem dX12_init_524 : decode cX12_init 524 = .ok (.iconst 0, 1) := by decide +kernel
theorem dX12_init_525 : decode cX12_init 525 = .ok (.istore_n 1, 1) := by decide +kernel
theorem dX12_init_526 : decode cX12_init 526 = .ok (.iload_n 1, 1) := by decide +kernel
theorem dX12_init_527 : decode cX12_init 527 = .ok (.bipush 16, 2) := by decide +kernel
theorem dX12_init_529 : decode cX12_init 529 = .ok (.if_icmp .ge 17, 3) := by decide +kernel
theorem dX12_init_532 : decode cX12_init 532 = .ok (.aload_n 0, 1) := by decide +kernel
theorem dX12_init_533 : decode cX12_init 533 = .ok (.getfield 117, 3) := by decide +kernel
theorem dX12_init_536 : decode cX12_init 536 = .ok (.iload_n 1, 1) := by decide +kernel
theorem dX12_init_537 : decode cX12_init 537 = .ok (.bipush 20, 2) := by decide +kernel
theorem dX12_init_539 : decode cX12_init 539 = .ok (.iastore, 1) := by decide +kernel
theorem dX12_init_540 : decode cX12_init 540 = .ok (.iinc 1 1, 3) := by decide +kernel
theorem dX12_init_543 : decode cX12_init 543 = .ok (.goto (-17), 3) := by decide +kernel
theorem dX12_init_546 : decode cX12_init 546 = .ok (.return_, 1) := by decide +kernel
def l_X12_init_526  : Nat → Wd → Int32 → Option Wd
  | 0, _, _ => none
  | n_526 + 1, w_526l, x1_526l =>
    if (16 : Int32) ≤ x1_526l then
    q_rd w_526l 63 12 84 (fun w_r546 =>
    some w_r546)
    else
    q_cr w_526l 63 45 (
    q_st w_526l 98 16 x1_526l (20 : Int32) (fun w_539 =>
    q_lt (x1_526l + (1 : Int32)) (fun v_540 =>
    l_X12_init_526 n_526 w_539 v_540)))
def l_X12_init_504 (j_524 : Wd → Option Wd) : Nat → Wd → Int32 → Option Wd
  | 0, _, _ => none
  | n_504 + 1, w_504l, x1_504l =>
    if (20 : Int32) ≤ x1_504l then
    j_524 w_504l
    else
    q_cr w_504l 63 57 (
    q_st w_504l 104 20 x1_504l (10 : Int32) (fun w_517 =>
    q_lt (x1_504l + (1 : Int32)) (fun v_518 =>
    l_X12_init_504 j_524 n_504 w_517 v_518)))
def f_X12_init (w : Wd) : Option Wd :=
q_nw w 64 (1, 80) 2 (fun w_7 =>
q_pt w_7 63 1 1 (fun w_9 =>
q_nw w_9 65 (1, 20) 2 (fun w_15 =>
q_pt w_15 63 2 1 (fun w_17 =>
q_nw w_17 66 (1, 20) 2 (fun w_23 =>
q_pt w_23 63 3 1 (fun w_25 =>
q_nw w_25 67 (1, 20) 2 (fun w_31 =>
q_pt w_31 63 4 1 (fun w_33 =>
q_nw w_33 68 (1, 40) 2 (fun w_39 =>
q_pt w_39 63 6 1 (fun w_41 =>
q_nw w_41 69 (1, 40) 2 (fun w_47 =>
q_pt w_47 63 8 1 (fun w_49 =>
q_nw w_49 70 (1, 10) 2 (fun w_55 =>
q_pt w_55 63 9 1 (fun w_57 =>
q_nw w_57 71 (2, 10) 2 (fun w_63 =>
q_pt w_63 63 10 1 (fun w_65 =>
q_nw w_65 72 (1, 40) 2 (fun w_71 =>
q_pt w_71 63 12 1 (fun w_73 =>
q_nw w_73 73 (1, 10) 2 (fun w_79 =>
q_pt w_79 63 13 1 (fun w_81 =>
q_nw w_81 74 (1, 10) 2 (fun w_87 =>
q_pt w_87 63 14 1 (fun w_89 =>
q_nw w_89 75 (2, 10) 2 (fun w_95 =>
q_pt w_95 63 15 1 (fun w_97 =>
q_nw w_97 76 (1, 4) 2 (fun w_102 =>
q_pt w_102 63 17 1 (fun w_104 =>
q_nw w_104 77 (1, 4) 2 (fun w_109 =>
q_pt w_109 63 18 1 (fun w_111 =>
q_nw w_111 78 (1, 4) 2 (fun w_116 =>
q_pt w_116 63 19 1 (fun w_118 =>
q_nw w_118 79 (1, 4) 2 (fun w_123 =>
q_pt w_123 63 20 1 (fun w_125 =>
q_nw w_125 80 (1, 4) 2 (fun w_130 =>
q_pt w_130 63 21 1 (fun w_132 =>
q_nw w_132 81 (1, 20) 2 (fun w_138 =>
q_pt w_138 63 22 1 (fun w_140 =>
q_nw w_140 82 (1, 20) 2 (fun w_146 =>
q_pt w_146 63 23 1 (fun w_148 =>
q_nw w_148 83 (1, 20) 2 (fun w_154 =>
q_pt w_154 63 24 1 (fun w_156 =>
q_nw w_156 84 (2, 4) 2 (fun w_161 =>
q_pt w_161 63 25 1 (fun w_163 =>
q_nw w_163 85 (1, 4) 2 (fun w_168 =>
q_pt w_168 63 26 1 (fun w_170 =>
q_nw w_170 86 (1, 4) 2 (fun w_175 =>
q_pt w_175 63 27 1 (fun w_177 =>
q_nw w_177 87 (1, 4) 2 (fun w_182 =>
q_pt w_182 63 28 1 (fun w_184 =>
q_nw w_184 88 (1, 4) 2 (fun w_189 =>
q_pt w_189 63 29 1 (fun w_191 =>
q_pt w_191 63 30 (4 : Int32) (fun w_196 =>
q_nw w_196 89 (1, 1500) 2 (fun w_203 =>
q_pt w_203 63 35 1 (fun w_205 =>
q_nw w_205 90 (1, 1500) 2 (fun w_212 =>
q_pt w_212 63 36 1 (fun w_214 =>
q_nw w_214 91 (1, 1500) 2 (fun w_221 =>
q_pt w_221 63 37 1 (fun w_223 =>
q_nw w_223 92 (1, 1500) 2 (fun w_230 =>
q_pt w_230 63 38 1 (fun w_232 =>
q_nw w_232 93 (1, 1500) 2 (fun w_239 =>
q_pt w_239 63 39 1 (fun w_241 =>
q_nw w_241 94 (1, 1500) 2 (fun w_248 =>
q_pt w_248 63 40 1 (fun w_250 =>
q_nw w_250 95 (1, 4096) 2 (fun w_257 =>
q_pt w_257 63 41 1 (fun w_259 =>
q_nw w_259 96 (1, 12) 2 (fun w_265 =>
q_pt w_265 63 43 1 (fun w_267 =>
q_nw w_267 97 (1, 16) 2 (fun w_273 =>
q_pt w_273 63 44 1 (fun w_275 =>
q_nw w_275 98 (1, 16) 2 (fun w_281 =>
q_pt w_281 63 45 1 (fun w_283 =>
q_nw w_283 99 (1, 16) 2 (fun w_289 =>
q_pt w_289 63 46 1 (fun w_291 =>
q_pt w_291 63 47 (3 : Int32) (fun w_296 =>
q_pt w_296 63 48 (20 : Int32) (fun w_302 =>
q_pt w_302 63 49 (12 : Int32) (fun w_308 =>
q_nw w_308 100 (1, 4) 2 (fun w_313 =>
q_pt w_313 63 51 1 (fun w_315 =>
q_nw w_315 101 (1, 6) 2 (fun w_321 =>
q_pt w_321 63 53 1 (fun w_323 =>
q_pt w_323 63 54 (2 : Int32) (fun w_328 =>
q_nw w_328 102 (1, 1792) 2 (fun w_335 =>
q_pt w_335 63 55 1 (fun w_337 =>
q_nw w_337 103 (1, 6) 2 (fun w_343 =>
q_pt w_343 63 56 1 (fun w_345 =>
q_nw w_345 104 (1, 20) 2 (fun w_351 =>
q_pt w_351 63 57 1 (fun w_353 =>
q_nw w_353 105 (2, 20) 2 (fun w_359 =>
q_pt w_359 63 58 1 (fun w_361 =>
q_nw w_361 106 (1, 4) 2 (fun w_366 =>
q_pt w_366 63 60 1 (fun w_368 =>
q_nw w_368 107 (1, 4) 2 (fun w_373 =>
q_pt w_373 63 61 1 (fun w_375 =>
q_nw w_375 108 (1, 4) 2 (fun w_380 =>
q_pt w_380 63 62 1 (fun w_382 =>
q_nw w_382 109 (1, 4) 2 (fun w_387 =>
q_pt w_387 63 63 1 (fun w_389 =>
q_nw w_389 110 (1, 4) 2 (fun w_394 =>
q_pt w_394 63 64 1 (fun w_396 =>
q_nw w_396 111 (1, 4) 2 (fun w_401 =>
q_pt w_401 63 65 1 (fun w_403 =>
q_nw w_403 112 (1, 4) 2 (fun w_408 =>
q_pt w_408 63 66 1 (fun w_410 =>
q_nw w_410 113 (1, 4) 2 (fun w_415 =>
q_pt w_415 63 67 1 (fun w_417 =>
q_nw w_417 114 (1, 12) 2 (fun w_423 =>
q_pt w_423 63 69 1 (fun w_425 =>
q_nw w_425 115 (1, 12) 2 (fun w_431 =>
q_pt w_431 63 70 1 (fun w_433 =>
q_nw w_433 116 (1, 12) 2 (fun w_439 =>
q_pt w_439 63 71 1 (fun w_441 =>
q_pt w_441 63 72 (1 : Int32) (fun w_446 =>
q_nw w_446 117 (1, 4) 2 (fun w_451 =>
q_pt w_451 63 73 1 (fun w_453 =>
q_nw w_453 118 (1, 80) 2 (fun w_459 =>
q_pt w_459 63 75 1 (fun w_461 =>
q_nw w_461 119 (2, 4) 2 (fun w_466 =>
q_pt w_466 63 78 1 (fun w_468 =>
q_nw w_468 120 (1, 4) 2 (fun w_473 =>
q_pt w_473 63 79 1 (fun w_475 =>
q_nw w_475 121 (1, 4) 2 (fun w_480 =>
q_pt w_480 63 80 1 (fun w_482 =>
q_nw w_482 122 (1, 240) 2 (fun w_489 =>
q_pt w_489 63 81 1 (fun w_491 =>
q_nw w_491 123 (1, 60) 2 (fun w_497 =>
q_pt w_497 63 82 1 (fun w_499 =>
q_jn (fun (w_524j : Wd) =>
l_X12_init_526 FU w_524j (0 : Int32)) (fun j_524 =>
l_X12_init_504 j_524 FU w_499 (0 : Int32))))))))))))))))))))))))))))))))))))))))))))))))))))))))))))))))))))))))))))))))))))))))))))))))))))))))))))))))))))))))))))))))
set_option maxRecDepth 100000 in
set_option maxHeartbeats 4000000 in
theorem c_X12_init (l : Launch) (D : va_G) (cT : Nat → ClassId) (lo nb : Nat) (w : Wd) (ad0 : Nat → Nat) (ha0 : wA w 63 = 1) (w9 : Wd) (h : f_X12_init w = some w9) : Met l yX12_init (.code yX12_init cX12_init 2 none :: TW) { frames := 1, cells := 60, slots := 15878, locals := 20 } (mPc D cT lo nb w ad0 [.ref (ad0 63)]) (mQA D cT lo nb w w9 ad0 none) 60 15878 (fun q => lo ≤ q) := by
  unfold f_X12_init at h
  have hn_63 : wA w 63 ≠ 0 := by rw [ha0]; decide
  refine x_met (lv := [(0, .ref (ad0 63))]) (by decide +kernel) (Nat.le_of_ble_eq_true rfl) rfl ?_
  intro p e s m args below meth c ls F hr hlk hP hin hl
  have hx := F.1
  have hb := F.2.1
  have hS : va_S (fun q => lo ≤ q) s.heap s.heap [] := va_S.rf
  have hM_w : mono w w := mono.refl
  have hXA : ∀ k, wA w k ≠ 0 → ad0 k = ad0 k := fun _ _ => rfl
  refine lv_aload_n F.1 F.2.1 dX12_init_0 rfl (lv_at hl 0 rfl) ?_
  refine y_obj F lk_X12_1 vi_obj cd_obj hl.1 dX12_init_1 ⟨Nat.le_of_ble_eq_true rfl, Nat.le_of_ble_eq_true rfl⟩ ?_
  refine lv_aload_n F.1 F.2.1 dX12_init_4 rfl (lv_at hl 0 rfl) ?_
  refine lv_bipush (v := 80) F.1 F.2.1 dX12_init_5 ib_80 ?_
  refine y_newi (k := 64) h F hP hS ac_int (by decide) (by decide) (by decide) (Nat.le_of_ble_eq_true rfl) (Nat.le_of_ble_eq_true rfl) dX12_init_7 (fun w_7 ad H hm ha_64 _ hx h hP' hS => ?_)
  have e9 := hx 63 hn_63
  try rw [← e9] at hl
  try rw [← e9]
  have hP := hP'
  have hXA : ∀ k, wA w k ≠ 0 → ad k = ad0 k := fun k hk => (hx k (hM_w.1 k hk)).trans (hXA k hk)
  have hM_w := hm
  have hn_63 := hm.1 _ hn_63
  refine y_putFr h F hP hS k_63 hn_63 fl_X12_7 hin rfl rfl r_63_1 ha_64 (Or.inr ⟨_, rfl⟩) dX12_init_9 (fun w_9 H locs hm h hP hS => ?_)
  have hM_w := hM_w.trans hm
  have hn_63 := hm.1 _ hn_63
  have ha_64 := hm.2 _ ha_64
  refine lv_aload_n F.1 F.2.1 dX12_init_12 rfl (lv_at hl 0 rfl) ?_
  refine lv_bipush (v := 20) F.1 F.2.1 dX12_init_13 ib_20 ?_
  refine y_newi (k := 65) h F hP hS ac_int (by decide) (by decide) (by decide) (Nat.le_of_ble_eq_true rfl) (Nat.le_of_ble_eq_true rfl) dX12_init_15 (fun w_15 ad H hm ha_65 _ hx h hP' hS => ?_)
  have e9 := hx 63 hn_63
  try rw [← e9] at hl
  try rw [← e9]
  have hP := hP'
  have hXA : ∀ k, wA w k ≠ 0 → ad k = ad0 k := fun k hk => (hx k (hM_w.1 k hk)).trans (hXA k hk)
  have hM_w := hM_w.trans hm
  have hn_63 := hm.1 _ hn_63
  have ha_64 := hm.2 _ ha_64
  refine y_putFr h F hP hS k_63 hn_63 fl_X12_13 hin rfl rfl r_63_2 ha_65 (Or.inr ⟨_, rfl⟩) dX12_init_17 (fun w_17 H locs hm h hP hS => ?_)
  have hM_w := hM_w.trans hm
  have hn_63 := hm.1 _ hn_63
  have ha_64 := hm.2 _ ha_64
  have ha_65 := hm.2 _ ha_65
  refine lv_aload_n F.1 F.2.1 dX12_init_20 rfl (lv_at hl 0 rfl) ?_
  refine lv_bipush (v := 20) F.1 F.2.1 dX12_init_21 ib_20 ?_
  refine y_newi (k := 66) h F hP hS ac_int (by decide) (by decide) (by decide) (Nat.le_of_ble_eq_true rfl) (Nat.le_of_ble_eq_true rfl) dX12_init_23 (fun w_23 ad H hm ha_66 _ hx h hP' hS => ?_)
  have e9 := hx 63 hn_63
  try rw [← e9] at hl
  try rw [← e9]
  have hP := hP'
  have hXA : ∀ k, wA w k ≠ 0 → ad k = ad0 k := fun k hk => (hx k (hM_w.1 k hk)).trans (hXA k hk)
  have hM_w := hM_w.trans hm
  have hn_63 := hm.1 _ hn_63
  have ha_64 := hm.2 _ ha_64
  have ha_65 := hm.2 _ ha_65
  refine y_putFr h F hP hS k_63 hn_63 fl_X12_16 hin rfl rfl r_63_3 ha_66 (Or.inr ⟨_, rfl⟩) dX12_init_25 (fun w_25 H locs hm h hP hS => ?_)
  have hM_w := hM_w.trans hm
  have hn_63 := hm.1 _ hn_63
  have ha_64 := hm.2 _ ha_64
  have ha_65 := hm.2 _ ha_65
  have ha_66 := hm.2 _ ha_66
  refine lv_aload_n F.1 F.2.1 dX12_init_28 rfl (lv_at hl 0 rfl) ?_
  refine lv_bipush (v := 20) F.1 F.2.1 dX12_init_29 ib_20 ?_
  refine y_newi (k := 67) h F hP hS ac_int (by decide) (by decide) (by decide) (Nat.le_of_ble_eq_true rfl) (Nat.le_of_ble_eq_true rfl) dX12_init_31 (fun w_31 ad H hm ha_67 _ hx h hP' hS => ?_)
  have e9 := hx 63 hn_63
  try rw [← e9] at hl
  try rw [← e9]
  have hP := hP'
  have hXA : ∀ k, wA w k ≠ 0 → ad k = ad0 k := fun k hk => (hx k (hM_w.1 k hk)).trans (hXA k hk)
  have hM_w := hM_w.trans hm
  have hn_63 := hm.1 _ hn_63
  have ha_64 := hm.2 _ ha_64
  have ha_65 := hm.2 _ ha_65
  have ha_66 := hm.2 _ ha_66
  refine y_putFr h F hP hS k_63 hn_63 fl_X12_19 hin rfl rfl r_63_4 ha_67 (Or.inr ⟨_, rfl⟩) dX12_init_33 (fun w_33 H locs hm h hP hS => ?_)
  have hM_w := hM_w.trans hm
  have hn_63 := hm.1 _ hn_63
  have ha_64 := hm.2 _ ha_64
  have ha_65 := hm.2 _ ha_65
  have ha_66 := hm.2 _ ha_66
  have ha_67 := hm.2 _ ha_67
  refine lv_aload_n F.1 F.2.1 dX12_init_36 rfl (lv_at hl 0 rfl) ?_
  refine lv_bipush (v := 40) F.1 F.2.1 dX12_init_37 ib_40 ?_
  refine y_newi (k := 68) h F hP hS ac_int (by decide) (by decide) (by decide) (Nat.le_of_ble_eq_true rfl) (Nat.le_of_ble_eq_true rfl) dX12_init_39 (fun w_39 ad H hm ha_68 _ hx h hP' hS => ?_)
  have e9 := hx 63 hn_63
  try rw [← e9] at hl
  try rw [← e9]
  have hP := hP'
  have hXA : ∀ k, wA w k ≠ 0 → ad k = ad0 k := fun k hk => (hx k (hM_w.1 k hk)).trans (hXA k hk)
  have hM_w := hM_w.trans hm
  have hn_63 := hm.1 _ hn_63
  have ha_64 := hm.2 _ ha_64
  have ha_65 := hm.2 _ ha_65
  have ha_66 := hm.2 _ ha_66
  have ha_67 := hm.2 _ ha_67
  refine y_putFr h F hP hS k_63 hn_63 fl_X12_22 hin rfl rfl r_63_6 ha_68 (Or.inr ⟨_, rfl⟩) dX12_init_41 (fun w_41 H locs hm h hP hS => ?_)
  have hM_w := hM_w.trans hm
  have hn_63 := hm.1 _ hn_63
  have ha_64 := hm.2 _ ha_64
  have ha_65 := hm.2 _ ha_65
  have ha_66 := hm.2 _ ha_66
  have ha_67 := hm.2 _ ha_67
  have ha_68 := hm.2 _ ha_68
  refine lv_aload_n F.1 F.2.1 dX12_init_44 rfl (lv_at hl 0 rfl) ?_
  refine lv_bipush (v := 40) F.1 F.2.1 dX12_init_45 ib_40 ?_
  refine y_newi (k := 69) h F hP hS ac_int (by decide) (by decide) (by decide) (Nat.le_of_ble_eq_true rfl) (Nat.le_of_ble_eq_true rfl) dX12_init_47 (fun w_47 ad H hm ha_69 _ hx h hP' hS => ?_)
  have e9 := hx 63 hn_63
  try rw [← e9] at hl
  try rw [← e9]
  have hP := hP'
  have hXA : ∀ k, wA w k ≠ 0 → ad k = ad0 k := fun k hk => (hx k (hM_w.1 k hk)).trans (hXA k hk)
  have hM_w := hM_w.trans hm
  have hn_63 := hm.1 _ hn_63
  have ha_64 := hm.2 _ ha_64
  have ha_65 := hm.2 _ ha_65
  have ha_66 := hm.2 _ ha_66
  have ha_67 := hm.2 _ ha_67
  have ha_68 := hm.2 _ ha_68
  refine y_putFr h F hP hS k_63 hn_63 fl_X12_25 hin rfl rfl r_63_8 ha_69 (Or.inr ⟨_, rfl⟩) dX12_init_49 (fun w_49 H locs hm h hP hS => ?_)
  have hM_w := hM_w.trans hm
  have hn_63 := hm.1 _ hn_63
  have ha_64 := hm.2 _ ha_64
  have ha_65 := hm.2 _ ha_65
  have ha_66 := hm.2 _ ha_66
  have ha_67 := hm.2 _ ha_67
  have ha_68 := hm.2 _ ha_68
  have ha_69 := hm.2 _ ha_69
  refine lv_aload_n F.1 F.2.1 dX12_init_52 rfl (lv_at hl 0 rfl) ?_
  refine lv_bipush (v := 10) F.1 F.2.1 dX12_init_53 ib_10 ?_
  refine y_newi (k := 70) h F hP hS ac_int (by decide) (by decide) (by decide) (Nat.le_of_ble_eq_true rfl) (Nat.le_of_ble_eq_true rfl) dX12_init_55 (fun w_55 ad H hm ha_70 _ hx h hP' hS => ?_)
  have e9 := hx 63 hn_63
  try rw [← e9] at hl
  try rw [← e9]
  have hP := hP'
  have hXA : ∀ k, wA w k ≠ 0 → ad k = ad0 k := fun k hk => (hx k (hM_w.1 k hk)).trans (hXA k hk)
  have hM_w := hM_w.trans hm
  have hn_63 := hm.1 _ hn_63
  have ha_64 := hm.2 _ ha_64
  have ha_65 := hm.2 _ ha_65
  have ha_66 := hm.2 _ ha_66
  have ha_67 := hm.2 _ ha_67
  have ha_68 := hm.2 _ ha_68
  have ha_69 := hm.2 _ ha_69
  refine y_putFr h F hP hS k_63 hn_63 fl_X12_28 hin rfl rfl r_63_9 ha_70 (Or.inr ⟨_, rfl⟩) dX12_init_57 (fun w_57 H locs hm h hP hS => ?_)
  have hM_w := hM_w.trans hm
  have hn_63 := hm.1 _ hn_63
  have ha_64 := hm.2 _ ha_64
  have ha_65 := hm.2 _ ha_65
  have ha_66 := hm.2 _ ha_66
  have ha_67 := hm.2 _ ha_67
  have ha_68 := hm.2 _ ha_68
  have ha_69 := hm.2 _ ha_69
  have ha_70 := hm.2 _ ha_70
  refine lv_aload_n F.1 F.2.1 dX12_init_60 rfl (lv_at hl 0 rfl) ?_
  refine lv_bipush (v := 10) F.1 F.2.1 dX12_init_61 ib_10 ?_
  refine y_newz (k := 71) h F hP hS ac_boolean (by decide) (by decide) (by decide) (Nat.le_of_ble_eq_true rfl) (Nat.le_of_ble_eq_true rfl) dX12_init_63 (fun w_63 ad H hm ha_71 _ hx h hP' hS => ?_)
  have e9 := hx 63 hn_63
  try rw [← e9] at hl
  try rw [← e9]
  have hP := hP'
  have hXA : ∀ k, wA w k ≠ 0 → ad k = ad0 k := fun k hk => (hx k (hM_w.1 k hk)).trans (hXA k hk)
  have hM_w := hM_w.trans hm
  have hn_63 := hm.1 _ hn_63
  have ha_64 := hm.2 _ ha_64
  have ha_65 := hm.2 _ ha_65
  have ha_66 := hm.2 _ ha_66
  have ha_67 := hm.2 _ ha_67
  have ha_68 := hm.2 _ ha_68
  have ha_69 := hm.2 _ ha_69
  have ha_70 := hm.2 _ ha_70
  refine y_putFr h F hP hS k_63 hn_63 fl_X12_31 hin rfl rfl r_63_10 ha_71 (Or.inr ⟨_, rfl⟩) dX12_init_65 (fun w_65 H locs hm h hP hS => ?_)
  have hM_w := hM_w.trans hm
  have hn_63 := hm.1 _ hn_63
  have ha_64 := hm.2 _ ha_64
  have ha_65 := hm.2 _ ha_65
  have ha_66 := hm.2 _ ha_66
  have ha_67 := hm.2 _ ha_67
  have ha_68 := hm.2 _ ha_68
  have ha_69 := hm.2 _ ha_69
  have ha_70 := hm.2 _ ha_70
  have ha_71 := hm.2 _ ha_71
  refine lv_aload_n F.1 F.2.1 dX12_init_68 rfl (lv_at hl 0 rfl) ?_
  refine lv_bipush (v := 40) F.1 F.2.1 dX12_init_69 ib_40 ?_
  refine y_newi (k := 72) h F hP hS ac_int (by decide) (by decide) (by decide) (Nat.le_of_ble_eq_true rfl) (Nat.le_of_ble_eq_true rfl) dX12_init_71 (fun w_71 ad H hm ha_72 _ hx h hP' hS => ?_)
  have e9 := hx 63 hn_63
  try rw [← e9] at hl
  try rw [← e9]
  have hP := hP'
  have hXA : ∀ k, wA w k ≠ 0 → ad k = ad0 k := fun k hk => (hx k (hM_w.1 k hk)).trans (hXA k hk)
  have hM_w := hM_w.trans hm
  have hn_63 := hm.1 _ hn_63
  have ha_64 := hm.2 _ ha_64
  have ha_65 := hm.2 _ ha_65
  have ha_66 := hm.2 _ ha_66
  have ha_67 := hm.2 _ ha_67
  have ha_68 := hm.2 _ ha_68
  have ha_69 := hm.2 _ ha_69
  have ha_70 := hm.2 _ ha_70
  have ha_71 := hm.2 _ ha_71
  refine y_putFr h F hP hS k_63 hn_63 fl_X12_35 hin rfl rfl r_63_12 ha_72 (Or.inr ⟨_, rfl⟩) dX12_init_73 (fun w_73 H locs hm h hP hS => ?_)
  have hM_w := hM_w.trans hm
  have hn_63 := hm.1 _ hn_63
  have ha_64 := hm.2 _ ha_64
  have ha_65 := hm.2 _ ha_65
  have ha_66 := hm.2 _ ha_66
  have ha_67 := hm.2 _ ha_67
  have ha_68 := hm.2 _ ha_68
  have ha_69 := hm.2 _ ha_69
  have ha_70 := hm.2 _ ha_70
  have ha_71 := hm.2 _ ha_71
  have ha_72 := hm.2 _ ha_72
  refine lv_aload_n F.1 F.2.1 dX12_init_76 rfl (lv_at hl 0 rfl) ?_
  refine lv_bipush (v := 10) F.1 F.2.1 dX12_init_77 ib_10 ?_
  refine y_newi (k := 73) h F hP hS ac_int (by decide) (by decide) (by decide) (Nat.le_of_ble_eq_true rfl) (Nat.le_of_ble_eq_true rfl) dX12_init_79 (fun w_79 ad H hm ha_73 _ hx h hP' hS => ?_)
  have e9 := hx 63 hn_63
  try rw [← e9] at hl
  try rw [← e9]
  have hP := hP'
  have hXA : ∀ k, wA w k ≠ 0 → ad k = ad0 k := fun k hk => (hx k (hM_w.1 k hk)).trans (hXA k hk)
  have hM_w := hM_w.trans hm
  have hn_63 := hm.1 _ hn_63
  have ha_64 := hm.2 _ ha_64
  have ha_65 := hm.2 _ ha_65
  have ha_66 := hm.2 _ ha_66
  have ha_67 := hm.2 _ ha_67
  have ha_68 := hm.2 _ ha_68
  have ha_69 := hm.2 _ ha_69
  have ha_70 := hm.2 _ ha_70
  have ha_71 := hm.2 _ ha_71
  have ha_72 := hm.2 _ ha_72
  refine y_putFr h F hP hS k_63 hn_63 fl_X12_38 hin rfl rfl r_63_13 ha_73 (Or.inr ⟨_, rfl⟩) dX12_init_81 (fun w_81 H locs hm h hP hS => ?_)
  have hM_w := hM_w.trans hm
  have hn_63 := hm.1 _ hn_63
  have ha_64 := hm.2 _ ha_64
  have ha_65 := hm.2 _ ha_65
  have ha_66 := hm.2 _ ha_66
  have ha_67 := hm.2 _ ha_67
  have ha_68 := hm.2 _ ha_68
  have ha_69 := hm.2 _ ha_69
  have ha_70 := hm.2 _ ha_70
  have ha_71 := hm.2 _ ha_71
  have ha_72 := hm.2 _ ha_72
  have ha_73 := hm.2 _ ha_73
  refine lv_aload_n F.1 F.2.1 dX12_init_84 rfl (lv_at hl 0 rfl) ?_
  refine lv_bipush (v := 10) F.1 F.2.1 dX12_init_85 ib_10 ?_
  refine y_newi (k := 74) h F hP hS ac_int (by decide) (by decide) (by decide) (Nat.le_of_ble_eq_true rfl) (Nat.le_of_ble_eq_true rfl) dX12_init_87 (fun w_87 ad H hm ha_74 _ hx h hP' hS => ?_)
  have e9 := hx 63 hn_63
  try rw [← e9] at hl
  try rw [← e9]
  have hP := hP'
  have hXA : ∀ k, wA w k ≠ 0 → ad k = ad0 k := fun k hk => (hx k (hM_w.1 k hk)).trans (hXA k hk)
  have hM_w := hM_w.trans hm
  have hn_63 := hm.1 _ hn_63
  have ha_64 := hm.2 _ ha_64
  have ha_65 := hm.2 _ ha_65
  have ha_66 := hm.2 _ ha_66
  have ha_67 := hm.2 _ ha_67
  have ha_68 := hm.2 _ ha_68
  have ha_69 := hm.2 _ ha_69
  have ha_70 := hm.2 _ ha_70
  have ha_71 := hm.2 _ ha_71
  have ha_72 := hm.2 _ ha_72
  have ha_73 := hm.2 _ ha_73
  refine y_putFr h F hP hS k_63 hn_63 fl_X12_41 hin rfl rfl r_63_14 ha_74 (Or.inr ⟨_, rfl⟩) dX12_init_89 (fun w_89 H locs hm h hP hS => ?_)
  have hM_w := hM_w.trans hm
  have hn_63 := hm.1 _ hn_63
  have ha_64 := hm.2 _ ha_64
  have ha_65 := hm.2 _ ha_65
  have ha_66 := hm.2 _ ha_66
  have ha_67 := hm.2 _ ha_67
  have ha_68 := hm.2 _ ha_68
  have ha_69 := hm.2 _ ha_69
  have ha_70 := hm.2 _ ha_70
  have ha_71 := hm.2 _ ha_71
  have ha_72 := hm.2 _ ha_72
  have ha_73 := hm.2 _ ha_73
  have ha_74 := hm.2 _ ha_74
  refine lv_aload_n F.1 F.2.1 dX12_init_92 rfl (lv_at hl 0 rfl) ?_
  refine lv_bipush (v := 10) F.1 F.2.1 dX12_init_93 ib_10 ?_
  refine y_newz (k := 75) h F hP hS ac_boolean (by decide) (by decide) (by decide) (Nat.le_of_ble_eq_true rfl) (Nat.le_of_ble_eq_true rfl) dX12_init_95 (fun w_95 ad H hm ha_75 _ hx h hP' hS => ?_)
  have e9 := hx 63 hn_63
  try rw [← e9] at hl
  try rw [← e9]
  have hP := hP'
  have hXA : ∀ k, wA w k ≠ 0 → ad k = ad0 k := fun k hk => (hx k (hM_w.1 k hk)).trans (hXA k hk)
  have hM_w := hM_w.trans hm
  have hn_63 := hm.1 _ hn_63
  have ha_64 := hm.2 _ ha_64
  have ha_65 := hm.2 _ ha_65
  have ha_66 := hm.2 _ ha_66
  have ha_67 := hm.2 _ ha_67
  have ha_68 := hm.2 _ ha_68
  have ha_69 := hm.2 _ ha_69
  have ha_70 := hm.2 _ ha_70
  have ha_71 := hm.2 _ ha_71
  have ha_72 := hm.2 _ ha_72
  have ha_73 := hm.2 _ ha_73
  have ha_74 := hm.2 _ ha_74
  refine y_putFr h F hP hS k_63 hn_63 fl_X12_44 hin rfl rfl r_63_15 ha_75 (Or.inr ⟨_, rfl⟩) dX12_init_97 (fun w_97 H locs hm h hP hS => ?_)
  have hM_w := hM_w.trans hm
  have hn_63 := hm.1 _ hn_63
  have ha_64 := hm.2 _ ha_64
  have ha_65 := hm.2 _ ha_65
  have ha_66 := hm.2 _ ha_66
  have ha_67 := hm.2 _ ha_67
  have ha_68 := hm.2 _ ha_68
  have ha_69 := hm.2 _ ha_69
  have ha_70 := hm.2 _ ha_70
  have ha_71 := hm.2 _ ha_71
  have ha_72 := hm.2 _ ha_72
  have ha_73 := hm.2 _ ha_73
  have ha_74 := hm.2 _ ha_74
  have ha_75 := hm.2 _ ha_75
  refine lv_aload_n F.1 F.2.1 dX12_init_100 rfl (lv_at hl 0 rfl) ?_
  refine lv_iconst (v := 4) F.1 F.2.1 dX12_init_101 ic_4 ?_
  refine y_newi (k := 76) h F hP hS ac_int (by decide) (by decide) (by decide) (Nat.le_of_ble_eq_true rfl) (Nat.le_of_ble_eq_true rfl) dX12_init_102 (fun w_102 ad H hm ha_76 _ hx h hP' hS => ?_)
  have e9 := hx 63 hn_63
  try rw [← e9] at hl
  try rw [← e9]
  have hP := hP'
  have hXA : ∀ k, wA w k ≠ 0 → ad k = ad0 k := fun k hk => (hx k (hM_w.1 k hk)).trans (hXA k hk)
  have hM_w := hM_w.trans hm
  have hn_63 := hm.1 _ hn_63
  have ha_64 := hm.2 _ ha_64
  have ha_65 := hm.2 _ ha_65
  have ha_66 := hm.2 _ ha_66
  have ha_67 := hm.2 _ ha_67
  have ha_68 := hm.2 _ ha_68
  have ha_69 := hm.2 _ ha_69
  have ha_70 := hm.2 _ ha_70
  have ha_71 := hm.2 _ ha_71
  have ha_72 := hm.2 _ ha_72
  have ha_73 := hm.2 _ ha_73
  have ha_74 := hm.2 _ ha_74
  have ha_75 := hm.2 _ ha_75
  refine y_putFr h F hP hS k_63 hn_63 fl_X12_47 hin rfl rfl r_63_17 ha_76 (Or.inr ⟨_, rfl⟩) dX12_init_104 (fun w_104 H locs hm h hP hS => ?_)
  have hM_w := hM_w.trans hm
  have hn_63 := hm.1 _ hn_63
  have ha_64 := hm.2 _ ha_64
  have ha_65 := hm.2 _ ha_65
  have ha_66 := hm.2 _ ha_66
  have ha_67 := hm.2 _ ha_67
  have ha_68 := hm.2 _ ha_68
  have ha_69 := hm.2 _ ha_69
  have ha_70 := hm.2 _ ha_70
  have ha_71 := hm.2 _ ha_71
  have ha_72 := hm.2 _ ha_72
  have ha_73 := hm.2 _ ha_73
  have ha_74 := hm.2 _ ha_74
  have ha_75 := hm.2 _ ha_75
  have ha_76 := hm.2 _ ha_76
  refine lv_aload_n F.1 F.2.1 dX12_init_107 rfl (lv_at hl 0 rfl) ?_
  refine lv_iconst (v := 4) F.1 F.2.1 dX12_init_108 ic_4 ?_
  refine y_newi (k := 77) h F hP hS ac_int (by decide) (by decide) (by decide) (Nat.le_of_ble_eq_true rfl) (Nat.le_of_ble_eq_true rfl) dX12_init_109 (fun w_109 ad H hm ha_77 _ hx h hP' hS => ?_)
  have e9 := hx 63 hn_63
  try rw [← e9] at hl
  try rw [← e9]
  have hP := hP'
  have hXA : ∀ k, wA w k ≠ 0 → ad k = ad0 k := fun k hk => (hx k (hM_w.1 k hk)).trans (hXA k hk)
  have hM_w := hM_w.trans hm
  have hn_63 := hm.1 _ hn_63
  have ha_64 := hm.2 _ ha_64
  have ha_65 := hm.2 _ ha_65
  have ha_66 := hm.2 _ ha_66
  have ha_67 := hm.2 _ ha_67
  have ha_68 := hm.2 _ ha_68
  have ha_69 := hm.2 _ ha_69
  have ha_70 := hm.2 _ ha_70
  have ha_71 := hm.2 _ ha_71
  have ha_72 := hm.2 _ ha_72
  have ha_73 := hm.2 _ ha_73
  have ha_74 := hm.2 _ ha_74
  have ha_75 := hm.2 _ ha_75
  have ha_76 := hm.2 _ ha_76
  refine y_putFr h F hP hS k_63 hn_63 fl_X12_50 hin rfl rfl r_63_18 ha_77 (Or.inr ⟨_, rfl⟩) dX12_init_111 (fun w_111 H locs hm h hP hS => ?_)
  have hM_w := hM_w.trans hm
  have hn_63 := hm.1 _ hn_63
  have ha_64 := hm.2 _ ha_64
  have ha_65 := hm.2 _ ha_65
  have ha_66 := hm.2 _ ha_66
  have ha_67 := hm.2 _ ha_67
  have ha_68 := hm.2 _ ha_68
  have ha_69 := hm.2 _ ha_69
  have ha_70 := hm.2 _ ha_70
  have ha_71 := hm.2 _ ha_71
  have ha_72 := hm.2 _ ha_72
  have ha_73 := hm.2 _ ha_73
  have ha_74 := hm.2 _ ha_74
  have ha_75 := hm.2 _ ha_75
  have ha_76 := hm.2 _ ha_76
  have ha_77 := hm.2 _ ha_77
  refine lv_aload_n F.1 F.2.1 dX12_init_114 rfl (lv_at hl 0 rfl) ?_
  refine lv_iconst (v := 4) F.1 F.2.1 dX12_init_115 ic_4 ?_
  refine y_newi (k := 78) h F hP hS ac_int (by decide) (by decide) (by decide) (Nat.le_of_ble_eq_true rfl) (Nat.le_of_ble_eq_true rfl) dX12_init_116 (fun w_116 ad H hm ha_78 _ hx h hP' hS => ?_)
  have e9 := hx 63 hn_63
  try rw [← e9] at hl
  try rw [← e9]
  have hP := hP'
  have hXA : ∀ k, wA w k ≠ 0 → ad k = ad0 k := fun k hk => (hx k (hM_w.1 k hk)).trans (hXA k hk)
  have hM_w := hM_w.trans hm
  have hn_63 := hm.1 _ hn_63
  have ha_64 := hm.2 _ ha_64
  have ha_65 := hm.2 _ ha_65
  have ha_66 := hm.2 _ ha_66
  have ha_67 := hm.2 _ ha_67
  have ha_68 := hm.2 _ ha_68
  have ha_69 := hm.2 _ ha_69
  have ha_70 := hm.2 _ ha_70
  have ha_71 := hm.2 _ ha_71
  have ha_72 := hm.2 _ ha_72
  have ha_73 := hm.2 _ ha_73
  have ha_74 := hm.2 _ ha_74
  have ha_75 := hm.2 _ ha_75
  have ha_76 := hm.2 _ ha_76
  have ha_77 := hm.2 _ ha_77
  refine y_putFr h F hP hS k_63 hn_63 fl_X12_53 hin rfl rfl r_63_19 ha_78 (Or.inr ⟨_, rfl⟩) dX12_init_118 (fun w_118 H locs hm h hP hS => ?_)
  have hM_w := hM_w.trans hm
  have hn_63 := hm.1 _ hn_63
  have ha_64 := hm.2 _ ha_64
  have ha_65 := hm.2 _ ha_65
  have ha_66 := hm.2 _ ha_66
  have ha_67 := hm.2 _ ha_67
  have ha_68 := hm.2 _ ha_68
  have ha_69 := hm.2 _ ha_69
  have ha_70 := hm.2 _ ha_70
  have ha_71 := hm.2 _ ha_71
  have ha_72 := hm.2 _ ha_72
  have ha_73 := hm.2 _ ha_73
  have ha_74 := hm.2 _ ha_74
  have ha_75 := hm.2 _ ha_75
  have ha_76 := hm.2 _ ha_76
  have ha_77 := hm.2 _ ha_77
  have ha_78 := hm.2 _ ha_78
  refine lv_aload_n F.1 F.2.1 dX12_init_121 rfl (lv_at hl 0 rfl) ?_
  refine lv_iconst (v := 4) F.1 F.2.1 dX12_init_122 ic_4 ?_
  refine y_newi (k := 79) h F hP hS ac_int (by decide) (by decide) (by decide) (Nat.le_of_ble_eq_true rfl) (Nat.le_of_ble_eq_true rfl) dX12_init_123 (fun w_123 ad H hm ha_79 _ hx h hP' hS => ?_)
  have e9 := hx 63 hn_63
  try rw [← e9] at hl
  try rw [← e9]
  have hP := hP'
  have hXA : ∀ k, wA w k ≠ 0 → ad k = ad0 k := fun k hk => (hx k (hM_w.1 k hk)).trans (hXA k hk)
  have hM_w := hM_w.trans hm
  have hn_63 := hm.1 _ hn_63
  have ha_64 := hm.2 _ ha_64
  have ha_65 := hm.2 _ ha_65
  have ha_66 := hm.2 _ ha_66
  have ha_67 := hm.2 _ ha_67
  have ha_68 := hm.2 _ ha_68
  have ha_69 := hm.2 _ ha_69
  have ha_70 := hm.2 _ ha_70
  have ha_71 := hm.2 _ ha_71
  have ha_72 := hm.2 _ ha_72
  have ha_73 := hm.2 _ ha_73
  have ha_74 := hm.2 _ ha_74
  have ha_75 := hm.2 _ ha_75
  have ha_76 := hm.2 _ ha_76
  have ha_77 := hm.2 _ ha_77
  have ha_78 := hm.2 _ ha_78
  refine y_putFr h F hP hS k_63 hn_63 fl_X12_56 hin rfl rfl r_63_20 ha_79 (Or.inr ⟨_, rfl⟩) dX12_init_125 (fun w_125 H locs hm h hP hS => ?_)
  have hM_w := hM_w.trans hm
  have hn_63 := hm.1 _ hn_63
  have ha_64 := hm.2 _ ha_64
  have ha_65 := hm.2 _ ha_65
  have ha_66 := hm.2 _ ha_66
  have ha_67 := hm.2 _ ha_67
  have ha_68 := hm.2 _ ha_68
  have ha_69 := hm.2 _ ha_69
  have ha_70 := hm.2 _ ha_70
  have ha_71 := hm.2 _ ha_71
  have ha_72 := hm.2 _ ha_72
  have ha_73 := hm.2 _ ha_73
  have ha_74 := hm.2 _ ha_74
  have ha_75 := hm.2 _ ha_75
  have ha_76 := hm.2 _ ha_76
  have ha_77 := hm.2 _ ha_77
  have ha_78 := hm.2 _ ha_78
  have ha_79 := hm.2 _ ha_79
  refine lv_aload_n F.1 F.2.1 dX12_init_128 rfl (lv_at hl 0 rfl) ?_
  refine lv_iconst (v := 4) F.1 F.2.1 dX12_init_129 ic_4 ?_
  refine y_newi (k := 80) h F hP hS ac_int (by decide) (by decide) (by decide) (Nat.le_of_ble_eq_true rfl) (Nat.le_of_ble_eq_true rfl) dX12_init_130 (fun w_130 ad H hm ha_80 _ hx h hP' hS => ?_)
  have e9 := hx 63 hn_63
  try rw [← e9] at hl
  try rw [← e9]
  have hP := hP'
  have hXA : ∀ k, wA w k ≠ 0 → ad k = ad0 k := fun k hk => (hx k (hM_w.1 k hk)).trans (hXA k hk)
  have hM_w := hM_w.trans hm
  have hn_63 := hm.1 _ hn_63
  have ha_64 := hm.2 _ ha_64
  have ha_65 := hm.2 _ ha_65
  have ha_66 := hm.2 _ ha_66
  have ha_67 := hm.2 _ ha_67
  have ha_68 := hm.2 _ ha_68
  have ha_69 := hm.2 _ ha_69
  have ha_70 := hm.2 _ ha_70
  have ha_71 := hm.2 _ ha_71
  have ha_72 := hm.2 _ ha_72
  have ha_73 := hm.2 _ ha_73
  have ha_74 := hm.2 _ ha_74
  have ha_75 := hm.2 _ ha_75
  have ha_76 := hm.2 _ ha_76
  have ha_77 := hm.2 _ ha_77
  have ha_78 := hm.2 _ ha_78
  have ha_79 := hm.2 _ ha_79
  refine y_putFr h F hP hS k_63 hn_63 fl_X12_59 hin rfl rfl r_63_21 ha_80 (Or.inr ⟨_, rfl⟩) dX12_init_132 (fun w_132 H locs hm h hP hS => ?_)
  have hM_w := hM_w.trans hm
  have hn_63 := hm.1 _ hn_63
  have ha_64 := hm.2 _ ha_64
  have ha_65 := hm.2 _ ha_65
  have ha_66 := hm.2 _ ha_66
  have ha_67 := hm.2 _ ha_67
  have ha_68 := hm.2 _ ha_68
  have ha_69 := hm.2 _ ha_69
  have ha_70 := hm.2 _ ha_70
  have ha_71 := hm.2 _ ha_71
  have ha_72 := hm.2 _ ha_72
  have ha_73 := hm.2 _ ha_73
  have ha_74 := hm.2 _ ha_74
  have ha_75 := hm.2 _ ha_75
  have ha_76 := hm.2 _ ha_76
  have ha_77 := hm.2 _ ha_77
  have ha_78 := hm.2 _ ha_78
  have ha_79 := hm.2 _ ha_79
  have ha_80 := hm.2 _ ha_80
  refine lv_aload_n F.1 F.2.1 dX12_init_135 rfl (lv_at hl 0 rfl) ?_
  refine lv_bipush (v := 20) F.1 F.2.1 dX12_init_136 ib_20 ?_
  refine y_newi (k := 81) h F hP hS ac_int (by decide) (by decide) (by decide) (Nat.le_of_ble_eq_true rfl) (Nat.le_of_ble_eq_true rfl) dX12_init_138 (fun w_138 ad H hm ha_81 _ hx h hP' hS => ?_)
  have e9 := hx 63 hn_63
  try rw [← e9] at hl
  try rw [← e9]
  have hP := hP'
  have hXA : ∀ k, wA w k ≠ 0 → ad k = ad0 k := fun k hk => (hx k (hM_w.1 k hk)).trans (hXA k hk)
  have hM_w := hM_w.trans hm
  have hn_63 := hm.1 _ hn_63
  have ha_64 := hm.2 _ ha_64
  have ha_65 := hm.2 _ ha_65
  have ha_66 := hm.2 _ ha_66
  have ha_67 := hm.2 _ ha_67
  have ha_68 := hm.2 _ ha_68
  have ha_69 := hm.2 _ ha_69
  have ha_70 := hm.2 _ ha_70
  have ha_71 := hm.2 _ ha_71
  have ha_72 := hm.2 _ ha_72
  have ha_73 := hm.2 _ ha_73
  have ha_74 := hm.2 _ ha_74
  have ha_75 := hm.2 _ ha_75
  have ha_76 := hm.2 _ ha_76
  have ha_77 := hm.2 _ ha_77
  have ha_78 := hm.2 _ ha_78
  have ha_79 := hm.2 _ ha_79
  have ha_80 := hm.2 _ ha_80
  refine y_putFr h F hP hS k_63 hn_63 fl_X12_62 hin rfl rfl r_63_22 ha_81 (Or.inr ⟨_, rfl⟩) dX12_init_140 (fun w_140 H locs hm h hP hS => ?_)
  have hM_w := hM_w.trans hm
  have hn_63 := hm.1 _ hn_63
  have ha_64 := hm.2 _ ha_64
  have ha_65 := hm.2 _ ha_65
  have ha_66 := hm.2 _ ha_66
  have ha_67 := hm.2 _ ha_67
  have ha_68 := hm.2 _ ha_68
  have ha_69 := hm.2 _ ha_69
  have ha_70 := hm.2 _ ha_70
  have ha_71 := hm.2 _ ha_71
  have ha_72 := hm.2 _ ha_72
  have ha_73 := hm.2 _ ha_73
  have ha_74 := hm.2 _ ha_74
  have ha_75 := hm.2 _ ha_75
  have ha_76 := hm.2 _ ha_76
  have ha_77 := hm.2 _ ha_77
  have ha_78 := hm.2 _ ha_78
  have ha_79 := hm.2 _ ha_79
  have ha_80 := hm.2 _ ha_80
  have ha_81 := hm.2 _ ha_81
  refine lv_aload_n F.1 F.2.1 dX12_init_143 rfl (lv_at hl 0 rfl) ?_
  refine lv_bipush (v := 20) F.1 F.2.1 dX12_init_144 ib_20 ?_
  refine y_newi (k := 82) h F hP hS ac_int (by decide) (by decide) (by decide) (Nat.le_of_ble_eq_true rfl) (Nat.le_of_ble_eq_true rfl) dX12_init_146 (fun w_146 ad H hm ha_82 _ hx h hP' hS => ?_)
  have e9 := hx 63 hn_63
  try rw [← e9] at hl
  try rw [← e9]
  have hP := hP'
  have hXA : ∀ k, wA w k ≠ 0 → ad k = ad0 k := fun k hk => (hx k (hM_w.1 k hk)).trans (hXA k hk)
  have hM_w := hM_w.trans hm
  have hn_63 := hm.1 _ hn_63
  have ha_64 := hm.2 _ ha_64
  have ha_65 := hm.2 _ ha_65
  have ha_66 := hm.2 _ ha_66
  have ha_67 := hm.2 _ ha_67
  have ha_68 := hm.2 _ ha_68
  have ha_69 := hm.2 _ ha_69
  have ha_70 := hm.2 _ ha_70
  have ha_71 := hm.2 _ ha_71
  have ha_72 := hm.2 _ ha_72
  have ha_73 := hm.2 _ ha_73
  have ha_74 := hm.2 _ ha_74
  have ha_75 := hm.2 _ ha_75
  have ha_76 := hm.2 _ ha_76
  have ha_77 := hm.2 _ ha_77
  have ha_78 := hm.2 _ ha_78
  have ha_79 := hm.2 _ ha_79
  have ha_80 := hm.2 _ ha_80
  have ha_81 := hm.2 _ ha_81
  refine y_putFr h F hP hS k_63 hn_63 fl_X12_65 hin rfl rfl r_63_23 ha_82 (Or.inr ⟨_, rfl⟩) dX12_init_148 (fun w_148 H locs hm h hP hS => ?_)
  have hM_w := hM_w.trans hm
  have hn_63 := hm.1 _ hn_63
  have ha_64 := hm.2 _ ha_64
  have ha_65 := hm.2 _ ha_65
  have ha_66 := hm.2 _ ha_66
  have ha_67 := hm.2 _ ha_67
  have ha_68 := hm.2 _ ha_68
  have ha_69 := hm.2 _ ha_69
  have ha_70 := hm.2 _ ha_70
  have ha_71 := hm.2 _ ha_71
  have ha_72 := hm.2 _ ha_72
  have ha_73 := hm.2 _ ha_73
  have ha_74 := hm.2 _ ha_74
  have ha_75 := hm.2 _ ha_75
  have ha_76 := hm.2 _ ha_76
  have ha_77 := hm.2 _ ha_77
  have ha_78 := hm.2 _ ha_78
  have ha_79 := hm.2 _ ha_79
  have ha_80 := hm.2 _ ha_80
  have ha_81 := hm.2 _ ha_81
  have ha_82 := hm.2 _ ha_82
  refine lv_aload_n F.1 F.2.1 dX12_init_151 rfl (lv_at hl 0 rfl) ?_
  refine lv_bipush (v := 20) F.1 F.2.1 dX12_init_152 ib_20 ?_
  refine y_newi (k := 83) h F hP hS ac_int (by decide) (by decide) (by decide) (Nat.le_of_ble_eq_true rfl) (Nat.le_of_ble_eq_true rfl) dX12_init_154 (fun w_154 ad H hm ha_83 _ hx h hP' hS => ?_)
  have e9 := hx 63 hn_63
  try rw [← e9] at hl
  try rw [← e9]
  have hP := hP'
  have hXA : ∀ k, wA w k ≠ 0 → ad k = ad0 k := fun k hk => (hx k (hM_w.1 k hk)).trans (hXA k hk)
  have hM_w := hM_w.trans hm
  have hn_63 := hm.1 _ hn_63
  have ha_64 := hm.2 _ ha_64
  have ha_65 := hm.2 _ ha_65
  have ha_66 := hm.2 _ ha_66
  have ha_67 := hm.2 _ ha_67
  have ha_68 := hm.2 _ ha_68
  have ha_69 := hm.2 _ ha_69
  have ha_70 := hm.2 _ ha_70
  have ha_71 := hm.2 _ ha_71
  have ha_72 := hm.2 _ ha_72
  have ha_73 := hm.2 _ ha_73
  have ha_74 := hm.2 _ ha_74
  have ha_75 := hm.2 _ ha_75
  have ha_76 := hm.2 _ ha_76
  have ha_77 := hm.2 _ ha_77
  have ha_78 := hm.2 _ ha_78
  have ha_79 := hm.2 _ ha_79
  have ha_80 := hm.2 _ ha_80
  have ha_81 := hm.2 _ ha_81
  have ha_82 := hm.2 _ ha_82
  refine y_putFr h F hP hS k_63 hn_63 fl_X12_68 hin rfl rfl r_63_24 ha_83 (Or.inr ⟨_, rfl⟩) dX12_init_156 (fun w_156 H locs hm h hP hS => ?_)
  have hM_w := hM_w.trans hm
  have hn_63 := hm.1 _ hn_63
  have ha_64 := hm.2 _ ha_64
  have ha_65 := hm.2 _ ha_65
  have ha_66 := hm.2 _ ha_66
  have ha_67 := hm.2 _ ha_67
  have ha_68 := hm.2 _ ha_68
  have ha_69 := hm.2 _ ha_69
  have ha_70 := hm.2 _ ha_70
  have ha_71 := hm.2 _ ha_71
  have ha_72 := hm.2 _ ha_72
  have ha_73 := hm.2 _ ha_73
  have ha_74 := hm.2 _ ha_74
  have ha_75 := hm.2 _ ha_75
  have ha_76 := hm.2 _ ha_76
  have ha_77 := hm.2 _ ha_77
  have ha_78 := hm.2 _ ha_78
  have ha_79 := hm.2 _ ha_79
  have ha_80 := hm.2 _ ha_80
  have ha_81 := hm.2 _ ha_81
  have ha_82 := hm.2 _ ha_82
  have ha_83 := hm.2 _ ha_83
  refine lv_aload_n F.1 F.2.1 dX12_init_159 rfl (lv_at hl 0 rfl) ?_
  refine lv_iconst (v := 4) F.1 F.2.1 dX12_init_160 ic_4 ?_
  refine y_newz (k := 84) h F hP hS ac_boolean (by decide) (by decide) (by decide) (Nat.le_of_ble_eq_true rfl) (Nat.le_of_ble_eq_true rfl) dX12_init_161 (fun w_161 ad H hm ha_84 _ hx h hP' hS => ?_)
  have e9 := hx 63 hn_63
  try rw [← e9] at hl
  try rw [← e9]
  have hP := hP'
  have hXA : ∀ k, wA w k ≠ 0 → ad k = ad0 k := fun k hk => (hx k (hM_w.1 k hk)).trans (hXA k hk)
  have hM_w := hM_w.trans hm
  have hn_63 := hm.1 _ hn_63
  have ha_64 := hm.2 _ ha_64
  have ha_65 := hm.2 _ ha_65
  have ha_66 := hm.2 _ ha_66
  have ha_67 := hm.2 _ ha_67
  have ha_68 := hm.2 _ ha_68
  have ha_69 := hm.2 _ ha_69
  have ha_70 := hm.2 _ ha_70
  have ha_71 := hm.2 _ ha_71
  have ha_72 := hm.2 _ ha_72
  have ha_73 := hm.2 _ ha_73
  have ha_74 := hm.2 _ ha_74
  have ha_75 := hm.2 _ ha_75
  have ha_76 := hm.2 _ ha_76
  have ha_77 := hm.2 _ ha_77
  have ha_78 := hm.2 _ ha_78
  have ha_79 := hm.2 _ ha_79
  have ha_80 := hm.2 _ ha_80
  have ha_81 := hm.2 _ ha_81
  have ha_82 := hm.2 _ ha_82
  have ha_83 := hm.2 _ ha_83
  refine y_putFr h F hP hS k_63 hn_63 fl_X12_71 hin rfl rfl r_63_25 ha_84 (Or.inr ⟨_, rfl⟩) dX12_init_163 (fun w_163 H locs hm h hP hS => ?_)
  have hM_w := hM_w.trans hm
  have hn_63 := hm.1 _ hn_63
  have ha_64 := hm.2 _ ha_64
  have ha_65 := hm.2 _ ha_65
  have ha_66 := hm.2 _ ha_66
  have ha_67 := hm.2 _ ha_67
  have ha_68 := hm.2 _ ha_68
  have ha_69 := hm.2 _ ha_69
  have ha_70 := hm.2 _ ha_70
  have ha_71 := hm.2 _ ha_71
  have ha_72 := hm.2 _ ha_72
  have ha_73 := hm.2 _ ha_73
  have ha_74 := hm.2 _ ha_74
  have ha_75 := hm.2 _ ha_75
  have ha_76 := hm.2 _ ha_76
  have ha_77 := hm.2 _ ha_77
  have ha_78 := hm.2 _ ha_78
  have ha_79 := hm.2 _ ha_79
  have ha_80 := hm.2 _ ha_80
  have ha_81 := hm.2 _ ha_81
  have ha_82 := hm.2 _ ha_82
  have ha_83 := hm.2 _ ha_83
  have ha_84 := hm.2 _ ha_84
  refine lv_aload_n F.1 F.2.1 dX12_init_166 rfl (lv_at hl 0 rfl) ?_
  refine lv_iconst (v := 4) F.1 F.2.1 dX12_init_167 ic_4 ?_
  refine y_newi (k := 85) h F hP hS ac_int (by decide) (by decide) (by decide) (Nat.le_of_ble_eq_true rfl) (Nat.le_of_ble_eq_true rfl) dX12_init_168 (fun w_168 ad H hm ha_85 _ hx h hP' hS => ?_)
  have e9 := hx 63 hn_63
  try rw [← e9] at hl
  try rw [← e9]
  have hP := hP'
  have hXA : ∀ k, wA w k ≠ 0 → ad k = ad0 k := fun k hk => (hx k (hM_w.1 k hk)).trans (hXA k hk)
  have hM_w := hM_w.trans hm
  have hn_63 := hm.1 _ hn_63
  have ha_64 := hm.2 _ ha_64
  have ha_65 := hm.2 _ ha_65
  have ha_66 := hm.2 _ ha_66
  have ha_67 := hm.2 _ ha_67
  have ha_68 := hm.2 _ ha_68
  have ha_69 := hm.2 _ ha_69
  have ha_70 := hm.2 _ ha_70
  have ha_71 := hm.2 _ ha_71
  have ha_72 := hm.2 _ ha_72
  have ha_73 := hm.2 _ ha_73
  have ha_74 := hm.2 _ ha_74
  have ha_75 := hm.2 _ ha_75
  have ha_76 := hm.2 _ ha_76
  have ha_77 := hm.2 _ ha_77
  have ha_78 := hm.2 _ ha_78
  have ha_79 := hm.2 _ ha_79
  have ha_80 := hm.2 _ ha_80
  have ha_81 := hm.2 _ ha_81
  have ha_82 := hm.2 _ ha_82
  have ha_83 := hm.2 _ ha_83
  have ha_84 := hm.2 _ ha_84
  refine y_putFr h F hP hS k_63 hn_63 fl_X12_74 hin rfl rfl r_63_26 ha_85 (Or.inr ⟨_, rfl⟩) dX12_init_170 (fun w_170 H locs hm h hP hS => ?_)
  have hM_w := hM_w.trans hm
  have hn_63 := hm.1 _ hn_63
  have ha_64 := hm.2 _ ha_64
  have ha_65 := hm.2 _ ha_65
  have ha_66 := hm.2 _ ha_66
  have ha_67 := hm.2 _ ha_67
  have ha_68 := hm.2 _ ha_68
  have ha_69 := hm.2 _ ha_69
  have ha_70 := hm.2 _ ha_70
  have ha_71 := hm.2 _ ha_71
  have ha_72 := hm.2 _ ha_72
  have ha_73 := hm.2 _ ha_73
  have ha_74 := hm.2 _ ha_74
  have ha_75 := hm.2 _ ha_75
  have ha_76 := hm.2 _ ha_76
  have ha_77 := hm.2 _ ha_77
  have ha_78 := hm.2 _ ha_78
  have ha_79 := hm.2 _ ha_79
  have ha_80 := hm.2 _ ha_80
  have ha_81 := hm.2 _ ha_81
  have ha_82 := hm.2 _ ha_82
  have ha_83 := hm.2 _ ha_83
  have ha_84 := hm.2 _ ha_84
  have ha_85 := hm.2 _ ha_85
  refine lv_aload_n F.1 F.2.1 dX12_init_173 rfl (lv_at hl 0 rfl) ?_
  refine lv_iconst (v := 4) F.1 F.2.1 dX12_init_174 ic_4 ?_
  refine y_newi (k := 86) h F hP hS ac_int (by decide) (by decide) (by decide) (Nat.le_of_ble_eq_true rfl) (Nat.le_of_ble_eq_true rfl) dX12_init_175 (fun w_175 ad H hm ha_86 _ hx h hP' hS => ?_)
  have e9 := hx 63 hn_63
  try rw [← e9] at hl
  try rw [← e9]
  have hP := hP'
  have hXA : ∀ k, wA w k ≠ 0 → ad k = ad0 k := fun k hk => (hx k (hM_w.1 k hk)).trans (hXA k hk)
  have hM_w := hM_w.trans hm
  have hn_63 := hm.1 _ hn_63
  have ha_64 := hm.2 _ ha_64
  have ha_65 := hm.2 _ ha_65
  have ha_66 := hm.2 _ ha_66
  have ha_67 := hm.2 _ ha_67
  have ha_68 := hm.2 _ ha_68
  have ha_69 := hm.2 _ ha_69
  have ha_70 := hm.2 _ ha_70
  have ha_71 := hm.2 _ ha_71
  have ha_72 := hm.2 _ ha_72
  have ha_73 := hm.2 _ ha_73
  have ha_74 := hm.2 _ ha_74
  have ha_75 := hm.2 _ ha_75
  have ha_76 := hm.2 _ ha_76
  have ha_77 := hm.2 _ ha_77
  have ha_78 := hm.2 _ ha_78
  have ha_79 := hm.2 _ ha_79
  have ha_80 := hm.2 _ ha_80
  have ha_81 := hm.2 _ ha_81
  have ha_82 := hm.2 _ ha_82
  have ha_83 := hm.2 _ ha_83
  have ha_84 := hm.2 _ ha_84
  have ha_85 := hm.2 _ ha_85
  refine y_putFr h F hP hS k_63 hn_63 fl_X12_77 hin rfl rfl r_63_27 ha_86 (Or.inr ⟨_, rfl⟩) dX12_init_177 (fun w_177 H locs hm h hP hS => ?_)
  have hM_w := hM_w.trans hm
  have hn_63 := hm.1 _ hn_63
  have ha_64 := hm.2 _ ha_64
  have ha_65 := hm.2 _ ha_65
  have ha_66 := hm.2 _ ha_66
  have ha_67 := hm.2 _ ha_67
  have ha_68 := hm.2 _ ha_68
  have ha_69 := hm.2 _ ha_69
  have ha_70 := hm.2 _ ha_70
  have ha_71 := hm.2 _ ha_71
  have ha_72 := hm.2 _ ha_72
  have ha_73 := hm.2 _ ha_73
  have ha_74 := hm.2 _ ha_74
  have ha_75 := hm.2 _ ha_75
  have ha_76 := hm.2 _ ha_76
  have ha_77 := hm.2 _ ha_77
  have ha_78 := hm.2 _ ha_78
  have ha_79 := hm.2 _ ha_79
  have ha_80 := hm.2 _ ha_80
  have ha_81 := hm.2 _ ha_81
  have ha_82 := hm.2 _ ha_82
  have ha_83 := hm.2 _ ha_83
  have ha_84 := hm.2 _ ha_84
  have ha_85 := hm.2 _ ha_85
  have ha_86 := hm.2 _ ha_86
  refine lv_aload_n F.1 F.2.1 dX12_init_180 rfl (lv_at hl 0 rfl) ?_
  refine lv_iconst (v := 4) F.1 F.2.1 dX12_init_181 ic_4 ?_
  refine y_newi (k := 87) h F hP hS ac_int (by decide) (by decide) (by decide) (Nat.le_of_ble_eq_true rfl) (Nat.le_of_ble_eq_true rfl) dX12_init_182 (fun w_182 ad H hm ha_87 _ hx h hP' hS => ?_)
  have e9 := hx 63 hn_63
  try rw [← e9] at hl
  try rw [← e9]
  have hP := hP'
  have hXA : ∀ k, wA w k ≠ 0 → ad k = ad0 k := fun k hk => (hx k (hM_w.1 k hk)).trans (hXA k hk)
  have hM_w := hM_w.trans hm
  have hn_63 := hm.1 _ hn_63
  have ha_64 := hm.2 _ ha_64
  have ha_65 := hm.2 _ ha_65
  have ha_66 := hm.2 _ ha_66
  have ha_67 := hm.2 _ ha_67
  have ha_68 := hm.2 _ ha_68
  have ha_69 := hm.2 _ ha_69
  have ha_70 := hm.2 _ ha_70
  have ha_71 := hm.2 _ ha_71
  have ha_72 := hm.2 _ ha_72
  have ha_73 := hm.2 _ ha_73
  have ha_74 := hm.2 _ ha_74
  have ha_75 := hm.2 _ ha_75
  have ha_76 := hm.2 _ ha_76
  have ha_77 := hm.2 _ ha_77
  have ha_78 := hm.2 _ ha_78
  have ha_79 := hm.2 _ ha_79
  have ha_80 := hm.2 _ ha_80
  have ha_81 := hm.2 _ ha_81
  have ha_82 := hm.2 _ ha_82
  have ha_83 := hm.2 _ ha_83
  have ha_84 := hm.2 _ ha_84
  have ha_85 := hm.2 _ ha_85
  have ha_86 := hm.2 _ ha_86
  refine y_putFr h F hP hS k_63 hn_63 fl_X12_80 hin rfl rfl r_63_28 ha_87 (Or.inr ⟨_, rfl⟩) dX12_init_184 (fun w_184 H locs hm h hP hS => ?_)
  have hM_w := hM_w.trans hm
  have hn_63 := hm.1 _ hn_63
  have ha_64 := hm.2 _ ha_64
  have ha_65 := hm.2 _ ha_65
  have ha_66 := hm.2 _ ha_66
  have ha_67 := hm.2 _ ha_67
  have ha_68 := hm.2 _ ha_68
  have ha_69 := hm.2 _ ha_69
  have ha_70 := hm.2 _ ha_70
  have ha_71 := hm.2 _ ha_71
  have ha_72 := hm.2 _ ha_72
  have ha_73 := hm.2 _ ha_73
  have ha_74 := hm.2 _ ha_74
  have ha_75 := hm.2 _ ha_75
  have ha_76 := hm.2 _ ha_76
  have ha_77 := hm.2 _ ha_77
  have ha_78 := hm.2 _ ha_78
  have ha_79 := hm.2 _ ha_79
  have ha_80 := hm.2 _ ha_80
  have ha_81 := hm.2 _ ha_81
  have ha_82 := hm.2 _ ha_82
  have ha_83 := hm.2 _ ha_83
  have ha_84 := hm.2 _ ha_84
  have ha_85 := hm.2 _ ha_85
  have ha_86 := hm.2 _ ha_86
  have ha_87 := hm.2 _ ha_87
  refine lv_aload_n F.1 F.2.1 dX12_init_187 rfl (lv_at hl 0 rfl) ?_
  refine lv_iconst (v := 4) F.1 F.2.1 dX12_init_188 ic_4 ?_
  refine y_newi (k := 88) h F hP hS ac_int (by decide) (by decide) (by decide) (Nat.le_of_ble_eq_true rfl) (Nat.le_of_ble_eq_true rfl) dX12_init_189 (fun w_189 ad H hm ha_88 _ hx h hP' hS => ?_)
  have e9 := hx 63 hn_63
  try rw [← e9] at hl
  try rw [← e9]
  have hP := hP'
  have hXA : ∀ k, wA w k ≠ 0 → ad k = ad0 k := fun k hk => (hx k (hM_w.1 k hk)).trans (hXA k hk)
  have hM_w := hM_w.trans hm
  have hn_63 := hm.1 _ hn_63
  have ha_64 := hm.2 _ ha_64
  have ha_65 := hm.2 _ ha_65
  have ha_66 := hm.2 _ ha_66
  have ha_67 := hm.2 _ ha_67
  have ha_68 := hm.2 _ ha_68
  have ha_69 := hm.2 _ ha_69
  have ha_70 := hm.2 _ ha_70
  have ha_71 := hm.2 _ ha_71
  have ha_72 := hm.2 _ ha_72
  have ha_73 := hm.2 _ ha_73
  have ha_74 := hm.2 _ ha_74
  have ha_75 := hm.2 _ ha_75
  have ha_76 := hm.2 _ ha_76
  have ha_77 := hm.2 _ ha_77
  have ha_78 := hm.2 _ ha_78
  have ha_79 := hm.2 _ ha_79
  have ha_80 := hm.2 _ ha_80
  have ha_81 := hm.2 _ ha_81
  have ha_82 := hm.2 _ ha_82
  have ha_83 := hm.2 _ ha_83
  have ha_84 := hm.2 _ ha_84
  have ha_85 := hm.2 _ ha_85
  have ha_86 := hm.2 _ ha_86
  have ha_87 := hm.2 _ ha_87
  refine y_putFr h F hP hS k_63 hn_63 fl_X12_83 hin rfl rfl r_63_29 ha_88 (Or.inr ⟨_, rfl⟩) dX12_init_191 (fun w_191 H locs hm h hP hS => ?_)
  have hM_w := hM_w.trans hm
  have hn_63 := hm.1 _ hn_63
  have ha_64 := hm.2 _ ha_64
  have ha_65 := hm.2 _ ha_65
  have ha_66 := hm.2 _ ha_66
  have ha_67 := hm.2 _ ha_67
  have ha_68 := hm.2 _ ha_68
  have ha_69 := hm.2 _ ha_69
  have ha_70 := hm.2 _ ha_70
  have ha_71 := hm.2 _ ha_71
  have ha_72 := hm.2 _ ha_72
  have ha_73 := hm.2 _ ha_73
  have ha_74 := hm.2 _ ha_74
  have ha_75 := hm.2 _ ha_75
  have ha_76 := hm.2 _ ha_76
  have ha_77 := hm.2 _ ha_77
  have ha_78 := hm.2 _ ha_78
  have ha_79 := hm.2 _ ha_79
  have ha_80 := hm.2 _ ha_80
  have ha_81 := hm.2 _ ha_81
  have ha_82 := hm.2 _ ha_82
  have ha_83 := hm.2 _ ha_83
  have ha_84 := hm.2 _ ha_84
  have ha_85 := hm.2 _ ha_85
  have ha_86 := hm.2 _ ha_86
  have ha_87 := hm.2 _ ha_87
  have ha_88 := hm.2 _ ha_88
  refine lv_aload_n F.1 F.2.1 dX12_init_194 rfl (lv_at hl 0 rfl) ?_
  refine lv_iconst (v := 4) F.1 F.2.1 dX12_init_195 ic_4 ?_
  refine y_puti h F hP hS k_63 hn_63 fl_X12_86 rfl dX12_init_196 (fun w_196 H locs hm h hP hS => ?_)
  have hM_w := hM_w.trans hm
  have hn_63 := hm.1 _ hn_63
  have ha_64 := hm.2 _ ha_64
  have ha_65 := hm.2 _ ha_65
  have ha_66 := hm.2 _ ha_66
  have ha_67 := hm.2 _ ha_67
  have ha_68 := hm.2 _ ha_68
  have ha_69 := hm.2 _ ha_69
  have ha_70 := hm.2 _ ha_70
  have ha_71 := hm.2 _ ha_71
  have ha_72 := hm.2 _ ha_72
  have ha_73 := hm.2 _ ha_73
  have ha_74 := hm.2 _ ha_74
  have ha_75 := hm.2 _ ha_75
  have ha_76 := hm.2 _ ha_76
  have ha_77 := hm.2 _ ha_77
  have ha_78 := hm.2 _ ha_78
  have ha_79 := hm.2 _ ha_79
  have ha_80 := hm.2 _ ha_80
  have ha_81 := hm.2 _ ha_81
  have ha_82 := hm.2 _ ha_82
  have ha_83 := hm.2 _ ha_83
  have ha_84 := hm.2 _ ha_84
  have ha_85 := hm.2 _ ha_85
  have ha_86 := hm.2 _ ha_86
  have ha_87 := hm.2 _ ha_87
  have ha_88 := hm.2 _ ha_88
  refine lv_aload_n F.1 F.2.1 dX12_init_199 rfl (lv_at hl 0 rfl) ?_
  refine lv_sipush (v := 1500) F.1 F.2.1 dX12_init_200 is_1500 ?_
  refine y_newi (k := 89) h F hP hS ac_int (by decide) (by decide) (by decide) (Nat.le_of_ble_eq_true rfl) (Nat.le_of_ble_eq_true rfl) dX12_init_203 (fun w_203 ad H hm ha_89 _ hx h hP' hS => ?_)
  have e9 := hx 63 hn_63
  try rw [← e9] at hl
  try rw [← e9]
  have hP := hP'
  have hXA : ∀ k, wA w k ≠ 0 → ad k = ad0 k := fun k hk => (hx k (hM_w.1 k hk)).trans (hXA k hk)
  have hM_w := hM_w.trans hm
  have hn_63 := hm.1 _ hn_63
  have ha_64 := hm.2 _ ha_64
  have ha_65 := hm.2 _ ha_65
  have ha_66 := hm.2 _ ha_66
  have ha_67 := hm.2 _ ha_67
  have ha_68 := hm.2 _ ha_68
  have ha_69 := hm.2 _ ha_69
  have ha_70 := hm.2 _ ha_70
  have ha_71 := hm.2 _ ha_71
  have ha_72 := hm.2 _ ha_72
  have ha_73 := hm.2 _ ha_73
  have ha_74 := hm.2 _ ha_74
  have ha_75 := hm.2 _ ha_75
  have ha_76 := hm.2 _ ha_76
  have ha_77 := hm.2 _ ha_77
  have ha_78 := hm.2 _ ha_78
  have ha_79 := hm.2 _ ha_79
  have ha_80 := hm.2 _ ha_80
  have ha_81 := hm.2 _ ha_81
  have ha_82 := hm.2 _ ha_82
  have ha_83 := hm.2 _ ha_83
  have ha_84 := hm.2 _ ha_84
  have ha_85 := hm.2 _ ha_85
  have ha_86 := hm.2 _ ha_86
  have ha_87 := hm.2 _ ha_87
  have ha_88 := hm.2 _ ha_88
  refine y_putFr h F hP hS k_63 hn_63 fl_X12_90 hin rfl rfl r_63_35 ha_89 (Or.inr ⟨_, rfl⟩) dX12_init_205 (fun w_205 H locs hm h hP hS => ?_)
  have hM_w := hM_w.trans hm
  have hn_63 := hm.1 _ hn_63
  have ha_64 := hm.2 _ ha_64
  have ha_65 := hm.2 _ ha_65
  have ha_66 := hm.2 _ ha_66
  have ha_67 := hm.2 _ ha_67
  have ha_68 := hm.2 _ ha_68
  have ha_69 := hm.2 _ ha_69
  have ha_70 := hm.2 _ ha_70
  have ha_71 := hm.2 _ ha_71
  have ha_72 := hm.2 _ ha_72
  have ha_73 := hm.2 _ ha_73
  have ha_74 := hm.2 _ ha_74
  have ha_75 := hm.2 _ ha_75
  have ha_76 := hm.2 _ ha_76
  have ha_77 := hm.2 _ ha_77
  have ha_78 := hm.2 _ ha_78
  have ha_79 := hm.2 _ ha_79
  have ha_80 := hm.2 _ ha_80
  have ha_81 := hm.2 _ ha_81
  have ha_82 := hm.2 _ ha_82
  have ha_83 := hm.2 _ ha_83
  have ha_84 := hm.2 _ ha_84
  have ha_85 := hm.2 _ ha_85
  have ha_86 := hm.2 _ ha_86
  have ha_87 := hm.2 _ ha_87
  have ha_88 := hm.2 _ ha_88
  have ha_89 := hm.2 _ ha_89
  refine lv_aload_n F.1 F.2.1 dX12_init_208 rfl (lv_at hl 0 rfl) ?_
  refine lv_sipush (v := 1500) F.1 F.2.1 dX12_init_209 is_1500 ?_
  refine y_newi (k := 90) h F hP hS ac_int (by decide) (by decide) (by decide) (Nat.le_of_ble_eq_true rfl) (Nat.le_of_ble_eq_true rfl) dX12_init_212 (fun w_212 ad H hm ha_90 _ hx h hP' hS => ?_)
  have e9 := hx 63 hn_63
  try rw [← e9] at hl
  try rw [← e9]
  have hP := hP'
  have hXA : ∀ k, wA w k ≠ 0 → ad k = ad0 k := fun k hk => (hx k (hM_w.1 k hk)).trans (hXA k hk)
  have hM_w := hM_w.trans hm
  have hn_63 := hm.1 _ hn_63
  have ha_64 := hm.2 _ ha_64
  have ha_65 := hm.2 _ ha_65
  have ha_66 := hm.2 _ ha_66
  have ha_67 := hm.2 _ ha_67
  have ha_68 := hm.2 _ ha_68
  have ha_69 := hm.2 _ ha_69
  have ha_70 := hm.2 _ ha_70
  have ha_71 := hm.2 _ ha_71
  have ha_72 := hm.2 _ ha_72
  have ha_73 := hm.2 _ ha_73
  have ha_74 := hm.2 _ ha_74
  have ha_75 := hm.2 _ ha_75
  have ha_76 := hm.2 _ ha_76
  have ha_77 := hm.2 _ ha_77
  have ha_78 := hm.2 _ ha_78
  have ha_79 := hm.2 _ ha_79
  have ha_80 := hm.2 _ ha_80
  have ha_81 := hm.2 _ ha_81
  have ha_82 := hm.2 _ ha_82
  have ha_83 := hm.2 _ ha_83
  have ha_84 := hm.2 _ ha_84
  have ha_85 := hm.2 _ ha_85
  have ha_86 := hm.2 _ ha_86
  have ha_87 := hm.2 _ ha_87
  have ha_88 := hm.2 _ ha_88
  have ha_89 := hm.2 _ ha_89
  refine y_putFr h F hP hS k_63 hn_63 fl_X12_93 hin rfl rfl r_63_36 ha_90 (Or.inr ⟨_, rfl⟩) dX12_init_214 (fun w_214 H locs hm h hP hS => ?_)
  have hM_w := hM_w.trans hm
  have hn_63 := hm.1 _ hn_63
  have ha_64 := hm.2 _ ha_64
  have ha_65 := hm.2 _ ha_65
  have ha_66 := hm.2 _ ha_66
  have ha_67 := hm.2 _ ha_67
  have ha_68 := hm.2 _ ha_68
  have ha_69 := hm.2 _ ha_69
  have ha_70 := hm.2 _ ha_70
  have ha_71 := hm.2 _ ha_71
  have ha_72 := hm.2 _ ha_72
  have ha_73 := hm.2 _ ha_73
  have ha_74 := hm.2 _ ha_74
  have ha_75 := hm.2 _ ha_75
  have ha_76 := hm.2 _ ha_76
  have ha_77 := hm.2 _ ha_77
  have ha_78 := hm.2 _ ha_78
  have ha_79 := hm.2 _ ha_79
  have ha_80 := hm.2 _ ha_80
  have ha_81 := hm.2 _ ha_81
  have ha_82 := hm.2 _ ha_82
  have ha_83 := hm.2 _ ha_83
  have ha_84 := hm.2 _ ha_84
  have ha_85 := hm.2 _ ha_85
  have ha_86 := hm.2 _ ha_86
  have ha_87 := hm.2 _ ha_87
  have ha_88 := hm.2 _ ha_88
  have ha_89 := hm.2 _ ha_89
  have ha_90 := hm.2 _ ha_90
  refine lv_aload_n F.1 F.2.1 dX12_init_217 rfl (lv_at hl 0 rfl) ?_
  refine lv_sipush (v := 1500) F.1 F.2.1 dX12_init_218 is_1500 ?_
  refine y_newi (k := 91) h F hP hS ac_int (by decide) (by decide) (by decide) (Nat.le_of_ble_eq_true rfl) (Nat.le_of_ble_eq_true rfl) dX12_init_221 (fun w_221 ad H hm ha_91 _ hx h hP' hS => ?_)
  have e9 := hx 63 hn_63
  try rw [← e9] at hl
  try rw [← e9]
  have hP := hP'
  have hXA : ∀ k, wA w k ≠ 0 → ad k = ad0 k := fun k hk => (hx k (hM_w.1 k hk)).trans (hXA k hk)
  have hM_w := hM_w.trans hm
  have hn_63 := hm.1 _ hn_63
  have ha_64 := hm.2 _ ha_64
  have ha_65 := hm.2 _ ha_65
  have ha_66 := hm.2 _ ha_66
  have ha_67 := hm.2 _ ha_67
  have ha_68 := hm.2 _ ha_68
  have ha_69 := hm.2 _ ha_69
  have ha_70 := hm.2 _ ha_70
  have ha_71 := hm.2 _ ha_71
  have ha_72 := hm.2 _ ha_72
  have ha_73 := hm.2 _ ha_73
  have ha_74 := hm.2 _ ha_74
  have ha_75 := hm.2 _ ha_75
  have ha_76 := hm.2 _ ha_76
  have ha_77 := hm.2 _ ha_77
  have ha_78 := hm.2 _ ha_78
  have ha_79 := hm.2 _ ha_79
  have ha_80 := hm.2 _ ha_80
  have ha_81 := hm.2 _ ha_81
  have ha_82 := hm.2 _ ha_82
  have ha_83 := hm.2 _ ha_83
  have ha_84 := hm.2 _ ha_84
  have ha_85 := hm.2 _ ha_85
  have ha_86 := hm.2 _ ha_86
  have ha_87 := hm.2 _ ha_87
  have ha_88 := hm.2 _ ha_88
  have ha_89 := hm.2 _ ha_89
  have ha_90 := hm.2 _ ha_90
  refine y_putFr h F hP hS k_63 hn_63 fl_X12_96 hin rfl rfl r_63_37 ha_91 (Or.inr ⟨_, rfl⟩) dX12_init_223 (fun w_223 H locs hm h hP hS => ?_)
  have hM_w := hM_w.trans hm
  have hn_63 := hm.1 _ hn_63
  have ha_64 := hm.2 _ ha_64
  have ha_65 := hm.2 _ ha_65
  have ha_66 := hm.2 _ ha_66
  have ha_67 := hm.2 _ ha_67
  have ha_68 := hm.2 _ ha_68
  have ha_69 := hm.2 _ ha_69
  have ha_70 := hm.2 _ ha_70
  have ha_71 := hm.2 _ ha_71
  have ha_72 := hm.2 _ ha_72
  have ha_73 := hm.2 _ ha_73
  have ha_74 := hm.2 _ ha_74
  have ha_75 := hm.2 _ ha_75
  have ha_76 := hm.2 _ ha_76
  have ha_77 := hm.2 _ ha_77
  have ha_78 := hm.2 _ ha_78
  have ha_79 := hm.2 _ ha_79
  have ha_80 := hm.2 _ ha_80
  have ha_81 := hm.2 _ ha_81
  have ha_82 := hm.2 _ ha_82
  have ha_83 := hm.2 _ ha_83
  have ha_84 := hm.2 _ ha_84
  have ha_85 := hm.2 _ ha_85
  have ha_86 := hm.2 _ ha_86
  have ha_87 := hm.2 _ ha_87
  have ha_88 := hm.2 _ ha_88
  have ha_89 := hm.2 _ ha_89
  have ha_90 := hm.2 _ ha_90
  have ha_91 := hm.2 _ ha_91
  refine lv_aload_n F.1 F.2.1 dX12_init_226 rfl (lv_at hl 0 rfl) ?_
  refine lv_sipush (v := 1500) F.1 F.2.1 dX12_init_227 is_1500 ?_
  refine y_newi (k := 92) h F hP hS ac_int (by decide) (by decide) (by decide) (Nat.le_of_ble_eq_true rfl) (Nat.le_of_ble_eq_true rfl) dX12_init_230 (fun w_230 ad H hm ha_92 _ hx h hP' hS => ?_)
  have e9 := hx 63 hn_63
  try rw [← e9] at hl
  try rw [← e9]
  have hP := hP'
  have hXA : ∀ k, wA w k ≠ 0 → ad k = ad0 k := fun k hk => (hx k (hM_w.1 k hk)).trans (hXA k hk)
  have hM_w := hM_w.trans hm
  have hn_63 := hm.1 _ hn_63
  have ha_64 := hm.2 _ ha_64
  have ha_65 := hm.2 _ ha_65
  have ha_66 := hm.2 _ ha_66
  have ha_67 := hm.2 _ ha_67
  have ha_68 := hm.2 _ ha_68
  have ha_69 := hm.2 _ ha_69
  have ha_70 := hm.2 _ ha_70
  have ha_71 := hm.2 _ ha_71
  have ha_72 := hm.2 _ ha_72
  have ha_73 := hm.2 _ ha_73
  have ha_74 := hm.2 _ ha_74
  have ha_75 := hm.2 _ ha_75
  have ha_76 := hm.2 _ ha_76
  have ha_77 := hm.2 _ ha_77
  have ha_78 := hm.2 _ ha_78
  have ha_79 := hm.2 _ ha_79
  have ha_80 := hm.2 _ ha_80
  have ha_81 := hm.2 _ ha_81
  have ha_82 := hm.2 _ ha_82
  have ha_83 := hm.2 _ ha_83
  have ha_84 := hm.2 _ ha_84
  have ha_85 := hm.2 _ ha_85
  have ha_86 := hm.2 _ ha_86
  have ha_87 := hm.2 _ ha_87
  have ha_88 := hm.2 _ ha_88
  have ha_89 := hm.2 _ ha_89
  have ha_90 := hm.2 _ ha_90
  have ha_91 := hm.2 _ ha_91
  refine y_putFr h F hP hS k_63 hn_63 fl_X12_99 hin rfl rfl r_63_38 ha_92 (Or.inr ⟨_, rfl⟩) dX12_init_232 (fun w_232 H locs hm h hP hS => ?_)
  have hM_w := hM_w.trans hm
  have hn_63 := hm.1 _ hn_63
  have ha_64 := hm.2 _ ha_64
  have ha_65 := hm.2 _ ha_65
  have ha_66 := hm.2 _ ha_66
  have ha_67 := hm.2 _ ha_67
  have ha_68 := hm.2 _ ha_68
  have ha_69 := hm.2 _ ha_69
  have ha_70 := hm.2 _ ha_70
  have ha_71 := hm.2 _ ha_71
  have ha_72 := hm.2 _ ha_72
  have ha_73 := hm.2 _ ha_73
  have ha_74 := hm.2 _ ha_74
  have ha_75 := hm.2 _ ha_75
  have ha_76 := hm.2 _ ha_76
  have ha_77 := hm.2 _ ha_77
  have ha_78 := hm.2 _ ha_78
  have ha_79 := hm.2 _ ha_79
  have ha_80 := hm.2 _ ha_80
  have ha_81 := hm.2 _ ha_81
  have ha_82 := hm.2 _ ha_82
  have ha_83 := hm.2 _ ha_83
  have ha_84 := hm.2 _ ha_84
  have ha_85 := hm.2 _ ha_85
  have ha_86 := hm.2 _ ha_86
  have ha_87 := hm.2 _ ha_87
  have ha_88 := hm.2 _ ha_88
  have ha_89 := hm.2 _ ha_89
  have ha_90 := hm.2 _ ha_90
  have ha_91 := hm.2 _ ha_91
  have ha_92 := hm.2 _ ha_92
  refine lv_aload_n F.1 F.2.1 dX12_init_235 rfl (lv_at hl 0 rfl) ?_
  refine lv_sipush (v := 1500) F.1 F.2.1 dX12_init_236 is_1500 ?_
  refine y_newi (k := 93) h F hP hS ac_int (by decide) (by decide) (by decide) (Nat.le_of_ble_eq_true rfl) (Nat.le_of_ble_eq_true rfl) dX12_init_239 (fun w_239 ad H hm ha_93 _ hx h hP' hS => ?_)
  have e9 := hx 63 hn_63
  try rw [← e9] at hl
  try rw [← e9]
  have hP := hP'
  have hXA : ∀ k, wA w k ≠ 0 → ad k = ad0 k := fun k hk => (hx k (hM_w.1 k hk)).trans (hXA k hk)
  have hM_w := hM_w.trans hm
  have hn_63 := hm.1 _ hn_63
  have ha_64 := hm.2 _ ha_64
  have ha_65 := hm.2 _ ha_65
  have ha_66 := hm.2 _ ha_66
  have ha_67 := hm.2 _ ha_67
  have ha_68 := hm.2 _ ha_68
  have ha_69 := hm.2 _ ha_69
  have ha_70 := hm.2 _ ha_70
  have ha_71 := hm.2 _ ha_71
  have ha_72 := hm.2 _ ha_72
  have ha_73 := hm.2 _ ha_73
  have ha_74 := hm.2 _ ha_74
  have ha_75 := hm.2 _ ha_75
  have ha_76 := hm.2 _ ha_76
  have ha_77 := hm.2 _ ha_77
  have ha_78 := hm.2 _ ha_78
  have ha_79 := hm.2 _ ha_79
  have ha_80 := hm.2 _ ha_80
  have ha_81 := hm.2 _ ha_81
  have ha_82 := hm.2 _ ha_82
  have ha_83 := hm.2 _ ha_83
  have ha_84 := hm.2 _ ha_84
  have ha_85 := hm.2 _ ha_85
  have ha_86 := hm.2 _ ha_86
  have ha_87 := hm.2 _ ha_87
  have ha_88 := hm.2 _ ha_88
  have ha_89 := hm.2 _ ha_89
  have ha_90 := hm.2 _ ha_90
  have ha_91 := hm.2 _ ha_91
  have ha_92 := hm.2 _ ha_92
  refine y_putFr h F hP hS k_63 hn_63 fl_X12_102 hin rfl rfl r_63_39 ha_93 (Or.inr ⟨_, rfl⟩) dX12_init_241 (fun w_241 H locs hm h hP hS => ?_)
  have hM_w := hM_w.trans hm
  have hn_63 := hm.1 _ hn_63
  have ha_64 := hm.2 _ ha_64
  have ha_65 := hm.2 _ ha_65
  have ha_66 := hm.2 _ ha_66
  have ha_67 := hm.2 _ ha_67
  have ha_68 := hm.2 _ ha_68
  have ha_69 := hm.2 _ ha_69
  have ha_70 := hm.2 _ ha_70
  have ha_71 := hm.2 _ ha_71
  have ha_72 := hm.2 _ ha_72
  have ha_73 := hm.2 _ ha_73
  have ha_74 := hm.2 _ ha_74
  have ha_75 := hm.2 _ ha_75
  have ha_76 := hm.2 _ ha_76
  have ha_77 := hm.2 _ ha_77
  have ha_78 := hm.2 _ ha_78
  have ha_79 := hm.2 _ ha_79
  have ha_80 := hm.2 _ ha_80
  have ha_81 := hm.2 _ ha_81
  have ha_82 := hm.2 _ ha_82
  have ha_83 := hm.2 _ ha_83
  have ha_84 := hm.2 _ ha_84
  have ha_85 := hm.2 _ ha_85
  have ha_86 := hm.2 _ ha_86
  have ha_87 := hm.2 _ ha_87
  have ha_88 := hm.2 _ ha_88
  have ha_89 := hm.2 _ ha_89
  have ha_90 := hm.2 _ ha_90
  have ha_91 := hm.2 _ ha_91
  have ha_92 := hm.2 _ ha_92
  have ha_93 := hm.2 _ ha_93
  refine lv_aload_n F.1 F.2.1 dX12_init_244 rfl (lv_at hl 0 rfl) ?_
  refine lv_sipush (v := 1500) F.1 F.2.1 dX12_init_245 is_1500 ?_
  refine y_newi (k := 94) h F hP hS ac_int (by decide) (by decide) (by decide) (Nat.le_of_ble_eq_true rfl) (Nat.le_of_ble_eq_true rfl) dX12_init_248 (fun w_248 ad H hm ha_94 _ hx h hP' hS => ?_)
  have e9 := hx 63 hn_63
  try rw [← e9] at hl
  try rw [← e9]
  have hP := hP'
  have hXA : ∀ k, wA w k ≠ 0 → ad k = ad0 k := fun k hk => (hx k (hM_w.1 k hk)).trans (hXA k hk)
  have hM_w := hM_w.trans hm
  have hn_63 := hm.1 _ hn_63
  have ha_64 := hm.2 _ ha_64
  have ha_65 := hm.2 _ ha_65
  have ha_66 := hm.2 _ ha_66
  have ha_67 := hm.2 _ ha_67
  have ha_68 := hm.2 _ ha_68
  have ha_69 := hm.2 _ ha_69
  have ha_70 := hm.2 _ ha_70
  have ha_71 := hm.2 _ ha_71
  have ha_72 := hm.2 _ ha_72
  have ha_73 := hm.2 _ ha_73
  have ha_74 := hm.2 _ ha_74
  have ha_75 := hm.2 _ ha_75
  have ha_76 := hm.2 _ ha_76
  have ha_77 := hm.2 _ ha_77
  have ha_78 := hm.2 _ ha_78
  have ha_79 := hm.2 _ ha_79
  have ha_80 := hm.2 _ ha_80
  have ha_81 := hm.2 _ ha_81
  have ha_82 := hm.2 _ ha_82
  have ha_83 := hm.2 _ ha_83
  have ha_84 := hm.2 _ ha_84
  have ha_85 := hm.2 _ ha_85
  have ha_86 := hm.2 _ ha_86
  have ha_87 := hm.2 _ ha_87
  have ha_88 := hm.2 _ ha_88
  have ha_89 := hm.2 _ ha_89
  have ha_90 := hm.2 _ ha_90
  have ha_91 := hm.2 _ ha_91
  have ha_92 := hm.2 _ ha_92
  have ha_93 := hm.2 _ ha_93
  refine y_putFr h F hP hS k_63 hn_63 fl_X12_105 hin rfl rfl r_63_40 ha_94 (Or.inr ⟨_, rfl⟩) dX12_init_250 (fun w_250 H locs hm h hP hS => ?_)
  have hM_w := hM_w.trans hm
  have hn_63 := hm.1 _ hn_63
  have ha_64 := hm.2 _ ha_64
  have ha_65 := hm.2 _ ha_65
  have ha_66 := hm.2 _ ha_66
  have ha_67 := hm.2 _ ha_67
  have ha_68 := hm.2 _ ha_68
  have ha_69 := hm.2 _ ha_69
  have ha_70 := hm.2 _ ha_70
  have ha_71 := hm.2 _ ha_71
  have ha_72 := hm.2 _ ha_72
  have ha_73 := hm.2 _ ha_73
  have ha_74 := hm.2 _ ha_74
  have ha_75 := hm.2 _ ha_75
  have ha_76 := hm.2 _ ha_76
  have ha_77 := hm.2 _ ha_77
  have ha_78 := hm.2 _ ha_78
  have ha_79 := hm.2 _ ha_79
  have ha_80 := hm.2 _ ha_80
  have ha_81 := hm.2 _ ha_81
  have ha_82 := hm.2 _ ha_82
  have ha_83 := hm.2 _ ha_83
  have ha_84 := hm.2 _ ha_84
  have ha_85 := hm.2 _ ha_85
  have ha_86 := hm.2 _ ha_86
  have ha_87 := hm.2 _ ha_87
  have ha_88 := hm.2 _ ha_88
  have ha_89 := hm.2 _ ha_89
  have ha_90 := hm.2 _ ha_90
  have ha_91 := hm.2 _ ha_91
  have ha_92 := hm.2 _ ha_92
  have ha_93 := hm.2 _ ha_93
  have ha_94 := hm.2 _ ha_94
  refine lv_aload_n F.1 F.2.1 dX12_init_253 rfl (lv_at hl 0 rfl) ?_
  refine lv_sipush (v := 4096) F.1 F.2.1 dX12_init_254 is_4096 ?_
  refine y_newi (k := 95) h F hP hS ac_int (by decide) (by decide) (by decide) (Nat.le_of_ble_eq_true rfl) (Nat.le_of_ble_eq_true rfl) dX12_init_257 (fun w_257 ad H hm ha_95 _ hx h hP' hS => ?_)
  have e9 := hx 63 hn_63
  try rw [← e9] at hl
  try rw [← e9]
  have hP := hP'
  have hXA : ∀ k, wA w k ≠ 0 → ad k = ad0 k := fun k hk => (hx k (hM_w.1 k hk)).trans (hXA k hk)
  have hM_w := hM_w.trans hm
  have hn_63 := hm.1 _ hn_63
  have ha_64 := hm.2 _ ha_64
  have ha_65 := hm.2 _ ha_65
  have ha_66 := hm.2 _ ha_66
  have ha_67 := hm.2 _ ha_67
  have ha_68 := hm.2 _ ha_68
  have ha_69 := hm.2 _ ha_69
  have ha_70 := hm.2 _ ha_70
  have ha_71 := hm.2 _ ha_71
  have ha_72 := hm.2 _ ha_72
  have ha_73 := hm.2 _ ha_73
  have ha_74 := hm.2 _ ha_74
  have ha_75 := hm.2 _ ha_75
  have ha_76 := hm.2 _ ha_76
  have ha_77 := hm.2 _ ha_77
  have ha_78 := hm.2 _ ha_78
  have ha_79 := hm.2 _ ha_79
  have ha_80 := hm.2 _ ha_80
  have ha_81 := hm.2 _ ha_81
  have ha_82 := hm.2 _ ha_82
  have ha_83 := hm.2 _ ha_83
  have ha_84 := hm.2 _ ha_84
  have ha_85 := hm.2 _ ha_85
  have ha_86 := hm.2 _ ha_86
  have ha_87 := hm.2 _ ha_87
  have ha_88 := hm.2 _ ha_88
  have ha_89 := hm.2 _ ha_89
  have ha_90 := hm.2 _ ha_90
  have ha_91 := hm.2 _ ha_91
  have ha_92 := hm.2 _ ha_92
  have ha_93 := hm.2 _ ha_93
  have ha_94 := hm.2 _ ha_94
  refine y_putFr h F hP hS k_63 hn_63 fl_X12_108 hin rfl rfl r_63_41 ha_95 (Or.inr ⟨_, rfl⟩) dX12_init_259 (fun w_259 H locs hm h hP hS => ?_)
  have hM_w := hM_w.trans hm
  have hn_63 := hm.1 _ hn_63
  have ha_64 := hm.2 _ ha_64
  have ha_65 := hm.2 _ ha_65
  have ha_66 := hm.2 _ ha_66
  have ha_67 := hm.2 _ ha_67
  have ha_68 := hm.2 _ ha_68
  have ha_69 := hm.2 _ ha_69
  have ha_70 := hm.2 _ ha_70
  have ha_71 := hm.2 _ ha_71
  have ha_72 := hm.2 _ ha_72
  have ha_73 := hm.2 _ ha_73
  have ha_74 := hm.2 _ ha_74
  have ha_75 := hm.2 _ ha_75
  have ha_76 := hm.2 _ ha_76
  have ha_77 := hm.2 _ ha_77
  have ha_78 := hm.2 _ ha_78
  have ha_79 := hm.2 _ ha_79
  have ha_80 := hm.2 _ ha_80
  have ha_81 := hm.2 _ ha_81
  have ha_82 := hm.2 _ ha_82
  have ha_83 := hm.2 _ ha_83
  have ha_84 := hm.2 _ ha_84
  have ha_85 := hm.2 _ ha_85
  have ha_86 := hm.2 _ ha_86
  have ha_87 := hm.2 _ ha_87
  have ha_88 := hm.2 _ ha_88
  have ha_89 := hm.2 _ ha_89
  have ha_90 := hm.2 _ ha_90
  have ha_91 := hm.2 _ ha_91
  have ha_92 := hm.2 _ ha_92
  have ha_93 := hm.2 _ ha_93
  have ha_94 := hm.2 _ ha_94
  have ha_95 := hm.2 _ ha_95
  refine lv_aload_n F.1 F.2.1 dX12_init_262 rfl (lv_at hl 0 rfl) ?_
  refine lv_bipush (v := 12) F.1 F.2.1 dX12_init_263 ib_12 ?_
  refine y_newi (k := 96) h F hP hS ac_int (by decide) (by decide) (by decide) (Nat.le_of_ble_eq_true rfl) (Nat.le_of_ble_eq_true rfl) dX12_init_265 (fun w_265 ad H hm ha_96 _ hx h hP' hS => ?_)
  have e9 := hx 63 hn_63
  try rw [← e9] at hl
  try rw [← e9]
  have hP := hP'
  have hXA : ∀ k, wA w k ≠ 0 → ad k = ad0 k := fun k hk => (hx k (hM_w.1 k hk)).trans (hXA k hk)
  have hM_w := hM_w.trans hm
  have hn_63 := hm.1 _ hn_63
  have ha_64 := hm.2 _ ha_64
  have ha_65 := hm.2 _ ha_65
  have ha_66 := hm.2 _ ha_66
  have ha_67 := hm.2 _ ha_67
  have ha_68 := hm.2 _ ha_68
  have ha_69 := hm.2 _ ha_69
  have ha_70 := hm.2 _ ha_70
  have ha_71 := hm.2 _ ha_71
  have ha_72 := hm.2 _ ha_72
  have ha_73 := hm.2 _ ha_73
  have ha_74 := hm.2 _ ha_74
  have ha_75 := hm.2 _ ha_75
  have ha_76 := hm.2 _ ha_76
  have ha_77 := hm.2 _ ha_77
  have ha_78 := hm.2 _ ha_78
  have ha_79 := hm.2 _ ha_79
  have ha_80 := hm.2 _ ha_80
  have ha_81 := hm.2 _ ha_81
  have ha_82 := hm.2 _ ha_82
  have ha_83 := hm.2 _ ha_83
  have ha_84 := hm.2 _ ha_84
  have ha_85 := hm.2 _ ha_85
  have ha_86 := hm.2 _ ha_86
  have ha_87 := hm.2 _ ha_87
  have ha_88 := hm.2 _ ha_88
  have ha_89 := hm.2 _ ha_89
  have ha_90 := hm.2 _ ha_90
  have ha_91 := hm.2 _ ha_91
  have ha_92 := hm.2 _ ha_92
  have ha_93 := hm.2 _ ha_93
  have ha_94 := hm.2 _ ha_94
  have ha_95 := hm.2 _ ha_95
  refine y_putFr h F hP hS k_63 hn_63 fl_X12_111 hin rfl rfl r_63_43 ha_96 (Or.inr ⟨_, rfl⟩) dX12_init_267 (fun w_267 H locs hm h hP hS => ?_)
  have hM_w := hM_w.trans hm
  have hn_63 := hm.1 _ hn_63
  have ha_64 := hm.2 _ ha_64
  have ha_65 := hm.2 _ ha_65
  have ha_66 := hm.2 _ ha_66
  have ha_67 := hm.2 _ ha_67
  have ha_68 := hm.2 _ ha_68
  have ha_69 := hm.2 _ ha_69
  have ha_70 := hm.2 _ ha_70
  have ha_71 := hm.2 _ ha_71
  have ha_72 := hm.2 _ ha_72
  have ha_73 := hm.2 _ ha_73
  have ha_74 := hm.2 _ ha_74
  have ha_75 := hm.2 _ ha_75
  have ha_76 := hm.2 _ ha_76
  have ha_77 := hm.2 _ ha_77
  have ha_78 := hm.2 _ ha_78
  have ha_79 := hm.2 _ ha_79
  have ha_80 := hm.2 _ ha_80
  have ha_81 := hm.2 _ ha_81
  have ha_82 := hm.2 _ ha_82
  have ha_83 := hm.2 _ ha_83
  have ha_84 := hm.2 _ ha_84
  have ha_85 := hm.2 _ ha_85
  have ha_86 := hm.2 _ ha_86
  have ha_87 := hm.2 _ ha_87
  have ha_88 := hm.2 _ ha_88
  have ha_89 := hm.2 _ ha_89
  have ha_90 := hm.2 _ ha_90
  have ha_91 := hm.2 _ ha_91
  have ha_92 := hm.2 _ ha_92
  have ha_93 := hm.2 _ ha_93
  have ha_94 := hm.2 _ ha_94
  have ha_95 := hm.2 _ ha_95
  have ha_96 := hm.2 _ ha_96
  refine lv_aload_n F.1 F.2.1 dX12_init_270 rfl (lv_at hl 0 rfl) ?_
  refine lv_bipush (v := 16) F.1 F.2.1 dX12_init_271 ib_16 ?_
  refine y_newi (k := 97) h F hP hS ac_int (by decide) (by decide) (by decide) (Nat.le_of_ble_eq_true rfl) (Nat.le_of_ble_eq_true rfl) dX12_init_273 (fun w_273 ad H hm ha_97 _ hx h hP' hS => ?_)
  have e9 := hx 63 hn_63
  try rw [← e9] at hl
  try rw [← e9]
  have hP := hP'
  have hXA : ∀ k, wA w k ≠ 0 → ad k = ad0 k := fun k hk => (hx k (hM_w.1 k hk)).trans (hXA k hk)
  have hM_w := hM_w.trans hm
  have hn_63 := hm.1 _ hn_63
  have ha_64 := hm.2 _ ha_64
  have ha_65 := hm.2 _ ha_65
  have ha_66 := hm.2 _ ha_66
  have ha_67 := hm.2 _ ha_67
  have ha_68 := hm.2 _ ha_68
  have ha_69 := hm.2 _ ha_69
  have ha_70 := hm.2 _ ha_70
  have ha_71 := hm.2 _ ha_71
  have ha_72 := hm.2 _ ha_72
  have ha_73 := hm.2 _ ha_73
  have ha_74 := hm.2 _ ha_74
  have ha_75 := hm.2 _ ha_75
  have ha_76 := hm.2 _ ha_76
  have ha_77 := hm.2 _ ha_77
  have ha_78 := hm.2 _ ha_78
  have ha_79 := hm.2 _ ha_79
  have ha_80 := hm.2 _ ha_80
  have ha_81 := hm.2 _ ha_81
  have ha_82 := hm.2 _ ha_82
  have ha_83 := hm.2 _ ha_83
  have ha_84 := hm.2 _ ha_84
  have ha_85 := hm.2 _ ha_85
  have ha_86 := hm.2 _ ha_86
  have ha_87 := hm.2 _ ha_87
  have ha_88 := hm.2 _ ha_88
  have ha_89 := hm.2 _ ha_89
  have ha_90 := hm.2 _ ha_90
  have ha_91 := hm.2 _ ha_91
  have ha_92 := hm.2 _ ha_92
  have ha_93 := hm.2 _ ha_93
  have ha_94 := hm.2 _ ha_94
  have ha_95 := hm.2 _ ha_95
  have ha_96 := hm.2 _ ha_96
  refine y_putFr h F hP hS k_63 hn_63 fl_X12_114 hin rfl rfl r_63_44 ha_97 (Or.inr ⟨_, rfl⟩) dX12_init_275 (fun w_275 H locs hm h hP hS => ?_)
  have hM_w := hM_w.trans hm
  have hn_63 := hm.1 _ hn_63
  have ha_64 := hm.2 _ ha_64
  have ha_65 := hm.2 _ ha_65
  have ha_66 := hm.2 _ ha_66
  have ha_67 := hm.2 _ ha_67
  have ha_68 := hm.2 _ ha_68
  have ha_69 := hm.2 _ ha_69
  have ha_70 := hm.2 _ ha_70
  have ha_71 := hm.2 _ ha_71
  have ha_72 := hm.2 _ ha_72
  have ha_73 := hm.2 _ ha_73
  have ha_74 := hm.2 _ ha_74
  have ha_75 := hm.2 _ ha_75
  have ha_76 := hm.2 _ ha_76
  have ha_77 := hm.2 _ ha_77
  have ha_78 := hm.2 _ ha_78
  have ha_79 := hm.2 _ ha_79
  have ha_80 := hm.2 _ ha_80
  have ha_81 := hm.2 _ ha_81
  have ha_82 := hm.2 _ ha_82
  have ha_83 := hm.2 _ ha_83
  have ha_84 := hm.2 _ ha_84
  have ha_85 := hm.2 _ ha_85
  have ha_86 := hm.2 _ ha_86
  have ha_87 := hm.2 _ ha_87
  have ha_88 := hm.2 _ ha_88
  have ha_89 := hm.2 _ ha_89
  have ha_90 := hm.2 _ ha_90
  have ha_91 := hm.2 _ ha_91
  have ha_92 := hm.2 _ ha_92
  have ha_93 := hm.2 _ ha_93
  have ha_94 := hm.2 _ ha_94
  have ha_95 := hm.2 _ ha_95
  have ha_96 := hm.2 _ ha_96
  have ha_97 := hm.2 _ ha_97
  refine lv_aload_n F.1 F.2.1 dX12_init_278 rfl (lv_at hl 0 rfl) ?_
  refine lv_bipush (v := 16) F.1 F.2.1 dX12_init_279 ib_16 ?_
  refine y_newi (k := 98) h F hP hS ac_int (by decide) (by decide) (by decide) (Nat.le_of_ble_eq_true rfl) (Nat.le_of_ble_eq_true rfl) dX12_init_281 (fun w_281 ad H hm ha_98 _ hx h hP' hS => ?_)
  have e9 := hx 63 hn_63
  try rw [← e9] at hl
  try rw [← e9]
  have hP := hP'
  have hXA : ∀ k, wA w k ≠ 0 → ad k = ad0 k := fun k hk => (hx k (hM_w.1 k hk)).trans (hXA k hk)
  have hM_w := hM_w.trans hm
  have hn_63 := hm.1 _ hn_63
  have ha_64 := hm.2 _ ha_64
  have ha_65 := hm.2 _ ha_65
  have ha_66 := hm.2 _ ha_66
  have ha_67 := hm.2 _ ha_67
  have ha_68 := hm.2 _ ha_68
  have ha_69 := hm.2 _ ha_69
  have ha_70 := hm.2 _ ha_70
  have ha_71 := hm.2 _ ha_71
  have ha_72 := hm.2 _ ha_72
  have ha_73 := hm.2 _ ha_73
  have ha_74 := hm.2 _ ha_74
  have ha_75 := hm.2 _ ha_75
  have ha_76 := hm.2 _ ha_76
  have ha_77 := hm.2 _ ha_77
  have ha_78 := hm.2 _ ha_78
  have ha_79 := hm.2 _ ha_79
  have ha_80 := hm.2 _ ha_80
  have ha_81 := hm.2 _ ha_81
  have ha_82 := hm.2 _ ha_82
  have ha_83 := hm.2 _ ha_83
  have ha_84 := hm.2 _ ha_84
  have ha_85 := hm.2 _ ha_85
  have ha_86 := hm.2 _ ha_86
  have ha_87 := hm.2 _ ha_87
  have ha_88 := hm.2 _ ha_88
  have ha_89 := hm.2 _ ha_89
  have ha_90 := hm.2 _ ha_90
  have ha_91 := hm.2 _ ha_91
  have ha_92 := hm.2 _ ha_92
  have ha_93 := hm.2 _ ha_93
  have ha_94 := hm.2 _ ha_94
  have ha_95 := hm.2 _ ha_95
  have ha_96 := hm.2 _ ha_96
  have ha_97 := hm.2 _ ha_97
  refine y_putFr h F hP hS k_63 hn_63 fl_X12_117 hin rfl rfl r_63_45 ha_98 (Or.inr ⟨_, rfl⟩) dX12_init_283 (fun w_283 H locs hm h hP hS => ?_)
  have hM_w := hM_w.trans hm
  have hn_63 := hm.1 _ hn_63
  have ha_64 := hm.2 _ ha_64
  have ha_65 := hm.2 _ ha_65
  have ha_66 := hm.2 _ ha_66
  have ha_67 := hm.2 _ ha_67
  have ha_68 := hm.2 _ ha_68
  have ha_69 := hm.2 _ ha_69
  have ha_70 := hm.2 _ ha_70
  have ha_71 := hm.2 _ ha_71
  have ha_72 := hm.2 _ ha_72
  have ha_73 := hm.2 _ ha_73
  have ha_74 := hm.2 _ ha_74
  have ha_75 := hm.2 _ ha_75
  have ha_76 := hm.2 _ ha_76
  have ha_77 := hm.2 _ ha_77
  have ha_78 := hm.2 _ ha_78
  have ha_79 := hm.2 _ ha_79
  have ha_80 := hm.2 _ ha_80
  have ha_81 := hm.2 _ ha_81
  have ha_82 := hm.2 _ ha_82
  have ha_83 := hm.2 _ ha_83
  have ha_84 := hm.2 _ ha_84
  have ha_85 := hm.2 _ ha_85
  have ha_86 := hm.2 _ ha_86
  have ha_87 := hm.2 _ ha_87
  have ha_88 := hm.2 _ ha_88
  have ha_89 := hm.2 _ ha_89
  have ha_90 := hm.2 _ ha_90
  have ha_91 := hm.2 _ ha_91
  have ha_92 := hm.2 _ ha_92
  have ha_93 := hm.2 _ ha_93
  have ha_94 := hm.2 _ ha_94
  have ha_95 := hm.2 _ ha_95
  have ha_96 := hm.2 _ ha_96
  have ha_97 := hm.2 _ ha_97
  have ha_98 := hm.2 _ ha_98
  refine lv_aload_n F.1 F.2.1 dX12_init_286 rfl (lv_at hl 0 rfl) ?_
  refine lv_bipush (v := 16) F.1 F.2.1 dX12_init_287 ib_16 ?_
  refine y_newi (k := 99) h F hP hS ac_int (by decide) (by decide) (by decide) (Nat.le_of_ble_eq_true rfl) (Nat.le_of_ble_eq_true rfl) dX12_init_289 (fun w_289 ad H hm ha_99 _ hx h hP' hS => ?_)
  have e9 := hx 63 hn_63
  try rw [← e9] at hl
  try rw [← e9]
  have hP := hP'
  have hXA : ∀ k, wA w k ≠ 0 → ad k = ad0 k := fun k hk => (hx k (hM_w.1 k hk)).trans (hXA k hk)
  have hM_w := hM_w.trans hm
  have hn_63 := hm.1 _ hn_63
  have ha_64 := hm.2 _ ha_64
  have ha_65 := hm.2 _ ha_65
  have ha_66 := hm.2 _ ha_66
  have ha_67 := hm.2 _ ha_67
  have ha_68 := hm.2 _ ha_68
  have ha_69 := hm.2 _ ha_69
  have ha_70 := hm.2 _ ha_70
  have ha_71 := hm.2 _ ha_71
  have ha_72 := hm.2 _ ha_72
  have ha_73 := hm.2 _ ha_73
  have ha_74 := hm.2 _ ha_74
  have ha_75 := hm.2 _ ha_75
  have ha_76 := hm.2 _ ha_76
  have ha_77 := hm.2 _ ha_77
  have ha_78 := hm.2 _ ha_78
  have ha_79 := hm.2 _ ha_79
  have ha_80 := hm.2 _ ha_80
  have ha_81 := hm.2 _ ha_81
  have ha_82 := hm.2 _ ha_82
  have ha_83 := hm.2 _ ha_83
  have ha_84 := hm.2 _ ha_84
  have ha_85 := hm.2 _ ha_85
  have ha_86 := hm.2 _ ha_86
  have ha_87 := hm.2 _ ha_87
  have ha_88 := hm.2 _ ha_88
  have ha_89 := hm.2 _ ha_89
  have ha_90 := hm.2 _ ha_90
  have ha_91 := hm.2 _ ha_91
  have ha_92 := hm.2 _ ha_92
  have ha_93 := hm.2 _ ha_93
  have ha_94 := hm.2 _ ha_94
  have ha_95 := hm.2 _ ha_95
  have ha_96 := hm.2 _ ha_96
  have ha_97 := hm.2 _ ha_97
  have ha_98 := hm.2 _ ha_98
  refine y_putFr h F hP hS k_63 hn_63 fl_X12_120 hin rfl rfl r_63_46 ha_99 (Or.inr ⟨_, rfl⟩) dX12_init_291 (fun w_291 H locs hm h hP hS => ?_)
  have hM_w := hM_w.trans hm
  have hn_63 := hm.1 _ hn_63
  have ha_64 := hm.2 _ ha_64
  have ha_65 := hm.2 _ ha_65
  have ha_66 := hm.2 _ ha_66
  have ha_67 := hm.2 _ ha_67
  have ha_68 := hm.2 _ ha_68
  have ha_69 := hm.2 _ ha_69
  have ha_70 := hm.2 _ ha_70
  have ha_71 := hm.2 _ ha_71
  have ha_72 := hm.2 _ ha_72
  have ha_73 := hm.2 _ ha_73
  have ha_74 := hm.2 _ ha_74
  have ha_75 := hm.2 _ ha_75
  have ha_76 := hm.2 _ ha_76
  have ha_77 := hm.2 _ ha_77
  have ha_78 := hm.2 _ ha_78
  have ha_79 := hm.2 _ ha_79
  have ha_80 := hm.2 _ ha_80
  have ha_81 := hm.2 _ ha_81
  have ha_82 := hm.2 _ ha_82
  have ha_83 := hm.2 _ ha_83
  have ha_84 := hm.2 _ ha_84
  have ha_85 := hm.2 _ ha_85
  have ha_86 := hm.2 _ ha_86
  have ha_87 := hm.2 _ ha_87
  have ha_88 := hm.2 _ ha_88
  have ha_89 := hm.2 _ ha_89
  have ha_90 := hm.2 _ ha_90
  have ha_91 := hm.2 _ ha_91
  have ha_92 := hm.2 _ ha_92
  have ha_93 := hm.2 _ ha_93
  have ha_94 := hm.2 _ ha_94
  have ha_95 := hm.2 _ ha_95
  have ha_96 := hm.2 _ ha_96
  have ha_97 := hm.2 _ ha_97
  have ha_98 := hm.2 _ ha_98
  have ha_99 := hm.2 _ ha_99
  refine lv_aload_n F.1 F.2.1 dX12_init_294 rfl (lv_at hl 0 rfl) ?_
  refine lv_iconst (v := 3) F.1 F.2.1 dX12_init_295 ic_3 ?_
  refine y_puti h F hP hS k_63 hn_63 fl_X12_123 rfl dX12_init_296 (fun w_296 H locs hm h hP hS => ?_)
  have hM_w := hM_w.trans hm
  have hn_63 := hm.1 _ hn_63
  have ha_64 := hm.2 _ ha_64
  have ha_65 := hm.2 _ ha_65
  have ha_66 := hm.2 _ ha_66
  have ha_67 := hm.2 _ ha_67
  have ha_68 := hm.2 _ ha_68
  have ha_69 := hm.2 _ ha_69
  have ha_70 := hm.2 _ ha_70
  have ha_71 := hm.2 _ ha_71
  have ha_72 := hm.2 _ ha_72
  have ha_73 := hm.2 _ ha_73
  have ha_74 := hm.2 _ ha_74
  have ha_75 := hm.2 _ ha_75
  have ha_76 := hm.2 _ ha_76
  have ha_77 := hm.2 _ ha_77
  have ha_78 := hm.2 _ ha_78
  have ha_79 := hm.2 _ ha_79
  have ha_80 := hm.2 _ ha_80
  have ha_81 := hm.2 _ ha_81
  have ha_82 := hm.2 _ ha_82
  have ha_83 := hm.2 _ ha_83
  have ha_84 := hm.2 _ ha_84
  have ha_85 := hm.2 _ ha_85
  have ha_86 := hm.2 _ ha_86
  have ha_87 := hm.2 _ ha_87
  have ha_88 := hm.2 _ ha_88
  have ha_89 := hm.2 _ ha_89
  have ha_90 := hm.2 _ ha_90
  have ha_91 := hm.2 _ ha_91
  have ha_92 := hm.2 _ ha_92
  have ha_93 := hm.2 _ ha_93
  have ha_94 := hm.2 _ ha_94
  have ha_95 := hm.2 _ ha_95
  have ha_96 := hm.2 _ ha_96
  have ha_97 := hm.2 _ ha_97
  have ha_98 := hm.2 _ ha_98
  have ha_99 := hm.2 _ ha_99
  refine lv_aload_n F.1 F.2.1 dX12_init_299 rfl (lv_at hl 0 rfl) ?_
  refine lv_bipush (v := 20) F.1 F.2.1 dX12_init_300 ib_20 ?_
  refine y_puti h F hP hS k_63 hn_63 fl_X12_126 rfl dX12_init_302 (fun w_302 H locs hm h hP hS => ?_)
  have hM_w := hM_w.trans hm
  have hn_63 := hm.1 _ hn_63
  have ha_64 := hm.2 _ ha_64
  have ha_65 := hm.2 _ ha_65
  have ha_66 := hm.2 _ ha_66
  have ha_67 := hm.2 _ ha_67
  have ha_68 := hm.2 _ ha_68
  have ha_69 := hm.2 _ ha_69
  have ha_70 := hm.2 _ ha_70
  have ha_71 := hm.2 _ ha_71
  have ha_72 := hm.2 _ ha_72
  have ha_73 := hm.2 _ ha_73
  have ha_74 := hm.2 _ ha_74
  have ha_75 := hm.2 _ ha_75
  have ha_76 := hm.2 _ ha_76
  have ha_77 := hm.2 _ ha_77
  have ha_78 := hm.2 _ ha_78
  have ha_79 := hm.2 _ ha_79
  have ha_80 := hm.2 _ ha_80
  have ha_81 := hm.2 _ ha_81
  have ha_82 := hm.2 _ ha_82
  have ha_83 := hm.2 _ ha_83
  have ha_84 := hm.2 _ ha_84
  have ha_85 := hm.2 _ ha_85
  have ha_86 := hm.2 _ ha_86
  have ha_87 := hm.2 _ ha_87
  have ha_88 := hm.2 _ ha_88
  have ha_89 := hm.2 _ ha_89
  have ha_90 := hm.2 _ ha_90
  have ha_91 := hm.2 _ ha_91
  have ha_92 := hm.2 _ ha_92
  have ha_93 := hm.2 _ ha_93
  have ha_94 := hm.2 _ ha_94
  have ha_95 := hm.2 _ ha_95
  have ha_96 := hm.2 _ ha_96
  have ha_97 := hm.2 _ ha_97
  have ha_98 := hm.2 _ ha_98
  have ha_99 := hm.2 _ ha_99
  refine lv_aload_n F.1 F.2.1 dX12_init_305 rfl (lv_at hl 0 rfl) ?_
  refine lv_bipush (v := 12) F.1 F.2.1 dX12_init_306 ib_12 ?_
  refine y_puti h F hP hS k_63 hn_63 fl_X12_129 rfl dX12_init_308 (fun w_308 H locs hm h hP hS => ?_)
  have hM_w := hM_w.trans hm
  have hn_63 := hm.1 _ hn_63
  have ha_64 := hm.2 _ ha_64
  have ha_65 := hm.2 _ ha_65
  have ha_66 := hm.2 _ ha_66
  have ha_67 := hm.2 _ ha_67
  have ha_68 := hm.2 _ ha_68
  have ha_69 := hm.2 _ ha_69
  have ha_70 := hm.2 _ ha_70
  have ha_71 := hm.2 _ ha_71
  have ha_72 := hm.2 _ ha_72
  have ha_73 := hm.2 _ ha_73
  have ha_74 := hm.2 _ ha_74
  have ha_75 := hm.2 _ ha_75
  have ha_76 := hm.2 _ ha_76
  have ha_77 := hm.2 _ ha_77
  have ha_78 := hm.2 _ ha_78
  have ha_79 := hm.2 _ ha_79
  have ha_80 := hm.2 _ ha_80
  have ha_81 := hm.2 _ ha_81
  have ha_82 := hm.2 _ ha_82
  have ha_83 := hm.2 _ ha_83
  have ha_84 := hm.2 _ ha_84
  have ha_85 := hm.2 _ ha_85
  have ha_86 := hm.2 _ ha_86
  have ha_87 := hm.2 _ ha_87
  have ha_88 := hm.2 _ ha_88
  have ha_89 := hm.2 _ ha_89
  have ha_90 := hm.2 _ ha_90
  have ha_91 := hm.2 _ ha_91
  have ha_92 := hm.2 _ ha_92
  have ha_93 := hm.2 _ ha_93
  have ha_94 := hm.2 _ ha_94
  have ha_95 := hm.2 _ ha_95
  have ha_96 := hm.2 _ ha_96
  have ha_97 := hm.2 _ ha_97
  have ha_98 := hm.2 _ ha_98
  have ha_99 := hm.2 _ ha_99
  refine lv_aload_n F.1 F.2.1 dX12_init_311 rfl (lv_at hl 0 rfl) ?_
  refine lv_iconst (v := 4) F.1 F.2.1 dX12_init_312 ic_4 ?_
  refine y_newi (k := 100) h F hP hS ac_int (by decide) (by decide) (by decide) (Nat.le_of_ble_eq_true rfl) (Nat.le_of_ble_eq_true rfl) dX12_init_313 (fun w_313 ad H hm ha_100 _ hx h hP' hS => ?_)
  have e9 := hx 63 hn_63
  try rw [← e9] at hl
  try rw [← e9]
  have hP := hP'
  have hXA : ∀ k, wA w k ≠ 0 → ad k = ad0 k := fun k hk => (hx k (hM_w.1 k hk)).trans (hXA k hk)
  have hM_w := hM_w.trans hm
  have hn_63 := hm.1 _ hn_63
  have ha_64 := hm.2 _ ha_64
  have ha_65 := hm.2 _ ha_65
  have ha_66 := hm.2 _ ha_66
  have ha_67 := hm.2 _ ha_67
  have ha_68 := hm.2 _ ha_68
  have ha_69 := hm.2 _ ha_69
  have ha_70 := hm.2 _ ha_70
  have ha_71 := hm.2 _ ha_71
  have ha_72 := hm.2 _ ha_72
  have ha_73 := hm.2 _ ha_73
  have ha_74 := hm.2 _ ha_74
  have ha_75 := hm.2 _ ha_75
  have ha_76 := hm.2 _ ha_76
  have ha_77 := hm.2 _ ha_77
  have ha_78 := hm.2 _ ha_78
  have ha_79 := hm.2 _ ha_79
  have ha_80 := hm.2 _ ha_80
  have ha_81 := hm.2 _ ha_81
  have ha_82 := hm.2 _ ha_82
  have ha_83 := hm.2 _ ha_83
  have ha_84 := hm.2 _ ha_84
  have ha_85 := hm.2 _ ha_85
  have ha_86 := hm.2 _ ha_86
  have ha_87 := hm.2 _ ha_87
  have ha_88 := hm.2 _ ha_88
  have ha_89 := hm.2 _ ha_89
  have ha_90 := hm.2 _ ha_90
  have ha_91 := hm.2 _ ha_91
  have ha_92 := hm.2 _ ha_92
  have ha_93 := hm.2 _ ha_93
  have ha_94 := hm.2 _ ha_94
  have ha_95 := hm.2 _ ha_95
  have ha_96 := hm.2 _ ha_96
  have ha_97 := hm.2 _ ha_97
  have ha_98 := hm.2 _ ha_98
  have ha_99 := hm.2 _ ha_99
  refine y_putFr h F hP hS k_63 hn_63 fl_X12_132 hin rfl rfl r_63_51 ha_100 (Or.inr ⟨_, rfl⟩) dX12_init_315 (fun w_315 H locs hm h hP hS => ?_)
  have hM_w := hM_w.trans hm
  have hn_63 := hm.1 _ hn_63
  have ha_64 := hm.2 _ ha_64
  have ha_65 := hm.2 _ ha_65
  have ha_66 := hm.2 _ ha_66
  have ha_67 := hm.2 _ ha_67
  have ha_68 := hm.2 _ ha_68
  have ha_69 := hm.2 _ ha_69
  have ha_70 := hm.2 _ ha_70
  have ha_71 := hm.2 _ ha_71
  have ha_72 := hm.2 _ ha_72
  have ha_73 := hm.2 _ ha_73
  have ha_74 := hm.2 _ ha_74
  have ha_75 := hm.2 _ ha_75
  have ha_76 := hm.2 _ ha_76
  have ha_77 := hm.2 _ ha_77
  have ha_78 := hm.2 _ ha_78
  have ha_79 := hm.2 _ ha_79
  have ha_80 := hm.2 _ ha_80
  have ha_81 := hm.2 _ ha_81
  have ha_82 := hm.2 _ ha_82
  have ha_83 := hm.2 _ ha_83
  have ha_84 := hm.2 _ ha_84
  have ha_85 := hm.2 _ ha_85
  have ha_86 := hm.2 _ ha_86
  have ha_87 := hm.2 _ ha_87
  have ha_88 := hm.2 _ ha_88
  have ha_89 := hm.2 _ ha_89
  have ha_90 := hm.2 _ ha_90
  have ha_91 := hm.2 _ ha_91
  have ha_92 := hm.2 _ ha_92
  have ha_93 := hm.2 _ ha_93
  have ha_94 := hm.2 _ ha_94
  have ha_95 := hm.2 _ ha_95
  have ha_96 := hm.2 _ ha_96
  have ha_97 := hm.2 _ ha_97
  have ha_98 := hm.2 _ ha_98
  have ha_99 := hm.2 _ ha_99
  have ha_100 := hm.2 _ ha_100
  refine lv_aload_n F.1 F.2.1 dX12_init_318 rfl (lv_at hl 0 rfl) ?_
  refine lv_bipush (v := 6) F.1 F.2.1 dX12_init_319 ib_6 ?_
  refine y_newi (k := 101) h F hP hS ac_int (by decide) (by decide) (by decide) (Nat.le_of_ble_eq_true rfl) (Nat.le_of_ble_eq_true rfl) dX12_init_321 (fun w_321 ad H hm ha_101 _ hx h hP' hS => ?_)
  have e9 := hx 63 hn_63
  try rw [← e9] at hl
  try rw [← e9]
  have hP := hP'
  have hXA : ∀ k, wA w k ≠ 0 → ad k = ad0 k := fun k hk => (hx k (hM_w.1 k hk)).trans (hXA k hk)
  have hM_w := hM_w.trans hm
  have hn_63 := hm.1 _ hn_63
  have ha_64 := hm.2 _ ha_64
  have ha_65 := hm.2 _ ha_65
  have ha_66 := hm.2 _ ha_66
  have ha_67 := hm.2 _ ha_67
  have ha_68 := hm.2 _ ha_68
  have ha_69 := hm.2 _ ha_69
  have ha_70 := hm.2 _ ha_70
  have ha_71 := hm.2 _ ha_71
  have ha_72 := hm.2 _ ha_72
  have ha_73 := hm.2 _ ha_73
  have ha_74 := hm.2 _ ha_74
  have ha_75 := hm.2 _ ha_75
  have ha_76 := hm.2 _ ha_76
  have ha_77 := hm.2 _ ha_77
  have ha_78 := hm.2 _ ha_78
  have ha_79 := hm.2 _ ha_79
  have ha_80 := hm.2 _ ha_80
  have ha_81 := hm.2 _ ha_81
  have ha_82 := hm.2 _ ha_82
  have ha_83 := hm.2 _ ha_83
  have ha_84 := hm.2 _ ha_84
  have ha_85 := hm.2 _ ha_85
  have ha_86 := hm.2 _ ha_86
  have ha_87 := hm.2 _ ha_87
  have ha_88 := hm.2 _ ha_88
  have ha_89 := hm.2 _ ha_89
  have ha_90 := hm.2 _ ha_90
  have ha_91 := hm.2 _ ha_91
  have ha_92 := hm.2 _ ha_92
  have ha_93 := hm.2 _ ha_93
  have ha_94 := hm.2 _ ha_94
  have ha_95 := hm.2 _ ha_95
  have ha_96 := hm.2 _ ha_96
  have ha_97 := hm.2 _ ha_97
  have ha_98 := hm.2 _ ha_98
  have ha_99 := hm.2 _ ha_99
  have ha_100 := hm.2 _ ha_100
  refine y_putFr h F hP hS k_63 hn_63 fl_X12_135 hin rfl rfl r_63_53 ha_101 (Or.inr ⟨_, rfl⟩) dX12_init_323 (fun w_323 H locs hm h hP hS => ?_)
  have hM_w := hM_w.trans hm
  have hn_63 := hm.1 _ hn_63
  have ha_64 := hm.2 _ ha_64
  have ha_65 := hm.2 _ ha_65
  have ha_66 := hm.2 _ ha_66
  have ha_67 := hm.2 _ ha_67
  have ha_68 := hm.2 _ ha_68
  have ha_69 := hm.2 _ ha_69
  have ha_70 := hm.2 _ ha_70
  have ha_71 := hm.2 _ ha_71
  have ha_72 := hm.2 _ ha_72
  have ha_73 := hm.2 _ ha_73
  have ha_74 := hm.2 _ ha_74
  have ha_75 := hm.2 _ ha_75
  have ha_76 := hm.2 _ ha_76
  have ha_77 := hm.2 _ ha_77
  have ha_78 := hm.2 _ ha_78
  have ha_79 := hm.2 _ ha_79
  have ha_80 := hm.2 _ ha_80
  have ha_81 := hm.2 _ ha_81
  have ha_82 := hm.2 _ ha_82
  have ha_83 := hm.2 _ ha_83
  have ha_84 := hm.2 _ ha_84
  have ha_85 := hm.2 _ ha_85
  have ha_86 := hm.2 _ ha_86
  have ha_87 := hm.2 _ ha_87
  have ha_88 := hm.2 _ ha_88
  have ha_89 := hm.2 _ ha_89
  have ha_90 := hm.2 _ ha_90
  have ha_91 := hm.2 _ ha_91
  have ha_92 := hm.2 _ ha_92
  have ha_93 := hm.2 _ ha_93
  have ha_94 := hm.2 _ ha_94
  have ha_95 := hm.2 _ ha_95
  have ha_96 := hm.2 _ ha_96
  have ha_97 := hm.2 _ ha_97
  have ha_98 := hm.2 _ ha_98
  have ha_99 := hm.2 _ ha_99
  have ha_100 := hm.2 _ ha_100
  have ha_101 := hm.2 _ ha_101
  refine lv_aload_n F.1 F.2.1 dX12_init_326 rfl (lv_at hl 0 rfl) ?_
  refine lv_iconst (v := 2) F.1 F.2.1 dX12_init_327 ic_2 ?_
  refine y_puti h F hP hS k_63 hn_63 fl_X12_138 rfl dX12_init_328 (fun w_328 H locs hm h hP hS => ?_)
  have hM_w := hM_w.trans hm
  have hn_63 := hm.1 _ hn_63
  have ha_64 := hm.2 _ ha_64
  have ha_65 := hm.2 _ ha_65
  have ha_66 := hm.2 _ ha_66
  have ha_67 := hm.2 _ ha_67
  have ha_68 := hm.2 _ ha_68
  have ha_69 := hm.2 _ ha_69
  have ha_70 := hm.2 _ ha_70
  have ha_71 := hm.2 _ ha_71
  have ha_72 := hm.2 _ ha_72
  have ha_73 := hm.2 _ ha_73
  have ha_74 := hm.2 _ ha_74
  have ha_75 := hm.2 _ ha_75
  have ha_76 := hm.2 _ ha_76
  have ha_77 := hm.2 _ ha_77
  have ha_78 := hm.2 _ ha_78
  have ha_79 := hm.2 _ ha_79
  have ha_80 := hm.2 _ ha_80
  have ha_81 := hm.2 _ ha_81
  have ha_82 := hm.2 _ ha_82
  have ha_83 := hm.2 _ ha_83
  have ha_84 := hm.2 _ ha_84
  have ha_85 := hm.2 _ ha_85
  have ha_86 := hm.2 _ ha_86
  have ha_87 := hm.2 _ ha_87
  have ha_88 := hm.2 _ ha_88
  have ha_89 := hm.2 _ ha_89
  have ha_90 := hm.2 _ ha_90
  have ha_91 := hm.2 _ ha_91
  have ha_92 := hm.2 _ ha_92
  have ha_93 := hm.2 _ ha_93
  have ha_94 := hm.2 _ ha_94
  have ha_95 := hm.2 _ ha_95
  have ha_96 := hm.2 _ ha_96
  have ha_97 := hm.2 _ ha_97
  have ha_98 := hm.2 _ ha_98
  have ha_99 := hm.2 _ ha_99
  have ha_100 := hm.2 _ ha_100
  have ha_101 := hm.2 _ ha_101
  refine lv_aload_n F.1 F.2.1 dX12_init_331 rfl (lv_at hl 0 rfl) ?_
  refine lv_sipush (v := 1792) F.1 F.2.1 dX12_init_332 is_1792 ?_
  refine y_newi (k := 102) h F hP hS ac_int (by decide) (by decide) (by decide) (Nat.le_of_ble_eq_true rfl) (Nat.le_of_ble_eq_true rfl) dX12_init_335 (fun w_335 ad H hm ha_102 _ hx h hP' hS => ?_)
  have e9 := hx 63 hn_63
  try rw [← e9] at hl
  try rw [← e9]
  have hP := hP'
  have hXA : ∀ k, wA w k ≠ 0 → ad k = ad0 k := fun k hk => (hx k (hM_w.1 k hk)).trans (hXA k hk)
  have hM_w := hM_w.trans hm
  have hn_63 := hm.1 _ hn_63
  have ha_64 := hm.2 _ ha_64
  have ha_65 := hm.2 _ ha_65
  have ha_66 := hm.2 _ ha_66
  have ha_67 := hm.2 _ ha_67
  have ha_68 := hm.2 _ ha_68
  have ha_69 := hm.2 _ ha_69
  have ha_70 := hm.2 _ ha_70
  have ha_71 := hm.2 _ ha_71
  have ha_72 := hm.2 _ ha_72
  have ha_73 := hm.2 _ ha_73
  have ha_74 := hm.2 _ ha_74
  have ha_75 := hm.2 _ ha_75
  have ha_76 := hm.2 _ ha_76
  have ha_77 := hm.2 _ ha_77
  have ha_78 := hm.2 _ ha_78
  have ha_79 := hm.2 _ ha_79
  have ha_80 := hm.2 _ ha_80
  have ha_81 := hm.2 _ ha_81
  have ha_82 := hm.2 _ ha_82
  have ha_83 := hm.2 _ ha_83
  have ha_84 := hm.2 _ ha_84
  have ha_85 := hm.2 _ ha_85
  have ha_86 := hm.2 _ ha_86
  have ha_87 := hm.2 _ ha_87
  have ha_88 := hm.2 _ ha_88
  have ha_89 := hm.2 _ ha_89
  have ha_90 := hm.2 _ ha_90
  have ha_91 := hm.2 _ ha_91
  have ha_92 := hm.2 _ ha_92
  have ha_93 := hm.2 _ ha_93
  have ha_94 := hm.2 _ ha_94
  have ha_95 := hm.2 _ ha_95
  have ha_96 := hm.2 _ ha_96
  have ha_97 := hm.2 _ ha_97
  have ha_98 := hm.2 _ ha_98
  have ha_99 := hm.2 _ ha_99
  have ha_100 := hm.2 _ ha_100
  have ha_101 := hm.2 _ ha_101
  refine y_putFr h F hP hS k_63 hn_63 fl_X12_141 hin rfl rfl r_63_55 ha_102 (Or.inr ⟨_, rfl⟩) dX12_init_337 (fun w_337 H locs hm h hP hS => ?_)
  have hM_w := hM_w.trans hm
  have hn_63 := hm.1 _ hn_63
  have ha_64 := hm.2 _ ha_64
  have ha_65 := hm.2 _ ha_65
  have ha_66 := hm.2 _ ha_66
  have ha_67 := hm.2 _ ha_67
  have ha_68 := hm.2 _ ha_68
  have ha_69 := hm.2 _ ha_69
  have ha_70 := hm.2 _ ha_70
  have ha_71 := hm.2 _ ha_71
  have ha_72 := hm.2 _ ha_72
  have ha_73 := hm.2 _ ha_73
  have ha_74 := hm.2 _ ha_74
  have ha_75 := hm.2 _ ha_75
  have ha_76 := hm.2 _ ha_76
  have ha_77 := hm.2 _ ha_77
  have ha_78 := hm.2 _ ha_78
  have ha_79 := hm.2 _ ha_79
  have ha_80 := hm.2 _ ha_80
  have ha_81 := hm.2 _ ha_81
  have ha_82 := hm.2 _ ha_82
  have ha_83 := hm.2 _ ha_83
  have ha_84 := hm.2 _ ha_84
  have ha_85 := hm.2 _ ha_85
  have ha_86 := hm.2 _ ha_86
  have ha_87 := hm.2 _ ha_87
  have ha_88 := hm.2 _ ha_88
  have ha_89 := hm.2 _ ha_89
  have ha_90 := hm.2 _ ha_90
  have ha_91 := hm.2 _ ha_91
  have ha_92 := hm.2 _ ha_92
  have ha_93 := hm.2 _ ha_93
  have ha_94 := hm.2 _ ha_94
  have ha_95 := hm.2 _ ha_95
  have ha_96 := hm.2 _ ha_96
  have ha_97 := hm.2 _ ha_97
  have ha_98 := hm.2 _ ha_98
  have ha_99 := hm.2 _ ha_99
  have ha_100 := hm.2 _ ha_100
  have ha_101 := hm.2 _ ha_101
  have ha_102 := hm.2 _ ha_102
  refine lv_aload_n F.1 F.2.1 dX12_init_340 rfl (lv_at hl 0 rfl) ?_
  refine lv_bipush (v := 6) F.1 F.2.1 dX12_init_341 ib_6 ?_
  refine y_newi (k := 103) h F hP hS ac_int (by decide) (by decide) (by decide) (Nat.le_of_ble_eq_true rfl) (Nat.le_of_ble_eq_true rfl) dX12_init_343 (fun w_343 ad H hm ha_103 _ hx h hP' hS => ?_)
  have e9 := hx 63 hn_63
  try rw [← e9] at hl
  try rw [← e9]
  have hP := hP'
  have hXA : ∀ k, wA w k ≠ 0 → ad k = ad0 k := fun k hk => (hx k (hM_w.1 k hk)).trans (hXA k hk)
  have hM_w := hM_w.trans hm
  have hn_63 := hm.1 _ hn_63
  have ha_64 := hm.2 _ ha_64
  have ha_65 := hm.2 _ ha_65
  have ha_66 := hm.2 _ ha_66
  have ha_67 := hm.2 _ ha_67
  have ha_68 := hm.2 _ ha_68
  have ha_69 := hm.2 _ ha_69
  have ha_70 := hm.2 _ ha_70
  have ha_71 := hm.2 _ ha_71
  have ha_72 := hm.2 _ ha_72
  have ha_73 := hm.2 _ ha_73
  have ha_74 := hm.2 _ ha_74
  have ha_75 := hm.2 _ ha_75
  have ha_76 := hm.2 _ ha_76
  have ha_77 := hm.2 _ ha_77
  have ha_78 := hm.2 _ ha_78
  have ha_79 := hm.2 _ ha_79
  have ha_80 := hm.2 _ ha_80
  have ha_81 := hm.2 _ ha_81
  have ha_82 := hm.2 _ ha_82
  have ha_83 := hm.2 _ ha_83
  have ha_84 := hm.2 _ ha_84
  have ha_85 := hm.2 _ ha_85
  have ha_86 := hm.2 _ ha_86
  have ha_87 := hm.2 _ ha_87
  have ha_88 := hm.2 _ ha_88
  have ha_89 := hm.2 _ ha_89
  have ha_90 := hm.2 _ ha_90
  have ha_91 := hm.2 _ ha_91
  have ha_92 := hm.2 _ ha_92
  have ha_93 := hm.2 _ ha_93
  have ha_94 := hm.2 _ ha_94
  have ha_95 := hm.2 _ ha_95
  have ha_96 := hm.2 _ ha_96
  have ha_97 := hm.2 _ ha_97
  have ha_98 := hm.2 _ ha_98
  have ha_99 := hm.2 _ ha_99
  have ha_100 := hm.2 _ ha_100
  have ha_101 := hm.2 _ ha_101
  have ha_102 := hm.2 _ ha_102
  refine y_putFr h F hP hS k_63 hn_63 fl_X12_144 hin rfl rfl r_63_56 ha_103 (Or.inr ⟨_, rfl⟩) dX12_init_345 (fun w_345 H locs hm h hP hS => ?_)
  have hM_w := hM_w.trans hm
  have hn_63 := hm.1 _ hn_63
  have ha_64 := hm.2 _ ha_64
  have ha_65 := hm.2 _ ha_65
  have ha_66 := hm.2 _ ha_66
  have ha_67 := hm.2 _ ha_67
  have ha_68 := hm.2 _ ha_68
  have ha_69 := hm.2 _ ha_69
  have ha_70 := hm.2 _ ha_70
  have ha_71 := hm.2 _ ha_71
  have ha_72 := hm.2 _ ha_72
  have ha_73 := hm.2 _ ha_73
  have ha_74 := hm.2 _ ha_74
  have ha_75 := hm.2 _ ha_75
  have ha_76 := hm.2 _ ha_76
  have ha_77 := hm.2 _ ha_77
  have ha_78 := hm.2 _ ha_78
  have ha_79 := hm.2 _ ha_79
  have ha_80 := hm.2 _ ha_80
  have ha_81 := hm.2 _ ha_81
  have ha_82 := hm.2 _ ha_82
  have ha_83 := hm.2 _ ha_83
  have ha_84 := hm.2 _ ha_84
  have ha_85 := hm.2 _ ha_85
  have ha_86 := hm.2 _ ha_86
  have ha_87 := hm.2 _ ha_87
  have ha_88 := hm.2 _ ha_88
  have ha_89 := hm.2 _ ha_89
  have ha_90 := hm.2 _ ha_90
  have ha_91 := hm.2 _ ha_91
  have ha_92 := hm.2 _ ha_92
  have ha_93 := hm.2 _ ha_93
  have ha_94 := hm.2 _ ha_94
  have ha_95 := hm.2 _ ha_95
  have ha_96 := hm.2 _ ha_96
  have ha_97 := hm.2 _ ha_97
  have ha_98 := hm.2 _ ha_98
  have ha_99 := hm.2 _ ha_99
  have ha_100 := hm.2 _ ha_100
  have ha_101 := hm.2 _ ha_101
  have ha_102 := hm.2 _ ha_102
  have ha_103 := hm.2 _ ha_103
  refine lv_aload_n F.1 F.2.1 dX12_init_348 rfl (lv_at hl 0 rfl) ?_
  refine lv_bipush (v := 20) F.1 F.2.1 dX12_init_349 ib_20 ?_
  refine y_newi (k := 104) h F hP hS ac_int (by decide) (by decide) (by decide) (Nat.le_of_ble_eq_true rfl) (Nat.le_of_ble_eq_true rfl) dX12_init_351 (fun w_351 ad H hm ha_104 _ hx h hP' hS => ?_)
  have e9 := hx 63 hn_63
  try rw [← e9] at hl
  try rw [← e9]
  have hP := hP'
  have hXA : ∀ k, wA w k ≠ 0 → ad k = ad0 k := fun k hk => (hx k (hM_w.1 k hk)).trans (hXA k hk)
  have hM_w := hM_w.trans hm
  have hn_63 := hm.1 _ hn_63
  have ha_64 := hm.2 _ ha_64
  have ha_65 := hm.2 _ ha_65
  have ha_66 := hm.2 _ ha_66
  have ha_67 := hm.2 _ ha_67
  have ha_68 := hm.2 _ ha_68
  have ha_69 := hm.2 _ ha_69
  have ha_70 := hm.2 _ ha_70
  have ha_71 := hm.2 _ ha_71
  have ha_72 := hm.2 _ ha_72
  have ha_73 := hm.2 _ ha_73
  have ha_74 := hm.2 _ ha_74
  have ha_75 := hm.2 _ ha_75
  have ha_76 := hm.2 _ ha_76
  have ha_77 := hm.2 _ ha_77
  have ha_78 := hm.2 _ ha_78
  have ha_79 := hm.2 _ ha_79
  have ha_80 := hm.2 _ ha_80
  have ha_81 := hm.2 _ ha_81
  have ha_82 := hm.2 _ ha_82
  have ha_83 := hm.2 _ ha_83
  have ha_84 := hm.2 _ ha_84
  have ha_85 := hm.2 _ ha_85
  have ha_86 := hm.2 _ ha_86
  have ha_87 := hm.2 _ ha_87
  have ha_88 := hm.2 _ ha_88
  have ha_89 := hm.2 _ ha_89
  have ha_90 := hm.2 _ ha_90
  have ha_91 := hm.2 _ ha_91
  have ha_92 := hm.2 _ ha_92
  have ha_93 := hm.2 _ ha_93
  have ha_94 := hm.2 _ ha_94
  have ha_95 := hm.2 _ ha_95
  have ha_96 := hm.2 _ ha_96
  have ha_97 := hm.2 _ ha_97
  have ha_98 := hm.2 _ ha_98
  have ha_99 := hm.2 _ ha_99
  have ha_100 := hm.2 _ ha_100
  have ha_101 := hm.2 _ ha_101
  have ha_102 := hm.2 _ ha_102
  have ha_103 := hm.2 _ ha_103
  refine y_putFr h F hP hS k_63 hn_63 fl_X12_147 hin rfl rfl r_63_57 ha_104 (Or.inr ⟨_, rfl⟩) dX12_init_353 (fun w_353 H locs hm h hP hS => ?_)
  have hM_w := hM_w.trans hm
  have hn_63 := hm.1 _ hn_63
  have ha_64 := hm.2 _ ha_64
  have ha_65 := hm.2 _ ha_65
  have ha_66 := hm.2 _ ha_66
  have ha_67 := hm.2 _ ha_67
  have ha_68 := hm.2 _ ha_68
  have ha_69 := hm.2 _ ha_69
  have ha_70 := hm.2 _ ha_70
  have ha_71 := hm.2 _ ha_71
  have ha_72 := hm.2 _ ha_72
  have ha_73 := hm.2 _ ha_73
  have ha_74 := hm.2 _ ha_74
  have ha_75 := hm.2 _ ha_75
  have ha_76 := hm.2 _ ha_76
  have ha_77 := hm.2 _ ha_77
  have ha_78 := hm.2 _ ha_78
  have ha_79 := hm.2 _ ha_79
  have ha_80 := hm.2 _ ha_80
  have ha_81 := hm.2 _ ha_81
  have ha_82 := hm.2 _ ha_82
  have ha_83 := hm.2 _ ha_83
  have ha_84 := hm.2 _ ha_84
  have ha_85 := hm.2 _ ha_85
  have ha_86 := hm.2 _ ha_86
  have ha_87 := hm.2 _ ha_87
  have ha_88 := hm.2 _ ha_88
  have ha_89 := hm.2 _ ha_89
  have ha_90 := hm.2 _ ha_90
  have ha_91 := hm.2 _ ha_91
  have ha_92 := hm.2 _ ha_92
  have ha_93 := hm.2 _ ha_93
  have ha_94 := hm.2 _ ha_94
  have ha_95 := hm.2 _ ha_95
  have ha_96 := hm.2 _ ha_96
  have ha_97 := hm.2 _ ha_97
  have ha_98 := hm.2 _ ha_98
  have ha_99 := hm.2 _ ha_99
  have ha_100 := hm.2 _ ha_100
  have ha_101 := hm.2 _ ha_101
  have ha_102 := hm.2 _ ha_102
  have ha_103 := hm.2 _ ha_103
  have ha_104 := hm.2 _ ha_104
  refine lv_aload_n F.1 F.2.1 dX12_init_356 rfl (lv_at hl 0 rfl) ?_
  refine lv_bipush (v := 20) F.1 F.2.1 dX12_init_357 ib_20 ?_
  refine y_newz (k := 105) h F hP hS ac_boolean (by decide) (by decide) (by decide) (Nat.le_of_ble_eq_true rfl) (Nat.le_of_ble_eq_true rfl) dX12_init_359 (fun w_359 ad H hm ha_105 _ hx h hP' hS => ?_)
  have e9 := hx 63 hn_63
  try rw [← e9] at hl
  try rw [← e9]
  have hP := hP'
  have hXA : ∀ k, wA w k ≠ 0 → ad k = ad0 k := fun k hk => (hx k (hM_w.1 k hk)).trans (hXA k hk)
  have hM_w := hM_w.trans hm
  have hn_63 := hm.1 _ hn_63
  have ha_64 := hm.2 _ ha_64
  have ha_65 := hm.2 _ ha_65
  have ha_66 := hm.2 _ ha_66
  have ha_67 := hm.2 _ ha_67
  have ha_68 := hm.2 _ ha_68
  have ha_69 := hm.2 _ ha_69
  have ha_70 := hm.2 _ ha_70
  have ha_71 := hm.2 _ ha_71
  have ha_72 := hm.2 _ ha_72
  have ha_73 := hm.2 _ ha_73
  have ha_74 := hm.2 _ ha_74
  have ha_75 := hm.2 _ ha_75
  have ha_76 := hm.2 _ ha_76
  have ha_77 := hm.2 _ ha_77
  have ha_78 := hm.2 _ ha_78
  have ha_79 := hm.2 _ ha_79
  have ha_80 := hm.2 _ ha_80
  have ha_81 := hm.2 _ ha_81
  have ha_82 := hm.2 _ ha_82
  have ha_83 := hm.2 _ ha_83
  have ha_84 := hm.2 _ ha_84
  have ha_85 := hm.2 _ ha_85
  have ha_86 := hm.2 _ ha_86
  have ha_87 := hm.2 _ ha_87
  have ha_88 := hm.2 _ ha_88
  have ha_89 := hm.2 _ ha_89
  have ha_90 := hm.2 _ ha_90
  have ha_91 := hm.2 _ ha_91
  have ha_92 := hm.2 _ ha_92
  have ha_93 := hm.2 _ ha_93
  have ha_94 := hm.2 _ ha_94
  have ha_95 := hm.2 _ ha_95
  have ha_96 := hm.2 _ ha_96
  have ha_97 := hm.2 _ ha_97
  have ha_98 := hm.2 _ ha_98
  have ha_99 := hm.2 _ ha_99
  have ha_100 := hm.2 _ ha_100
  have ha_101 := hm.2 _ ha_101
  have ha_102 := hm.2 _ ha_102
  have ha_103 := hm.2 _ ha_103
  have ha_104 := hm.2 _ ha_104
  refine y_putFr h F hP hS k_63 hn_63 fl_X12_150 hin rfl rfl r_63_58 ha_105 (Or.inr ⟨_, rfl⟩) dX12_init_361 (fun w_361 H locs hm h hP hS => ?_)
  have hM_w := hM_w.trans hm
  have hn_63 := hm.1 _ hn_63
  have ha_64 := hm.2 _ ha_64
  have ha_65 := hm.2 _ ha_65
  have ha_66 := hm.2 _ ha_66
  have ha_67 := hm.2 _ ha_67
  have ha_68 := hm.2 _ ha_68
  have ha_69 := hm.2 _ ha_69
  have ha_70 := hm.2 _ ha_70
  have ha_71 := hm.2 _ ha_71
  have ha_72 := hm.2 _ ha_72
  have ha_73 := hm.2 _ ha_73
  have ha_74 := hm.2 _ ha_74
  have ha_75 := hm.2 _ ha_75
  have ha_76 := hm.2 _ ha_76
  have ha_77 := hm.2 _ ha_77
  have ha_78 := hm.2 _ ha_78
  have ha_79 := hm.2 _ ha_79
  have ha_80 := hm.2 _ ha_80
  have ha_81 := hm.2 _ ha_81
  have ha_82 := hm.2 _ ha_82
  have ha_83 := hm.2 _ ha_83
  have ha_84 := hm.2 _ ha_84
  have ha_85 := hm.2 _ ha_85
  have ha_86 := hm.2 _ ha_86
  have ha_87 := hm.2 _ ha_87
  have ha_88 := hm.2 _ ha_88
  have ha_89 := hm.2 _ ha_89
  have ha_90 := hm.2 _ ha_90
  have ha_91 := hm.2 _ ha_91
  have ha_92 := hm.2 _ ha_92
  have ha_93 := hm.2 _ ha_93
  have ha_94 := hm.2 _ ha_94
  have ha_95 := hm.2 _ ha_95
  have ha_96 := hm.2 _ ha_96
  have ha_97 := hm.2 _ ha_97
  have ha_98 := hm.2 _ ha_98
  have ha_99 := hm.2 _ ha_99
  have ha_100 := hm.2 _ ha_100
  have ha_101 := hm.2 _ ha_101
  have ha_102 := hm.2 _ ha_102
  have ha_103 := hm.2 _ ha_103
  have ha_104 := hm.2 _ ha_104
  have ha_105 := hm.2 _ ha_105
  refine lv_aload_n F.1 F.2.1 dX12_init_364 rfl (lv_at hl 0 rfl) ?_
  refine lv_iconst (v := 4) F.1 F.2.1 dX12_init_365 ic_4 ?_
  refine y_newi (k := 106) h F hP hS ac_int (by decide) (by decide) (by decide) (Nat.le_of_ble_eq_true rfl) (Nat.le_of_ble_eq_true rfl) dX12_init_366 (fun w_366 ad H hm ha_106 _ hx h hP' hS => ?_)
  have e9 := hx 63 hn_63
  try rw [← e9] at hl
  try rw [← e9]
  have hP := hP'
  have hXA : ∀ k, wA w k ≠ 0 → ad k = ad0 k := fun k hk => (hx k (hM_w.1 k hk)).trans (hXA k hk)
  have hM_w := hM_w.trans hm
  have hn_63 := hm.1 _ hn_63
  have ha_64 := hm.2 _ ha_64
  have ha_65 := hm.2 _ ha_65
  have ha_66 := hm.2 _ ha_66
  have ha_67 := hm.2 _ ha_67
  have ha_68 := hm.2 _ ha_68
  have ha_69 := hm.2 _ ha_69
  have ha_70 := hm.2 _ ha_70
  have ha_71 := hm.2 _ ha_71
  have ha_72 := hm.2 _ ha_72
  have ha_73 := hm.2 _ ha_73
  have ha_74 := hm.2 _ ha_74
  have ha_75 := hm.2 _ ha_75
  have ha_76 := hm.2 _ ha_76
  have ha_77 := hm.2 _ ha_77
  have ha_78 := hm.2 _ ha_78
  have ha_79 := hm.2 _ ha_79
  have ha_80 := hm.2 _ ha_80
  have ha_81 := hm.2 _ ha_81
  have ha_82 := hm.2 _ ha_82
  have ha_83 := hm.2 _ ha_83
  have ha_84 := hm.2 _ ha_84
  have ha_85 := hm.2 _ ha_85
  have ha_86 := hm.2 _ ha_86
  have ha_87 := hm.2 _ ha_87
  have ha_88 := hm.2 _ ha_88
  have ha_89 := hm.2 _ ha_89
  have ha_90 := hm.2 _ ha_90
  have ha_91 := hm.2 _ ha_91
  have ha_92 := hm.2 _ ha_92
  have ha_93 := hm.2 _ ha_93
  have ha_94 := hm.2 _ ha_94
  have ha_95 := hm.2 _ ha_95
  have ha_96 := hm.2 _ ha_96
  have ha_97 := hm.2 _ ha_97
  have ha_98 := hm.2 _ ha_98
  have ha_99 := hm.2 _ ha_99
  have ha_100 := hm.2 _ ha_100
  have ha_101 := hm.2 _ ha_101
  have ha_102 := hm.2 _ ha_102
  have ha_103 := hm.2 _ ha_103
  have ha_104 := hm.2 _ ha_104
  have ha_105 := hm.2 _ ha_105
  refine y_putFr h F hP hS k_63 hn_63 fl_X12_153 hin rfl rfl r_63_60 ha_106 (Or.inr ⟨_, rfl⟩) dX12_init_368 (fun w_368 H locs hm h hP hS => ?_)
  have hM_w := hM_w.trans hm
  have hn_63 := hm.1 _ hn_63
  have ha_64 := hm.2 _ ha_64
  have ha_65 := hm.2 _ ha_65
  have ha_66 := hm.2 _ ha_66
  have ha_67 := hm.2 _ ha_67
  have ha_68 := hm.2 _ ha_68
  have ha_69 := hm.2 _ ha_69
  have ha_70 := hm.2 _ ha_70
  have ha_71 := hm.2 _ ha_71
  have ha_72 := hm.2 _ ha_72
  have ha_73 := hm.2 _ ha_73
  have ha_74 := hm.2 _ ha_74
  have ha_75 := hm.2 _ ha_75
  have ha_76 := hm.2 _ ha_76
  have ha_77 := hm.2 _ ha_77
  have ha_78 := hm.2 _ ha_78
  have ha_79 := hm.2 _ ha_79
  have ha_80 := hm.2 _ ha_80
  have ha_81 := hm.2 _ ha_81
  have ha_82 := hm.2 _ ha_82
  have ha_83 := hm.2 _ ha_83
  have ha_84 := hm.2 _ ha_84
  have ha_85 := hm.2 _ ha_85
  have ha_86 := hm.2 _ ha_86
  have ha_87 := hm.2 _ ha_87
  have ha_88 := hm.2 _ ha_88
  have ha_89 := hm.2 _ ha_89
  have ha_90 := hm.2 _ ha_90
  have ha_91 := hm.2 _ ha_91
  have ha_92 := hm.2 _ ha_92
  have ha_93 := hm.2 _ ha_93
  have ha_94 := hm.2 _ ha_94
  have ha_95 := hm.2 _ ha_95
  have ha_96 := hm.2 _ ha_96
  have ha_97 := hm.2 _ ha_97
  have ha_98 := hm.2 _ ha_98
  have ha_99 := hm.2 _ ha_99
  have ha_100 := hm.2 _ ha_100
  have ha_101 := hm.2 _ ha_101
  have ha_102 := hm.2 _ ha_102
  have ha_103 := hm.2 _ ha_103
  have ha_104 := hm.2 _ ha_104
  have ha_105 := hm.2 _ ha_105
  have ha_106 := hm.2 _ ha_106
  refine lv_aload_n F.1 F.2.1 dX12_init_371 rfl (lv_at hl 0 rfl) ?_
  refine lv_iconst (v := 4) F.1 F.2.1 dX12_init_372 ic_4 ?_
  refine y_newi (k := 107) h F hP hS ac_int (by decide) (by decide) (by decide) (Nat.le_of_ble_eq_true rfl) (Nat.le_of_ble_eq_true rfl) dX12_init_373 (fun w_373 ad H hm ha_107 _ hx h hP' hS => ?_)
  have e9 := hx 63 hn_63
  try rw [← e9] at hl
  try rw [← e9]
  have hP := hP'
  have hXA : ∀ k, wA w k ≠ 0 → ad k = ad0 k := fun k hk => (hx k (hM_w.1 k hk)).trans (hXA k hk)
  have hM_w := hM_w.trans hm
  have hn_63 := hm.1 _ hn_63
  have ha_64 := hm.2 _ ha_64
  have ha_65 := hm.2 _ ha_65
  have ha_66 := hm.2 _ ha_66
  have ha_67 := hm.2 _ ha_67
  have ha_68 := hm.2 _ ha_68
  have ha_69 := hm.2 _ ha_69
  have ha_70 := hm.2 _ ha_70
  have ha_71 := hm.2 _ ha_71
  have ha_72 := hm.2 _ ha_72
  have ha_73 := hm.2 _ ha_73
  have ha_74 := hm.2 _ ha_74
  have ha_75 := hm.2 _ ha_75
  have ha_76 := hm.2 _ ha_76
  have ha_77 := hm.2 _ ha_77
  have ha_78 := hm.2 _ ha_78
  have ha_79 := hm.2 _ ha_79
  have ha_80 := hm.2 _ ha_80
  have ha_81 := hm.2 _ ha_81
  have ha_82 := hm.2 _ ha_82
  have ha_83 := hm.2 _ ha_83
  have ha_84 := hm.2 _ ha_84
  have ha_85 := hm.2 _ ha_85
  have ha_86 := hm.2 _ ha_86
  have ha_87 := hm.2 _ ha_87
  have ha_88 := hm.2 _ ha_88
  have ha_89 := hm.2 _ ha_89
  have ha_90 := hm.2 _ ha_90
  have ha_91 := hm.2 _ ha_91
  have ha_92 := hm.2 _ ha_92
  have ha_93 := hm.2 _ ha_93
  have ha_94 := hm.2 _ ha_94
  have ha_95 := hm.2 _ ha_95
  have ha_96 := hm.2 _ ha_96
  have ha_97 := hm.2 _ ha_97
  have ha_98 := hm.2 _ ha_98
  have ha_99 := hm.2 _ ha_99
  have ha_100 := hm.2 _ ha_100
  have ha_101 := hm.2 _ ha_101
  have ha_102 := hm.2 _ ha_102
  have ha_103 := hm.2 _ ha_103
  have ha_104 := hm.2 _ ha_104
  have ha_105 := hm.2 _ ha_105
  have ha_106 := hm.2 _ ha_106
  refine y_putFr h F hP hS k_63 hn_63 fl_X12_156 hin rfl rfl r_63_61 ha_107 (Or.inr ⟨_, rfl⟩) dX12_init_375 (fun w_375 H locs hm h hP hS => ?_)
  have hM_w := hM_w.trans hm
  have hn_63 := hm.1 _ hn_63
  have ha_64 := hm.2 _ ha_64
  have ha_65 := hm.2 _ ha_65
  have ha_66 := hm.2 _ ha_66
  have ha_67 := hm.2 _ ha_67
  have ha_68 := hm.2 _ ha_68
  have ha_69 := hm.2 _ ha_69
  have ha_70 := hm.2 _ ha_70
  have ha_71 := hm.2 _ ha_71
  have ha_72 := hm.2 _ ha_72
  have ha_73 := hm.2 _ ha_73
  have ha_74 := hm.2 _ ha_74
  have ha_75 := hm.2 _ ha_75
  have ha_76 := hm.2 _ ha_76
  have ha_77 := hm.2 _ ha_77
  have ha_78 := hm.2 _ ha_78
  have ha_79 := hm.2 _ ha_79
  have ha_80 := hm.2 _ ha_80
  have ha_81 := hm.2 _ ha_81
  have ha_82 := hm.2 _ ha_82
  have ha_83 := hm.2 _ ha_83
  have ha_84 := hm.2 _ ha_84
  have ha_85 := hm.2 _ ha_85
  have ha_86 := hm.2 _ ha_86
  have ha_87 := hm.2 _ ha_87
  have ha_88 := hm.2 _ ha_88
  have ha_89 := hm.2 _ ha_89
  have ha_90 := hm.2 _ ha_90
  have ha_91 := hm.2 _ ha_91
  have ha_92 := hm.2 _ ha_92
  have ha_93 := hm.2 _ ha_93
  have ha_94 := hm.2 _ ha_94
  have ha_95 := hm.2 _ ha_95
  have ha_96 := hm.2 _ ha_96
  have ha_97 := hm.2 _ ha_97
  have ha_98 := hm.2 _ ha_98
  have ha_99 := hm.2 _ ha_99
  have ha_100 := hm.2 _ ha_100
  have ha_101 := hm.2 _ ha_101
  have ha_102 := hm.2 _ ha_102
  have ha_103 := hm.2 _ ha_103
  have ha_104 := hm.2 _ ha_104
  have ha_105 := hm.2 _ ha_105
  have ha_106 := hm.2 _ ha_106
  have ha_107 := hm.2 _ ha_107
  refine lv_aload_n F.1 F.2.1 dX12_init_378 rfl (lv_at hl 0 rfl) ?_
  refine lv_iconst (v := 4) F.1 F.2.1 dX12_init_379 ic_4 ?_
  refine y_newi (k := 108) h F hP hS ac_int (by decide) (by decide) (by decide) (Nat.le_of_ble_eq_true rfl) (Nat.le_of_ble_eq_true rfl) dX12_init_380 (fun w_380 ad H hm ha_108 _ hx h hP' hS => ?_)
  have e9 := hx 63 hn_63
  try rw [← e9] at hl
  try rw [← e9]
  have hP := hP'
  have hXA : ∀ k, wA w k ≠ 0 → ad k = ad0 k := fun k hk => (hx k (hM_w.1 k hk)).trans (hXA k hk)
  have hM_w := hM_w.trans hm
  have hn_63 := hm.1 _ hn_63
  have ha_64 := hm.2 _ ha_64
  have ha_65 := hm.2 _ ha_65
  have ha_66 := hm.2 _ ha_66
  have ha_67 := hm.2 _ ha_67
  have ha_68 := hm.2 _ ha_68
  have ha_69 := hm.2 _ ha_69
  have ha_70 := hm.2 _ ha_70
  have ha_71 := hm.2 _ ha_71
  have ha_72 := hm.2 _ ha_72
  have ha_73 := hm.2 _ ha_73
  have ha_74 := hm.2 _ ha_74
  have ha_75 := hm.2 _ ha_75
  have ha_76 := hm.2 _ ha_76
  have ha_77 := hm.2 _ ha_77
  have ha_78 := hm.2 _ ha_78
  have ha_79 := hm.2 _ ha_79
  have ha_80 := hm.2 _ ha_80
  have ha_81 := hm.2 _ ha_81
  have ha_82 := hm.2 _ ha_82
  have ha_83 := hm.2 _ ha_83
  have ha_84 := hm.2 _ ha_84
  have ha_85 := hm.2 _ ha_85
  have ha_86 := hm.2 _ ha_86
  have ha_87 := hm.2 _ ha_87
  have ha_88 := hm.2 _ ha_88
  have ha_89 := hm.2 _ ha_89
  have ha_90 := hm.2 _ ha_90
  have ha_91 := hm.2 _ ha_91
  have ha_92 := hm.2 _ ha_92
  have ha_93 := hm.2 _ ha_93
  have ha_94 := hm.2 _ ha_94
  have ha_95 := hm.2 _ ha_95
  have ha_96 := hm.2 _ ha_96
  have ha_97 := hm.2 _ ha_97
  have ha_98 := hm.2 _ ha_98
  have ha_99 := hm.2 _ ha_99
  have ha_100 := hm.2 _ ha_100
  have ha_101 := hm.2 _ ha_101
  have ha_102 := hm.2 _ ha_102
  have ha_103 := hm.2 _ ha_103
  have ha_104 := hm.2 _ ha_104
  have ha_105 := hm.2 _ ha_105
  have ha_106 := hm.2 _ ha_106
  have ha_107 := hm.2 _ ha_107
  refine y_putFr h F hP hS k_63 hn_63 fl_X12_159 hin rfl rfl r_63_62 ha_108 (Or.inr ⟨_, rfl⟩) dX12_init_382 (fun w_382 H locs hm h hP hS => ?_)
  have hM_w := hM_w.trans hm
  have hn_63 := hm.1 _ hn_63
  have ha_64 := hm.2 _ ha_64
  have ha_65 := hm.2 _ ha_65
  have ha_66 := hm.2 _ ha_66
  have ha_67 := hm.2 _ ha_67
  have ha_68 := hm.2 _ ha_68
  have ha_69 := hm.2 _ ha_69
  have ha_70 := hm.2 _ ha_70
  have ha_71 := hm.2 _ ha_71
  have ha_72 := hm.2 _ ha_72
  have ha_73 := hm.2 _ ha_73
  have ha_74 := hm.2 _ ha_74
  have ha_75 := hm.2 _ ha_75
  have ha_76 := hm.2 _ ha_76
  have ha_77 := hm.2 _ ha_77
  have ha_78 := hm.2 _ ha_78
  have ha_79 := hm.2 _ ha_79
  have ha_80 := hm.2 _ ha_80
  have ha_81 := hm.2 _ ha_81
  have ha_82 := hm.2 _ ha_82
  have ha_83 := hm.2 _ ha_83
  have ha_84 := hm.2 _ ha_84
  have ha_85 := hm.2 _ ha_85
  have ha_86 := hm.2 _ ha_86
  have ha_87 := hm.2 _ ha_87
  have ha_88 := hm.2 _ ha_88
  have ha_89 := hm.2 _ ha_89
  have ha_90 := hm.2 _ ha_90
  have ha_91 := hm.2 _ ha_91
  have ha_92 := hm.2 _ ha_92
  have ha_93 := hm.2 _ ha_93
  have ha_94 := hm.2 _ ha_94
  have ha_95 := hm.2 _ ha_95
  have ha_96 := hm.2 _ ha_96
  have ha_97 := hm.2 _ ha_97
  have ha_98 := hm.2 _ ha_98
  have ha_99 := hm.2 _ ha_99
  have ha_100 := hm.2 _ ha_100
  have ha_101 := hm.2 _ ha_101
  have ha_102 := hm.2 _ ha_102
  have ha_103 := hm.2 _ ha_103
  have ha_104 := hm.2 _ ha_104
  have ha_105 := hm.2 _ ha_105
  have ha_106 := hm.2 _ ha_106
  have ha_107 := hm.2 _ ha_107
  have ha_108 := hm.2 _ ha_108
  refine lv_aload_n F.1 F.2.1 dX12_init_385 rfl (lv_at hl 0 rfl) ?_
  refine lv_iconst (v := 4) F.1 F.2.1 dX12_init_386 ic_4 ?_
  refine y_newi (k := 109) h F hP hS ac_int (by decide) (by decide) (by decide) (Nat.le_of_ble_eq_true rfl) (Nat.le_of_ble_eq_true rfl) dX12_init_387 (fun w_387 ad H hm ha_109 _ hx h hP' hS => ?_)
  have e9 := hx 63 hn_63
  try rw [← e9] at hl
  try rw [← e9]
  have hP := hP'
  have hXA : ∀ k, wA w k ≠ 0 → ad k = ad0 k := fun k hk => (hx k (hM_w.1 k hk)).trans (hXA k hk)
  have hM_w := hM_w.trans hm
  have hn_63 := hm.1 _ hn_63
  have ha_64 := hm.2 _ ha_64
  have ha_65 := hm.2 _ ha_65
  have ha_66 := hm.2 _ ha_66
  have ha_67 := hm.2 _ ha_67
  have ha_68 := hm.2 _ ha_68
  have ha_69 := hm.2 _ ha_69
  have ha_70 := hm.2 _ ha_70
  have ha_71 := hm.2 _ ha_71
  have ha_72 := hm.2 _ ha_72
  have ha_73 := hm.2 _ ha_73
  have ha_74 := hm.2 _ ha_74
  have ha_75 := hm.2 _ ha_75
  have ha_76 := hm.2 _ ha_76
  have ha_77 := hm.2 _ ha_77
  have ha_78 := hm.2 _ ha_78
  have ha_79 := hm.2 _ ha_79
  have ha_80 := hm.2 _ ha_80
  have ha_81 := hm.2 _ ha_81
  have ha_82 := hm.2 _ ha_82
  have ha_83 := hm.2 _ ha_83
  have ha_84 := hm.2 _ ha_84
  have ha_85 := hm.2 _ ha_85
  have ha_86 := hm.2 _ ha_86
  have ha_87 := hm.2 _ ha_87
  have ha_88 := hm.2 _ ha_88
  have ha_89 := hm.2 _ ha_89
  have ha_90 := hm.2 _ ha_90
  have ha_91 := hm.2 _ ha_91
  have ha_92 := hm.2 _ ha_92
  have ha_93 := hm.2 _ ha_93
  have ha_94 := hm.2 _ ha_94
  have ha_95 := hm.2 _ ha_95
  have ha_96 := hm.2 _ ha_96
  have ha_97 := hm.2 _ ha_97
  have ha_98 := hm.2 _ ha_98
  have ha_99 := hm.2 _ ha_99
  have ha_100 := hm.2 _ ha_100
  have ha_101 := hm.2 _ ha_101
  have ha_102 := hm.2 _ ha_102
  have ha_103 := hm.2 _ ha_103
  have ha_104 := hm.2 _ ha_104
  have ha_105 := hm.2 _ ha_105
  have ha_106 := hm.2 _ ha_106
  have ha_107 := hm.2 _ ha_107
  have ha_108 := hm.2 _ ha_108
  refine y_putFr h F hP hS k_63 hn_63 fl_X12_162 hin rfl rfl r_63_63 ha_109 (Or.inr ⟨_, rfl⟩) dX12_init_389 (fun w_389 H locs hm h hP hS => ?_)
  have hM_w := hM_w.trans hm
  have hn_63 := hm.1 _ hn_63
  have ha_64 := hm.2 _ ha_64
  have ha_65 := hm.2 _ ha_65
  have ha_66 := hm.2 _ ha_66
  have ha_67 := hm.2 _ ha_67
  have ha_68 := hm.2 _ ha_68
  have ha_69 := hm.2 _ ha_69
  have ha_70 := hm.2 _ ha_70
  have ha_71 := hm.2 _ ha_71
  have ha_72 := hm.2 _ ha_72
  have ha_73 := hm.2 _ ha_73
  have ha_74 := hm.2 _ ha_74
  have ha_75 := hm.2 _ ha_75
  have ha_76 := hm.2 _ ha_76
  have ha_77 := hm.2 _ ha_77
  have ha_78 := hm.2 _ ha_78
  have ha_79 := hm.2 _ ha_79
  have ha_80 := hm.2 _ ha_80
  have ha_81 := hm.2 _ ha_81
  have ha_82 := hm.2 _ ha_82
  have ha_83 := hm.2 _ ha_83
  have ha_84 := hm.2 _ ha_84
  have ha_85 := hm.2 _ ha_85
  have ha_86 := hm.2 _ ha_86
  have ha_87 := hm.2 _ ha_87
  have ha_88 := hm.2 _ ha_88
  have ha_89 := hm.2 _ ha_89
  have ha_90 := hm.2 _ ha_90
  have ha_91 := hm.2 _ ha_91
  have ha_92 := hm.2 _ ha_92
  have ha_93 := hm.2 _ ha_93
  have ha_94 := hm.2 _ ha_94
  have ha_95 := hm.2 _ ha_95
  have ha_96 := hm.2 _ ha_96
  have ha_97 := hm.2 _ ha_97
  have ha_98 := hm.2 _ ha_98
  have ha_99 := hm.2 _ ha_99
  have ha_100 := hm.2 _ ha_100
  have ha_101 := hm.2 _ ha_101
  have ha_102 := hm.2 _ ha_102
  have ha_103 := hm.2 _ ha_103
  have ha_104 := hm.2 _ ha_104
  have ha_105 := hm.2 _ ha_105
  have ha_106 := hm.2 _ ha_106
  have ha_107 := hm.2 _ ha_107
  have ha_108 := hm.2 _ ha_108
  have ha_109 := hm.2 _ ha_109
  refine lv_aload_n F.1 F.2.1 dX12_init_392 rfl (lv_at hl 0 rfl) ?_
  refine lv_iconst (v := 4) F.1 F.2.1 dX12_init_393 ic_4 ?_
  refine y_newi (k := 110) h F hP hS ac_int (by decide) (by decide) (by decide) (Nat.le_of_ble_eq_true rfl) (Nat.le_of_ble_eq_true rfl) dX12_init_394 (fun w_394 ad H hm ha_110 _ hx h hP' hS => ?_)
  have e9 := hx 63 hn_63
  try rw [← e9] at hl
  try rw [← e9]
  have hP := hP'
  have hXA : ∀ k, wA w k ≠ 0 → ad k = ad0 k := fun k hk => (hx k (hM_w.1 k hk)).trans (hXA k hk)
  have hM_w := hM_w.trans hm
  have hn_63 := hm.1 _ hn_63
  have ha_64 := hm.2 _ ha_64
  have ha_65 := hm.2 _ ha_65
  have ha_66 := hm.2 _ ha_66
  have ha_67 := hm.2 _ ha_67
  have ha_68 := hm.2 _ ha_68
  have ha_69 := hm.2 _ ha_69
  have ha_70 := hm.2 _ ha_70
  have ha_71 := hm.2 _ ha_71
  have ha_72 := hm.2 _ ha_72
  have ha_73 := hm.2 _ ha_73
  have ha_74 := hm.2 _ ha_74
  have ha_75 := hm.2 _ ha_75
  have ha_76 := hm.2 _ ha_76
  have ha_77 := hm.2 _ ha_77
  have ha_78 := hm.2 _ ha_78
  have ha_79 := hm.2 _ ha_79
  have ha_80 := hm.2 _ ha_80
  have ha_81 := hm.2 _ ha_81
  have ha_82 := hm.2 _ ha_82
  have ha_83 := hm.2 _ ha_83
  have ha_84 := hm.2 _ ha_84
  have ha_85 := hm.2 _ ha_85
  have ha_86 := hm.2 _ ha_86
  have ha_87 := hm.2 _ ha_87
  have ha_88 := hm.2 _ ha_88
  have ha_89 := hm.2 _ ha_89
  have ha_90 := hm.2 _ ha_90
  have ha_91 := hm.2 _ ha_91
  have ha_92 := hm.2 _ ha_92
  have ha_93 := hm.2 _ ha_93
  have ha_94 := hm.2 _ ha_94
  have ha_95 := hm.2 _ ha_95
  have ha_96 := hm.2 _ ha_96
  have ha_97 := hm.2 _ ha_97
  have ha_98 := hm.2 _ ha_98
  have ha_99 := hm.2 _ ha_99
  have ha_100 := hm.2 _ ha_100
  have ha_101 := hm.2 _ ha_101
  have ha_102 := hm.2 _ ha_102
  have ha_103 := hm.2 _ ha_103
  have ha_104 := hm.2 _ ha_104
  have ha_105 := hm.2 _ ha_105
  have ha_106 := hm.2 _ ha_106
  have ha_107 := hm.2 _ ha_107
  have ha_108 := hm.2 _ ha_108
  have ha_109 := hm.2 _ ha_109
  refine y_putFr h F hP hS k_63 hn_63 fl_X12_165 hin rfl rfl r_63_64 ha_110 (Or.inr ⟨_, rfl⟩) dX12_init_396 (fun w_396 H locs hm h hP hS => ?_)
  have hM_w := hM_w.trans hm
  have hn_63 := hm.1 _ hn_63
  have ha_64 := hm.2 _ ha_64
  have ha_65 := hm.2 _ ha_65
  have ha_66 := hm.2 _ ha_66
  have ha_67 := hm.2 _ ha_67
  have ha_68 := hm.2 _ ha_68
  have ha_69 := hm.2 _ ha_69
  have ha_70 := hm.2 _ ha_70
  have ha_71 := hm.2 _ ha_71
  have ha_72 := hm.2 _ ha_72
  have ha_73 := hm.2 _ ha_73
  have ha_74 := hm.2 _ ha_74
  have ha_75 := hm.2 _ ha_75
  have ha_76 := hm.2 _ ha_76
  have ha_77 := hm.2 _ ha_77
  have ha_78 := hm.2 _ ha_78
  have ha_79 := hm.2 _ ha_79
  have ha_80 := hm.2 _ ha_80
  have ha_81 := hm.2 _ ha_81
  have ha_82 := hm.2 _ ha_82
  have ha_83 := hm.2 _ ha_83
  have ha_84 := hm.2 _ ha_84
  have ha_85 := hm.2 _ ha_85
  have ha_86 := hm.2 _ ha_86
  have ha_87 := hm.2 _ ha_87
  have ha_88 := hm.2 _ ha_88
  have ha_89 := hm.2 _ ha_89
  have ha_90 := hm.2 _ ha_90
  have ha_91 := hm.2 _ ha_91
  have ha_92 := hm.2 _ ha_92
  have ha_93 := hm.2 _ ha_93
  have ha_94 := hm.2 _ ha_94
  have ha_95 := hm.2 _ ha_95
  have ha_96 := hm.2 _ ha_96
  have ha_97 := hm.2 _ ha_97
  have ha_98 := hm.2 _ ha_98
  have ha_99 := hm.2 _ ha_99
  have ha_100 := hm.2 _ ha_100
  have ha_101 := hm.2 _ ha_101
  have ha_102 := hm.2 _ ha_102
  have ha_103 := hm.2 _ ha_103
  have ha_104 := hm.2 _ ha_104
  have ha_105 := hm.2 _ ha_105
  have ha_106 := hm.2 _ ha_106
  have ha_107 := hm.2 _ ha_107
  have ha_108 := hm.2 _ ha_108
  have ha_109 := hm.2 _ ha_109
  have ha_110 := hm.2 _ ha_110
  refine lv_aload_n F.1 F.2.1 dX12_init_399 rfl (lv_at hl 0 rfl) ?_
  refine lv_iconst (v := 4) F.1 F.2.1 dX12_init_400 ic_4 ?_
  refine y_newi (k := 111) h F hP hS ac_int (by decide) (by decide) (by decide) (Nat.le_of_ble_eq_true rfl) (Nat.le_of_ble_eq_true rfl) dX12_init_401 (fun w_401 ad H hm ha_111 _ hx h hP' hS => ?_)
  have e9 := hx 63 hn_63
  try rw [← e9] at hl
  try rw [← e9]
  have hP := hP'
  have hXA : ∀ k, wA w k ≠ 0 → ad k = ad0 k := fun k hk => (hx k (hM_w.1 k hk)).trans (hXA k hk)
  have hM_w := hM_w.trans hm
  have hn_63 := hm.1 _ hn_63
  have ha_64 := hm.2 _ ha_64
  have ha_65 := hm.2 _ ha_65
  have ha_66 := hm.2 _ ha_66
  have ha_67 := hm.2 _ ha_67
  have ha_68 := hm.2 _ ha_68
  have ha_69 := hm.2 _ ha_69
  have ha_70 := hm.2 _ ha_70
  have ha_71 := hm.2 _ ha_71
  have ha_72 := hm.2 _ ha_72
  have ha_73 := hm.2 _ ha_73
  have ha_74 := hm.2 _ ha_74
  have ha_75 := hm.2 _ ha_75
  have ha_76 := hm.2 _ ha_76
  have ha_77 := hm.2 _ ha_77
  have ha_78 := hm.2 _ ha_78
  have ha_79 := hm.2 _ ha_79
  have ha_80 := hm.2 _ ha_80
  have ha_81 := hm.2 _ ha_81
  have ha_82 := hm.2 _ ha_82
  have ha_83 := hm.2 _ ha_83
  have ha_84 := hm.2 _ ha_84
  have ha_85 := hm.2 _ ha_85
  have ha_86 := hm.2 _ ha_86
  have ha_87 := hm.2 _ ha_87
  have ha_88 := hm.2 _ ha_88
  have ha_89 := hm.2 _ ha_89
  have ha_90 := hm.2 _ ha_90
  have ha_91 := hm.2 _ ha_91
  have ha_92 := hm.2 _ ha_92
  have ha_93 := hm.2 _ ha_93
  have ha_94 := hm.2 _ ha_94
  have ha_95 := hm.2 _ ha_95
  have ha_96 := hm.2 _ ha_96
  have ha_97 := hm.2 _ ha_97
  have ha_98 := hm.2 _ ha_98
  have ha_99 := hm.2 _ ha_99
  have ha_100 := hm.2 _ ha_100
  have ha_101 := hm.2 _ ha_101
  have ha_102 := hm.2 _ ha_102
  have ha_103 := hm.2 _ ha_103
  have ha_104 := hm.2 _ ha_104
  have ha_105 := hm.2 _ ha_105
  have ha_106 := hm.2 _ ha_106
  have ha_107 := hm.2 _ ha_107
  have ha_108 := hm.2 _ ha_108
  have ha_109 := hm.2 _ ha_109
  have ha_110 := hm.2 _ ha_110
  refine y_putFr h F hP hS k_63 hn_63 fl_X12_168 hin rfl rfl r_63_65 ha_111 (Or.inr ⟨_, rfl⟩) dX12_init_403 (fun w_403 H locs hm h hP hS => ?_)
  have hM_w := hM_w.trans hm
  have hn_63 := hm.1 _ hn_63
  have ha_64 := hm.2 _ ha_64
  have ha_65 := hm.2 _ ha_65
  have ha_66 := hm.2 _ ha_66
  have ha_67 := hm.2 _ ha_67
  have ha_68 := hm.2 _ ha_68
  have ha_69 := hm.2 _ ha_69
  have ha_70 := hm.2 _ ha_70
  have ha_71 := hm.2 _ ha_71
  have ha_72 := hm.2 _ ha_72
  have ha_73 := hm.2 _ ha_73
  have ha_74 := hm.2 _ ha_74
  have ha_75 := hm.2 _ ha_75
  have ha_76 := hm.2 _ ha_76
  have ha_77 := hm.2 _ ha_77
  have ha_78 := hm.2 _ ha_78
  have ha_79 := hm.2 _ ha_79
  have ha_80 := hm.2 _ ha_80
  have ha_81 := hm.2 _ ha_81
  have ha_82 := hm.2 _ ha_82
  have ha_83 := hm.2 _ ha_83
  have ha_84 := hm.2 _ ha_84
  have ha_85 := hm.2 _ ha_85
  have ha_86 := hm.2 _ ha_86
  have ha_87 := hm.2 _ ha_87
  have ha_88 := hm.2 _ ha_88
  have ha_89 := hm.2 _ ha_89
  have ha_90 := hm.2 _ ha_90
  have ha_91 := hm.2 _ ha_91
  have ha_92 := hm.2 _ ha_92
  have ha_93 := hm.2 _ ha_93
  have ha_94 := hm.2 _ ha_94
  have ha_95 := hm.2 _ ha_95
  have ha_96 := hm.2 _ ha_96
  have ha_97 := hm.2 _ ha_97
  have ha_98 := hm.2 _ ha_98
  have ha_99 := hm.2 _ ha_99
  have ha_100 := hm.2 _ ha_100
  have ha_101 := hm.2 _ ha_101
  have ha_102 := hm.2 _ ha_102
  have ha_103 := hm.2 _ ha_103
  have ha_104 := hm.2 _ ha_104
  have ha_105 := hm.2 _ ha_105
  have ha_106 := hm.2 _ ha_106
  have ha_107 := hm.2 _ ha_107
  have ha_108 := hm.2 _ ha_108
  have ha_109 := hm.2 _ ha_109
  have ha_110 := hm.2 _ ha_110
  have ha_111 := hm.2 _ ha_111
  refine lv_aload_n F.1 F.2.1 dX12_init_406 rfl (lv_at hl 0 rfl) ?_
  refine lv_iconst (v := 4) F.1 F.2.1 dX12_init_407 ic_4 ?_
  refine y_newi (k := 112) h F hP hS ac_int (by decide) (by decide) (by decide) (Nat.le_of_ble_eq_true rfl) (Nat.le_of_ble_eq_true rfl) dX12_init_408 (fun w_408 ad H hm ha_112 _ hx h hP' hS => ?_)
  have e9 := hx 63 hn_63
  try rw [← e9] at hl
  try rw [← e9]
  have hP := hP'
  have hXA : ∀ k, wA w k ≠ 0 → ad k = ad0 k := fun k hk => (hx k (hM_w.1 k hk)).trans (hXA k hk)
  have hM_w := hM_w.trans hm
  have hn_63 := hm.1 _ hn_63
  have ha_64 := hm.2 _ ha_64
  have ha_65 := hm.2 _ ha_65
  have ha_66 := hm.2 _ ha_66
  have ha_67 := hm.2 _ ha_67
  have ha_68 := hm.2 _ ha_68
  have ha_69 := hm.2 _ ha_69
  have ha_70 := hm.2 _ ha_70
  have ha_71 := hm.2 _ ha_71
  have ha_72 := hm.2 _ ha_72
  have ha_73 := hm.2 _ ha_73
  have ha_74 := hm.2 _ ha_74
  have ha_75 := hm.2 _ ha_75
  have ha_76 := hm.2 _ ha_76
  have ha_77 := hm.2 _ ha_77
  have ha_78 := hm.2 _ ha_78
  have ha_79 := hm.2 _ ha_79
  have ha_80 := hm.2 _ ha_80
  have ha_81 := hm.2 _ ha_81
  have ha_82 := hm.2 _ ha_82
  have ha_83 := hm.2 _ ha_83
  have ha_84 := hm.2 _ ha_84
  have ha_85 := hm.2 _ ha_85
  have ha_86 := hm.2 _ ha_86
  have ha_87 := hm.2 _ ha_87
  have ha_88 := hm.2 _ ha_88
  have ha_89 := hm.2 _ ha_89
  have ha_90 := hm.2 _ ha_90
  have ha_91 := hm.2 _ ha_91
  have ha_92 := hm.2 _ ha_92
  have ha_93 := hm.2 _ ha_93
  have ha_94 := hm.2 _ ha_94
  have ha_95 := hm.2 _ ha_95
  have ha_96 := hm.2 _ ha_96
  have ha_97 := hm.2 _ ha_97
  have ha_98 := hm.2 _ ha_98
  have ha_99 := hm.2 _ ha_99
  have ha_100 := hm.2 _ ha_100
  have ha_101 := hm.2 _ ha_101
  have ha_102 := hm.2 _ ha_102
  have ha_103 := hm.2 _ ha_103
  have ha_104 := hm.2 _ ha_104
  have ha_105 := hm.2 _ ha_105
  have ha_106 := hm.2 _ ha_106
  have ha_107 := hm.2 _ ha_107
  have ha_108 := hm.2 _ ha_108
  have ha_109 := hm.2 _ ha_109
  have ha_110 := hm.2 _ ha_110
  have ha_111 := hm.2 _ ha_111
  refine y_putFr h F hP hS k_63 hn_63 fl_X12_171 hin rfl rfl r_63_66 ha_112 (Or.inr ⟨_, rfl⟩) dX12_init_410 (fun w_410 H locs hm h hP hS => ?_)
  have hM_w := hM_w.trans hm
  have hn_63 := hm.1 _ hn_63
  have ha_64 := hm.2 _ ha_64
  have ha_65 := hm.2 _ ha_65
  have ha_66 := hm.2 _ ha_66
  have ha_67 := hm.2 _ ha_67
  have ha_68 := hm.2 _ ha_68
  have ha_69 := hm.2 _ ha_69
  have ha_70 := hm.2 _ ha_70
  have ha_71 := hm.2 _ ha_71
  have ha_72 := hm.2 _ ha_72
  have ha_73 := hm.2 _ ha_73
  have ha_74 := hm.2 _ ha_74
  have ha_75 := hm.2 _ ha_75
  have ha_76 := hm.2 _ ha_76
  have ha_77 := hm.2 _ ha_77
  have ha_78 := hm.2 _ ha_78
  have ha_79 := hm.2 _ ha_79
  have ha_80 := hm.2 _ ha_80
  have ha_81 := hm.2 _ ha_81
  have ha_82 := hm.2 _ ha_82
  have ha_83 := hm.2 _ ha_83
  have ha_84 := hm.2 _ ha_84
  have ha_85 := hm.2 _ ha_85
  have ha_86 := hm.2 _ ha_86
  have ha_87 := hm.2 _ ha_87
  have ha_88 := hm.2 _ ha_88
  have ha_89 := hm.2 _ ha_89
  have ha_90 := hm.2 _ ha_90
  have ha_91 := hm.2 _ ha_91
  have ha_92 := hm.2 _ ha_92
  have ha_93 := hm.2 _ ha_93
  have ha_94 := hm.2 _ ha_94
  have ha_95 := hm.2 _ ha_95
  have ha_96 := hm.2 _ ha_96
  have ha_97 := hm.2 _ ha_97
  have ha_98 := hm.2 _ ha_98
  have ha_99 := hm.2 _ ha_99
  have ha_100 := hm.2 _ ha_100
  have ha_101 := hm.2 _ ha_101
  have ha_102 := hm.2 _ ha_102
  have ha_103 := hm.2 _ ha_103
  have ha_104 := hm.2 _ ha_104
  have ha_105 := hm.2 _ ha_105
  have ha_106 := hm.2 _ ha_106
  have ha_107 := hm.2 _ ha_107
  have ha_108 := hm.2 _ ha_108
  have ha_109 := hm.2 _ ha_109
  have ha_110 := hm.2 _ ha_110
  have ha_111 := hm.2 _ ha_111
  have ha_112 := hm.2 _ ha_112
  refine lv_aload_n F.1 F.2.1 dX12_init_413 rfl (lv_at hl 0 rfl) ?_
  refine lv_iconst (v := 4) F.1 F.2.1 dX12_init_414 ic_4 ?_
  refine y_newi (k := 113) h F hP hS ac_int (by decide) (by decide) (by decide) (Nat.le_of_ble_eq_true rfl) (Nat.le_of_ble_eq_true rfl) dX12_init_415 (fun w_415 ad H hm ha_113 _ hx h hP' hS => ?_)
  have e9 := hx 63 hn_63
  try rw [← e9] at hl
  try rw [← e9]
  have hP := hP'
  have hXA : ∀ k, wA w k ≠ 0 → ad k = ad0 k := fun k hk => (hx k (hM_w.1 k hk)).trans (hXA k hk)
  have hM_w := hM_w.trans hm
  have hn_63 := hm.1 _ hn_63
  have ha_64 := hm.2 _ ha_64
  have ha_65 := hm.2 _ ha_65
  have ha_66 := hm.2 _ ha_66
  have ha_67 := hm.2 _ ha_67
  have ha_68 := hm.2 _ ha_68
  have ha_69 := hm.2 _ ha_69
  have ha_70 := hm.2 _ ha_70
  have ha_71 := hm.2 _ ha_71
  have ha_72 := hm.2 _ ha_72
  have ha_73 := hm.2 _ ha_73
  have ha_74 := hm.2 _ ha_74
  have ha_75 := hm.2 _ ha_75
  have ha_76 := hm.2 _ ha_76
  have ha_77 := hm.2 _ ha_77
  have ha_78 := hm.2 _ ha_78
  have ha_79 := hm.2 _ ha_79
  have ha_80 := hm.2 _ ha_80
  have ha_81 := hm.2 _ ha_81
  have ha_82 := hm.2 _ ha_82
  have ha_83 := hm.2 _ ha_83
  have ha_84 := hm.2 _ ha_84
  have ha_85 := hm.2 _ ha_85
  have ha_86 := hm.2 _ ha_86
  have ha_87 := hm.2 _ ha_87
  have ha_88 := hm.2 _ ha_88
  have ha_89 := hm.2 _ ha_89
  have ha_90 := hm.2 _ ha_90
  have ha_91 := hm.2 _ ha_91
  have ha_92 := hm.2 _ ha_92
  have ha_93 := hm.2 _ ha_93
  have ha_94 := hm.2 _ ha_94
  have ha_95 := hm.2 _ ha_95
  have ha_96 := hm.2 _ ha_96
  have ha_97 := hm.2 _ ha_97
  have ha_98 := hm.2 _ ha_98
  have ha_99 := hm.2 _ ha_99
  have ha_100 := hm.2 _ ha_100
  have ha_101 := hm.2 _ ha_101
  have ha_102 := hm.2 _ ha_102
  have ha_103 := hm.2 _ ha_103
  have ha_104 := hm.2 _ ha_104
  have ha_105 := hm.2 _ ha_105
  have ha_106 := hm.2 _ ha_106
  have ha_107 := hm.2 _ ha_107
  have ha_108 := hm.2 _ ha_108
  have ha_109 := hm.2 _ ha_109
  have ha_110 := hm.2 _ ha_110
  have ha_111 := hm.2 _ ha_111
  have ha_112 := hm.2 _ ha_112
  refine y_putFr h F hP hS k_63 hn_63 fl_X12_174 hin rfl rfl r_63_67 ha_113 (Or.inr ⟨_, rfl⟩) dX12_init_417 (fun w_417 H locs hm h hP hS => ?_)
  have hM_w := hM_w.trans hm
  have hn_63 := hm.1 _ hn_63
  have ha_64 := hm.2 _ ha_64
  have ha_65 := hm.2 _ ha_65
  have ha_66 := hm.2 _ ha_66
  have ha_67 := hm.2 _ ha_67
  have ha_68 := hm.2 _ ha_68
  have ha_69 := hm.2 _ ha_69
  have ha_70 := hm.2 _ ha_70
  have ha_71 := hm.2 _ ha_71
  have ha_72 := hm.2 _ ha_72
  have ha_73 := hm.2 _ ha_73
  have ha_74 := hm.2 _ ha_74
  have ha_75 := hm.2 _ ha_75
  have ha_76 := hm.2 _ ha_76
  have ha_77 := hm.2 _ ha_77
  have ha_78 := hm.2 _ ha_78
  have ha_79 := hm.2 _ ha_79
  have ha_80 := hm.2 _ ha_80
  have ha_81 := hm.2 _ ha_81
  have ha_82 := hm.2 _ ha_82
  have ha_83 := hm.2 _ ha_83
  have ha_84 := hm.2 _ ha_84
  have ha_85 := hm.2 _ ha_85
  have ha_86 := hm.2 _ ha_86
  have ha_87 := hm.2 _ ha_87
  have ha_88 := hm.2 _ ha_88
  have ha_89 := hm.2 _ ha_89
  have ha_90 := hm.2 _ ha_90
  have ha_91 := hm.2 _ ha_91
  have ha_92 := hm.2 _ ha_92
  have ha_93 := hm.2 _ ha_93
  have ha_94 := hm.2 _ ha_94
  have ha_95 := hm.2 _ ha_95
  have ha_96 := hm.2 _ ha_96
  have ha_97 := hm.2 _ ha_97
  have ha_98 := hm.2 _ ha_98
  have ha_99 := hm.2 _ ha_99
  have ha_100 := hm.2 _ ha_100
  have ha_101 := hm.2 _ ha_101
  have ha_102 := hm.2 _ ha_102
  have ha_103 := hm.2 _ ha_103
  have ha_104 := hm.2 _ ha_104
  have ha_105 := hm.2 _ ha_105
  have ha_106 := hm.2 _ ha_106
  have ha_107 := hm.2 _ ha_107
  have ha_108 := hm.2 _ ha_108
  have ha_109 := hm.2 _ ha_109
  have ha_110 := hm.2 _ ha_110
  have ha_111 := hm.2 _ ha_111
  have ha_112 := hm.2 _ ha_112
  have ha_113 := hm.2 _ ha_113
  refine lv_aload_n F.1 F.2.1 dX12_init_420 rfl (lv_at hl 0 rfl) ?_
  refine lv_bipush (v := 12) F.1 F.2.1 dX12_init_421 ib_12 ?_
  refine y_newi (k := 114) h F hP hS ac_int (by decide) (by decide) (by decide) (Nat.le_of_ble_eq_true rfl) (Nat.le_of_ble_eq_true rfl) dX12_init_423 (fun w_423 ad H hm ha_114 _ hx h hP' hS => ?_)
  have e9 := hx 63 hn_63
  try rw [← e9] at hl
  try rw [← e9]
  have hP := hP'
  have hXA : ∀ k, wA w k ≠ 0 → ad k = ad0 k := fun k hk => (hx k (hM_w.1 k hk)).trans (hXA k hk)
  have hM_w := hM_w.trans hm
  have hn_63 := hm.1 _ hn_63
  have ha_64 := hm.2 _ ha_64
  have ha_65 := hm.2 _ ha_65
  have ha_66 := hm.2 _ ha_66
  have ha_67 := hm.2 _ ha_67
  have ha_68 := hm.2 _ ha_68
  have ha_69 := hm.2 _ ha_69
  have ha_70 := hm.2 _ ha_70
  have ha_71 := hm.2 _ ha_71
  have ha_72 := hm.2 _ ha_72
  have ha_73 := hm.2 _ ha_73
  have ha_74 := hm.2 _ ha_74
  have ha_75 := hm.2 _ ha_75
  have ha_76 := hm.2 _ ha_76
  have ha_77 := hm.2 _ ha_77
  have ha_78 := hm.2 _ ha_78
  have ha_79 := hm.2 _ ha_79
  have ha_80 := hm.2 _ ha_80
  have ha_81 := hm.2 _ ha_81
  have ha_82 := hm.2 _ ha_82
  have ha_83 := hm.2 _ ha_83
  have ha_84 := hm.2 _ ha_84
  have ha_85 := hm.2 _ ha_85
  have ha_86 := hm.2 _ ha_86
  have ha_87 := hm.2 _ ha_87
  have ha_88 := hm.2 _ ha_88
  have ha_89 := hm.2 _ ha_89
  have ha_90 := hm.2 _ ha_90
  have ha_91 := hm.2 _ ha_91
  have ha_92 := hm.2 _ ha_92
  have ha_93 := hm.2 _ ha_93
  have ha_94 := hm.2 _ ha_94
  have ha_95 := hm.2 _ ha_95
  have ha_96 := hm.2 _ ha_96
  have ha_97 := hm.2 _ ha_97
  have ha_98 := hm.2 _ ha_98
  have ha_99 := hm.2 _ ha_99
  have ha_100 := hm.2 _ ha_100
  have ha_101 := hm.2 _ ha_101
  have ha_102 := hm.2 _ ha_102
  have ha_103 := hm.2 _ ha_103
  have ha_104 := hm.2 _ ha_104
  have ha_105 := hm.2 _ ha_105
  have ha_106 := hm.2 _ ha_106
  have ha_107 := hm.2 _ ha_107
  have ha_108 := hm.2 _ ha_108
  have ha_109 := hm.2 _ ha_109
  have ha_110 := hm.2 _ ha_110
  have ha_111 := hm.2 _ ha_111
  have ha_112 := hm.2 _ ha_112
  have ha_113 := hm.2 _ ha_113
  refine y_putFr h F hP hS k_63 hn_63 fl_X12_177 hin rfl rfl r_63_69 ha_114 (Or.inr ⟨_, rfl⟩) dX12_init_425 (fun w_425 H locs hm h hP hS => ?_)
  have hM_w := hM_w.trans hm
  have hn_63 := hm.1 _ hn_63
  have ha_64 := hm.2 _ ha_64
  have ha_65 := hm.2 _ ha_65
  have ha_66 := hm.2 _ ha_66
  have ha_67 := hm.2 _ ha_67
  have ha_68 := hm.2 _ ha_68
  have ha_69 := hm.2 _ ha_69
  have ha_70 := hm.2 _ ha_70
  have ha_71 := hm.2 _ ha_71
  have ha_72 := hm.2 _ ha_72
  have ha_73 := hm.2 _ ha_73
  have ha_74 := hm.2 _ ha_74
  have ha_75 := hm.2 _ ha_75
  have ha_76 := hm.2 _ ha_76
  have ha_77 := hm.2 _ ha_77
  have ha_78 := hm.2 _ ha_78
  have ha_79 := hm.2 _ ha_79
  have ha_80 := hm.2 _ ha_80
  have ha_81 := hm.2 _ ha_81
  have ha_82 := hm.2 _ ha_82
  have ha_83 := hm.2 _ ha_83
  have ha_84 := hm.2 _ ha_84
  have ha_85 := hm.2 _ ha_85
  have ha_86 := hm.2 _ ha_86
  have ha_87 := hm.2 _ ha_87
  have ha_88 := hm.2 _ ha_88
  have ha_89 := hm.2 _ ha_89
  have ha_90 := hm.2 _ ha_90
  have ha_91 := hm.2 _ ha_91
  have ha_92 := hm.2 _ ha_92
  have ha_93 := hm.2 _ ha_93
  have ha_94 := hm.2 _ ha_94
  have ha_95 := hm.2 _ ha_95
  have ha_96 := hm.2 _ ha_96
  have ha_97 := hm.2 _ ha_97
  have ha_98 := hm.2 _ ha_98
  have ha_99 := hm.2 _ ha_99
  have ha_100 := hm.2 _ ha_100
  have ha_101 := hm.2 _ ha_101
  have ha_102 := hm.2 _ ha_102
  have ha_103 := hm.2 _ ha_103
  have ha_104 := hm.2 _ ha_104
  have ha_105 := hm.2 _ ha_105
  have ha_106 := hm.2 _ ha_106
  have ha_107 := hm.2 _ ha_107
  have ha_108 := hm.2 _ ha_108
  have ha_109 := hm.2 _ ha_109
  have ha_110 := hm.2 _ ha_110
  have ha_111 := hm.2 _ ha_111
  have ha_112 := hm.2 _ ha_112
  have ha_113 := hm.2 _ ha_113
  have ha_114 := hm.2 _ ha_114
  refine lv_aload_n F.1 F.2.1 dX12_init_428 rfl (lv_at hl 0 rfl) ?_
  refine lv_bipush (v := 12) F.1 F.2.1 dX12_init_429 ib_12 ?_
  refine y_newi (k := 115) h F hP hS ac_int (by decide) (by decide) (by decide) (Nat.le_of_ble_eq_true rfl) (Nat.le_of_ble_eq_true rfl) dX12_init_431 (fun w_431 ad H hm ha_115 _ hx h hP' hS => ?_)
  have e9 := hx 63 hn_63
  try rw [← e9] at hl
  try rw [← e9]
  have hP := hP'
  have hXA : ∀ k, wA w k ≠ 0 → ad k = ad0 k := fun k hk => (hx k (hM_w.1 k hk)).trans (hXA k hk)
  have hM_w := hM_w.trans hm
  have hn_63 := hm.1 _ hn_63
  have ha_64 := hm.2 _ ha_64
  have ha_65 := hm.2 _ ha_65
  have ha_66 := hm.2 _ ha_66
  have ha_67 := hm.2 _ ha_67
  have ha_68 := hm.2 _ ha_68
  have ha_69 := hm.2 _ ha_69
  have ha_70 := hm.2 _ ha_70
  have ha_71 := hm.2 _ ha_71
  have ha_72 := hm.2 _ ha_72
  have ha_73 := hm.2 _ ha_73
  have ha_74 := hm.2 _ ha_74
  have ha_75 := hm.2 _ ha_75
  have ha_76 := hm.2 _ ha_76
  have ha_77 := hm.2 _ ha_77
  have ha_78 := hm.2 _ ha_78
  have ha_79 := hm.2 _ ha_79
  have ha_80 := hm.2 _ ha_80
  have ha_81 := hm.2 _ ha_81
  have ha_82 := hm.2 _ ha_82
  have ha_83 := hm.2 _ ha_83
  have ha_84 := hm.2 _ ha_84
  have ha_85 := hm.2 _ ha_85
  have ha_86 := hm.2 _ ha_86
  have ha_87 := hm.2 _ ha_87
  have ha_88 := hm.2 _ ha_88
  have ha_89 := hm.2 _ ha_89
  have ha_90 := hm.2 _ ha_90
  have ha_91 := hm.2 _ ha_91
  have ha_92 := hm.2 _ ha_92
  have ha_93 := hm.2 _ ha_93
  have ha_94 := hm.2 _ ha_94
  have ha_95 := hm.2 _ ha_95
  have ha_96 := hm.2 _ ha_96
  have ha_97 := hm.2 _ ha_97
  have ha_98 := hm.2 _ ha_98
  have ha_99 := hm.2 _ ha_99
  have ha_100 := hm.2 _ ha_100
  have ha_101 := hm.2 _ ha_101
  have ha_102 := hm.2 _ ha_102
  have ha_103 := hm.2 _ ha_103
  have ha_104 := hm.2 _ ha_104
  have ha_105 := hm.2 _ ha_105
  have ha_106 := hm.2 _ ha_106
  have ha_107 := hm.2 _ ha_107
  have ha_108 := hm.2 _ ha_108
  have ha_109 := hm.2 _ ha_109
  have ha_110 := hm.2 _ ha_110
  have ha_111 := hm.2 _ ha_111
  have ha_112 := hm.2 _ ha_112
  have ha_113 := hm.2 _ ha_113
  have ha_114 := hm.2 _ ha_114
  refine y_putFr h F hP hS k_63 hn_63 fl_X12_180 hin rfl rfl r_63_70 ha_115 (Or.inr ⟨_, rfl⟩) dX12_init_433 (fun w_433 H locs hm h hP hS => ?_)
  have hM_w := hM_w.trans hm
  have hn_63 := hm.1 _ hn_63
  have ha_64 := hm.2 _ ha_64
  have ha_65 := hm.2 _ ha_65
  have ha_66 := hm.2 _ ha_66
  have ha_67 := hm.2 _ ha_67
  have ha_68 := hm.2 _ ha_68
  have ha_69 := hm.2 _ ha_69
  have ha_70 := hm.2 _ ha_70
  have ha_71 := hm.2 _ ha_71
  have ha_72 := hm.2 _ ha_72
  have ha_73 := hm.2 _ ha_73
  have ha_74 := hm.2 _ ha_74
  have ha_75 := hm.2 _ ha_75
  have ha_76 := hm.2 _ ha_76
  have ha_77 := hm.2 _ ha_77
  have ha_78 := hm.2 _ ha_78
  have ha_79 := hm.2 _ ha_79
  have ha_80 := hm.2 _ ha_80
  have ha_81 := hm.2 _ ha_81
  have ha_82 := hm.2 _ ha_82
  have ha_83 := hm.2 _ ha_83
  have ha_84 := hm.2 _ ha_84
  have ha_85 := hm.2 _ ha_85
  have ha_86 := hm.2 _ ha_86
  have ha_87 := hm.2 _ ha_87
  have ha_88 := hm.2 _ ha_88
  have ha_89 := hm.2 _ ha_89
  have ha_90 := hm.2 _ ha_90
  have ha_91 := hm.2 _ ha_91
  have ha_92 := hm.2 _ ha_92
  have ha_93 := hm.2 _ ha_93
  have ha_94 := hm.2 _ ha_94
  have ha_95 := hm.2 _ ha_95
  have ha_96 := hm.2 _ ha_96
  have ha_97 := hm.2 _ ha_97
  have ha_98 := hm.2 _ ha_98
  have ha_99 := hm.2 _ ha_99
  have ha_100 := hm.2 _ ha_100
  have ha_101 := hm.2 _ ha_101
  have ha_102 := hm.2 _ ha_102
  have ha_103 := hm.2 _ ha_103
  have ha_104 := hm.2 _ ha_104
  have ha_105 := hm.2 _ ha_105
  have ha_106 := hm.2 _ ha_106
  have ha_107 := hm.2 _ ha_107
  have ha_108 := hm.2 _ ha_108
  have ha_109 := hm.2 _ ha_109
  have ha_110 := hm.2 _ ha_110
  have ha_111 := hm.2 _ ha_111
  have ha_112 := hm.2 _ ha_112
  have ha_113 := hm.2 _ ha_113
  have ha_114 := hm.2 _ ha_114
  have ha_115 := hm.2 _ ha_115
  refine lv_aload_n F.1 F.2.1 dX12_init_436 rfl (lv_at hl 0 rfl) ?_
  refine lv_bipush (v := 12) F.1 F.2.1 dX12_init_437 ib_12 ?_
  refine y_newi (k := 116) h F hP hS ac_int (by decide) (by decide) (by decide) (Nat.le_of_ble_eq_true rfl) (Nat.le_of_ble_eq_true rfl) dX12_init_439 (fun w_439 ad H hm ha_116 _ hx h hP' hS => ?_)
  have e9 := hx 63 hn_63
  try rw [← e9] at hl
  try rw [← e9]
  have hP := hP'
  have hXA : ∀ k, wA w k ≠ 0 → ad k = ad0 k := fun k hk => (hx k (hM_w.1 k hk)).trans (hXA k hk)
  have hM_w := hM_w.trans hm
  have hn_63 := hm.1 _ hn_63
  have ha_64 := hm.2 _ ha_64
  have ha_65 := hm.2 _ ha_65
  have ha_66 := hm.2 _ ha_66
  have ha_67 := hm.2 _ ha_67
  have ha_68 := hm.2 _ ha_68
  have ha_69 := hm.2 _ ha_69
  have ha_70 := hm.2 _ ha_70
  have ha_71 := hm.2 _ ha_71
  have ha_72 := hm.2 _ ha_72
  have ha_73 := hm.2 _ ha_73
  have ha_74 := hm.2 _ ha_74
  have ha_75 := hm.2 _ ha_75
  have ha_76 := hm.2 _ ha_76
  have ha_77 := hm.2 _ ha_77
  have ha_78 := hm.2 _ ha_78
  have ha_79 := hm.2 _ ha_79
  have ha_80 := hm.2 _ ha_80
  have ha_81 := hm.2 _ ha_81
  have ha_82 := hm.2 _ ha_82
  have ha_83 := hm.2 _ ha_83
  have ha_84 := hm.2 _ ha_84
  have ha_85 := hm.2 _ ha_85
  have ha_86 := hm.2 _ ha_86
  have ha_87 := hm.2 _ ha_87
  have ha_88 := hm.2 _ ha_88
  have ha_89 := hm.2 _ ha_89
  have ha_90 := hm.2 _ ha_90
  have ha_91 := hm.2 _ ha_91
  have ha_92 := hm.2 _ ha_92
  have ha_93 := hm.2 _ ha_93
  have ha_94 := hm.2 _ ha_94
  have ha_95 := hm.2 _ ha_95
  have ha_96 := hm.2 _ ha_96
  have ha_97 := hm.2 _ ha_97
  have ha_98 := hm.2 _ ha_98
  have ha_99 := hm.2 _ ha_99
  have ha_100 := hm.2 _ ha_100
  have ha_101 := hm.2 _ ha_101
  have ha_102 := hm.2 _ ha_102
  have ha_103 := hm.2 _ ha_103
  have ha_104 := hm.2 _ ha_104
  have ha_105 := hm.2 _ ha_105
  have ha_106 := hm.2 _ ha_106
  have ha_107 := hm.2 _ ha_107
  have ha_108 := hm.2 _ ha_108
  have ha_109 := hm.2 _ ha_109
  have ha_110 := hm.2 _ ha_110
  have ha_111 := hm.2 _ ha_111
  have ha_112 := hm.2 _ ha_112
  have ha_113 := hm.2 _ ha_113
  have ha_114 := hm.2 _ ha_114
  have ha_115 := hm.2 _ ha_115
  refine y_putFr h F hP hS k_63 hn_63 fl_X12_183 hin rfl rfl r_63_71 ha_116 (Or.inr ⟨_, rfl⟩) dX12_init_441 (fun w_441 H locs hm h hP hS => ?_)
  have hM_w := hM_w.trans hm
  have hn_63 := hm.1 _ hn_63
  have ha_64 := hm.2 _ ha_64
  have ha_65 := hm.2 _ ha_65
  have ha_66 := hm.2 _ ha_66
  have ha_67 := hm.2 _ ha_67
  have ha_68 := hm.2 _ ha_68
  have ha_69 := hm.2 _ ha_69
  have ha_70 := hm.2 _ ha_70
  have ha_71 := hm.2 _ ha_71
  have ha_72 := hm.2 _ ha_72
  have ha_73 := hm.2 _ ha_73
  have ha_74 := hm.2 _ ha_74
  have ha_75 := hm.2 _ ha_75
  have ha_76 := hm.2 _ ha_76
  have ha_77 := hm.2 _ ha_77
  have ha_78 := hm.2 _ ha_78
  have ha_79 := hm.2 _ ha_79
  have ha_80 := hm.2 _ ha_80
  have ha_81 := hm.2 _ ha_81
  have ha_82 := hm.2 _ ha_82
  have ha_83 := hm.2 _ ha_83
  have ha_84 := hm.2 _ ha_84
  have ha_85 := hm.2 _ ha_85
  have ha_86 := hm.2 _ ha_86
  have ha_87 := hm.2 _ ha_87
  have ha_88 := hm.2 _ ha_88
  have ha_89 := hm.2 _ ha_89
  have ha_90 := hm.2 _ ha_90
  have ha_91 := hm.2 _ ha_91
  have ha_92 := hm.2 _ ha_92
  have ha_93 := hm.2 _ ha_93
  have ha_94 := hm.2 _ ha_94
  have ha_95 := hm.2 _ ha_95
  have ha_96 := hm.2 _ ha_96
  have ha_97 := hm.2 _ ha_97
  have ha_98 := hm.2 _ ha_98
  have ha_99 := hm.2 _ ha_99
  have ha_100 := hm.2 _ ha_100
  have ha_101 := hm.2 _ ha_101
  have ha_102 := hm.2 _ ha_102
  have ha_103 := hm.2 _ ha_103
  have ha_104 := hm.2 _ ha_104
  have ha_105 := hm.2 _ ha_105
  have ha_106 := hm.2 _ ha_106
  have ha_107 := hm.2 _ ha_107
  have ha_108 := hm.2 _ ha_108
  have ha_109 := hm.2 _ ha_109
  have ha_110 := hm.2 _ ha_110
  have ha_111 := hm.2 _ ha_111
  have ha_112 := hm.2 _ ha_112
  have ha_113 := hm.2 _ ha_113
  have ha_114 := hm.2 _ ha_114
  have ha_115 := hm.2 _ ha_115
  have ha_116 := hm.2 _ ha_116
  refine lv_aload_n F.1 F.2.1 dX12_init_444 rfl (lv_at hl 0 rfl) ?_
  refine lv_iconst (v := 1) F.1 F.2.1 dX12_init_445 ic_1 ?_
  refine y_puti h F hP hS k_63 hn_63 fl_X12_186 rfl dX12_init_446 (fun w_446 H locs hm h hP hS => ?_)
  have hM_w := hM_w.trans hm
  have hn_63 := hm.1 _ hn_63
  have ha_64 := hm.2 _ ha_64
  have ha_65 := hm.2 _ ha_65
  have ha_66 := hm.2 _ ha_66
  have ha_67 := hm.2 _ ha_67
  have ha_68 := hm.2 _ ha_68
  have ha_69 := hm.2 _ ha_69
  have ha_70 := hm.2 _ ha_70
  have ha_71 := hm.2 _ ha_71
  have ha_72 := hm.2 _ ha_72
  have ha_73 := hm.2 _ ha_73
  have ha_74 := hm.2 _ ha_74
  have ha_75 := hm.2 _ ha_75
  have ha_76 := hm.2 _ ha_76
  have ha_77 := hm.2 _ ha_77
  have ha_78 := hm.2 _ ha_78
  have ha_79 := hm.2 _ ha_79
  have ha_80 := hm.2 _ ha_80
  have ha_81 := hm.2 _ ha_81
  have ha_82 := hm.2 _ ha_82
  have ha_83 := hm.2 _ ha_83
  have ha_84 := hm.2 _ ha_84
  have ha_85 := hm.2 _ ha_85
  have ha_86 := hm.2 _ ha_86
  have ha_87 := hm.2 _ ha_87
  have ha_88 := hm.2 _ ha_88
  have ha_89 := hm.2 _ ha_89
  have ha_90 := hm.2 _ ha_90
  have ha_91 := hm.2 _ ha_91
  have ha_92 := hm.2 _ ha_92
  have ha_93 := hm.2 _ ha_93
  have ha_94 := hm.2 _ ha_94
  have ha_95 := hm.2 _ ha_95
  have ha_96 := hm.2 _ ha_96
  have ha_97 := hm.2 _ ha_97
  have ha_98 := hm.2 _ ha_98
  have ha_99 := hm.2 _ ha_99
  have ha_100 := hm.2 _ ha_100
  have ha_101 := hm.2 _ ha_101
  have ha_102 := hm.2 _ ha_102
  have ha_103 := hm.2 _ ha_103
  have ha_104 := hm.2 _ ha_104
  have ha_105 := hm.2 _ ha_105
  have ha_106 := hm.2 _ ha_106
  have ha_107 := hm.2 _ ha_107
  have ha_108 := hm.2 _ ha_108
  have ha_109 := hm.2 _ ha_109
  have ha_110 := hm.2 _ ha_110
  have ha_111 := hm.2 _ ha_111
  have ha_112 := hm.2 _ ha_112
  have ha_113 := hm.2 _ ha_113
  have ha_114 := hm.2 _ ha_114
  have ha_115 := hm.2 _ ha_115
  have ha_116 := hm.2 _ ha_116
  refine lv_aload_n F.1 F.2.1 dX12_init_449 rfl (lv_at hl 0 rfl) ?_
  refine lv_iconst (v := 4) F.1 F.2.1 dX12_init_450 ic_4 ?_
  refine y_newi (k := 117) h F hP hS ac_int (by decide) (by decide) (by decide) (Nat.le_of_ble_eq_true rfl) (Nat.le_of_ble_eq_true rfl) dX12_init_451 (fun w_451 ad H hm ha_117 _ hx h hP' hS => ?_)
  have e9 := hx 63 hn_63
  try rw [← e9] at hl
  try rw [← e9]
  have hP := hP'
  have hXA : ∀ k, wA w k ≠ 0 → ad k = ad0 k := fun k hk => (hx k (hM_w.1 k hk)).trans (hXA k hk)
  have hM_w := hM_w.trans hm
  have hn_63 := hm.1 _ hn_63
  have ha_64 := hm.2 _ ha_64
  have ha_65 := hm.2 _ ha_65
  have ha_66 := hm.2 _ ha_66
  have ha_67 := hm.2 _ ha_67
  have ha_68 := hm.2 _ ha_68
  have ha_69 := hm.2 _ ha_69
  have ha_70 := hm.2 _ ha_70
  have ha_71 := hm.2 _ ha_71
  have ha_72 := hm.2 _ ha_72
  have ha_73 := hm.2 _ ha_73
  have ha_74 := hm.2 _ ha_74
  have ha_75 := hm.2 _ ha_75
  have ha_76 := hm.2 _ ha_76
  have ha_77 := hm.2 _ ha_77
  have ha_78 := hm.2 _ ha_78
  have ha_79 := hm.2 _ ha_79
  have ha_80 := hm.2 _ ha_80
  have ha_81 := hm.2 _ ha_81
  have ha_82 := hm.2 _ ha_82
  have ha_83 := hm.2 _ ha_83
  have ha_84 := hm.2 _ ha_84
  have ha_85 := hm.2 _ ha_85
  have ha_86 := hm.2 _ ha_86
  have ha_87 := hm.2 _ ha_87
  have ha_88 := hm.2 _ ha_88
  have ha_89 := hm.2 _ ha_89
  have ha_90 := hm.2 _ ha_90
  have ha_91 := hm.2 _ ha_91
  have ha_92 := hm.2 _ ha_92
  have ha_93 := hm.2 _ ha_93
  have ha_94 := hm.2 _ ha_94
  have ha_95 := hm.2 _ ha_95
  have ha_96 := hm.2 _ ha_96
  have ha_97 := hm.2 _ ha_97
  have ha_98 := hm.2 _ ha_98
  have ha_99 := hm.2 _ ha_99
  have ha_100 := hm.2 _ ha_100
  have ha_101 := hm.2 _ ha_101
  have ha_102 := hm.2 _ ha_102
  have ha_103 := hm.2 _ ha_103
  have ha_104 := hm.2 _ ha_104
  have ha_105 := hm.2 _ ha_105
  have ha_106 := hm.2 _ ha_106
  have ha_107 := hm.2 _ ha_107
  have ha_108 := hm.2 _ ha_108
  have ha_109 := hm.2 _ ha_109
  have ha_110 := hm.2 _ ha_110
  have ha_111 := hm.2 _ ha_111
  have ha_112 := hm.2 _ ha_112
  have ha_113 := hm.2 _ ha_113
  have ha_114 := hm.2 _ ha_114
  have ha_115 := hm.2 _ ha_115
  have ha_116 := hm.2 _ ha_116
  refine y_putFr h F hP hS k_63 hn_63 fl_X12_189 hin rfl rfl r_63_73 ha_117 (Or.inr ⟨_, rfl⟩) dX12_init_453 (fun w_453 H locs hm h hP hS => ?_)
  have hM_w := hM_w.trans hm
  have hn_63 := hm.1 _ hn_63
  have ha_64 := hm.2 _ ha_64
  have ha_65 := hm.2 _ ha_65
  have ha_66 := hm.2 _ ha_66
  have ha_67 := hm.2 _ ha_67
  have ha_68 := hm.2 _ ha_68
  have ha_69 := hm.2 _ ha_69
  have ha_70 := hm.2 _ ha_70
  have ha_71 := hm.2 _ ha_71
  have ha_72 := hm.2 _ ha_72
  have ha_73 := hm.2 _ ha_73
  have ha_74 := hm.2 _ ha_74
  have ha_75 := hm.2 _ ha_75
  have ha_76 := hm.2 _ ha_76
  have ha_77 := hm.2 _ ha_77
  have ha_78 := hm.2 _ ha_78
  have ha_79 := hm.2 _ ha_79
  have ha_80 := hm.2 _ ha_80
  have ha_81 := hm.2 _ ha_81
  have ha_82 := hm.2 _ ha_82
  have ha_83 := hm.2 _ ha_83
  have ha_84 := hm.2 _ ha_84
  have ha_85 := hm.2 _ ha_85
  have ha_86 := hm.2 _ ha_86
  have ha_87 := hm.2 _ ha_87
  have ha_88 := hm.2 _ ha_88
  have ha_89 := hm.2 _ ha_89
  have ha_90 := hm.2 _ ha_90
  have ha_91 := hm.2 _ ha_91
  have ha_92 := hm.2 _ ha_92
  have ha_93 := hm.2 _ ha_93
  have ha_94 := hm.2 _ ha_94
  have ha_95 := hm.2 _ ha_95
  have ha_96 := hm.2 _ ha_96
  have ha_97 := hm.2 _ ha_97
  have ha_98 := hm.2 _ ha_98
  have ha_99 := hm.2 _ ha_99
  have ha_100 := hm.2 _ ha_100
  have ha_101 := hm.2 _ ha_101
  have ha_102 := hm.2 _ ha_102
  have ha_103 := hm.2 _ ha_103
  have ha_104 := hm.2 _ ha_104
  have ha_105 := hm.2 _ ha_105
  have ha_106 := hm.2 _ ha_106
  have ha_107 := hm.2 _ ha_107
  have ha_108 := hm.2 _ ha_108
  have ha_109 := hm.2 _ ha_109
  have ha_110 := hm.2 _ ha_110
  have ha_111 := hm.2 _ ha_111
  have ha_112 := hm.2 _ ha_112
  have ha_113 := hm.2 _ ha_113
  have ha_114 := hm.2 _ ha_114
  have ha_115 := hm.2 _ ha_115
  have ha_116 := hm.2 _ ha_116
  have ha_117 := hm.2 _ ha_117
  refine lv_aload_n F.1 F.2.1 dX12_init_456 rfl (lv_at hl 0 rfl) ?_
  refine lv_bipush (v := 80) F.1 F.2.1 dX12_init_457 ib_80 ?_
  refine y_newi (k := 118) h F hP hS ac_int (by decide) (by decide) (by decide) (Nat.le_of_ble_eq_true rfl) (Nat.le_of_ble_eq_true rfl) dX12_init_459 (fun w_459 ad H hm ha_118 _ hx h hP' hS => ?_)
  have e9 := hx 63 hn_63
  try rw [← e9] at hl
  try rw [← e9]
  have hP := hP'
  have hXA : ∀ k, wA w k ≠ 0 → ad k = ad0 k := fun k hk => (hx k (hM_w.1 k hk)).trans (hXA k hk)
  have hM_w := hM_w.trans hm
  have hn_63 := hm.1 _ hn_63
  have ha_64 := hm.2 _ ha_64
  have ha_65 := hm.2 _ ha_65
  have ha_66 := hm.2 _ ha_66
  have ha_67 := hm.2 _ ha_67
  have ha_68 := hm.2 _ ha_68
  have ha_69 := hm.2 _ ha_69
  have ha_70 := hm.2 _ ha_70
  have ha_71 := hm.2 _ ha_71
  have ha_72 := hm.2 _ ha_72
  have ha_73 := hm.2 _ ha_73
  have ha_74 := hm.2 _ ha_74
  have ha_75 := hm.2 _ ha_75
  have ha_76 := hm.2 _ ha_76
  have ha_77 := hm.2 _ ha_77
  have ha_78 := hm.2 _ ha_78
  have ha_79 := hm.2 _ ha_79
  have ha_80 := hm.2 _ ha_80
  have ha_81 := hm.2 _ ha_81
  have ha_82 := hm.2 _ ha_82
  have ha_83 := hm.2 _ ha_83
  have ha_84 := hm.2 _ ha_84
  have ha_85 := hm.2 _ ha_85
  have ha_86 := hm.2 _ ha_86
  have ha_87 := hm.2 _ ha_87
  have ha_88 := hm.2 _ ha_88
  have ha_89 := hm.2 _ ha_89
  have ha_90 := hm.2 _ ha_90
  have ha_91 := hm.2 _ ha_91
  have ha_92 := hm.2 _ ha_92
  have ha_93 := hm.2 _ ha_93
  have ha_94 := hm.2 _ ha_94
  have ha_95 := hm.2 _ ha_95
  have ha_96 := hm.2 _ ha_96
  have ha_97 := hm.2 _ ha_97
  have ha_98 := hm.2 _ ha_98
  have ha_99 := hm.2 _ ha_99
  have ha_100 := hm.2 _ ha_100
  have ha_101 := hm.2 _ ha_101
  have ha_102 := hm.2 _ ha_102
  have ha_103 := hm.2 _ ha_103
  have ha_104 := hm.2 _ ha_104
  have ha_105 := hm.2 _ ha_105
  have ha_106 := hm.2 _ ha_106
  have ha_107 := hm.2 _ ha_107
  have ha_108 := hm.2 _ ha_108
  have ha_109 := hm.2 _ ha_109
  have ha_110 := hm.2 _ ha_110
  have ha_111 := hm.2 _ ha_111
  have ha_112 := hm.2 _ ha_112
  have ha_113 := hm.2 _ ha_113
  have ha_114 := hm.2 _ ha_114
  have ha_115 := hm.2 _ ha_115
  have ha_116 := hm.2 _ ha_116
  have ha_117 := hm.2 _ ha_117
  refine y_putFr h F hP hS k_63 hn_63 fl_X12_192 hin rfl rfl r_63_75 ha_118 (Or.inr ⟨_, rfl⟩) dX12_init_461 (fun w_461 H locs hm h hP hS => ?_)
  have hM_w := hM_w.trans hm
  have hn_63 := hm.1 _ hn_63
  have ha_64 := hm.2 _ ha_64
  have ha_65 := hm.2 _ ha_65
  have ha_66 := hm.2 _ ha_66
  have ha_67 := hm.2 _ ha_67
  have ha_68 := hm.2 _ ha_68
  have ha_69 := hm.2 _ ha_69
  have ha_70 := hm.2 _ ha_70
  have ha_71 := hm.2 _ ha_71
  have ha_72 := hm.2 _ ha_72
  have ha_73 := hm.2 _ ha_73
  have ha_74 := hm.2 _ ha_74
  have ha_75 := hm.2 _ ha_75
  have ha_76 := hm.2 _ ha_76
  have ha_77 := hm.2 _ ha_77
  have ha_78 := hm.2 _ ha_78
  have ha_79 := hm.2 _ ha_79
  have ha_80 := hm.2 _ ha_80
  have ha_81 := hm.2 _ ha_81
  have ha_82 := hm.2 _ ha_82
  have ha_83 := hm.2 _ ha_83
  have ha_84 := hm.2 _ ha_84
  have ha_85 := hm.2 _ ha_85
  have ha_86 := hm.2 _ ha_86
  have ha_87 := hm.2 _ ha_87
  have ha_88 := hm.2 _ ha_88
  have ha_89 := hm.2 _ ha_89
  have ha_90 := hm.2 _ ha_90
  have ha_91 := hm.2 _ ha_91
  have ha_92 := hm.2 _ ha_92
  have ha_93 := hm.2 _ ha_93
  have ha_94 := hm.2 _ ha_94
  have ha_95 := hm.2 _ ha_95
  have ha_96 := hm.2 _ ha_96
  have ha_97 := hm.2 _ ha_97
  have ha_98 := hm.2 _ ha_98
  have ha_99 := hm.2 _ ha_99
  have ha_100 := hm.2 _ ha_100
  have ha_101 := hm.2 _ ha_101
  have ha_102 := hm.2 _ ha_102
  have ha_103 := hm.2 _ ha_103
  have ha_104 := hm.2 _ ha_104
  have ha_105 := hm.2 _ ha_105
  have ha_106 := hm.2 _ ha_106
  have ha_107 := hm.2 _ ha_107
  have ha_108 := hm.2 _ ha_108
  have ha_109 := hm.2 _ ha_109
  have ha_110 := hm.2 _ ha_110
  have ha_111 := hm.2 _ ha_111
  have ha_112 := hm.2 _ ha_112
  have ha_113 := hm.2 _ ha_113
  have ha_114 := hm.2 _ ha_114
  have ha_115 := hm.2 _ ha_115
  have ha_116 := hm.2 _ ha_116
  have ha_117 := hm.2 _ ha_117
  have ha_118 := hm.2 _ ha_118
  refine lv_aload_n F.1 F.2.1 dX12_init_464 rfl (lv_at hl 0 rfl) ?_
  refine lv_iconst (v := 4) F.1 F.2.1 dX12_init_465 ic_4 ?_
  refine y_newz (k := 119) h F hP hS ac_boolean (by decide) (by decide) (by decide) (Nat.le_of_ble_eq_true rfl) (Nat.le_of_ble_eq_true rfl) dX12_init_466 (fun w_466 ad H hm ha_119 _ hx h hP' hS => ?_)
  have e9 := hx 63 hn_63
  try rw [← e9] at hl
  try rw [← e9]
  have hP := hP'
  have hXA : ∀ k, wA w k ≠ 0 → ad k = ad0 k := fun k hk => (hx k (hM_w.1 k hk)).trans (hXA k hk)
  have hM_w := hM_w.trans hm
  have hn_63 := hm.1 _ hn_63
  have ha_64 := hm.2 _ ha_64
  have ha_65 := hm.2 _ ha_65
  have ha_66 := hm.2 _ ha_66
  have ha_67 := hm.2 _ ha_67
  have ha_68 := hm.2 _ ha_68
  have ha_69 := hm.2 _ ha_69
  have ha_70 := hm.2 _ ha_70
  have ha_71 := hm.2 _ ha_71
  have ha_72 := hm.2 _ ha_72
  have ha_73 := hm.2 _ ha_73
  have ha_74 := hm.2 _ ha_74
  have ha_75 := hm.2 _ ha_75
  have ha_76 := hm.2 _ ha_76
  have ha_77 := hm.2 _ ha_77
  have ha_78 := hm.2 _ ha_78
  have ha_79 := hm.2 _ ha_79
  have ha_80 := hm.2 _ ha_80
  have ha_81 := hm.2 _ ha_81
  have ha_82 := hm.2 _ ha_82
  have ha_83 := hm.2 _ ha_83
  have ha_84 := hm.2 _ ha_84
  have ha_85 := hm.2 _ ha_85
  have ha_86 := hm.2 _ ha_86
  have ha_87 := hm.2 _ ha_87
  have ha_88 := hm.2 _ ha_88
  have ha_89 := hm.2 _ ha_89
  have ha_90 := hm.2 _ ha_90
  have ha_91 := hm.2 _ ha_91
  have ha_92 := hm.2 _ ha_92
  have ha_93 := hm.2 _ ha_93
  have ha_94 := hm.2 _ ha_94
  have ha_95 := hm.2 _ ha_95
  have ha_96 := hm.2 _ ha_96
  have ha_97 := hm.2 _ ha_97
  have ha_98 := hm.2 _ ha_98
  have ha_99 := hm.2 _ ha_99
  have ha_100 := hm.2 _ ha_100
  have ha_101 := hm.2 _ ha_101
  have ha_102 := hm.2 _ ha_102
  have ha_103 := hm.2 _ ha_103
  have ha_104 := hm.2 _ ha_104
  have ha_105 := hm.2 _ ha_105
  have ha_106 := hm.2 _ ha_106
  have ha_107 := hm.2 _ ha_107
  have ha_108 := hm.2 _ ha_108
  have ha_109 := hm.2 _ ha_109
  have ha_110 := hm.2 _ ha_110
  have ha_111 := hm.2 _ ha_111
  have ha_112 := hm.2 _ ha_112
  have ha_113 := hm.2 _ ha_113
  have ha_114 := hm.2 _ ha_114
  have ha_115 := hm.2 _ ha_115
  have ha_116 := hm.2 _ ha_116
  have ha_117 := hm.2 _ ha_117
  have ha_118 := hm.2 _ ha_118
  refine y_putFr h F hP hS k_63 hn_63 fl_X12_195 hin rfl rfl r_63_78 ha_119 (Or.inr ⟨_, rfl⟩) dX12_init_468 (fun w_468 H locs hm h hP hS => ?_)
  have hM_w := hM_w.trans hm
  have hn_63 := hm.1 _ hn_63
  have ha_64 := hm.2 _ ha_64
  have ha_65 := hm.2 _ ha_65
  have ha_66 := hm.2 _ ha_66
  have ha_67 := hm.2 _ ha_67
  have ha_68 := hm.2 _ ha_68
  have ha_69 := hm.2 _ ha_69
  have ha_70 := hm.2 _ ha_70
  have ha_71 := hm.2 _ ha_71
  have ha_72 := hm.2 _ ha_72
  have ha_73 := hm.2 _ ha_73
  have ha_74 := hm.2 _ ha_74
  have ha_75 := hm.2 _ ha_75
  have ha_76 := hm.2 _ ha_76
  have ha_77 := hm.2 _ ha_77
  have ha_78 := hm.2 _ ha_78
  have ha_79 := hm.2 _ ha_79
  have ha_80 := hm.2 _ ha_80
  have ha_81 := hm.2 _ ha_81
  have ha_82 := hm.2 _ ha_82
  have ha_83 := hm.2 _ ha_83
  have ha_84 := hm.2 _ ha_84
  have ha_85 := hm.2 _ ha_85
  have ha_86 := hm.2 _ ha_86
  have ha_87 := hm.2 _ ha_87
  have ha_88 := hm.2 _ ha_88
  have ha_89 := hm.2 _ ha_89
  have ha_90 := hm.2 _ ha_90
  have ha_91 := hm.2 _ ha_91
  have ha_92 := hm.2 _ ha_92
  have ha_93 := hm.2 _ ha_93
  have ha_94 := hm.2 _ ha_94
  have ha_95 := hm.2 _ ha_95
  have ha_96 := hm.2 _ ha_96
  have ha_97 := hm.2 _ ha_97
  have ha_98 := hm.2 _ ha_98
  have ha_99 := hm.2 _ ha_99
  have ha_100 := hm.2 _ ha_100
  have ha_101 := hm.2 _ ha_101
  have ha_102 := hm.2 _ ha_102
  have ha_103 := hm.2 _ ha_103
  have ha_104 := hm.2 _ ha_104
  have ha_105 := hm.2 _ ha_105
  have ha_106 := hm.2 _ ha_106
  have ha_107 := hm.2 _ ha_107
  have ha_108 := hm.2 _ ha_108
  have ha_109 := hm.2 _ ha_109
  have ha_110 := hm.2 _ ha_110
  have ha_111 := hm.2 _ ha_111
  have ha_112 := hm.2 _ ha_112
  have ha_113 := hm.2 _ ha_113
  have ha_114 := hm.2 _ ha_114
  have ha_115 := hm.2 _ ha_115
  have ha_116 := hm.2 _ ha_116
  have ha_117 := hm.2 _ ha_117
  have ha_118 := hm.2 _ ha_118
  have ha_119 := hm.2 _ ha_119
  refine lv_aload_n F.1 F.2.1 dX12_init_471 rfl (lv_at hl 0 rfl) ?_
  refine lv_iconst (v := 4) F.1 F.2.1 dX12_init_472 ic_4 ?_
  refine y_newi (k := 120) h F hP hS ac_int (by decide) (by decide) (by decide) (Nat.le_of_ble_eq_true rfl) (Nat.le_of_ble_eq_true rfl) dX12_init_473 (fun w_473 ad H hm ha_120 _ hx h hP' hS => ?_)
  have e9 := hx 63 hn_63
  try rw [← e9] at hl
  try rw [← e9]
  have hP := hP'
  have hXA : ∀ k, wA w k ≠ 0 → ad k = ad0 k := fun k hk => (hx k (hM_w.1 k hk)).trans (hXA k hk)
  have hM_w := hM_w.trans hm
  have hn_63 := hm.1 _ hn_63
  have ha_64 := hm.2 _ ha_64
  have ha_65 := hm.2 _ ha_65
  have ha_66 := hm.2 _ ha_66
  have ha_67 := hm.2 _ ha_67
  have ha_68 := hm.2 _ ha_68
  have ha_69 := hm.2 _ ha_69
  have ha_70 := hm.2 _ ha_70
  have ha_71 := hm.2 _ ha_71
  have ha_72 := hm.2 _ ha_72
  have ha_73 := hm.2 _ ha_73
  have ha_74 := hm.2 _ ha_74
  have ha_75 := hm.2 _ ha_75
  have ha_76 := hm.2 _ ha_76
  have ha_77 := hm.2 _ ha_77
  have ha_78 := hm.2 _ ha_78
  have ha_79 := hm.2 _ ha_79
  have ha_80 := hm.2 _ ha_80
  have ha_81 := hm.2 _ ha_81
  have ha_82 := hm.2 _ ha_82
  have ha_83 := hm.2 _ ha_83
  have ha_84 := hm.2 _ ha_84
  have ha_85 := hm.2 _ ha_85
  have ha_86 := hm.2 _ ha_86
  have ha_87 := hm.2 _ ha_87
  have ha_88 := hm.2 _ ha_88
  have ha_89 := hm.2 _ ha_89
  have ha_90 := hm.2 _ ha_90
  have ha_91 := hm.2 _ ha_91
  have ha_92 := hm.2 _ ha_92
  have ha_93 := hm.2 _ ha_93
  have ha_94 := hm.2 _ ha_94
  have ha_95 := hm.2 _ ha_95
  have ha_96 := hm.2 _ ha_96
  have ha_97 := hm.2 _ ha_97
  have ha_98 := hm.2 _ ha_98
  have ha_99 := hm.2 _ ha_99
  have ha_100 := hm.2 _ ha_100
  have ha_101 := hm.2 _ ha_101
  have ha_102 := hm.2 _ ha_102
  have ha_103 := hm.2 _ ha_103
  have ha_104 := hm.2 _ ha_104
  have ha_105 := hm.2 _ ha_105
  have ha_106 := hm.2 _ ha_106
  have ha_107 := hm.2 _ ha_107
  have ha_108 := hm.2 _ ha_108
  have ha_109 := hm.2 _ ha_109
  have ha_110 := hm.2 _ ha_110
  have ha_111 := hm.2 _ ha_111
  have ha_112 := hm.2 _ ha_112
  have ha_113 := hm.2 _ ha_113
  have ha_114 := hm.2 _ ha_114
  have ha_115 := hm.2 _ ha_115
  have ha_116 := hm.2 _ ha_116
  have ha_117 := hm.2 _ ha_117
  have ha_118 := hm.2 _ ha_118
  have ha_119 := hm.2 _ ha_119
  refine y_putFr h F hP hS k_63 hn_63 fl_X12_198 hin rfl rfl r_63_79 ha_120 (Or.inr ⟨_, rfl⟩) dX12_init_475 (fun w_475 H locs hm h hP hS => ?_)
  have hM_w := hM_w.trans hm
  have hn_63 := hm.1 _ hn_63
  have ha_64 := hm.2 _ ha_64
  have ha_65 := hm.2 _ ha_65
  have ha_66 := hm.2 _ ha_66
  have ha_67 := hm.2 _ ha_67
  have ha_68 := hm.2 _ ha_68
  have ha_69 := hm.2 _ ha_69
  have ha_70 := hm.2 _ ha_70
  have ha_71 := hm.2 _ ha_71
  have ha_72 := hm.2 _ ha_72
  have ha_73 := hm.2 _ ha_73
  have ha_74 := hm.2 _ ha_74
  have ha_75 := hm.2 _ ha_75
  have ha_76 := hm.2 _ ha_76
  have ha_77 := hm.2 _ ha_77
  have ha_78 := hm.2 _ ha_78
  have ha_79 := hm.2 _ ha_79
  have ha_80 := hm.2 _ ha_80
  have ha_81 := hm.2 _ ha_81
  have ha_82 := hm.2 _ ha_82
  have ha_83 := hm.2 _ ha_83
  have ha_84 := hm.2 _ ha_84
  have ha_85 := hm.2 _ ha_85
  have ha_86 := hm.2 _ ha_86
  have ha_87 := hm.2 _ ha_87
  have ha_88 := hm.2 _ ha_88
  have ha_89 := hm.2 _ ha_89
  have ha_90 := hm.2 _ ha_90
  have ha_91 := hm.2 _ ha_91
  have ha_92 := hm.2 _ ha_92
  have ha_93 := hm.2 _ ha_93
  have ha_94 := hm.2 _ ha_94
  have ha_95 := hm.2 _ ha_95
  have ha_96 := hm.2 _ ha_96
  have ha_97 := hm.2 _ ha_97
  have ha_98 := hm.2 _ ha_98
  have ha_99 := hm.2 _ ha_99
  have ha_100 := hm.2 _ ha_100
  have ha_101 := hm.2 _ ha_101
  have ha_102 := hm.2 _ ha_102
  have ha_103 := hm.2 _ ha_103
  have ha_104 := hm.2 _ ha_104
  have ha_105 := hm.2 _ ha_105
  have ha_106 := hm.2 _ ha_106
  have ha_107 := hm.2 _ ha_107
  have ha_108 := hm.2 _ ha_108
  have ha_109 := hm.2 _ ha_109
  have ha_110 := hm.2 _ ha_110
  have ha_111 := hm.2 _ ha_111
  have ha_112 := hm.2 _ ha_112
  have ha_113 := hm.2 _ ha_113
  have ha_114 := hm.2 _ ha_114
  have ha_115 := hm.2 _ ha_115
  have ha_116 := hm.2 _ ha_116
  have ha_117 := hm.2 _ ha_117
  have ha_118 := hm.2 _ ha_118
  have ha_119 := hm.2 _ ha_119
  have ha_120 := hm.2 _ ha_120
  refine lv_aload_n F.1 F.2.1 dX12_init_478 rfl (lv_at hl 0 rfl) ?_
  refine lv_iconst (v := 4) F.1 F.2.1 dX12_init_479 ic_4 ?_
  refine y_newi (k := 121) h F hP hS ac_int (by decide) (by decide) (by decide) (Nat.le_of_ble_eq_true rfl) (Nat.le_of_ble_eq_true rfl) dX12_init_480 (fun w_480 ad H hm ha_121 _ hx h hP' hS => ?_)
  have e9 := hx 63 hn_63
  try rw [← e9] at hl
  try rw [← e9]
  have hP := hP'
  have hXA : ∀ k, wA w k ≠ 0 → ad k = ad0 k := fun k hk => (hx k (hM_w.1 k hk)).trans (hXA k hk)
  have hM_w := hM_w.trans hm
  have hn_63 := hm.1 _ hn_63
  have ha_64 := hm.2 _ ha_64
  have ha_65 := hm.2 _ ha_65
  have ha_66 := hm.2 _ ha_66
  have ha_67 := hm.2 _ ha_67
  have ha_68 := hm.2 _ ha_68
  have ha_69 := hm.2 _ ha_69
  have ha_70 := hm.2 _ ha_70
  have ha_71 := hm.2 _ ha_71
  have ha_72 := hm.2 _ ha_72
  have ha_73 := hm.2 _ ha_73
  have ha_74 := hm.2 _ ha_74
  have ha_75 := hm.2 _ ha_75
  have ha_76 := hm.2 _ ha_76
  have ha_77 := hm.2 _ ha_77
  have ha_78 := hm.2 _ ha_78
  have ha_79 := hm.2 _ ha_79
  have ha_80 := hm.2 _ ha_80
  have ha_81 := hm.2 _ ha_81
  have ha_82 := hm.2 _ ha_82
  have ha_83 := hm.2 _ ha_83
  have ha_84 := hm.2 _ ha_84
  have ha_85 := hm.2 _ ha_85
  have ha_86 := hm.2 _ ha_86
  have ha_87 := hm.2 _ ha_87
  have ha_88 := hm.2 _ ha_88
  have ha_89 := hm.2 _ ha_89
  have ha_90 := hm.2 _ ha_90
  have ha_91 := hm.2 _ ha_91
  have ha_92 := hm.2 _ ha_92
  have ha_93 := hm.2 _ ha_93
  have ha_94 := hm.2 _ ha_94
  have ha_95 := hm.2 _ ha_95
  have ha_96 := hm.2 _ ha_96
  have ha_97 := hm.2 _ ha_97
  have ha_98 := hm.2 _ ha_98
  have ha_99 := hm.2 _ ha_99
  have ha_100 := hm.2 _ ha_100
  have ha_101 := hm.2 _ ha_101
  have ha_102 := hm.2 _ ha_102
  have ha_103 := hm.2 _ ha_103
  have ha_104 := hm.2 _ ha_104
  have ha_105 := hm.2 _ ha_105
  have ha_106 := hm.2 _ ha_106
  have ha_107 := hm.2 _ ha_107
  have ha_108 := hm.2 _ ha_108
  have ha_109 := hm.2 _ ha_109
  have ha_110 := hm.2 _ ha_110
  have ha_111 := hm.2 _ ha_111
  have ha_112 := hm.2 _ ha_112
  have ha_113 := hm.2 _ ha_113
  have ha_114 := hm.2 _ ha_114
  have ha_115 := hm.2 _ ha_115
  have ha_116 := hm.2 _ ha_116
  have ha_117 := hm.2 _ ha_117
  have ha_118 := hm.2 _ ha_118
  have ha_119 := hm.2 _ ha_119
  have ha_120 := hm.2 _ ha_120
  refine y_putFr h F hP hS k_63 hn_63 fl_X12_201 hin rfl rfl r_63_80 ha_121 (Or.inr ⟨_, rfl⟩) dX12_init_482 (fun w_482 H locs hm h hP hS => ?_)
  have hM_w := hM_w.trans hm
  have hn_63 := hm.1 _ hn_63
  have ha_64 := hm.2 _ ha_64
  have ha_65 := hm.2 _ ha_65
  have ha_66 := hm.2 _ ha_66
  have ha_67 := hm.2 _ ha_67
  have ha_68 := hm.2 _ ha_68
  have ha_69 := hm.2 _ ha_69
  have ha_70 := hm.2 _ ha_70
  have ha_71 := hm.2 _ ha_71
  have ha_72 := hm.2 _ ha_72
  have ha_73 := hm.2 _ ha_73
  have ha_74 := hm.2 _ ha_74
  have ha_75 := hm.2 _ ha_75
  have ha_76 := hm.2 _ ha_76
  have ha_77 := hm.2 _ ha_77
  have ha_78 := hm.2 _ ha_78
  have ha_79 := hm.2 _ ha_79
  have ha_80 := hm.2 _ ha_80
  have ha_81 := hm.2 _ ha_81
  have ha_82 := hm.2 _ ha_82
  have ha_83 := hm.2 _ ha_83
  have ha_84 := hm.2 _ ha_84
  have ha_85 := hm.2 _ ha_85
  have ha_86 := hm.2 _ ha_86
  have ha_87 := hm.2 _ ha_87
  have ha_88 := hm.2 _ ha_88
  have ha_89 := hm.2 _ ha_89
  have ha_90 := hm.2 _ ha_90
  have ha_91 := hm.2 _ ha_91
  have ha_92 := hm.2 _ ha_92
  have ha_93 := hm.2 _ ha_93
  have ha_94 := hm.2 _ ha_94
  have ha_95 := hm.2 _ ha_95
  have ha_96 := hm.2 _ ha_96
  have ha_97 := hm.2 _ ha_97
  have ha_98 := hm.2 _ ha_98
  have ha_99 := hm.2 _ ha_99
  have ha_100 := hm.2 _ ha_100
  have ha_101 := hm.2 _ ha_101
  have ha_102 := hm.2 _ ha_102
  have ha_103 := hm.2 _ ha_103
  have ha_104 := hm.2 _ ha_104
  have ha_105 := hm.2 _ ha_105
  have ha_106 := hm.2 _ ha_106
  have ha_107 := hm.2 _ ha_107
  have ha_108 := hm.2 _ ha_108
  have ha_109 := hm.2 _ ha_109
  have ha_110 := hm.2 _ ha_110
  have ha_111 := hm.2 _ ha_111
  have ha_112 := hm.2 _ ha_112
  have ha_113 := hm.2 _ ha_113
  have ha_114 := hm.2 _ ha_114
  have ha_115 := hm.2 _ ha_115
  have ha_116 := hm.2 _ ha_116
  have ha_117 := hm.2 _ ha_117
  have ha_118 := hm.2 _ ha_118
  have ha_119 := hm.2 _ ha_119
  have ha_120 := hm.2 _ ha_120
  have ha_121 := hm.2 _ ha_121
  refine lv_aload_n F.1 F.2.1 dX12_init_485 rfl (lv_at hl 0 rfl) ?_
  refine lv_sipush (v := 240) F.1 F.2.1 dX12_init_486 is_240 ?_
  refine y_newi (k := 122) h F hP hS ac_int (by decide) (by decide) (by decide) (Nat.le_of_ble_eq_true rfl) (Nat.le_of_ble_eq_true rfl) dX12_init_489 (fun w_489 ad H hm ha_122 _ hx h hP' hS => ?_)
  have e9 := hx 63 hn_63
  try rw [← e9] at hl
  try rw [← e9]
  have hP := hP'
  have hXA : ∀ k, wA w k ≠ 0 → ad k = ad0 k := fun k hk => (hx k (hM_w.1 k hk)).trans (hXA k hk)
  have hM_w := hM_w.trans hm
  have hn_63 := hm.1 _ hn_63
  have ha_64 := hm.2 _ ha_64
  have ha_65 := hm.2 _ ha_65
  have ha_66 := hm.2 _ ha_66
  have ha_67 := hm.2 _ ha_67
  have ha_68 := hm.2 _ ha_68
  have ha_69 := hm.2 _ ha_69
  have ha_70 := hm.2 _ ha_70
  have ha_71 := hm.2 _ ha_71
  have ha_72 := hm.2 _ ha_72
  have ha_73 := hm.2 _ ha_73
  have ha_74 := hm.2 _ ha_74
  have ha_75 := hm.2 _ ha_75
  have ha_76 := hm.2 _ ha_76
  have ha_77 := hm.2 _ ha_77
  have ha_78 := hm.2 _ ha_78
  have ha_79 := hm.2 _ ha_79
  have ha_80 := hm.2 _ ha_80
  have ha_81 := hm.2 _ ha_81
  have ha_82 := hm.2 _ ha_82
  have ha_83 := hm.2 _ ha_83
  have ha_84 := hm.2 _ ha_84
  have ha_85 := hm.2 _ ha_85
  have ha_86 := hm.2 _ ha_86
  have ha_87 := hm.2 _ ha_87
  have ha_88 := hm.2 _ ha_88
  have ha_89 := hm.2 _ ha_89
  have ha_90 := hm.2 _ ha_90
  have ha_91 := hm.2 _ ha_91
  have ha_92 := hm.2 _ ha_92
  have ha_93 := hm.2 _ ha_93
  have ha_94 := hm.2 _ ha_94
  have ha_95 := hm.2 _ ha_95
  have ha_96 := hm.2 _ ha_96
  have ha_97 := hm.2 _ ha_97
  have ha_98 := hm.2 _ ha_98
  have ha_99 := hm.2 _ ha_99
  have ha_100 := hm.2 _ ha_100
  have ha_101 := hm.2 _ ha_101
  have ha_102 := hm.2 _ ha_102
  have ha_103 := hm.2 _ ha_103
  have ha_104 := hm.2 _ ha_104
  have ha_105 := hm.2 _ ha_105
  have ha_106 := hm.2 _ ha_106
  have ha_107 := hm.2 _ ha_107
  have ha_108 := hm.2 _ ha_108
  have ha_109 := hm.2 _ ha_109
  have ha_110 := hm.2 _ ha_110
  have ha_111 := hm.2 _ ha_111
  have ha_112 := hm.2 _ ha_112
  have ha_113 := hm.2 _ ha_113
  have ha_114 := hm.2 _ ha_114
  have ha_115 := hm.2 _ ha_115
  have ha_116 := hm.2 _ ha_116
  have ha_117 := hm.2 _ ha_117
  have ha_118 := hm.2 _ ha_118
  have ha_119 := hm.2 _ ha_119
  have ha_120 := hm.2 _ ha_120
  have ha_121 := hm.2 _ ha_121
  refine y_putFr h F hP hS k_63 hn_63 fl_X12_204 hin rfl rfl r_63_81 ha_122 (Or.inr ⟨_, rfl⟩) dX12_init_491 (fun w_491 H locs hm h hP hS => ?_)
  have hM_w := hM_w.trans hm
  have hn_63 := hm.1 _ hn_63
  have ha_64 := hm.2 _ ha_64
  have ha_65 := hm.2 _ ha_65
  have ha_66 := hm.2 _ ha_66
  have ha_67 := hm.2 _ ha_67
  have ha_68 := hm.2 _ ha_68
  have ha_69 := hm.2 _ ha_69
  have ha_70 := hm.2 _ ha_70
  have ha_71 := hm.2 _ ha_71
  have ha_72 := hm.2 _ ha_72
  have ha_73 := hm.2 _ ha_73
  have ha_74 := hm.2 _ ha_74
  have ha_75 := hm.2 _ ha_75
  have ha_76 := hm.2 _ ha_76
  have ha_77 := hm.2 _ ha_77
  have ha_78 := hm.2 _ ha_78
  have ha_79 := hm.2 _ ha_79
  have ha_80 := hm.2 _ ha_80
  have ha_81 := hm.2 _ ha_81
  have ha_82 := hm.2 _ ha_82
  have ha_83 := hm.2 _ ha_83
  have ha_84 := hm.2 _ ha_84
  have ha_85 := hm.2 _ ha_85
  have ha_86 := hm.2 _ ha_86
  have ha_87 := hm.2 _ ha_87
  have ha_88 := hm.2 _ ha_88
  have ha_89 := hm.2 _ ha_89
  have ha_90 := hm.2 _ ha_90
  have ha_91 := hm.2 _ ha_91
  have ha_92 := hm.2 _ ha_92
  have ha_93 := hm.2 _ ha_93
  have ha_94 := hm.2 _ ha_94
  have ha_95 := hm.2 _ ha_95
  have ha_96 := hm.2 _ ha_96
  have ha_97 := hm.2 _ ha_97
  have ha_98 := hm.2 _ ha_98
  have ha_99 := hm.2 _ ha_99
  have ha_100 := hm.2 _ ha_100
  have ha_101 := hm.2 _ ha_101
  have ha_102 := hm.2 _ ha_102
  have ha_103 := hm.2 _ ha_103
  have ha_104 := hm.2 _ ha_104
  have ha_105 := hm.2 _ ha_105
  have ha_106 := hm.2 _ ha_106
  have ha_107 := hm.2 _ ha_107
  have ha_108 := hm.2 _ ha_108
  have ha_109 := hm.2 _ ha_109
  have ha_110 := hm.2 _ ha_110
  have ha_111 := hm.2 _ ha_111
  have ha_112 := hm.2 _ ha_112
  have ha_113 := hm.2 _ ha_113
  have ha_114 := hm.2 _ ha_114
  have ha_115 := hm.2 _ ha_115
  have ha_116 := hm.2 _ ha_116
  have ha_117 := hm.2 _ ha_117
  have ha_118 := hm.2 _ ha_118
  have ha_119 := hm.2 _ ha_119
  have ha_120 := hm.2 _ ha_120
  have ha_121 := hm.2 _ ha_121
  have ha_122 := hm.2 _ ha_122
  refine lv_aload_n F.1 F.2.1 dX12_init_494 rfl (lv_at hl 0 rfl) ?_
  refine lv_bipush (v := 60) F.1 F.2.1 dX12_init_495 ib_60 ?_
  refine y_newi (k := 123) h F hP hS ac_int (by decide) (by decide) (by decide) (Nat.le_of_ble_eq_true rfl) (Nat.le_of_ble_eq_true rfl) dX12_init_497 (fun w_497 ad H hm ha_123 _ hx h hP' hS => ?_)
  have e9 := hx 63 hn_63
  try rw [← e9] at hl
  try rw [← e9]
  have hP := hP'
  have hXA : ∀ k, wA w k ≠ 0 → ad k = ad0 k := fun k hk => (hx k (hM_w.1 k hk)).trans (hXA k hk)
  have hM_w := hM_w.trans hm
  have hn_63 := hm.1 _ hn_63
  have ha_64 := hm.2 _ ha_64
  have ha_65 := hm.2 _ ha_65
  have ha_66 := hm.2 _ ha_66
  have ha_67 := hm.2 _ ha_67
  have ha_68 := hm.2 _ ha_68
  have ha_69 := hm.2 _ ha_69
  have ha_70 := hm.2 _ ha_70
  have ha_71 := hm.2 _ ha_71
  have ha_72 := hm.2 _ ha_72
  have ha_73 := hm.2 _ ha_73
  have ha_74 := hm.2 _ ha_74
  have ha_75 := hm.2 _ ha_75
  have ha_76 := hm.2 _ ha_76
  have ha_77 := hm.2 _ ha_77
  have ha_78 := hm.2 _ ha_78
  have ha_79 := hm.2 _ ha_79
  have ha_80 := hm.2 _ ha_80
  have ha_81 := hm.2 _ ha_81
  have ha_82 := hm.2 _ ha_82
  have ha_83 := hm.2 _ ha_83
  have ha_84 := hm.2 _ ha_84
  have ha_85 := hm.2 _ ha_85
  have ha_86 := hm.2 _ ha_86
  have ha_87 := hm.2 _ ha_87
  have ha_88 := hm.2 _ ha_88
  have ha_89 := hm.2 _ ha_89
  have ha_90 := hm.2 _ ha_90
  have ha_91 := hm.2 _ ha_91
  have ha_92 := hm.2 _ ha_92
  have ha_93 := hm.2 _ ha_93
  have ha_94 := hm.2 _ ha_94
  have ha_95 := hm.2 _ ha_95
  have ha_96 := hm.2 _ ha_96
  have ha_97 := hm.2 _ ha_97
  have ha_98 := hm.2 _ ha_98
  have ha_99 := hm.2 _ ha_99
  have ha_100 := hm.2 _ ha_100
  have ha_101 := hm.2 _ ha_101
  have ha_102 := hm.2 _ ha_102
  have ha_103 := hm.2 _ ha_103
  have ha_104 := hm.2 _ ha_104
  have ha_105 := hm.2 _ ha_105
  have ha_106 := hm.2 _ ha_106
  have ha_107 := hm.2 _ ha_107
  have ha_108 := hm.2 _ ha_108
  have ha_109 := hm.2 _ ha_109
  have ha_110 := hm.2 _ ha_110
  have ha_111 := hm.2 _ ha_111
  have ha_112 := hm.2 _ ha_112
  have ha_113 := hm.2 _ ha_113
  have ha_114 := hm.2 _ ha_114
  have ha_115 := hm.2 _ ha_115
  have ha_116 := hm.2 _ ha_116
  have ha_117 := hm.2 _ ha_117
  have ha_118 := hm.2 _ ha_118
  have ha_119 := hm.2 _ ha_119
  have ha_120 := hm.2 _ ha_120
  have ha_121 := hm.2 _ ha_121
  have ha_122 := hm.2 _ ha_122
  refine y_putFr h F hP hS k_63 hn_63 fl_X12_207 hin rfl rfl r_63_82 ha_123 (Or.inr ⟨_, rfl⟩) dX12_init_499 (fun w_499 H locs hm h hP hS => ?_)
  have hM_w := hM_w.trans hm
  have hn_63 := hm.1 _ hn_63
  have ha_64 := hm.2 _ ha_64
  have ha_65 := hm.2 _ ha_65
  have ha_66 := hm.2 _ ha_66
  have ha_67 := hm.2 _ ha_67
  have ha_68 := hm.2 _ ha_68
  have ha_69 := hm.2 _ ha_69
  have ha_70 := hm.2 _ ha_70
  have ha_71 := hm.2 _ ha_71
  have ha_72 := hm.2 _ ha_72
  have ha_73 := hm.2 _ ha_73
  have ha_74 := hm.2 _ ha_74
  have ha_75 := hm.2 _ ha_75
  have ha_76 := hm.2 _ ha_76
  have ha_77 := hm.2 _ ha_77
  have ha_78 := hm.2 _ ha_78
  have ha_79 := hm.2 _ ha_79
  have ha_80 := hm.2 _ ha_80
  have ha_81 := hm.2 _ ha_81
  have ha_82 := hm.2 _ ha_82
  have ha_83 := hm.2 _ ha_83
  have ha_84 := hm.2 _ ha_84
  have ha_85 := hm.2 _ ha_85
  have ha_86 := hm.2 _ ha_86
  have ha_87 := hm.2 _ ha_87
  have ha_88 := hm.2 _ ha_88
  have ha_89 := hm.2 _ ha_89
  have ha_90 := hm.2 _ ha_90
  have ha_91 := hm.2 _ ha_91
  have ha_92 := hm.2 _ ha_92
  have ha_93 := hm.2 _ ha_93
  have ha_94 := hm.2 _ ha_94
  have ha_95 := hm.2 _ ha_95
  have ha_96 := hm.2 _ ha_96
  have ha_97 := hm.2 _ ha_97
  have ha_98 := hm.2 _ ha_98
  have ha_99 := hm.2 _ ha_99
  have ha_100 := hm.2 _ ha_100
  have ha_101 := hm.2 _ ha_101
  have ha_102 := hm.2 _ ha_102
  have ha_103 := hm.2 _ ha_103
  have ha_104 := hm.2 _ ha_104
  have ha_105 := hm.2 _ ha_105
  have ha_106 := hm.2 _ ha_106
  have ha_107 := hm.2 _ ha_107
  have ha_108 := hm.2 _ ha_108
  have ha_109 := hm.2 _ ha_109
  have ha_110 := hm.2 _ ha_110
  have ha_111 := hm.2 _ ha_111
  have ha_112 := hm.2 _ ha_112
  have ha_113 := hm.2 _ ha_113
  have ha_114 := hm.2 _ ha_114
  have ha_115 := hm.2 _ ha_115
  have ha_116 := hm.2 _ ha_116
  have ha_117 := hm.2 _ ha_117
  have ha_118 := hm.2 _ ha_118
  have ha_119 := hm.2 _ ha_119
  have ha_120 := hm.2 _ ha_120
  have ha_121 := hm.2 _ ha_121
  have ha_122 := hm.2 _ ha_122
  have ha_123 := hm.2 _ ha_123
  refine lv_iconst (v := 0) F.1 F.2.1 dX12_init_502 ic_0 ?_
  refine lv_istore_n (lv' := [(1, .int (0 : Int32)), (0, .ref (ad 63))]) F.1 F.2.1 dX12_init_503 rfl hl (Nat.le_of_ble_eq_true rfl) rfl (fun ls hl => ?_)
  refine jn_use (fun (j_524 : Wd → Option Wd) => ∀ (w_524j : Wd), mono w_499 w_524j → j_524 w_524j = some w9 → GG p l e { frames := 1, cells := 60, slots := 15878, locals := 20 } s m args below meth c 60 15878 (MQ below (mQA D cT lo nb w w9 ad0 none) args s 60 15878 (fun q => lo ≤ q)) D cT lo nb 2 ad w_524j 524 [(0, .ref (ad 63))] []) h (fun w_524j hm h H locs ls hP hS hl => ?_) (fun j_524 J_524 h => ?_)
  · have hM_w := hM_w.trans hm
    have hM_w_499 := hm
    have hn_63 := hm.1 _ hn_63
    have ha_64 := hm.2 _ ha_64
    have ha_65 := hm.2 _ ha_65
    have ha_66 := hm.2 _ ha_66
    have ha_67 := hm.2 _ ha_67
    have ha_68 := hm.2 _ ha_68
    have ha_69 := hm.2 _ ha_69
    have ha_70 := hm.2 _ ha_70
    have ha_71 := hm.2 _ ha_71
    have ha_72 := hm.2 _ ha_72
    have ha_73 := hm.2 _ ha_73
    have ha_74 := hm.2 _ ha_74
    have ha_75 := hm.2 _ ha_75
    have ha_76 := hm.2 _ ha_76
    have ha_77 := hm.2 _ ha_77
    have ha_78 := hm.2 _ ha_78
    have ha_79 := hm.2 _ ha_79
    have ha_80 := hm.2 _ ha_80
    have ha_81 := hm.2 _ ha_81
    have ha_82 := hm.2 _ ha_82
    have ha_83 := hm.2 _ ha_83
    have ha_84 := hm.2 _ ha_84
    have ha_85 := hm.2 _ ha_85
    have ha_86 := hm.2 _ ha_86
    have ha_87 := hm.2 _ ha_87
    have ha_88 := hm.2 _ ha_88
    have ha_89 := hm.2 _ ha_89
    have ha_90 := hm.2 _ ha_90
    have ha_91 := hm.2 _ ha_91
    have ha_92 := hm.2 _ ha_92
    have ha_93 := hm.2 _ ha_93
    have ha_94 := hm.2 _ ha_94
    have ha_95 := hm.2 _ ha_95
    have ha_96 := hm.2 _ ha_96
    have ha_97 := hm.2 _ ha_97
    have ha_98 := hm.2 _ ha_98
    have ha_99 := hm.2 _ ha_99
    have ha_100 := hm.2 _ ha_100
    have ha_101 := hm.2 _ ha_101
    have ha_102 := hm.2 _ ha_102
    have ha_103 := hm.2 _ ha_103
    have ha_104 := hm.2 _ ha_104
    have ha_105 := hm.2 _ ha_105
    have ha_106 := hm.2 _ ha_106
    have ha_107 := hm.2 _ ha_107
    have ha_108 := hm.2 _ ha_108
    have ha_109 := hm.2 _ ha_109
    have ha_110 := hm.2 _ ha_110
    have ha_111 := hm.2 _ ha_111
    have ha_112 := hm.2 _ ha_112
    have ha_113 := hm.2 _ ha_113
    have ha_114 := hm.2 _ ha_114
    have ha_115 := hm.2 _ ha_115
    have ha_116 := hm.2 _ ha_116
    have ha_117 := hm.2 _ ha_117
    have ha_118 := hm.2 _ ha_118
    have ha_119 := hm.2 _ ha_119
    have ha_120 := hm.2 _ ha_120
    have ha_121 := hm.2 _ ha_121
    have ha_122 := hm.2 _ ha_122
    have ha_123 := hm.2 _ ha_123
    refine lv_iconst (v := 0) F.1 F.2.1 dX12_init_524 ic_0 ?_
    refine lv_istore_n (lv' := [(1, .int (0 : Int32)), (0, .ref (ad 63))]) F.1 F.2.1 dX12_init_525 rfl hl (Nat.le_of_ble_eq_true rfl) rfl (fun ls hl => ?_)
    have L_526 : ∀ (n_526 : Nat) (w_526l : Wd) (x1_526l : Int32), mono w_524j w_526l → l_X12_init_526 n_526 w_526l x1_526l = some w9 → GG p l e { frames := 1, cells := 60, slots := 15878, locals := 20 } s m args below meth c 60 15878 (MQ below (mQA D cT lo nb w w9 ad0 none) args s 60 15878 (fun q => lo ≤ q)) D cT lo nb 2 ad w_526l 526 [(1, .int x1_526l), (0, .ref (ad 63))] [] := by
      intro n_526
      induction n_526 with
      | zero =>
        intro w_526l x1_526l _ h
        exact absurd h (by unfold l_X12_init_526; exact fun z => by cases z)
      | succ n_526 ih_526 =>
        intro w_526l x1_526l hm h H locs ls hP hS hl
        unfold l_X12_init_526 at h
        have hM_w := hM_w.trans hm
        have hM_w_499 := hM_w_499.trans hm
        have hM_w_524j := hm
        have hn_63 := hm.1 _ hn_63
        have ha_64 := hm.2 _ ha_64
        have ha_65 := hm.2 _ ha_65
        have ha_66 := hm.2 _ ha_66
        have ha_67 := hm.2 _ ha_67
        have ha_68 := hm.2 _ ha_68
        have ha_69 := hm.2 _ ha_69
        have ha_70 := hm.2 _ ha_70
        have ha_71 := hm.2 _ ha_71
        have ha_72 := hm.2 _ ha_72
        have ha_73 := hm.2 _ ha_73
        have ha_74 := hm.2 _ ha_74
        have ha_75 := hm.2 _ ha_75
        have ha_76 := hm.2 _ ha_76
        have ha_77 := hm.2 _ ha_77
        have ha_78 := hm.2 _ ha_78
        have ha_79 := hm.2 _ ha_79
        have ha_80 := hm.2 _ ha_80
        have ha_81 := hm.2 _ ha_81
        have ha_82 := hm.2 _ ha_82
        have ha_83 := hm.2 _ ha_83
        have ha_84 := hm.2 _ ha_84
        have ha_85 := hm.2 _ ha_85
        have ha_86 := hm.2 _ ha_86
        have ha_87 := hm.2 _ ha_87
        have ha_88 := hm.2 _ ha_88
        have ha_89 := hm.2 _ ha_89
        have ha_90 := hm.2 _ ha_90
        have ha_91 := hm.2 _ ha_91
        have ha_92 := hm.2 _ ha_92
        have ha_93 := hm.2 _ ha_93
        have ha_94 := hm.2 _ ha_94
        have ha_95 := hm.2 _ ha_95
        have ha_96 := hm.2 _ ha_96
        have ha_97 := hm.2 _ ha_97
        have ha_98 := hm.2 _ ha_98
        have ha_99 := hm.2 _ ha_99
        have ha_100 := hm.2 _ ha_100
        have ha_101 := hm.2 _ ha_101
        have ha_102 := hm.2 _ ha_102
        have ha_103 := hm.2 _ ha_103
        have ha_104 := hm.2 _ ha_104
        have ha_105 := hm.2 _ ha_105
        have ha_106 := hm.2 _ ha_106
        have ha_107 := hm.2 _ ha_107
        have ha_108 := hm.2 _ ha_108
        have ha_109 := hm.2 _ ha_109
        have ha_110 := hm.2 _ ha_110
        have ha_111 := hm.2 _ ha_111
        have ha_112 := hm.2 _ ha_112
        have ha_113 := hm.2 _ ha_113
        have ha_114 := hm.2 _ ha_114
        have ha_115 := hm.2 _ ha_115
        have ha_116 := hm.2 _ ha_116
        have ha_117 := hm.2 _ ha_117
        have ha_118 := hm.2 _ ha_118
        have ha_119 := hm.2 _ ha_119
        have ha_120 := hm.2 _ ha_120
        have ha_121 := hm.2 _ ha_121
        have ha_122 := hm.2 _ ha_122
        have ha_123 := hm.2 _ ha_123
        refine lv_iload_n F.1 F.2.1 dX12_init_526 rfl (lv_at hl 0 rfl) ?_
        refine lv_bipush (v := 16) F.1 F.2.1 dX12_init_527 ib_16 ?_
        refine lv_icmp_ge (tgt := 546) F.1 F.2.1 dX12_init_529 (by decide) (fun hc => ?_) (fun hc => ?_)
        · have h := if_t _ hc h
          refine y_ready h hP k_63 ftN_12 (fun w_r546 hm _ h hP => ?_)
          have hM_w := hM_w.trans hm
          refine W.widen (k := 60) (n := 15878) (Nat.le_of_ble_eq_true rfl) (Nat.le_of_ble_eq_true rfl) ?_
          exact y_vretA h F hXA hr hP hS hM_w hlk dX12_init_546
        · have h := if_f _ hc h
          refine lv_aload_n F.1 F.2.1 dX12_init_532 rfl (lv_at hl 1 rfl) ?_
          refine y_getrS h F hP k_63 hn_63 fl_X12_117 rfl r_63_45 dX12_init_533 (fun ha_98 h => ?_)
          refine lv_iload_n F.1 F.2.1 dX12_init_536 rfl (lv_at hl 0 rfl) ?_
          refine lv_bipush (v := 20) F.1 F.2.1 dX12_init_537 ib_20 ?_
          refine y_iast h F hP hS k_98 (n2 ha_98) dX12_init_539 (fun w_539 H locs hm h hP hS => ?_)
          have hM_w := hM_w.trans hm
          have hM_w_499 := hM_w_499.trans hm
          have hM_w_524j := hM_w_524j.trans hm
          have hn_63 := hm.1 _ hn_63
          have ha_64 := hm.2 _ ha_64
          have ha_65 := hm.2 _ ha_65
          have ha_66 := hm.2 _ ha_66
          have ha_67 := hm.2 _ ha_67
          have ha_68 := hm.2 _ ha_68
          have ha_69 := hm.2 _ ha_69
          have ha_70 := hm.2 _ ha_70
          have ha_71 := hm.2 _ ha_71
          have ha_72 := hm.2 _ ha_72
          have ha_73 := hm.2 _ ha_73
          have ha_74 := hm.2 _ ha_74
          have ha_75 := hm.2 _ ha_75
          have ha_76 := hm.2 _ ha_76
          have ha_77 := hm.2 _ ha_77
          have ha_78 := hm.2 _ ha_78
          have ha_79 := hm.2 _ ha_79
          have ha_80 := hm.2 _ ha_80
          have ha_81 := hm.2 _ ha_81
          have ha_82 := hm.2 _ ha_82
          have ha_83 := hm.2 _ ha_83
          have ha_84 := hm.2 _ ha_84
          have ha_85 := hm.2 _ ha_85
          have ha_86 := hm.2 _ ha_86
          have ha_87 := hm.2 _ ha_87
          have ha_88 := hm.2 _ ha_88
          have ha_89 := hm.2 _ ha_89
          have ha_90 := hm.2 _ ha_90
          have ha_91 := hm.2 _ ha_91
          have ha_92 := hm.2 _ ha_92
          have ha_93 := hm.2 _ ha_93
          have ha_94 := hm.2 _ ha_94
          have ha_95 := hm.2 _ ha_95
          have ha_96 := hm.2 _ ha_96
          have ha_97 := hm.2 _ ha_97
          have ha_98 := hm.2 _ ha_98
          have ha_99 := hm.2 _ ha_99
          have ha_100 := hm.2 _ ha_100
          have ha_101 := hm.2 _ ha_101
          have ha_102 := hm.2 _ ha_102
          have ha_103 := hm.2 _ ha_103
          have ha_104 := hm.2 _ ha_104
          have ha_105 := hm.2 _ ha_105
          have ha_106 := hm.2 _ ha_106
          have ha_107 := hm.2 _ ha_107
          have ha_108 := hm.2 _ ha_108
          have ha_109 := hm.2 _ ha_109
          have ha_110 := hm.2 _ ha_110
          have ha_111 := hm.2 _ ha_111
          have ha_112 := hm.2 _ ha_112
          have ha_113 := hm.2 _ ha_113
          have ha_114 := hm.2 _ ha_114
          have ha_115 := hm.2 _ ha_115
          have ha_116 := hm.2 _ ha_116
          have ha_117 := hm.2 _ ha_117
          have ha_118 := hm.2 _ ha_118
          have ha_119 := hm.2 _ ha_119
          have ha_120 := hm.2 _ ha_120
          have ha_121 := hm.2 _ ha_121
          have ha_122 := hm.2 _ ha_122
          have ha_123 := hm.2 _ ha_123
          refine y_iinc (lv' := fun (v_540 : Int32) => [(1, .int v_540), (0, .ref (ad 63))]) h F ic_1 dX12_init_540 hl (kq := 0) rfl (Nat.le_of_ble_eq_true rfl) (fun _ => rfl) (fun v_540 ls hl h => ?_)
          refine lv_goto (tgt := 526) F.1 F.2.1 dX12_init_543 (by decide) ?_
          exact ih_526 w_539 v_540 hM_w_524j h _ _ _ hP hS (lv_sub hl [0, 1] rfl)
    exact L_526 FU w_524j (0 : Int32) mono.refl h _ _ _ hP hS (lv_sub hl [0, 1] rfl)
  · have L_504 : ∀ (n_504 : Nat) (w_504l : Wd) (x1_504l : Int32), mono w_499 w_504l → l_X12_init_504 j_524 n_504 w_504l x1_504l = some w9 → GG p l e { frames := 1, cells := 60, slots := 15878, locals := 20 } s m args below meth c 60 15878 (MQ below (mQA D cT lo nb w w9 ad0 none) args s 60 15878 (fun q => lo ≤ q)) D cT lo nb 2 ad w_504l 504 [(1, .int x1_504l), (0, .ref (ad 63))] [] := by
      intro n_504
      induction n_504 with
      | zero =>
        intro w_504l x1_504l _ h
        exact absurd h (by unfold l_X12_init_504; exact fun z => by cases z)
      | succ n_504 ih_504 =>
        intro w_504l x1_504l hm h H locs ls hP hS hl
        unfold l_X12_init_504 at h
        have hM_w := hM_w.trans hm
        have hM_w_499 := hm
        have hn_63 := hm.1 _ hn_63
        have ha_64 := hm.2 _ ha_64
        have ha_65 := hm.2 _ ha_65
        have ha_66 := hm.2 _ ha_66
        have ha_67 := hm.2 _ ha_67
        have ha_68 := hm.2 _ ha_68
        have ha_69 := hm.2 _ ha_69
        have ha_70 := hm.2 _ ha_70
        have ha_71 := hm.2 _ ha_71
        have ha_72 := hm.2 _ ha_72
        have ha_73 := hm.2 _ ha_73
        have ha_74 := hm.2 _ ha_74
        have ha_75 := hm.2 _ ha_75
        have ha_76 := hm.2 _ ha_76
        have ha_77 := hm.2 _ ha_77
        have ha_78 := hm.2 _ ha_78
        have ha_79 := hm.2 _ ha_79
        have ha_80 := hm.2 _ ha_80
        have ha_81 := hm.2 _ ha_81
        have ha_82 := hm.2 _ ha_82
        have ha_83 := hm.2 _ ha_83
        have ha_84 := hm.2 _ ha_84
        have ha_85 := hm.2 _ ha_85
        have ha_86 := hm.2 _ ha_86
        have ha_87 := hm.2 _ ha_87
        have ha_88 := hm.2 _ ha_88
        have ha_89 := hm.2 _ ha_89
        have ha_90 := hm.2 _ ha_90
        have ha_91 := hm.2 _ ha_91
        have ha_92 := hm.2 _ ha_92
        have ha_93 := hm.2 _ ha_93
        have ha_94 := hm.2 _ ha_94
        have ha_95 := hm.2 _ ha_95
        have ha_96 := hm.2 _ ha_96
        have ha_97 := hm.2 _ ha_97
        have ha_98 := hm.2 _ ha_98
        have ha_99 := hm.2 _ ha_99
        have ha_100 := hm.2 _ ha_100
        have ha_101 := hm.2 _ ha_101
        have ha_102 := hm.2 _ ha_102
        have ha_103 := hm.2 _ ha_103
        have ha_104 := hm.2 _ ha_104
        have ha_105 := hm.2 _ ha_105
        have ha_106 := hm.2 _ ha_106
        have ha_107 := hm.2 _ ha_107
        have ha_108 := hm.2 _ ha_108
        have ha_109 := hm.2 _ ha_109
        have ha_110 := hm.2 _ ha_110
        have ha_111 := hm.2 _ ha_111
        have ha_112 := hm.2 _ ha_112
        have ha_113 := hm.2 _ ha_113
        have ha_114 := hm.2 _ ha_114
        have ha_115 := hm.2 _ ha_115
        have ha_116 := hm.2 _ ha_116
        have ha_117 := hm.2 _ ha_117
        have ha_118 := hm.2 _ ha_118
        have ha_119 := hm.2 _ ha_119
        have ha_120 := hm.2 _ ha_120
        have ha_121 := hm.2 _ ha_121
        have ha_122 := hm.2 _ ha_122
        have ha_123 := hm.2 _ ha_123
        refine lv_iload_n F.1 F.2.1 dX12_init_504 rfl (lv_at hl 0 rfl) ?_
        refine lv_bipush (v := 20) F.1 F.2.1 dX12_init_505 ib_20 ?_
        refine lv_icmp_ge (tgt := 524) F.1 F.2.1 dX12_init_507 (by decide) (fun hc => ?_) (fun hc => ?_)
        · have h := if_t _ hc h
          exact J_524 w_504l hM_w_499 h _ _ _ hP hS (lv_sub hl [1] rfl)
        · have h := if_f _ hc h
          refine lv_aload_n F.1 F.2.1 dX12_init_510 rfl (lv_at hl 1 rfl) ?_
          refine y_getrS h F hP k_63 hn_63 fl_X12_147 rfl r_63_57 dX12_init_511 (fun ha_104 h => ?_)
          refine lv_iload_n F.1 F.2.1 dX12_init_514 rfl (lv_at hl 0 rfl) ?_
          refine lv_bipush (v := 10) F.1 F.2.1 dX12_init_515 ib_10 ?_
          refine y_iast h F hP hS k_104 (n2 ha_104) dX12_init_517 (fun w_517 H locs hm h hP hS => ?_)
          have hM_w := hM_w.trans hm
          have hM_w_499 := hM_w_499.trans hm
          have hn_63 := hm.1 _ hn_63
          have ha_64 := hm.2 _ ha_64
          have ha_65 := hm.2 _ ha_65
          have ha_66 := hm.2 _ ha_66
          have ha_67 := hm.2 _ ha_67
          have ha_68 := hm.2 _ ha_68
          have ha_69 := hm.2 _ ha_69
          have ha_70 := hm.2 _ ha_70
          have ha_71 := hm.2 _ ha_71
          have ha_72 := hm.2 _ ha_72
          have ha_73 := hm.2 _ ha_73
          have ha_74 := hm.2 _ ha_74
          have ha_75 := hm.2 _ ha_75
          have ha_76 := hm.2 _ ha_76
          have ha_77 := hm.2 _ ha_77
          have ha_78 := hm.2 _ ha_78
          have ha_79 := hm.2 _ ha_79
          have ha_80 := hm.2 _ ha_80
          have ha_81 := hm.2 _ ha_81
          have ha_82 := hm.2 _ ha_82
          have ha_83 := hm.2 _ ha_83
          have ha_84 := hm.2 _ ha_84
          have ha_85 := hm.2 _ ha_85
          have ha_86 := hm.2 _ ha_86
          have ha_87 := hm.2 _ ha_87
          have ha_88 := hm.2 _ ha_88
          have ha_89 := hm.2 _ ha_89
          have ha_90 := hm.2 _ ha_90
          have ha_91 := hm.2 _ ha_91
          have ha_92 := hm.2 _ ha_92
          have ha_93 := hm.2 _ ha_93
          have ha_94 := hm.2 _ ha_94
          have ha_95 := hm.2 _ ha_95
          have ha_96 := hm.2 _ ha_96
          have ha_97 := hm.2 _ ha_97
          have ha_98 := hm.2 _ ha_98
          have ha_99 := hm.2 _ ha_99
          have ha_100 := hm.2 _ ha_100
          have ha_101 := hm.2 _ ha_101
          have ha_102 := hm.2 _ ha_102
          have ha_103 := hm.2 _ ha_103
          have ha_104 := hm.2 _ ha_104
          have ha_105 := hm.2 _ ha_105
          have ha_106 := hm.2 _ ha_106
          have ha_107 := hm.2 _ ha_107
          have ha_108 := hm.2 _ ha_108
          have ha_109 := hm.2 _ ha_109
          have ha_110 := hm.2 _ ha_110
          have ha_111 := hm.2 _ ha_111
          have ha_112 := hm.2 _ ha_112
          have ha_113 := hm.2 _ ha_113
          have ha_114 := hm.2 _ ha_114
          have ha_115 := hm.2 _ ha_115
          have ha_116 := hm.2 _ ha_116
          have ha_117 := hm.2 _ ha_117
          have ha_118 := hm.2 _ ha_118
          have ha_119 := hm.2 _ ha_119
          have ha_120 := hm.2 _ ha_120
          have ha_121 := hm.2 _ ha_121
          have ha_122 := hm.2 _ ha_122
          have ha_123 := hm.2 _ ha_123
          refine y_iinc (lv' := fun (v_518 : Int32) => [(1, .int v_518), (0, .ref (ad 63))]) h F ic_1 dX12_init_518 hl (kq := 0) rfl (Nat.le_of_ble_eq_true rfl) (fun _ => rfl) (fun v_518 ls hl h => ?_)
          refine lv_goto (tgt := 504) F.1 F.2.1 dX12_init_521 (by decide) ?_
          exact ih_504 w_517 v_518 hM_w_499 h _ _ _ hP hS (lv_sub hl [0, 1] rfl)
    exact L_504 FU w_499 (0 : Int32) mono.refl h _ _ _ hP hS (lv_sub hl [0, 1] rfl)
