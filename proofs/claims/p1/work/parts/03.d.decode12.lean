theorem dX12_init_0 : decode cX12_init 0 = .ok (.aload_n 0, 1) := by decide +kernel
theorem dX12_init_1 : decode cX12_init 1 = .ok (.invokespecial 1, 3) := by decide +kernel
theorem dX12_init_4 : decode cX12_init 4 = .ok (.aload_n 0, 1) := by decide +kernel
theorem dX12_init_5 : decode cX12_init 5 = .ok (.sipush 3000, 3) := by decide +kernel
theorem dX12_init_8 : decode cX12_init 8 = .ok (.newarray .byte, 2) := by decide +kernel
theorem dX12_init_10 : decode cX12_init 10 = .ok (.putfield 7, 3) := by decide +kernel
theorem dX12_init_13 : decode cX12_init 13 = .ok (.aload_n 0, 1) := by decide +kernel
theorem dX12_init_14 : decode cX12_init 14 = .ok (.sipush 710, 3) := by decide +kernel
theorem dX12_init_17 : decode cX12_init 17 = .ok (.newarray .int, 2) := by decide +kernel
theorem dX12_init_19 : decode cX12_init 19 = .ok (.putfield 13, 3) := by decide +kernel
theorem dX12_init_22 : decode cX12_init 22 = .ok (.aload_n 0, 1) := by decide +kernel
theorem dX12_init_23 : decode cX12_init 23 = .ok (.sipush 710, 3) := by decide +kernel
theorem dX12_init_26 : decode cX12_init 26 = .ok (.newarray .int, 2) := by decide +kernel
theorem dX12_init_28 : decode cX12_init 28 = .ok (.putfield 17, 3) := by decide +kernel
theorem dX12_init_31 : decode cX12_init 31 = .ok (.aload_n 0, 1) := by decide +kernel
theorem dX12_init_32 : decode cX12_init 32 = .ok (.sipush 710, 3) := by decide +kernel
theorem dX12_init_35 : decode cX12_init 35 = .ok (.newarray .int, 2) := by decide +kernel
theorem dX12_init_37 : decode cX12_init 37 = .ok (.putfield 20, 3) := by decide +kernel
theorem dX12_init_40 : decode cX12_init 40 = .ok (.aload_n 0, 1) := by decide +kernel
theorem dX12_init_41 : decode cX12_init 41 = .ok (.sipush 710, 3) := by decide +kernel
theorem dX12_init_44 : decode cX12_init 44 = .ok (.newarray .int, 2) := by decide +kernel
theorem dX12_init_46 : decode cX12_init 46 = .ok (.putfield 23, 3) := by decide +kernel
theorem dX12_init_49 : decode cX12_init 49 = .ok (.aload_n 0, 1) := by decide +kernel
theorem dX12_init_50 : decode cX12_init 50 = .ok (.iconst (-1), 1) := by decide +kernel
theorem dX12_init_51 : decode cX12_init 51 = .ok (.putfield 26, 3) := by decide +kernel
theorem dX12_init_54 : decode cX12_init 54 = .ok (.aload_n 0, 1) := by decide +kernel
theorem dX12_init_55 : decode cX12_init 55 = .ok (.iconst (-1), 1) := by decide +kernel
theorem dX12_init_56 : decode cX12_init 56 = .ok (.putfield 30, 3) := by decide +kernel
theorem dX12_init_59 : decode cX12_init 59 = .ok (.aload_n 0, 1) := by decide +kernel
theorem dX12_init_60 : decode cX12_init 60 = .ok (.sipush 3000, 3) := by decide +kernel
theorem dX12_init_63 : decode cX12_init 63 = .ok (.newarray .int, 2) := by decide +kernel
theorem dX12_init_65 : decode cX12_init 65 = .ok (.putfield 33, 3) := by decide +kernel
theorem dX12_init_68 : decode cX12_init 68 = .ok (.aload_n 0, 1) := by decide +kernel
theorem dX12_init_69 : decode cX12_init 69 = .ok (.sipush 3000, 3) := by decide +kernel
theorem dX12_init_72 : decode cX12_init 72 = .ok (.newarray .int, 2) := by decide +kernel
theorem dX12_init_74 : decode cX12_init 74 = .ok (.putfield 36, 3) := by decide +kernel
theorem dX12_init_77 : decode cX12_init 77 = .ok (.aload_n 0, 1) := by decide +kernel
theorem dX12_init_78 : decode cX12_init 78 = .ok (.sipush 3000, 3) := by decide +kernel
theorem dX12_init_81 : decode cX12_init 81 = .ok (.newarray .int, 2) := by decide +kernel
theorem dX12_init_83 : decode cX12_init 83 = .ok (.putfield 39, 3) := by decide +kernel
theorem dX12_init_86 : decode cX12_init 86 = .ok (.aload_n 0, 1) := by decide +kernel
theorem dX12_init_87 : decode cX12_init 87 = .ok (.sipush 3000, 3) := by decide +kernel
theorem dX12_init_90 : decode cX12_init 90 = .ok (.newarray .int, 2) := by decide +kernel
theorem dX12_init_92 : decode cX12_init 92 = .ok (.putfield 42, 3) := by decide +kernel
theorem dX12_init_95 : decode cX12_init 95 = .ok (.aload_n 0, 1) := by decide +kernel
theorem dX12_init_96 : decode cX12_init 96 = .ok (.sipush 3000, 3) := by decide +kernel
theorem dX12_init_99 : decode cX12_init 99 = .ok (.newarray .int, 2) := by decide +kernel
theorem dX12_init_101 : decode cX12_init 101 = .ok (.putfield 45, 3) := by decide +kernel
theorem dX12_init_104 : decode cX12_init 104 = .ok (.aload_n 0, 1) := by decide +kernel
theorem dX12_init_105 : decode cX12_init 105 = .ok (.sipush 3000, 3) := by decide +kernel
theorem dX12_init_108 : decode cX12_init 108 = .ok (.newarray .int, 2) := by decide +kernel
theorem dX12_init_110 : decode cX12_init 110 = .ok (.putfield 48, 3) := by decide +kernel
theorem dX12_init_113 : decode cX12_init 113 = .ok (.aload_n 0, 1) := by decide +kernel
theorem dX12_init_114 : decode cX12_init 114 = .ok (.bipush 40, 2) := by decide +kernel
theorem dX12_init_116 : decode cX12_init 116 = .ok (.newarray .int, 2) := by decide +kernel
theorem dX12_init_118 : decode cX12_init 118 = .ok (.putfield 51, 3) := by decide +kernel
theorem dX12_init_121 : decode cX12_init 121 = .ok (.aload_n 0, 1) := by decide +kernel
theorem dX12_init_122 : decode cX12_init 122 = .ok (.bipush 40, 2) := by decide +kernel
theorem dX12_init_124 : decode cX12_init 124 = .ok (.newarray .int, 2) := by decide +kernel
theorem dX12_init_126 : decode cX12_init 126 = .ok (.putfield 54, 3) := by decide +kernel
theorem dX12_init_129 : decode cX12_init 129 = .ok (.aload_n 0, 1) := by decide +kernel
theorem dX12_init_130 : decode cX12_init 130 = .ok (.bipush 40, 2) := by decide +kernel
theorem dX12_init_132 : decode cX12_init 132 = .ok (.newarray .int, 2) := by decide +kernel
theorem dX12_init_134 : decode cX12_init 134 = .ok (.putfield 57, 3) := by decide +kernel
theorem dX12_init_137 : decode cX12_init 137 = .ok (.aload_n 0, 1) := by decide +kernel
theorem dX12_init_138 : decode cX12_init 138 = .ok (.bipush 40, 2) := by decide +kernel
theorem dX12_init_140 : decode cX12_init 140 = .ok (.newarray .int, 2) := by decide +kernel
theorem dX12_init_142 : decode cX12_init 142 = .ok (.putfield 60, 3) := by decide +kernel
theorem dX12_init_145 : decode cX12_init 145 = .ok (.aload_n 0, 1) := by decide +kernel
theorem dX12_init_146 : decode cX12_init 146 = .ok (.bipush 40, 2) := by decide +kernel
theorem dX12_init_148 : decode cX12_init 148 = .ok (.newarray .boolean, 2) := by decide +kernel
theorem dX12_init_150 : decode cX12_init 150 = .ok (.putfield 63, 3) := by decide +kernel
theorem dX12_init_153 : decode cX12_init 153 = .ok (.aload_n 0, 1) := by decide +kernel
theorem dX12_init_154 : decode cX12_init 154 = .ok (.bipush 40, 2) := by decide +kernel
theorem dX12_init_156 : decode cX12_init 156 = .ok (.newarray .int, 2) := by decide +kernel
theorem dX12_init_158 : decode cX12_init 158 = .ok (.putfield 67, 3) := by decide +kernel
theorem dX12_init_161 : decode cX12_init 161 = .ok (.aload_n 0, 1) := by decide +kernel
theorem dX12_init_162 : decode cX12_init 162 = .ok (.bipush 24, 2) := by decide +kernel
theorem dX12_init_164 : decode cX12_init 164 = .ok (.newarray .int, 2) := by decide +kernel
theorem dX12_init_166 : decode cX12_init 166 = .ok (.putfield 70, 3) := by decide +kernel
theorem dX12_init_169 : decode cX12_init 169 = .ok (.aload_n 0, 1) := by decide +kernel
theorem dX12_init_170 : decode cX12_init 170 = .ok (.bipush 24, 2) := by decide +kernel
theorem dX12_init_172 : decode cX12_init 172 = .ok (.newarray .boolean, 2) := by decide +kernel
theorem dX12_init_174 : decode cX12_init 174 = .ok (.putfield 73, 3) := by decide +kernel
theorem dX12_init_177 : decode cX12_init 177 = .ok (.aload_n 0, 1) := by decide +kernel
theorem dX12_init_178 : decode cX12_init 178 = .ok (.bipush 6, 2) := by decide +kernel
theorem dX12_init_180 : decode cX12_init 180 = .ok (.newarray .boolean, 2) := by decide +kernel
theorem dX12_init_182 : decode cX12_init 182 = .ok (.putfield 76, 3) := by decide +kernel
theorem dX12_init_185 : decode cX12_init 185 = .ok (.aload_n 0, 1) := by decide +kernel
theorem dX12_init_186 : decode cX12_init 186 = .ok (.bipush 6, 2) := by decide +kernel
theorem dX12_init_188 : decode cX12_init 188 = .ok (.newarray .int, 2) := by decide +kernel
theorem dX12_init_190 : decode cX12_init 190 = .ok (.putfield 79, 3) := by decide +kernel
theorem dX12_init_193 : decode cX12_init 193 = .ok (.aload_n 0, 1) := by decide +kernel
theorem dX12_init_194 : decode cX12_init 194 = .ok (.iconst 4, 1) := by decide +kernel
theorem dX12_init_195 : decode cX12_init 195 = .ok (.newarray .int, 2) := by decide +kernel
theorem dX12_init_197 : decode cX12_init 197 = .ok (.putfield 82, 3) := by decide +kernel
theorem dX12_init_200 : decode cX12_init 200 = .ok (.aload_n 0, 1) := by decide +kernel
theorem dX12_init_201 : decode cX12_init 201 = .ok (.iconst 4, 1) := by decide +kernel
theorem dX12_init_202 : decode cX12_init 202 = .ok (.newarray .int, 2) := by decide +kernel
theorem dX12_init_204 : decode cX12_init 204 = .ok (.putfield 85, 3) := by decide +kernel
theorem dX12_init_207 : decode cX12_init 207 = .ok (.aload_n 0, 1) := by decide +kernel
theorem dX12_init_208 : decode cX12_init 208 = .ok (.bipush 40, 2) := by decide +kernel
theorem dX12_init_210 : decode cX12_init 210 = .ok (.newarray .int, 2) := by decide +kernel
theorem dX12_init_212 : decode cX12_init 212 = .ok (.putfield 88, 3) := by decide +kernel
theorem dX12_init_215 : decode cX12_init 215 = .ok (.aload_n 0, 1) := by decide +kernel
theorem dX12_init_216 : decode cX12_init 216 = .ok (.bipush 40, 2) := by decide +kernel
theorem dX12_init_218 : decode cX12_init 218 = .ok (.newarray .int, 2) := by decide +kernel
theorem dX12_init_220 : decode cX12_init 220 = .ok (.putfield 91, 3) := by decide +kernel
theorem dX12_init_223 : decode cX12_init 223 = .ok (.aload_n 0, 1) := by decide +kernel
theorem dX12_init_224 : decode cX12_init 224 = .ok (.bipush 40, 2) := by decide +kernel
theorem dX12_init_226 : decode cX12_init 226 = .ok (.newarray .int, 2) := by decide +kernel
theorem dX12_init_228 : decode cX12_init 228 = .ok (.putfield 94, 3) := by decide +kernel
theorem dX12_init_231 : decode cX12_init 231 = .ok (.aload_n 0, 1) := by decide +kernel
theorem dX12_init_232 : decode cX12_init 232 = .ok (.sipush 6000, 3) := by decide +kernel
theorem dX12_init_235 : decode cX12_init 235 = .ok (.newarray .int, 2) := by decide +kernel
theorem dX12_init_237 : decode cX12_init 237 = .ok (.putfield 97, 3) := by decide +kernel
theorem dX12_init_240 : decode cX12_init 240 = .ok (.aload_n 0, 1) := by decide +kernel
theorem dX12_init_241 : decode cX12_init 241 = .ok (.sipush 6000, 3) := by decide +kernel
theorem dX12_init_244 : decode cX12_init 244 = .ok (.newarray .int, 2) := by decide +kernel
theorem dX12_init_246 : decode cX12_init 246 = .ok (.putfield 100, 3) := by decide +kernel
theorem dX12_init_249 : decode cX12_init 249 = .ok (.aload_n 0, 1) := by decide +kernel
theorem dX12_init_250 : decode cX12_init 250 = .ok (.sipush 1500, 3) := by decide +kernel
theorem dX12_init_253 : decode cX12_init 253 = .ok (.newarray .int, 2) := by decide +kernel
theorem dX12_init_255 : decode cX12_init 255 = .ok (.putfield 103, 3) := by decide +kernel
theorem dX12_init_258 : decode cX12_init 258 = .ok (.aload_n 0, 1) := by decide +kernel
theorem dX12_init_259 : decode cX12_init 259 = .ok (.sipush 1500, 3) := by decide +kernel
theorem dX12_init_262 : decode cX12_init 262 = .ok (.newarray .int, 2) := by decide +kernel
theorem dX12_init_264 : decode cX12_init 264 = .ok (.putfield 106, 3) := by decide +kernel
theorem dX12_init_267 : decode cX12_init 267 = .ok (.aload_n 0, 1) := by decide +kernel
theorem dX12_init_268 : decode cX12_init 268 = .ok (.sipush 1500, 3) := by decide +kernel
theorem dX12_init_271 : decode cX12_init 271 = .ok (.newarray .int, 2) := by decide +kernel
theorem dX12_init_273 : decode cX12_init 273 = .ok (.putfield 109, 3) := by decide +kernel
theorem dX12_init_276 : decode cX12_init 276 = .ok (.aload_n 0, 1) := by decide +kernel
theorem dX12_init_277 : decode cX12_init 277 = .ok (.sipush 1500, 3) := by decide +kernel
theorem dX12_init_280 : decode cX12_init 280 = .ok (.newarray .int, 2) := by decide +kernel
theorem dX12_init_282 : decode cX12_init 282 = .ok (.putfield 112, 3) := by decide +kernel
theorem dX12_init_285 : decode cX12_init 285 = .ok (.aload_n 0, 1) := by decide +kernel
theorem dX12_init_286 : decode cX12_init 286 = .ok (.sipush 1500, 3) := by decide +kernel
theorem dX12_init_289 : decode cX12_init 289 = .ok (.newarray .int, 2) := by decide +kernel
theorem dX12_init_291 : decode cX12_init 291 = .ok (.putfield 115, 3) := by decide +kernel
theorem dX12_init_294 : decode cX12_init 294 = .ok (.aload_n 0, 1) := by decide +kernel
theorem dX12_init_295 : decode cX12_init 295 = .ok (.sipush 1500, 3) := by decide +kernel
theorem dX12_init_298 : decode cX12_init 298 = .ok (.newarray .int, 2) := by decide +kernel
theorem dX12_init_300 : decode cX12_init 300 = .ok (.putfield 118, 3) := by decide +kernel
theorem dX12_init_303 : decode cX12_init 303 = .ok (.aload_n 0, 1) := by decide +kernel
theorem dX12_init_304 : decode cX12_init 304 = .ok (.sipush 1500, 3) := by decide +kernel
theorem dX12_init_307 : decode cX12_init 307 = .ok (.newarray .int, 2) := by decide +kernel
theorem dX12_init_309 : decode cX12_init 309 = .ok (.putfield 121, 3) := by decide +kernel
theorem dX12_init_312 : decode cX12_init 312 = .ok (.aload_n 0, 1) := by decide +kernel
theorem dX12_init_313 : decode cX12_init 313 = .ok (.sipush 1500, 3) := by decide +kernel
theorem dX12_init_316 : decode cX12_init 316 = .ok (.newarray .int, 2) := by decide +kernel
theorem dX12_init_318 : decode cX12_init 318 = .ok (.putfield 124, 3) := by decide +kernel
theorem dX12_init_321 : decode cX12_init 321 = .ok (.aload_n 0, 1) := by decide +kernel
theorem dX12_init_322 : decode cX12_init 322 = .ok (.sipush 1500, 3) := by decide +kernel
theorem dX12_init_325 : decode cX12_init 325 = .ok (.newarray .int, 2) := by decide +kernel
theorem dX12_init_327 : decode cX12_init 327 = .ok (.putfield 127, 3) := by decide +kernel
theorem dX12_init_330 : decode cX12_init 330 = .ok (.aload_n 0, 1) := by decide +kernel
theorem dX12_init_331 : decode cX12_init 331 = .ok (.sipush 1500, 3) := by decide +kernel
theorem dX12_init_334 : decode cX12_init 334 = .ok (.newarray .int, 2) := by decide +kernel
theorem dX12_init_336 : decode cX12_init 336 = .ok (.putfield 130, 3) := by decide +kernel
theorem dX12_init_339 : decode cX12_init 339 = .ok (.aload_n 0, 1) := by decide +kernel
theorem dX12_init_340 : decode cX12_init 340 = .ok (.bipush 6, 2) := by decide +kernel
theorem dX12_init_342 : decode cX12_init 342 = .ok (.newarray .int, 2) := by decide +kernel
theorem dX12_init_344 : decode cX12_init 344 = .ok (.putfield 133, 3) := by decide +kernel
theorem dX12_init_347 : decode cX12_init 347 = .ok (.aload_n 0, 1) := by decide +kernel
theorem dX12_init_348 : decode cX12_init 348 = .ok (.iconst 4, 1) := by decide +kernel
theorem dX12_init_349 : decode cX12_init 349 = .ok (.newarray .int, 2) := by decide +kernel
theorem dX12_init_351 : decode cX12_init 351 = .ok (.putfield 136, 3) := by decide +kernel
theorem dX12_init_354 : decode cX12_init 354 = .ok (.aload_n 0, 1) := by decide +kernel
theorem dX12_init_355 : decode cX12_init 355 = .ok (.iconst 4, 1) := by decide +kernel
theorem dX12_init_356 : decode cX12_init 356 = .ok (.newarray .int, 2) := by decide +kernel
theorem dX12_init_358 : decode cX12_init 358 = .ok (.putfield 139, 3) := by decide +kernel
theorem dX12_init_361 : decode cX12_init 361 = .ok (.aload_n 0, 1) := by decide +kernel
theorem dX12_init_362 : decode cX12_init 362 = .ok (.bipush 24, 2) := by decide +kernel
theorem dX12_init_364 : decode cX12_init 364 = .ok (.newarray .int, 2) := by decide +kernel
theorem dX12_init_366 : decode cX12_init 366 = .ok (.putfield 142, 3) := by decide +kernel
theorem dX12_init_369 : decode cX12_init 369 = .ok (.aload_n 0, 1) := by decide +kernel
theorem dX12_init_370 : decode cX12_init 370 = .ok (.bipush 6, 2) := by decide +kernel
theorem dX12_init_372 : decode cX12_init 372 = .ok (.newarray .int, 2) := by decide +kernel
theorem dX12_init_374 : decode cX12_init 374 = .ok (.putfield 145, 3) := by decide +kernel
theorem dX12_init_377 : decode cX12_init 377 = .ok (.aload_n 0, 1) := by decide +kernel
theorem dX12_init_378 : decode cX12_init 378 = .ok (.bipush 6, 2) := by decide +kernel
theorem dX12_init_380 : decode cX12_init 380 = .ok (.newarray .int, 2) := by decide +kernel
theorem dX12_init_382 : decode cX12_init 382 = .ok (.putfield 148, 3) := by decide +kernel
theorem dX12_init_385 : decode cX12_init 385 = .ok (.aload_n 0, 1) := by decide +kernel
theorem dX12_init_386 : decode cX12_init 386 = .ok (.bipush 6, 2) := by decide +kernel
theorem dX12_init_388 : decode cX12_init 388 = .ok (.newarray .int, 2) := by decide +kernel
theorem dX12_init_390 : decode cX12_init 390 = .ok (.putfield 151, 3) := by decide +kernel
theorem dX12_init_393 : decode cX12_init 393 = .ok (.aload_n 0, 1) := by decide +kernel
theorem dX12_init_394 : decode cX12_init 394 = .ok (.bipush 6, 2) := by decide +kernel
theorem dX12_init_396 : decode cX12_init 396 = .ok (.newarray .int, 2) := by decide +kernel
theorem dX12_init_398 : decode cX12_init 398 = .ok (.putfield 154, 3) := by decide +kernel
theorem dX12_init_401 : decode cX12_init 401 = .ok (.aload_n 0, 1) := by decide +kernel
theorem dX12_init_402 : decode cX12_init 402 = .ok (.bipush 6, 2) := by decide +kernel
theorem dX12_init_404 : decode cX12_init 404 = .ok (.newarray .int, 2) := by decide +kernel
theorem dX12_init_406 : decode cX12_init 406 = .ok (.putfield 157, 3) := by decide +kernel
theorem dX12_init_409 : decode cX12_init 409 = .ok (.aload_n 0, 1) := by decide +kernel
theorem dX12_init_410 : decode cX12_init 410 = .ok (.bipush 48, 2) := by decide +kernel
theorem dX12_init_412 : decode cX12_init 412 = .ok (.newarray .int, 2) := by decide +kernel
theorem dX12_init_414 : decode cX12_init 414 = .ok (.putfield 160, 3) := by decide +kernel
theorem dX12_init_417 : decode cX12_init 417 = .ok (.aload_n 0, 1) := by decide +kernel
theorem dX12_init_418 : decode cX12_init 418 = .ok (.bipush 6, 2) := by decide +kernel
theorem dX12_init_420 : decode cX12_init 420 = .ok (.newarray .int, 2) := by decide +kernel
theorem dX12_init_422 : decode cX12_init 422 = .ok (.putfield 163, 3) := by decide +kernel
theorem dX12_init_425 : decode cX12_init 425 = .ok (.aload_n 0, 1) := by decide +kernel
theorem dX12_init_426 : decode cX12_init 426 = .ok (.bipush 6, 2) := by decide +kernel
theorem dX12_init_428 : decode cX12_init 428 = .ok (.newarray .int, 2) := by decide +kernel
theorem dX12_init_430 : decode cX12_init 430 = .ok (.putfield 166, 3) := by decide +kernel
theorem dX12_init_433 : decode cX12_init 433 = .ok (.aload_n 0, 1) := by decide +kernel
theorem dX12_init_434 : decode cX12_init 434 = .ok (.bipush 6, 2) := by decide +kernel
theorem dX12_init_436 : decode cX12_init 436 = .ok (.newarray .int, 2) := by decide +kernel
theorem dX12_init_438 : decode cX12_init 438 = .ok (.putfield 169, 3) := by decide +kernel
theorem dX12_init_441 : decode cX12_init 441 = .ok (.aload_n 0, 1) := by decide +kernel
theorem dX12_init_442 : decode cX12_init 442 = .ok (.bipush 6, 2) := by decide +kernel
theorem dX12_init_444 : decode cX12_init 444 = .ok (.newarray .int, 2) := by decide +kernel
theorem dX12_init_446 : decode cX12_init 446 = .ok (.putfield 172, 3) := by decide +kernel
theorem dX12_init_449 : decode cX12_init 449 = .ok (.aload_n 0, 1) := by decide +kernel
theorem dX12_init_450 : decode cX12_init 450 = .ok (.bipush 60, 2) := by decide +kernel
theorem dX12_init_452 : decode cX12_init 452 = .ok (.newarray .int, 2) := by decide +kernel
theorem dX12_init_454 : decode cX12_init 454 = .ok (.putfield 175, 3) := by decide +kernel
theorem dX12_init_457 : decode cX12_init 457 = .ok (.aload_n 0, 1) := by decide +kernel
theorem dX12_init_458 : decode cX12_init 458 = .ok (.bipush 60, 2) := by decide +kernel
theorem dX12_init_460 : decode cX12_init 460 = .ok (.newarray .int, 2) := by decide +kernel
theorem dX12_init_462 : decode cX12_init 462 = .ok (.putfield 178, 3) := by decide +kernel
theorem dX12_init_465 : decode cX12_init 465 = .ok (.aload_n 0, 1) := by decide +kernel
theorem dX12_init_466 : decode cX12_init 466 = .ok (.bipush 60, 2) := by decide +kernel
theorem dX12_init_468 : decode cX12_init 468 = .ok (.newarray .int, 2) := by decide +kernel
theorem dX12_init_470 : decode cX12_init 470 = .ok (.putfield 181, 3) := by decide +kernel
theorem dX12_init_473 : decode cX12_init 473 = .ok (.aload_n 0, 1) := by decide +kernel
theorem dX12_init_474 : decode cX12_init 474 = .ok (.sipush 200, 3) := by decide +kernel
theorem dX12_init_477 : decode cX12_init 477 = .ok (.newarray .int, 2) := by decide +kernel
theorem dX12_init_479 : decode cX12_init 479 = .ok (.putfield 184, 3) := by decide +kernel
theorem dX12_init_482 : decode cX12_init 482 = .ok (.aload_n 0, 1) := by decide +kernel
theorem dX12_init_483 : decode cX12_init 483 = .ok (.sipush 200, 3) := by decide +kernel
theorem dX12_init_486 : decode cX12_init 486 = .ok (.newarray .int, 2) := by decide +kernel
theorem dX12_init_488 : decode cX12_init 488 = .ok (.putfield 187, 3) := by decide +kernel
theorem dX12_init_491 : decode cX12_init 491 = .ok (.aload_n 0, 1) := by decide +kernel
theorem dX12_init_492 : decode cX12_init 492 = .ok (.sipush 200, 3) := by decide +kernel
theorem dX12_init_495 : decode cX12_init 495 = .ok (.newarray .int, 2) := by decide +kernel
theorem dX12_init_497 : decode cX12_init 497 = .ok (.putfield 190, 3) := by decide +kernel
theorem dX12_init_500 : decode cX12_init 500 = .ok (.aload_n 0, 1) := by decide +kernel
theorem dX12_init_501 : decode cX12_init 501 = .ok (.sipush 400, 3) := by decide +kernel
theorem dX12_init_504 : decode cX12_init 504 = .ok (.newarray .int, 2) := by decide +kernel
theorem dX12_init_506 : decode cX12_init 506 = .ok (.putfield 193, 3) := by decide +kernel
theorem dX12_init_509 : decode cX12_init 509 = .ok (.aload_n 0, 1) := by decide +kernel
theorem dX12_init_510 : decode cX12_init 510 = .ok (.sipush 400, 3) := by decide +kernel
theorem dX12_init_513 : decode cX12_init 513 = .ok (.newarray .int, 2) := by decide +kernel
theorem dX12_init_515 : decode cX12_init 515 = .ok (.putfield 196, 3) := by decide +kernel
theorem dX12_init_518 : decode cX12_init 518 = .ok (.aload_n 0, 1) := by decide +kernel
theorem dX12_init_519 : decode cX12_init 519 = .ok (.sipush 400, 3) := by decide +kernel
theorem dX12_init_522 : decode cX12_init 522 = .ok (.newarray .int, 2) := by decide +kernel
theorem dX12_init_524 : decode cX12_init 524 = .ok (.putfield 199, 3) := by decide +kernel
theorem dX12_init_527 : decode cX12_init 527 = .ok (.aload_n 0, 1) := by decide +kernel
theorem dX12_init_528 : decode cX12_init 528 = .ok (.sipush 400, 3) := by decide +kernel
theorem dX12_init_531 : decode cX12_init 531 = .ok (.newarray .int, 2) := by decide +kernel
theorem dX12_init_533 : decode cX12_init 533 = .ok (.putfield 202, 3) := by decide +kernel
theorem dX12_init_536 : decode cX12_init 536 = .ok (.aload_n 0, 1) := by decide +kernel
theorem dX12_init_537 : decode cX12_init 537 = .ok (.sipush 400, 3) := by decide +kernel
theorem dX12_init_540 : decode cX12_init 540 = .ok (.newarray .int, 2) := by decide +kernel
theorem dX12_init_542 : decode cX12_init 542 = .ok (.putfield 205, 3) := by decide +kernel
theorem dX12_init_545 : decode cX12_init 545 = .ok (.aload_n 0, 1) := by decide +kernel
theorem dX12_init_546 : decode cX12_init 546 = .ok (.sipush 400, 3) := by decide +kernel
theorem dX12_init_549 : decode cX12_init 549 = .ok (.newarray .int, 2) := by decide +kernel
theorem dX12_init_551 : decode cX12_init 551 = .ok (.putfield 208, 3) := by decide +kernel
theorem dX12_init_554 : decode cX12_init 554 = .ok (.aload_n 0, 1) := by decide +kernel
theorem dX12_init_555 : decode cX12_init 555 = .ok (.sipush 400, 3) := by decide +kernel
theorem dX12_init_558 : decode cX12_init 558 = .ok (.newarray .boolean, 2) := by decide +kernel
theorem dX12_init_560 : decode cX12_init 560 = .ok (.putfield 211, 3) := by decide +kernel
theorem dX12_init_563 : decode cX12_init 563 = .ok (.aload_n 0, 1) := by decide +kernel
theorem dX12_init_564 : decode cX12_init 564 = .ok (.sipush 400, 3) := by decide +kernel
theorem dX12_init_567 : decode cX12_init 567 = .ok (.newarray .int, 2) := by decide +kernel
theorem dX12_init_569 : decode cX12_init 569 = .ok (.putfield 214, 3) := by decide +kernel
theorem dX12_init_572 : decode cX12_init 572 = .ok (.aload_n 0, 1) := by decide +kernel
theorem dX12_init_573 : decode cX12_init 573 = .ok (.sipush 2800, 3) := by decide +kernel
theorem dX12_init_576 : decode cX12_init 576 = .ok (.newarray .long, 2) := by decide +kernel
theorem dX12_init_578 : decode cX12_init 578 = .ok (.putfield 217, 3) := by decide +kernel
theorem dX12_init_581 : decode cX12_init 581 = .ok (.aload_n 0, 1) := by decide +kernel
theorem dX12_init_582 : decode cX12_init 582 = .ok (.bipush 6, 2) := by decide +kernel
theorem dX12_init_584 : decode cX12_init 584 = .ok (.newarray .int, 2) := by decide +kernel
theorem dX12_init_586 : decode cX12_init 586 = .ok (.putfield 221, 3) := by decide +kernel
theorem dX12_init_589 : decode cX12_init 589 = .ok (.aload_n 0, 1) := by decide +kernel
theorem dX12_init_590 : decode cX12_init 590 = .ok (.bipush 6, 2) := by decide +kernel
theorem dX12_init_592 : decode cX12_init 592 = .ok (.newarray .int, 2) := by decide +kernel
theorem dX12_init_594 : decode cX12_init 594 = .ok (.putfield 224, 3) := by decide +kernel
theorem dX12_init_597 : decode cX12_init 597 = .ok (.aload_n 0, 1) := by decide +kernel
theorem dX12_init_598 : decode cX12_init 598 = .ok (.bipush 14, 2) := by decide +kernel
theorem dX12_init_600 : decode cX12_init 600 = .ok (.newarray .int, 2) := by decide +kernel
theorem dX12_init_602 : decode cX12_init 602 = .ok (.putfield 227, 3) := by decide +kernel
theorem dX12_init_605 : decode cX12_init 605 = .ok (.aload_n 0, 1) := by decide +kernel
theorem dX12_init_606 : decode cX12_init 606 = .ok (.bipush 14, 2) := by decide +kernel
theorem dX12_init_608 : decode cX12_init 608 = .ok (.newarray .int, 2) := by decide +kernel
theorem dX12_init_610 : decode cX12_init 610 = .ok (.putfield 230, 3) := by decide +kernel
theorem dX12_init_613 : decode cX12_init 613 = .ok (.aload_n 0, 1) := by decide +kernel
theorem dX12_init_614 : decode cX12_init 614 = .ok (.bipush 14, 2) := by decide +kernel
theorem dX12_init_616 : decode cX12_init 616 = .ok (.newarray .int, 2) := by decide +kernel
theorem dX12_init_618 : decode cX12_init 618 = .ok (.putfield 233, 3) := by decide +kernel
theorem dX12_init_621 : decode cX12_init 621 = .ok (.aload_n 0, 1) := by decide +kernel
theorem dX12_init_622 : decode cX12_init 622 = .ok (.bipush 14, 2) := by decide +kernel
theorem dX12_init_624 : decode cX12_init 624 = .ok (.newarray .int, 2) := by decide +kernel
theorem dX12_init_626 : decode cX12_init 626 = .ok (.putfield 236, 3) := by decide +kernel
theorem dX12_init_629 : decode cX12_init 629 = .ok (.aload_n 0, 1) := by decide +kernel
theorem dX12_init_630 : decode cX12_init 630 = .ok (.bipush 14, 2) := by decide +kernel
theorem dX12_init_632 : decode cX12_init 632 = .ok (.newarray .int, 2) := by decide +kernel
theorem dX12_init_634 : decode cX12_init 634 = .ok (.putfield 239, 3) := by decide +kernel
theorem dX12_init_637 : decode cX12_init 637 = .ok (.aload_n 0, 1) := by decide +kernel
theorem dX12_init_638 : decode cX12_init 638 = .ok (.bipush 14, 2) := by decide +kernel
theorem dX12_init_640 : decode cX12_init 640 = .ok (.newarray .int, 2) := by decide +kernel
theorem dX12_init_642 : decode cX12_init 642 = .ok (.putfield 242, 3) := by decide +kernel
theorem dX12_init_645 : decode cX12_init 645 = .ok (.aload_n 0, 1) := by decide +kernel
theorem dX12_init_646 : decode cX12_init 646 = .ok (.bipush 14, 2) := by decide +kernel
theorem dX12_init_648 : decode cX12_init 648 = .ok (.newarray .int, 2) := by decide +kernel
theorem dX12_init_650 : decode cX12_init 650 = .ok (.putfield 245, 3) := by decide +kernel
theorem dX12_init_653 : decode cX12_init 653 = .ok (.aload_n 0, 1) := by decide +kernel
theorem dX12_init_654 : decode cX12_init 654 = .ok (.bipush 14, 2) := by decide +kernel
theorem dX12_init_656 : decode cX12_init 656 = .ok (.newarray .int, 2) := by decide +kernel
theorem dX12_init_658 : decode cX12_init 658 = .ok (.putfield 248, 3) := by decide +kernel
theorem dX12_init_661 : decode cX12_init 661 = .ok (.aload_n 0, 1) := by decide +kernel
theorem dX12_init_662 : decode cX12_init 662 = .ok (.bipush 6, 2) := by decide +kernel
theorem dX12_init_664 : decode cX12_init 664 = .ok (.newarray .int, 2) := by decide +kernel
theorem dX12_init_666 : decode cX12_init 666 = .ok (.putfield 251, 3) := by decide +kernel
theorem dX12_init_669 : decode cX12_init 669 = .ok (.aload_n 0, 1) := by decide +kernel
theorem dX12_init_670 : decode cX12_init 670 = .ok (.iconst 2, 1) := by decide +kernel
theorem dX12_init_671 : decode cX12_init 671 = .ok (.newarray .boolean, 2) := by decide +kernel
theorem dX12_init_673 : decode cX12_init 673 = .ok (.putfield 254, 3) := by decide +kernel
theorem dX12_init_676 : decode cX12_init 676 = .ok (.aload_n 0, 1) := by decide +kernel
theorem dX12_init_677 : decode cX12_init 677 = .ok (.iconst 2, 1) := by decide +kernel
theorem dX12_init_678 : decode cX12_init 678 = .ok (.newarray .int, 2) := by decide +kernel
theorem dX12_init_680 : decode cX12_init 680 = .ok (.putfield 257, 3) := by decide +kernel
theorem dX12_init_683 : decode cX12_init 683 = .ok (.aload_n 0, 1) := by decide +kernel
theorem dX12_init_684 : decode cX12_init 684 = .ok (.iconst 2, 1) := by decide +kernel
theorem dX12_init_685 : decode cX12_init 685 = .ok (.newarray .boolean, 2) := by decide +kernel
theorem dX12_init_687 : decode cX12_init 687 = .ok (.putfield 260, 3) := by decide +kernel
theorem dX12_init_690 : decode cX12_init 690 = .ok (.aload_n 0, 1) := by decide +kernel
theorem dX12_init_691 : decode cX12_init 691 = .ok (.iconst 2, 1) := by decide +kernel
theorem dX12_init_692 : decode cX12_init 692 = .ok (.newarray .int, 2) := by decide +kernel
theorem dX12_init_694 : decode cX12_init 694 = .ok (.putfield 263, 3) := by decide +kernel
theorem dX12_init_697 : decode cX12_init 697 = .ok (.aload_n 0, 1) := by decide +kernel
theorem dX12_init_698 : decode cX12_init 698 = .ok (.iconst 2, 1) := by decide +kernel
theorem dX12_init_699 : decode cX12_init 699 = .ok (.newarray .int, 2) := by decide +kernel
theorem dX12_init_701 : decode cX12_init 701 = .ok (.putfield 266, 3) := by decide +kernel
theorem dX12_init_704 : decode cX12_init 704 = .ok (.aload_n 0, 1) := by decide +kernel
theorem dX12_init_705 : decode cX12_init 705 = .ok (.iconst 2, 1) := by decide +kernel
theorem dX12_init_706 : decode cX12_init 706 = .ok (.newarray .int, 2) := by decide +kernel
theorem dX12_init_708 : decode cX12_init 708 = .ok (.putfield 269, 3) := by decide +kernel
theorem dX12_init_711 : decode cX12_init 711 = .ok (.aload_n 0, 1) := by decide +kernel
theorem dX12_init_712 : decode cX12_init 712 = .ok (.iconst 2, 1) := by decide +kernel
theorem dX12_init_713 : decode cX12_init 713 = .ok (.newarray .int, 2) := by decide +kernel
theorem dX12_init_715 : decode cX12_init 715 = .ok (.putfield 272, 3) := by decide +kernel
theorem dX12_init_718 : decode cX12_init 718 = .ok (.aload_n 0, 1) := by decide +kernel
theorem dX12_init_719 : decode cX12_init 719 = .ok (.bipush 22, 2) := by decide +kernel
theorem dX12_init_721 : decode cX12_init 721 = .ok (.newarray .int, 2) := by decide +kernel
theorem dX12_init_723 : decode cX12_init 723 = .ok (.putfield 275, 3) := by decide +kernel
theorem dX12_init_726 : decode cX12_init 726 = .ok (.aload_n 0, 1) := by decide +kernel
theorem dX12_init_727 : decode cX12_init 727 = .ok (.bipush 48, 2) := by decide +kernel
theorem dX12_init_729 : decode cX12_init 729 = .ok (.newarray .int, 2) := by decide +kernel
theorem dX12_init_731 : decode cX12_init 731 = .ok (.putfield 278, 3) := by decide +kernel
theorem dX12_init_734 : decode cX12_init 734 = .ok (.aload_n 0, 1) := by decide +kernel
theorem dX12_init_735 : decode cX12_init 735 = .ok (.bipush 72, 2) := by decide +kernel
theorem dX12_init_737 : decode cX12_init 737 = .ok (.newarray .boolean, 2) := by decide +kernel
theorem dX12_init_739 : decode cX12_init 739 = .ok (.putfield 281, 3) := by decide +kernel
theorem dX12_init_742 : decode cX12_init 742 = .ok (.aload_n 0, 1) := by decide +kernel
theorem dX12_init_743 : decode cX12_init 743 = .ok (.ldc_w 284, 3) := by decide +kernel
theorem dX12_init_746 : decode cX12_init 746 = .ok (.newarray .int, 2) := by decide +kernel
theorem dX12_init_748 : decode cX12_init 748 = .ok (.putfield 285, 3) := by decide +kernel
theorem dX12_init_751 : decode cX12_init 751 = .ok (.aload_n 0, 1) := by decide +kernel
theorem dX12_init_752 : decode cX12_init 752 = .ok (.sipush 6000, 3) := by decide +kernel
theorem dX12_init_755 : decode cX12_init 755 = .ok (.newarray .int, 2) := by decide +kernel
theorem dX12_init_757 : decode cX12_init 757 = .ok (.putfield 288, 3) := by decide +kernel
theorem dX12_init_760 : decode cX12_init 760 = .ok (.aload_n 0, 1) := by decide +kernel
theorem dX12_init_761 : decode cX12_init 761 = .ok (.sipush 6000, 3) := by decide +kernel
theorem dX12_init_764 : decode cX12_init 764 = .ok (.newarray .int, 2) := by decide +kernel
theorem dX12_init_766 : decode cX12_init 766 = .ok (.putfield 291, 3) := by decide +kernel
theorem dX12_init_769 : decode cX12_init 769 = .ok (.aload_n 0, 1) := by decide +kernel
theorem dX12_init_770 : decode cX12_init 770 = .ok (.sipush 6000, 3) := by decide +kernel
theorem dX12_init_773 : decode cX12_init 773 = .ok (.newarray .int, 2) := by decide +kernel
theorem dX12_init_775 : decode cX12_init 775 = .ok (.putfield 294, 3) := by decide +kernel
theorem dX12_init_778 : decode cX12_init 778 = .ok (.aload_n 0, 1) := by decide +kernel
theorem dX12_init_779 : decode cX12_init 779 = .ok (.ldc_w 297, 3) := by decide +kernel
theorem dX12_init_782 : decode cX12_init 782 = .ok (.newarray .int, 2) := by decide +kernel
theorem dX12_init_784 : decode cX12_init 784 = .ok (.putfield 298, 3) := by decide +kernel
theorem dX12_init_787 : decode cX12_init 787 = .ok (.aload_n 0, 1) := by decide +kernel
theorem dX12_init_788 : decode cX12_init 788 = .ok (.sipush 3001, 3) := by decide +kernel
theorem dX12_init_791 : decode cX12_init 791 = .ok (.newarray .int, 2) := by decide +kernel
theorem dX12_init_793 : decode cX12_init 793 = .ok (.putfield 301, 3) := by decide +kernel
theorem dX12_init_796 : decode cX12_init 796 = .ok (.aload_n 0, 1) := by decide +kernel
theorem dX12_init_797 : decode cX12_init 797 = .ok (.sipush 4096, 3) := by decide +kernel
theorem dX12_init_800 : decode cX12_init 800 = .ok (.newarray .int, 2) := by decide +kernel
theorem dX12_init_802 : decode cX12_init 802 = .ok (.putfield 304, 3) := by decide +kernel
theorem dX12_init_805 : decode cX12_init 805 = .ok (.aload_n 0, 1) := by decide +kernel
theorem dX12_init_806 : decode cX12_init 806 = .ok (.sipush 240, 3) := by decide +kernel
theorem dX12_init_809 : decode cX12_init 809 = .ok (.newarray .int, 2) := by decide +kernel
theorem dX12_init_811 : decode cX12_init 811 = .ok (.putfield 307, 3) := by decide +kernel
theorem dX12_init_814 : decode cX12_init 814 = .ok (.aload_n 0, 1) := by decide +kernel
theorem dX12_init_815 : decode cX12_init 815 = .ok (.sipush 400, 3) := by decide +kernel
theorem dX12_init_818 : decode cX12_init 818 = .ok (.newarray .int, 2) := by decide +kernel
theorem dX12_init_820 : decode cX12_init 820 = .ok (.putfield 310, 3) := by decide +kernel
theorem dX12_init_823 : decode cX12_init 823 = .ok (.aload_n 0, 1) := by decide +kernel
theorem dX12_init_824 : decode cX12_init 824 = .ok (.bipush 6, 2) := by decide +kernel
theorem dX12_init_826 : decode cX12_init 826 = .ok (.newarray .int, 2) := by decide +kernel
theorem dX12_init_828 : decode cX12_init 828 = .ok (.putfield 313, 3) := by decide +kernel
theorem dX12_init_831 : decode cX12_init 831 = .ok (.return_, 1) := by decide +kernel
theorem dX12_thrown_0 : decode cX12_thrown 0 = .ok (.aload_n 0, 1) := by decide +kernel
theorem dX12_thrown_1 : decode cX12_thrown 1 = .ok (.getfield 316, 3) := by decide +kernel
theorem dX12_thrown_4 : decode cX12_thrown 4 = .ok (.ireturn, 1) := by decide +kernel
theorem dX12_in_0 : decode cX12_in 0 = .ok (.iload_n 0, 1) := by decide +kernel
theorem dX12_in_1 : decode cX12_in 1 = .ok (.iload_n 1, 1) := by decide +kernel
theorem dX12_in_2 : decode cX12_in 2 = .ok (.if_icmp .lt 12, 3) := by decide +kernel
theorem dX12_in_5 : decode cX12_in 5 = .ok (.iload_n 0, 1) := by decide +kernel
theorem dX12_in_6 : decode cX12_in 6 = .ok (.iload_n 2, 1) := by decide +kernel
theorem dX12_in_7 : decode cX12_in 7 = .ok (.if_icmp .gt 7, 3) := by decide +kernel
theorem dX12_in_10 : decode cX12_in 10 = .ok (.iconst 1, 1) := by decide +kernel
theorem dX12_in_11 : decode cX12_in 11 = .ok (.goto 4, 3) := by decide +kernel
theorem dX12_in_14 : decode cX12_in 14 = .ok (.iconst 0, 1) := by decide +kernel
theorem dX12_in_15 : decode cX12_in 15 = .ok (.ireturn, 1) := by decide +kernel
theorem dX12_refuses_0 : decode cX12_refuses 0 = .ok (.aload_n 0, 1) := by decide +kernel
theorem dX12_refuses_1 : decode cX12_refuses 1 = .ok (.getfield 316, 3) := by decide +kernel
theorem dX12_refuses_4 : decode cX12_refuses 4 = .ok (.ifCond .ne 12, 3) := by decide +kernel
theorem dX12_refuses_7 : decode cX12_refuses 7 = .ok (.iload_n 1, 1) := by decide +kernel
theorem dX12_refuses_8 : decode cX12_refuses 8 = .ok (.ifCond .eq 8, 3) := by decide +kernel
theorem dX12_refuses_11 : decode cX12_refuses 11 = .ok (.aload_n 0, 1) := by decide +kernel
theorem dX12_refuses_12 : decode cX12_refuses 12 = .ok (.iload_n 2, 1) := by decide +kernel
theorem dX12_refuses_13 : decode cX12_refuses 13 = .ok (.putfield 316, 3) := by decide +kernel
theorem dX12_refuses_16 : decode cX12_refuses 16 = .ok (.aload_n 0, 1) := by decide +kernel
theorem dX12_refuses_17 : decode cX12_refuses 17 = .ok (.getfield 316, 3) := by decide +kernel
theorem dX12_refuses_20 : decode cX12_refuses 20 = .ok (.ifCond .le 7, 3) := by decide +kernel
theorem dX12_refuses_23 : decode cX12_refuses 23 = .ok (.iconst 1, 1) := by decide +kernel
theorem dX12_refuses_24 : decode cX12_refuses 24 = .ok (.goto 4, 3) := by decide +kernel
theorem dX12_refuses_27 : decode cX12_refuses 27 = .ok (.iconst 0, 1) := by decide +kernel
theorem dX12_refuses_28 : decode cX12_refuses 28 = .ok (.ireturn, 1) := by decide +kernel
theorem dX12_byteAt_0 : decode cX12_byteAt 0 = .ok (.iload_n 1, 1) := by decide +kernel
theorem dX12_byteAt_1 : decode cX12_byteAt 1 = .ok (.aload_n 0, 1) := by decide +kernel
theorem dX12_byteAt_2 : decode cX12_byteAt 2 = .ok (.getfield 319, 3) := by decide +kernel
theorem dX12_byteAt_5 : decode cX12_byteAt 5 = .ok (.if_icmp .ge 16, 3) := by decide +kernel
theorem dX12_byteAt_8 : decode cX12_byteAt 8 = .ok (.aload_n 0, 1) := by decide +kernel
theorem dX12_byteAt_9 : decode cX12_byteAt 9 = .ok (.getfield 7, 3) := by decide +kernel
theorem dX12_byteAt_12 : decode cX12_byteAt 12 = .ok (.iload_n 1, 1) := by decide +kernel
theorem dX12_byteAt_13 : decode cX12_byteAt 13 = .ok (.baload, 1) := by decide +kernel
theorem dX12_byteAt_14 : decode cX12_byteAt 14 = .ok (.sipush 255, 3) := by decide +kernel
theorem dX12_byteAt_17 : decode cX12_byteAt 17 = .ok (.iand, 1) := by decide +kernel
theorem dX12_byteAt_18 : decode cX12_byteAt 18 = .ok (.goto 4, 3) := by decide +kernel
theorem dX12_byteAt_21 : decode cX12_byteAt 21 = .ok (.iconst (-1), 1) := by decide +kernel
theorem dX12_byteAt_22 : decode cX12_byteAt 22 = .ok (.ireturn, 1) := by decide +kernel
theorem dX12_isLetter_0 : decode cX12_isLetter 0 = .ok (.iload_n 0, 1) := by decide +kernel
theorem dX12_isLetter_1 : decode cX12_isLetter 1 = .ok (.bipush 97, 2) := by decide +kernel
theorem dX12_isLetter_3 : decode cX12_isLetter 3 = .ok (.bipush 122, 2) := by decide +kernel
theorem dX12_isLetter_5 : decode cX12_isLetter 5 = .ok (.invokestatic 322, 3) := by decide +kernel
theorem dX12_isLetter_8 : decode cX12_isLetter 8 = .ok (.ifCond .ne 14, 3) := by decide +kernel
theorem dX12_isLetter_11 : decode cX12_isLetter 11 = .ok (.iload_n 0, 1) := by decide +kernel
theorem dX12_isLetter_12 : decode cX12_isLetter 12 = .ok (.bipush 65, 2) := by decide +kernel
theorem dX12_isLetter_14 : decode cX12_isLetter 14 = .ok (.bipush 90, 2) := by decide +kernel
theorem dX12_isLetter_16 : decode cX12_isLetter 16 = .ok (.invokestatic 322, 3) := by decide +kernel
theorem dX12_isLetter_19 : decode cX12_isLetter 19 = .ok (.ifCond .eq 7, 3) := by decide +kernel
theorem dX12_isLetter_22 : decode cX12_isLetter 22 = .ok (.iconst 1, 1) := by decide +kernel
theorem dX12_isLetter_23 : decode cX12_isLetter 23 = .ok (.goto 4, 3) := by decide +kernel
theorem dX12_isLetter_26 : decode cX12_isLetter 26 = .ok (.iconst 0, 1) := by decide +kernel
theorem dX12_isLetter_27 : decode cX12_isLetter 27 = .ok (.ireturn, 1) := by decide +kernel
theorem dX12_isDigit_0 : decode cX12_isDigit 0 = .ok (.iload_n 0, 1) := by decide +kernel
theorem dX12_isDigit_1 : decode cX12_isDigit 1 = .ok (.bipush 48, 2) := by decide +kernel
theorem dX12_isDigit_3 : decode cX12_isDigit 3 = .ok (.bipush 57, 2) := by decide +kernel
theorem dX12_isDigit_5 : decode cX12_isDigit 5 = .ok (.invokestatic 322, 3) := by decide +kernel
theorem dX12_isDigit_8 : decode cX12_isDigit 8 = .ok (.ireturn, 1) := by decide +kernel
theorem dX12_put_0 : decode cX12_put 0 = .ok (.aload_n 0, 1) := by decide +kernel
theorem dX12_put_1 : decode cX12_put 1 = .ok (.getfield 13, 3) := by decide +kernel
theorem dX12_put_4 : decode cX12_put 4 = .ok (.aload_n 0, 1) := by decide +kernel
theorem dX12_put_5 : decode cX12_put 5 = .ok (.getfield 342, 3) := by decide +kernel
theorem dX12_put_8 : decode cX12_put 8 = .ok (.iload_n 1, 1) := by decide +kernel
theorem dX12_put_9 : decode cX12_put 9 = .ok (.iastore, 1) := by decide +kernel
theorem dX12_put_10 : decode cX12_put 10 = .ok (.aload_n 0, 1) := by decide +kernel
theorem dX12_put_11 : decode cX12_put 11 = .ok (.getfield 17, 3) := by decide +kernel
theorem dX12_put_14 : decode cX12_put 14 = .ok (.aload_n 0, 1) := by decide +kernel
theorem dX12_put_15 : decode cX12_put 15 = .ok (.getfield 342, 3) := by decide +kernel
theorem dX12_put_18 : decode cX12_put 18 = .ok (.iload_n 2, 1) := by decide +kernel
theorem dX12_put_19 : decode cX12_put 19 = .ok (.iastore, 1) := by decide +kernel
theorem dX12_put_20 : decode cX12_put 20 = .ok (.aload_n 0, 1) := by decide +kernel
theorem dX12_put_21 : decode cX12_put 21 = .ok (.getfield 23, 3) := by decide +kernel
theorem dX12_put_24 : decode cX12_put 24 = .ok (.aload_n 0, 1) := by decide +kernel
theorem dX12_put_25 : decode cX12_put 25 = .ok (.getfield 342, 3) := by decide +kernel
theorem dX12_put_28 : decode cX12_put 28 = .ok (.iload_n 3, 1) := by decide +kernel
theorem dX12_put_29 : decode cX12_put 29 = .ok (.iastore, 1) := by decide +kernel
theorem dX12_put_30 : decode cX12_put 30 = .ok (.aload_n 0, 1) := by decide +kernel
theorem dX12_put_31 : decode cX12_put 31 = .ok (.getfield 20, 3) := by decide +kernel
theorem dX12_put_34 : decode cX12_put 34 = .ok (.aload_n 0, 1) := by decide +kernel
theorem dX12_put_35 : decode cX12_put 35 = .ok (.getfield 342, 3) := by decide +kernel
theorem dX12_put_38 : decode cX12_put 38 = .ok (.iload 4, 2) := by decide +kernel
theorem dX12_put_40 : decode cX12_put 40 = .ok (.iastore, 1) := by decide +kernel
theorem dX12_put_41 : decode cX12_put 41 = .ok (.aload_n 0, 1) := by decide +kernel
theorem dX12_put_42 : decode cX12_put 42 = .ok (.dup, 1) := by decide +kernel
theorem dX12_put_43 : decode cX12_put 43 = .ok (.getfield 342, 3) := by decide +kernel
theorem dX12_put_46 : decode cX12_put 46 = .ok (.iconst 1, 1) := by decide +kernel
theorem dX12_put_47 : decode cX12_put 47 = .ok (.iadd, 1) := by decide +kernel
theorem dX12_put_48 : decode cX12_put 48 = .ok (.putfield 342, 3) := by decide +kernel
theorem dX12_put_51 : decode cX12_put 51 = .ok (.return_, 1) := by decide +kernel
theorem dX12_readTokens_0 : decode cX12_readTokens 0 = .ok (.aload_n 0, 1) := by decide +kernel
theorem dX12_readTokens_1 : decode cX12_readTokens 1 = .ok (.iconst 0, 1) := by decide +kernel
theorem dX12_readTokens_2 : decode cX12_readTokens 2 = .ok (.putfield 342, 3) := by decide +kernel
theorem dX12_readTokens_5 : decode cX12_readTokens 5 = .ok (.iconst 0, 1) := by decide +kernel
theorem dX12_readTokens_6 : decode cX12_readTokens 6 = .ok (.istore_n 1, 1) := by decide +kernel
theorem dX12_readTokens_7 : decode cX12_readTokens 7 = .ok (.aload_n 0, 1) := by decide +kernel
theorem dX12_readTokens_8 : decode cX12_readTokens 8 = .ok (.getfield 342, 3) := by decide +kernel
theorem dX12_readTokens_11 : decode cX12_readTokens 11 = .ok (.sipush 700, 3) := by decide +kernel
theorem dX12_readTokens_14 : decode cX12_readTokens 14 = .ok (.if_icmp .gt 367, 3) := by decide +kernel
theorem dX12_readTokens_17 : decode cX12_readTokens 17 = .ok (.iconst 1, 1) := by decide +kernel
theorem dX12_readTokens_18 : decode cX12_readTokens 18 = .ok (.istore_n 2, 1) := by decide +kernel
theorem dX12_readTokens_19 : decode cX12_readTokens 19 = .ok (.iload_n 2, 1) := by decide +kernel
theorem dX12_readTokens_20 : decode cX12_readTokens 20 = .ok (.ifCond .eq 98, 3) := by decide +kernel
theorem dX12_readTokens_23 : decode cX12_readTokens 23 = .ok (.aload_n 0, 1) := by decide +kernel
theorem dX12_readTokens_24 : decode cX12_readTokens 24 = .ok (.iload_n 1, 1) := by decide +kernel
theorem dX12_readTokens_25 : decode cX12_readTokens 25 = .ok (.invokevirtual 338, 3) := by decide +kernel
theorem dX12_readTokens_28 : decode cX12_readTokens 28 = .ok (.istore_n 3, 1) := by decide +kernel
theorem dX12_readTokens_29 : decode cX12_readTokens 29 = .ok (.iload_n 3, 1) := by decide +kernel
theorem dX12_readTokens_30 : decode cX12_readTokens 30 = .ok (.bipush 32, 2) := by decide +kernel
theorem dX12_readTokens_32 : decode cX12_readTokens 32 = .ok (.if_icmp .eq 21, 3) := by decide +kernel
theorem dX12_readTokens_35 : decode cX12_readTokens 35 = .ok (.iload_n 3, 1) := by decide +kernel
theorem dX12_readTokens_36 : decode cX12_readTokens 36 = .ok (.bipush 9, 2) := by decide +kernel
theorem dX12_readTokens_38 : decode cX12_readTokens 38 = .ok (.if_icmp .eq 15, 3) := by decide +kernel
theorem dX12_readTokens_41 : decode cX12_readTokens 41 = .ok (.iload_n 3, 1) := by decide +kernel
theorem dX12_readTokens_42 : decode cX12_readTokens 42 = .ok (.bipush 13, 2) := by decide +kernel
theorem dX12_readTokens_44 : decode cX12_readTokens 44 = .ok (.if_icmp .eq 9, 3) := by decide +kernel
theorem dX12_readTokens_47 : decode cX12_readTokens 47 = .ok (.iload_n 3, 1) := by decide +kernel
theorem dX12_readTokens_48 : decode cX12_readTokens 48 = .ok (.bipush 10, 2) := by decide +kernel
theorem dX12_readTokens_50 : decode cX12_readTokens 50 = .ok (.if_icmp .ne 7, 3) := by decide +kernel
theorem dX12_readTokens_53 : decode cX12_readTokens 53 = .ok (.iconst 1, 1) := by decide +kernel
theorem dX12_readTokens_54 : decode cX12_readTokens 54 = .ok (.goto 4, 3) := by decide +kernel
theorem dX12_readTokens_57 : decode cX12_readTokens 57 = .ok (.iconst 0, 1) := by decide +kernel
theorem dX12_readTokens_58 : decode cX12_readTokens 58 = .ok (.istore_n 2, 1) := by decide +kernel
theorem dX12_readTokens_59 : decode cX12_readTokens 59 = .ok (.iload_n 1, 1) := by decide +kernel
theorem dX12_readTokens_60 : decode cX12_readTokens 60 = .ok (.iload_n 2, 1) := by decide +kernel
theorem dX12_readTokens_61 : decode cX12_readTokens 61 = .ok (.ifCond .eq 7, 3) := by decide +kernel
theorem dX12_readTokens_64 : decode cX12_readTokens 64 = .ok (.iconst 1, 1) := by decide +kernel
theorem dX12_readTokens_65 : decode cX12_readTokens 65 = .ok (.goto 4, 3) := by decide +kernel
theorem dX12_readTokens_68 : decode cX12_readTokens 68 = .ok (.iconst 0, 1) := by decide +kernel
theorem dX12_readTokens_69 : decode cX12_readTokens 69 = .ok (.iadd, 1) := by decide +kernel
theorem dX12_readTokens_70 : decode cX12_readTokens 70 = .ok (.istore_n 1, 1) := by decide +kernel
theorem dX12_readTokens_71 : decode cX12_readTokens 71 = .ok (.iload_n 3, 1) := by decide +kernel
theorem dX12_readTokens_72 : decode cX12_readTokens 72 = .ok (.bipush 47, 2) := by decide +kernel
theorem dX12_readTokens_74 : decode cX12_readTokens 74 = .ok (.if_icmp .ne 41, 3) := by decide +kernel
theorem dX12_readTokens_77 : decode cX12_readTokens 77 = .ok (.aload_n 0, 1) := by decide +kernel
theorem dX12_readTokens_78 : decode cX12_readTokens 78 = .ok (.iload_n 1, 1) := by decide +kernel
theorem dX12_readTokens_79 : decode cX12_readTokens 79 = .ok (.iconst 1, 1) := by decide +kernel
theorem dX12_readTokens_80 : decode cX12_readTokens 80 = .ok (.iadd, 1) := by decide +kernel
theorem dX12_readTokens_81 : decode cX12_readTokens 81 = .ok (.invokevirtual 338, 3) := by decide +kernel
theorem dX12_readTokens_84 : decode cX12_readTokens 84 = .ok (.bipush 47, 2) := by decide +kernel
theorem dX12_readTokens_86 : decode cX12_readTokens 86 = .ok (.if_icmp .ne 29, 3) := by decide +kernel
theorem dX12_readTokens_89 : decode cX12_readTokens 89 = .ok (.iconst 1, 1) := by decide +kernel
theorem dX12_readTokens_90 : decode cX12_readTokens 90 = .ok (.istore_n 2, 1) := by decide +kernel
theorem dX12_readTokens_91 : decode cX12_readTokens 91 = .ok (.iload_n 1, 1) := by decide +kernel
theorem dX12_readTokens_92 : decode cX12_readTokens 92 = .ok (.aload_n 0, 1) := by decide +kernel
theorem dX12_readTokens_93 : decode cX12_readTokens 93 = .ok (.getfield 319, 3) := by decide +kernel
theorem dX12_readTokens_96 : decode cX12_readTokens 96 = .ok (.if_icmp .ge 19, 3) := by decide +kernel
theorem dX12_readTokens_99 : decode cX12_readTokens 99 = .ok (.aload_n 0, 1) := by decide +kernel
theorem dX12_readTokens_100 : decode cX12_readTokens 100 = .ok (.iload_n 1, 1) := by decide +kernel
theorem dX12_readTokens_101 : decode cX12_readTokens 101 = .ok (.invokevirtual 338, 3) := by decide +kernel
theorem dX12_readTokens_104 : decode cX12_readTokens 104 = .ok (.bipush 10, 2) := by decide +kernel
theorem dX12_readTokens_106 : decode cX12_readTokens 106 = .ok (.if_icmp .eq 9, 3) := by decide +kernel
theorem dX12_readTokens_109 : decode cX12_readTokens 109 = .ok (.iinc 1 1, 3) := by decide +kernel
theorem dX12_readTokens_112 : decode cX12_readTokens 112 = .ok (.goto (-21), 3) := by decide +kernel
theorem dX12_readTokens_115 : decode cX12_readTokens 115 = .ok (.goto (-96), 3) := by decide +kernel
theorem dX12_readTokens_118 : decode cX12_readTokens 118 = .ok (.aload_n 0, 1) := by decide +kernel
theorem dX12_readTokens_119 : decode cX12_readTokens 119 = .ok (.iload_n 1, 1) := by decide +kernel
theorem dX12_readTokens_120 : decode cX12_readTokens 120 = .ok (.invokevirtual 338, 3) := by decide +kernel
theorem dX12_readTokens_123 : decode cX12_readTokens 123 = .ok (.istore_n 3, 1) := by decide +kernel
theorem dX12_readTokens_124 : decode cX12_readTokens 124 = .ok (.iconst 0, 1) := by decide +kernel
theorem dX12_readTokens_125 : decode cX12_readTokens 125 = .ok (.istore 4, 2) := by decide +kernel
theorem dX12_readTokens_127 : decode cX12_readTokens 127 = .ok (.iconst 0, 1) := by decide +kernel
theorem dX12_readTokens_128 : decode cX12_readTokens 128 = .ok (.istore 5, 2) := by decide +kernel
theorem dX12_readTokens_130 : decode cX12_readTokens 130 = .ok (.iconst 0, 1) := by decide +kernel
theorem dX12_readTokens_131 : decode cX12_readTokens 131 = .ok (.istore 6, 2) := by decide +kernel
theorem dX12_readTokens_133 : decode cX12_readTokens 133 = .ok (.iload_n 3, 1) := by decide +kernel
theorem dX12_readTokens_134 : decode cX12_readTokens 134 = .ok (.invokestatic 345, 3) := by decide +kernel
theorem dX12_readTokens_137 : decode cX12_readTokens 137 = .ok (.ifCond .eq 70, 3) := by decide +kernel
theorem dX12_readTokens_140 : decode cX12_readTokens 140 = .ok (.aload_n 0, 1) := by decide +kernel
theorem dX12_readTokens_141 : decode cX12_readTokens 141 = .ok (.iload_n 1, 1) := by decide +kernel
theorem dX12_readTokens_142 : decode cX12_readTokens 142 = .ok (.iload 4, 2) := by decide +kernel
theorem dX12_readTokens_144 : decode cX12_readTokens 144 = .ok (.iadd, 1) := by decide +kernel
theorem dX12_readTokens_145 : decode cX12_readTokens 145 = .ok (.invokevirtual 338, 3) := by decide +kernel
theorem dX12_readTokens_148 : decode cX12_readTokens 148 = .ok (.invokestatic 345, 3) := by decide +kernel
theorem dX12_readTokens_151 : decode cX12_readTokens 151 = .ok (.ifCond .ne 17, 3) := by decide +kernel
theorem dX12_readTokens_154 : decode cX12_readTokens 154 = .ok (.aload_n 0, 1) := by decide +kernel
theorem dX12_readTokens_155 : decode cX12_readTokens 155 = .ok (.iload_n 1, 1) := by decide +kernel
theorem dX12_readTokens_156 : decode cX12_readTokens 156 = .ok (.iload 4, 2) := by decide +kernel
theorem dX12_readTokens_158 : decode cX12_readTokens 158 = .ok (.iadd, 1) := by decide +kernel
theorem dX12_readTokens_159 : decode cX12_readTokens 159 = .ok (.invokevirtual 338, 3) := by decide +kernel
theorem dX12_readTokens_162 : decode cX12_readTokens 162 = .ok (.invokestatic 349, 3) := by decide +kernel
theorem dX12_readTokens_165 : decode cX12_readTokens 165 = .ok (.ifCond .eq 9, 3) := by decide +kernel
theorem dX12_readTokens_168 : decode cX12_readTokens 168 = .ok (.iinc 4 1, 3) := by decide +kernel
theorem dX12_readTokens_171 : decode cX12_readTokens 171 = .ok (.goto (-31), 3) := by decide +kernel
theorem dX12_readTokens_174 : decode cX12_readTokens 174 = .ok (.aload_n 0, 1) := by decide +kernel
theorem dX12_readTokens_175 : decode cX12_readTokens 175 = .ok (.iload_n 1, 1) := by decide +kernel
theorem dX12_readTokens_176 : decode cX12_readTokens 176 = .ok (.iload 4, 2) := by decide +kernel
theorem dX12_readTokens_178 : decode cX12_readTokens 178 = .ok (.invokevirtual 352, 3) := by decide +kernel
theorem dX12_readTokens_181 : decode cX12_readTokens 181 = .ok (.istore 6, 2) := by decide +kernel
theorem dX12_readTokens_183 : decode cX12_readTokens 183 = .ok (.iload 6, 2) := by decide +kernel
theorem dX12_readTokens_185 : decode cX12_readTokens 185 = .ok (.iconst 1, 1) := by decide +kernel
theorem dX12_readTokens_186 : decode cX12_readTokens 186 = .ok (.if_icmp .ne 14, 3) := by decide +kernel
theorem dX12_readTokens_189 : decode cX12_readTokens 189 = .ok (.iload 4, 2) := by decide +kernel
theorem dX12_readTokens_191 : decode cX12_readTokens 191 = .ok (.bipush 12, 2) := by decide +kernel
theorem dX12_readTokens_193 : decode cX12_readTokens 193 = .ok (.if_icmp .le 7, 3) := by decide +kernel
theorem dX12_readTokens_196 : decode cX12_readTokens 196 = .ok (.iconst 3, 1) := by decide +kernel
theorem dX12_readTokens_197 : decode cX12_readTokens 197 = .ok (.goto 5, 3) := by decide +kernel
theorem dX12_readTokens_200 : decode cX12_readTokens 200 = .ok (.iload 6, 2) := by decide +kernel
theorem dX12_readTokens_202 : decode cX12_readTokens 202 = .ok (.istore 6, 2) := by decide +kernel
theorem dX12_readTokens_204 : decode cX12_readTokens 204 = .ok (.goto 146, 3) := by decide +kernel
theorem dX12_readTokens_207 : decode cX12_readTokens 207 = .ok (.iload_n 3, 1) := by decide +kernel
theorem dX12_readTokens_208 : decode cX12_readTokens 208 = .ok (.invokestatic 349, 3) := by decide +kernel
theorem dX12_readTokens_211 : decode cX12_readTokens 211 = .ok (.ifCond .eq 85, 3) := by decide +kernel
theorem dX12_readTokens_214 : decode cX12_readTokens 214 = .ok (.aload_n 0, 1) := by decide +kernel
theorem dX12_readTokens_215 : decode cX12_readTokens 215 = .ok (.iload_n 1, 1) := by decide +kernel
theorem dX12_readTokens_216 : decode cX12_readTokens 216 = .ok (.iload 4, 2) := by decide +kernel
theorem dX12_readTokens_218 : decode cX12_readTokens 218 = .ok (.iadd, 1) := by decide +kernel
theorem dX12_readTokens_219 : decode cX12_readTokens 219 = .ok (.invokevirtual 338, 3) := by decide +kernel
theorem dX12_readTokens_222 : decode cX12_readTokens 222 = .ok (.invokestatic 349, 3) := by decide +kernel
theorem dX12_readTokens_225 : decode cX12_readTokens 225 = .ok (.ifCond .eq 40, 3) := by decide +kernel
theorem dX12_readTokens_228 : decode cX12_readTokens 228 = .ok (.iload 4, 2) := by decide +kernel
theorem dX12_readTokens_230 : decode cX12_readTokens 230 = .ok (.bipush 9, 2) := by decide +kernel
theorem dX12_readTokens_232 : decode cX12_readTokens 232 = .ok (.if_icmp .ge 23, 3) := by decide +kernel
theorem dX12_readTokens_235 : decode cX12_readTokens 235 = .ok (.bipush 10, 2) := by decide +kernel
theorem dX12_readTokens_237 : decode cX12_readTokens 237 = .ok (.iload 5, 2) := by decide +kernel
theorem dX12_readTokens_239 : decode cX12_readTokens 239 = .ok (.imul, 1) := by decide +kernel
theorem dX12_readTokens_240 : decode cX12_readTokens 240 = .ok (.aload_n 0, 1) := by decide +kernel
theorem dX12_readTokens_241 : decode cX12_readTokens 241 = .ok (.iload_n 1, 1) := by decide +kernel
theorem dX12_readTokens_242 : decode cX12_readTokens 242 = .ok (.iload 4, 2) := by decide +kernel
theorem dX12_readTokens_244 : decode cX12_readTokens 244 = .ok (.iadd, 1) := by decide +kernel
theorem dX12_readTokens_245 : decode cX12_readTokens 245 = .ok (.invokevirtual 338, 3) := by decide +kernel
theorem dX12_readTokens_248 : decode cX12_readTokens 248 = .ok (.iadd, 1) := by decide +kernel
theorem dX12_readTokens_249 : decode cX12_readTokens 249 = .ok (.bipush 48, 2) := by decide +kernel
theorem dX12_readTokens_251 : decode cX12_readTokens 251 = .ok (.isub, 1) := by decide +kernel
theorem dX12_readTokens_252 : decode cX12_readTokens 252 = .ok (.goto 5, 3) := by decide +kernel
theorem dX12_readTokens_255 : decode cX12_readTokens 255 = .ok (.iload 5, 2) := by decide +kernel
theorem dX12_readTokens_257 : decode cX12_readTokens 257 = .ok (.istore 5, 2) := by decide +kernel
theorem dX12_readTokens_259 : decode cX12_readTokens 259 = .ok (.iinc 4 1, 3) := by decide +kernel
theorem dX12_readTokens_262 : decode cX12_readTokens 262 = .ok (.goto (-48), 3) := by decide +kernel
theorem dX12_readTokens_265 : decode cX12_readTokens 265 = .ok (.iload 4, 2) := by decide +kernel
theorem dX12_readTokens_267 : decode cX12_readTokens 267 = .ok (.bipush 9, 2) := by decide +kernel
theorem dX12_readTokens_269 : decode cX12_readTokens 269 = .ok (.if_icmp .gt 17, 3) := by decide +kernel
theorem dX12_readTokens_272 : decode cX12_readTokens 272 = .ok (.aload_n 0, 1) := by decide +kernel
theorem dX12_readTokens_273 : decode cX12_readTokens 273 = .ok (.iload_n 1, 1) := by decide +kernel
theorem dX12_readTokens_274 : decode cX12_readTokens 274 = .ok (.iload 4, 2) := by decide +kernel
theorem dX12_readTokens_276 : decode cX12_readTokens 276 = .ok (.iadd, 1) := by decide +kernel
theorem dX12_readTokens_277 : decode cX12_readTokens 277 = .ok (.invokevirtual 338, 3) := by decide +kernel
theorem dX12_readTokens_280 : decode cX12_readTokens 280 = .ok (.invokestatic 345, 3) := by decide +kernel
theorem dX12_readTokens_283 : decode cX12_readTokens 283 = .ok (.ifCond .eq 7, 3) := by decide +kernel
theorem dX12_readTokens_286 : decode cX12_readTokens 286 = .ok (.iconst 3, 1) := by decide +kernel
theorem dX12_readTokens_287 : decode cX12_readTokens 287 = .ok (.goto 4, 3) := by decide +kernel
theorem dX12_readTokens_290 : decode cX12_readTokens 290 = .ok (.iconst 2, 1) := by decide +kernel
theorem dX12_readTokens_291 : decode cX12_readTokens 291 = .ok (.istore 6, 2) := by decide +kernel
theorem dX12_readTokens_293 : decode cX12_readTokens 293 = .ok (.goto 57, 3) := by decide +kernel
theorem dX12_readTokens_296 : decode cX12_readTokens 296 = .ok (.iload_n 3, 1) := by decide +kernel
theorem dX12_readTokens_297 : decode cX12_readTokens 297 = .ok (.iconst (-1), 1) := by decide +kernel
theorem dX12_readTokens_298 : decode cX12_readTokens 298 = .ok (.if_icmp .eq 52, 3) := by decide +kernel
theorem dX12_readTokens_301 : decode cX12_readTokens 301 = .ok (.aload_n 0, 1) := by decide +kernel
theorem dX12_readTokens_302 : decode cX12_readTokens 302 = .ok (.iload_n 3, 1) := by decide +kernel
theorem dX12_readTokens_303 : decode cX12_readTokens 303 = .ok (.aload_n 0, 1) := by decide +kernel
theorem dX12_readTokens_304 : decode cX12_readTokens 304 = .ok (.iload_n 1, 1) := by decide +kernel
theorem dX12_readTokens_305 : decode cX12_readTokens 305 = .ok (.iconst 1, 1) := by decide +kernel
theorem dX12_readTokens_306 : decode cX12_readTokens 306 = .ok (.iadd, 1) := by decide +kernel
theorem dX12_readTokens_307 : decode cX12_readTokens 307 = .ok (.invokevirtual 338, 3) := by decide +kernel
theorem dX12_readTokens_310 : decode cX12_readTokens 310 = .ok (.invokevirtual 356, 3) := by decide +kernel
theorem dX12_readTokens_313 : decode cX12_readTokens 313 = .ok (.istore 6, 2) := by decide +kernel
theorem dX12_readTokens_315 : decode cX12_readTokens 315 = .ok (.iload 6, 2) := by decide +kernel
theorem dX12_readTokens_317 : decode cX12_readTokens 317 = .ok (.bipush 51, 2) := by decide +kernel
theorem dX12_readTokens_319 : decode cX12_readTokens 319 = .ok (.if_icmp .eq 24, 3) := by decide +kernel
theorem dX12_readTokens_322 : decode cX12_readTokens 322 = .ok (.iload 6, 2) := by decide +kernel
theorem dX12_readTokens_324 : decode cX12_readTokens 324 = .ok (.bipush 52, 2) := by decide +kernel
theorem dX12_readTokens_326 : decode cX12_readTokens 326 = .ok (.if_icmp .eq 17, 3) := by decide +kernel
theorem dX12_readTokens_329 : decode cX12_readTokens 329 = .ok (.iload 6, 2) := by decide +kernel
theorem dX12_readTokens_331 : decode cX12_readTokens 331 = .ok (.bipush 54, 2) := by decide +kernel
theorem dX12_readTokens_333 : decode cX12_readTokens 333 = .ok (.if_icmp .eq 10, 3) := by decide +kernel
theorem dX12_readTokens_336 : decode cX12_readTokens 336 = .ok (.iload 6, 2) := by decide +kernel
theorem dX12_readTokens_338 : decode cX12_readTokens 338 = .ok (.bipush 56, 2) := by decide +kernel
theorem dX12_readTokens_340 : decode cX12_readTokens 340 = .ok (.if_icmp .ne 7, 3) := by decide +kernel
theorem dX12_readTokens_343 : decode cX12_readTokens 343 = .ok (.iconst 2, 1) := by decide +kernel
theorem dX12_readTokens_344 : decode cX12_readTokens 344 = .ok (.goto 4, 3) := by decide +kernel
theorem dX12_readTokens_347 : decode cX12_readTokens 347 = .ok (.iconst 1, 1) := by decide +kernel
theorem dX12_readTokens_348 : decode cX12_readTokens 348 = .ok (.istore 4, 2) := by decide +kernel
theorem dX12_readTokens_350 : decode cX12_readTokens 350 = .ok (.aload_n 0, 1) := by decide +kernel
theorem dX12_readTokens_351 : decode cX12_readTokens 351 = .ok (.iload 6, 2) := by decide +kernel
theorem dX12_readTokens_353 : decode cX12_readTokens 353 = .ok (.iload_n 1, 1) := by decide +kernel
theorem dX12_readTokens_354 : decode cX12_readTokens 354 = .ok (.iload 4, 2) := by decide +kernel
theorem dX12_readTokens_356 : decode cX12_readTokens 356 = .ok (.iload 5, 2) := by decide +kernel
theorem dX12_readTokens_358 : decode cX12_readTokens 358 = .ok (.invokevirtual 359, 3) := by decide +kernel
theorem dX12_readTokens_361 : decode cX12_readTokens 361 = .ok (.iload 6, 2) := by decide +kernel
theorem dX12_readTokens_363 : decode cX12_readTokens 363 = .ok (.ifCond .eq 9, 3) := by decide +kernel
theorem dX12_readTokens_366 : decode cX12_readTokens 366 = .ok (.iload 6, 2) := by decide +kernel
theorem dX12_readTokens_368 : decode cX12_readTokens 368 = .ok (.iconst 3, 1) := by decide +kernel
theorem dX12_readTokens_369 : decode cX12_readTokens 369 = .ok (.if_icmp .ne 4, 3) := by decide +kernel
theorem dX12_readTokens_372 : decode cX12_readTokens 372 = .ok (.return_, 1) := by decide +kernel
theorem dX12_readTokens_373 : decode cX12_readTokens 373 = .ok (.iload_n 1, 1) := by decide +kernel
theorem dX12_readTokens_374 : decode cX12_readTokens 374 = .ok (.iload 4, 2) := by decide +kernel
theorem dX12_readTokens_376 : decode cX12_readTokens 376 = .ok (.iadd, 1) := by decide +kernel
theorem dX12_readTokens_377 : decode cX12_readTokens 377 = .ok (.istore_n 1, 1) := by decide +kernel
theorem dX12_readTokens_378 : decode cX12_readTokens 378 = .ok (.goto (-371), 3) := by decide +kernel
theorem dX12_readTokens_381 : decode cX12_readTokens 381 = .ok (.return_, 1) := by decide +kernel
theorem dX12_fault_0 : decode cX12_fault 0 = .ok (.aload_n 0, 1) := by decide +kernel
theorem dX12_fault_1 : decode cX12_fault 1 = .ok (.getfield 366, 3) := by decide +kernel
theorem dX12_fault_4 : decode cX12_fault 4 = .ok (.ifCond .ne 32, 3) := by decide +kernel
theorem dX12_fault_7 : decode cX12_fault 7 = .ok (.aload_n 0, 1) := by decide +kernel
theorem dX12_fault_8 : decode cX12_fault 8 = .ok (.aload_n 0, 1) := by decide +kernel
theorem dX12_fault_9 : decode cX12_fault 9 = .ok (.getfield 13, 3) := by decide +kernel
theorem dX12_fault_12 : decode cX12_fault 12 = .ok (.iload_n 2, 1) := by decide +kernel
theorem dX12_fault_13 : decode cX12_fault 13 = .ok (.iaload, 1) := by decide +kernel
theorem dX12_fault_14 : decode cX12_fault 14 = .ok (.iconst 3, 1) := by decide +kernel
theorem dX12_fault_15 : decode cX12_fault 15 = .ok (.if_icmp .ne 7, 3) := by decide +kernel
theorem dX12_fault_18 : decode cX12_fault 18 = .ok (.iconst 1, 1) := by decide +kernel
theorem dX12_fault_19 : decode cX12_fault 19 = .ok (.goto 4, 3) := by decide +kernel
theorem dX12_fault_22 : decode cX12_fault 22 = .ok (.iload_n 1, 1) := by decide +kernel
theorem dX12_fault_23 : decode cX12_fault 23 = .ok (.putfield 366, 3) := by decide +kernel
theorem dX12_fault_26 : decode cX12_fault 26 = .ok (.aload_n 0, 1) := by decide +kernel
theorem dX12_fault_27 : decode cX12_fault 27 = .ok (.aload_n 0, 1) := by decide +kernel
theorem dX12_fault_28 : decode cX12_fault 28 = .ok (.getfield 17, 3) := by decide +kernel
theorem dX12_fault_31 : decode cX12_fault 31 = .ok (.iload_n 2, 1) := by decide +kernel
theorem dX12_fault_32 : decode cX12_fault 32 = .ok (.iaload, 1) := by decide +kernel
theorem dX12_fault_33 : decode cX12_fault 33 = .ok (.putfield 369, 3) := by decide +kernel
theorem dX12_fault_36 : decode cX12_fault 36 = .ok (.return_, 1) := by decide +kernel
theorem dX12_here_0 : decode cX12_here 0 = .ok (.aload_n 0, 1) := by decide +kernel
theorem dX12_here_1 : decode cX12_here 1 = .ok (.getfield 366, 3) := by decide +kernel
theorem dX12_here_4 : decode cX12_here 4 = .ok (.ifCond .le 7, 3) := by decide +kernel
theorem dX12_here_7 : decode cX12_here 7 = .ok (.iconst 0, 1) := by decide +kernel
theorem dX12_here_8 : decode cX12_here 8 = .ok (.goto 12, 3) := by decide +kernel
theorem dX12_here_11 : decode cX12_here 11 = .ok (.aload_n 0, 1) := by decide +kernel
theorem dX12_here_12 : decode cX12_here 12 = .ok (.getfield 13, 3) := by decide +kernel
theorem dX12_here_15 : decode cX12_here 15 = .ok (.aload_n 0, 1) := by decide +kernel
theorem dX12_here_16 : decode cX12_here 16 = .ok (.getfield 372, 3) := by decide +kernel
theorem dX12_here_19 : decode cX12_here 19 = .ok (.iaload, 1) := by decide +kernel
theorem dX12_here_20 : decode cX12_here 20 = .ok (.ireturn, 1) := by decide +kernel
theorem dX12_judge_0 : decode cX12_judge 0 = .ok (.aload_n 0, 1) := by decide +kernel
theorem dX12_judge_1 : decode cX12_judge 1 = .ok (.iconst 0, 1) := by decide +kernel
theorem dX12_judge_2 : decode cX12_judge 2 = .ok (.putfield 470, 3) := by decide +kernel
theorem dX12_judge_5 : decode cX12_judge 5 = .ok (.aload_n 0, 1) := by decide +kernel
theorem dX12_judge_6 : decode cX12_judge 6 = .ok (.iconst 0, 1) := by decide +kernel
theorem dX12_judge_7 : decode cX12_judge 7 = .ok (.putfield 483, 3) := by decide +kernel
theorem dX12_judge_10 : decode cX12_judge 10 = .ok (.aload_n 0, 1) := by decide +kernel
theorem dX12_judge_11 : decode cX12_judge 11 = .ok (.iconst 0, 1) := by decide +kernel
theorem dX12_judge_12 : decode cX12_judge 12 = .ok (.putfield 502, 3) := by decide +kernel
theorem dX12_judge_15 : decode cX12_judge 15 = .ok (.iconst 0, 1) := by decide +kernel
theorem dX12_judge_16 : decode cX12_judge 16 = .ok (.istore_n 1, 1) := by decide +kernel
theorem dX12_judge_17 : decode cX12_judge 17 = .ok (.iload_n 1, 1) := by decide +kernel
theorem dX12_judge_18 : decode cX12_judge 18 = .ok (.aload_n 0, 1) := by decide +kernel
theorem dX12_judge_19 : decode cX12_judge 19 = .ok (.getfield 445, 3) := by decide +kernel
theorem dX12_judge_22 : decode cX12_judge 22 = .ok (.if_icmp .ge 75, 3) := by decide +kernel
theorem dX12_judge_25 : decode cX12_judge 25 = .ok (.aload_n 0, 1) := by decide +kernel
theorem dX12_judge_26 : decode cX12_judge 26 = .ok (.aload_n 0, 1) := by decide +kernel
theorem dX12_judge_27 : decode cX12_judge 27 = .ok (.getfield 51, 3) := by decide +kernel
theorem dX12_judge_30 : decode cX12_judge 30 = .ok (.iload_n 1, 1) := by decide +kernel
theorem dX12_judge_31 : decode cX12_judge 31 = .ok (.iaload, 1) := by decide +kernel
theorem dX12_judge_32 : decode cX12_judge 32 = .ok (.invokevirtual 555, 3) := by decide +kernel
theorem dX12_judge_35 : decode cX12_judge 35 = .ok (.iload_n 1, 1) := by decide +kernel
theorem dX12_judge_36 : decode cX12_judge 36 = .ok (.if_icmp .eq 14, 3) := by decide +kernel
theorem dX12_judge_39 : decode cX12_judge 39 = .ok (.aload_n 0, 1) := by decide +kernel
theorem dX12_judge_40 : decode cX12_judge 40 = .ok (.iconst 4, 1) := by decide +kernel
theorem dX12_judge_41 : decode cX12_judge 41 = .ok (.aload_n 0, 1) := by decide +kernel
theorem dX12_judge_42 : decode cX12_judge 42 = .ok (.getfield 51, 3) := by decide +kernel
theorem dX12_judge_45 : decode cX12_judge 45 = .ok (.iload_n 1, 1) := by decide +kernel
theorem dX12_judge_46 : decode cX12_judge 46 = .ok (.iaload, 1) := by decide +kernel
theorem dX12_judge_47 : decode cX12_judge 47 = .ok (.invokevirtual 495, 3) := by decide +kernel
theorem dX12_judge_50 : decode cX12_judge 50 = .ok (.aload_n 0, 1) := by decide +kernel
theorem dX12_judge_51 : decode cX12_judge 51 = .ok (.getfield 63, 3) := by decide +kernel
theorem dX12_judge_54 : decode cX12_judge 54 = .ok (.iload_n 1, 1) := by decide +kernel
theorem dX12_judge_55 : decode cX12_judge 55 = .ok (.baload, 1) := by decide +kernel
theorem dX12_judge_56 : decode cX12_judge 56 = .ok (.ifCond .eq 35, 3) := by decide +kernel
theorem dX12_judge_59 : decode cX12_judge 59 = .ok (.aload_n 0, 1) := by decide +kernel
theorem dX12_judge_60 : decode cX12_judge 60 = .ok (.getfield 20, 3) := by decide +kernel
theorem dX12_judge_63 : decode cX12_judge 63 = .ok (.aload_n 0, 1) := by decide +kernel
theorem dX12_judge_64 : decode cX12_judge 64 = .ok (.getfield 67, 3) := by decide +kernel
theorem dX12_judge_67 : decode cX12_judge 67 = .ok (.iload_n 1, 1) := by decide +kernel
theorem dX12_judge_68 : decode cX12_judge 68 = .ok (.iaload, 1) := by decide +kernel
theorem dX12_judge_69 : decode cX12_judge 69 = .ok (.iaload, 1) := by decide +kernel
theorem dX12_judge_70 : decode cX12_judge 70 = .ok (.iconst 1, 1) := by decide +kernel
theorem dX12_judge_71 : decode cX12_judge 71 = .ok (.bipush 8, 2) := by decide +kernel
theorem dX12_judge_73 : decode cX12_judge 73 = .ok (.invokestatic 322, 3) := by decide +kernel
theorem dX12_judge_76 : decode cX12_judge 76 = .ok (.ifCond .ne 15, 3) := by decide +kernel
theorem dX12_judge_79 : decode cX12_judge 79 = .ok (.aload_n 0, 1) := by decide +kernel
theorem dX12_judge_80 : decode cX12_judge 80 = .ok (.bipush 6, 2) := by decide +kernel
theorem dX12_judge_82 : decode cX12_judge 82 = .ok (.aload_n 0, 1) := by decide +kernel
theorem dX12_judge_83 : decode cX12_judge 83 = .ok (.getfield 67, 3) := by decide +kernel
theorem dX12_judge_86 : decode cX12_judge 86 = .ok (.iload_n 1, 1) := by decide +kernel
theorem dX12_judge_87 : decode cX12_judge 87 = .ok (.iaload, 1) := by decide +kernel
theorem dX12_judge_88 : decode cX12_judge 88 = .ok (.invokevirtual 495, 3) := by decide +kernel
theorem dX12_judge_91 : decode cX12_judge 91 = .ok (.iinc 1 1, 3) := by decide +kernel
theorem dX12_judge_94 : decode cX12_judge 94 = .ok (.goto (-77), 3) := by decide +kernel
theorem dX12_judge_97 : decode cX12_judge 97 = .ok (.iconst 0, 1) := by decide +kernel
theorem dX12_judge_98 : decode cX12_judge 98 = .ok (.istore_n 1, 1) := by decide +kernel
theorem dX12_judge_99 : decode cX12_judge 99 = .ok (.iload_n 1, 1) := by decide +kernel
theorem dX12_judge_100 : decode cX12_judge 100 = .ok (.aload_n 0, 1) := by decide +kernel
theorem dX12_judge_101 : decode cX12_judge 101 = .ok (.getfield 461, 3) := by decide +kernel
theorem dX12_judge_104 : decode cX12_judge 104 = .ok (.if_icmp .ge 46, 3) := by decide +kernel
theorem dX12_judge_107 : decode cX12_judge 107 = .ok (.aload_n 0, 1) := by decide +kernel
theorem dX12_judge_108 : decode cX12_judge 108 = .ok (.iconst 0, 1) := by decide +kernel
theorem dX12_judge_109 : decode cX12_judge 109 = .ok (.putfield 480, 3) := by decide +kernel
theorem dX12_judge_112 : decode cX12_judge 112 = .ok (.aload_n 0, 1) := by decide +kernel
theorem dX12_judge_113 : decode cX12_judge 113 = .ok (.iconst 0, 1) := by decide +kernel
theorem dX12_judge_114 : decode cX12_judge 114 = .ok (.putfield 533, 3) := by decide +kernel
theorem dX12_judge_117 : decode cX12_judge 117 = .ok (.aload_n 0, 1) := by decide +kernel
theorem dX12_judge_118 : decode cX12_judge 118 = .ok (.getfield 133, 3) := by decide +kernel
theorem dX12_judge_121 : decode cX12_judge 121 = .ok (.iload_n 1, 1) := by decide +kernel
theorem dX12_judge_122 : decode cX12_judge 122 = .ok (.aload_n 0, 1) := by decide +kernel
theorem dX12_judge_123 : decode cX12_judge 123 = .ok (.getfield 502, 3) := by decide +kernel
theorem dX12_judge_126 : decode cX12_judge 126 = .ok (.iastore, 1) := by decide +kernel
theorem dX12_judge_127 : decode cX12_judge 127 = .ok (.aload_n 0, 1) := by decide +kernel
theorem dX12_judge_128 : decode cX12_judge 128 = .ok (.aload_n 0, 1) := by decide +kernel
theorem dX12_judge_129 : decode cX12_judge 129 = .ok (.getfield 79, 3) := by decide +kernel
theorem dX12_judge_132 : decode cX12_judge 132 = .ok (.iload_n 1, 1) := by decide +kernel
theorem dX12_judge_133 : decode cX12_judge 133 = .ok (.iaload, 1) := by decide +kernel
theorem dX12_judge_134 : decode cX12_judge 134 = .ok (.invokevirtual 543, 3) := by decide +kernel
theorem dX12_judge_137 : decode cX12_judge 137 = .ok (.aload_n 0, 1) := by decide +kernel
theorem dX12_judge_138 : decode cX12_judge 138 = .ok (.iconst 5, 1) := by decide +kernel
theorem dX12_judge_139 : decode cX12_judge 139 = .ok (.iconst (-1), 1) := by decide +kernel
theorem dX12_judge_140 : decode cX12_judge 140 = .ok (.invokevirtual 511, 3) := by decide +kernel
theorem dX12_judge_143 : decode cX12_judge 143 = .ok (.istore_n 2, 1) := by decide +kernel
theorem dX12_judge_144 : decode cX12_judge 144 = .ok (.iinc 1 1, 3) := by decide +kernel
theorem dX12_judge_147 : decode cX12_judge 147 = .ok (.goto (-48), 3) := by decide +kernel
theorem dX12_judge_150 : decode cX12_judge 150 = .ok (.iconst 0, 1) := by decide +kernel
theorem dX12_judge_151 : decode cX12_judge 151 = .ok (.istore_n 1, 1) := by decide +kernel
theorem dX12_judge_152 : decode cX12_judge 152 = .ok (.iload_n 1, 1) := by decide +kernel
theorem dX12_judge_153 : decode cX12_judge 153 = .ok (.aload_n 0, 1) := by decide +kernel
theorem dX12_judge_154 : decode cX12_judge 154 = .ok (.getfield 464, 3) := by decide +kernel
theorem dX12_judge_157 : decode cX12_judge 157 = .ok (.if_icmp .ge 26, 3) := by decide +kernel
theorem dX12_judge_160 : decode cX12_judge 160 = .ok (.aload_n 0, 1) := by decide +kernel
theorem dX12_judge_161 : decode cX12_judge 161 = .ok (.getfield 136, 3) := by decide +kernel
theorem dX12_judge_164 : decode cX12_judge 164 = .ok (.iload_n 1, 1) := by decide +kernel
theorem dX12_judge_165 : decode cX12_judge 165 = .ok (.aload_n 0, 1) := by decide +kernel
theorem dX12_judge_166 : decode cX12_judge 166 = .ok (.aload_n 0, 1) := by decide +kernel
theorem dX12_judge_167 : decode cX12_judge 167 = .ok (.getfield 82, 3) := by decide +kernel
theorem dX12_judge_170 : decode cX12_judge 170 = .ok (.iload_n 1, 1) := by decide +kernel
theorem dX12_judge_171 : decode cX12_judge 171 = .ok (.iaload, 1) := by decide +kernel
theorem dX12_judge_172 : decode cX12_judge 172 = .ok (.iconst 1, 1) := by decide +kernel
theorem dX12_judge_173 : decode cX12_judge 173 = .ok (.invokevirtual 517, 3) := by decide +kernel
theorem dX12_judge_176 : decode cX12_judge 176 = .ok (.iastore, 1) := by decide +kernel
theorem dX12_judge_177 : decode cX12_judge 177 = .ok (.iinc 1 1, 3) := by decide +kernel
theorem dX12_judge_180 : decode cX12_judge 180 = .ok (.goto (-28), 3) := by decide +kernel
theorem dX12_judge_183 : decode cX12_judge 183 = .ok (.iconst 0, 1) := by decide +kernel
theorem dX12_judge_184 : decode cX12_judge 184 = .ok (.istore_n 1, 1) := by decide +kernel
theorem dX12_judge_185 : decode cX12_judge 185 = .ok (.iload_n 1, 1) := by decide +kernel
theorem dX12_judge_186 : decode cX12_judge 186 = .ok (.aload_n 0, 1) := by decide +kernel
theorem dX12_judge_187 : decode cX12_judge 187 = .ok (.getfield 467, 3) := by decide +kernel
theorem dX12_judge_190 : decode cX12_judge 190 = .ok (.if_icmp .ge 26, 3) := by decide +kernel
theorem dX12_judge_193 : decode cX12_judge 193 = .ok (.aload_n 0, 1) := by decide +kernel
theorem dX12_judge_194 : decode cX12_judge 194 = .ok (.getfield 139, 3) := by decide +kernel
theorem dX12_judge_197 : decode cX12_judge 197 = .ok (.iload_n 1, 1) := by decide +kernel
theorem dX12_judge_198 : decode cX12_judge 198 = .ok (.aload_n 0, 1) := by decide +kernel
theorem dX12_judge_199 : decode cX12_judge 199 = .ok (.aload_n 0, 1) := by decide +kernel
theorem dX12_judge_200 : decode cX12_judge 200 = .ok (.getfield 85, 3) := by decide +kernel
theorem dX12_judge_203 : decode cX12_judge 203 = .ok (.iload_n 1, 1) := by decide +kernel
theorem dX12_judge_204 : decode cX12_judge 204 = .ok (.iaload, 1) := by decide +kernel
theorem dX12_judge_205 : decode cX12_judge 205 = .ok (.iconst 1, 1) := by decide +kernel
theorem dX12_judge_206 : decode cX12_judge 206 = .ok (.invokevirtual 517, 3) := by decide +kernel
theorem dX12_judge_209 : decode cX12_judge 209 = .ok (.iastore, 1) := by decide +kernel
theorem dX12_judge_210 : decode cX12_judge 210 = .ok (.iinc 1 1, 3) := by decide +kernel
theorem dX12_judge_213 : decode cX12_judge 213 = .ok (.goto (-28), 3) := by decide +kernel
theorem dX12_judge_216 : decode cX12_judge 216 = .ok (.return_, 1) := by decide +kernel
theorem dX12_feed_0 : decode cX12_feed 0 = .ok (.aload_n 0, 1) := by decide +kernel
theorem dX12_feed_1 : decode cX12_feed 1 = .ok (.iconst 0, 1) := by decide +kernel
theorem dX12_feed_2 : decode cX12_feed 2 = .ok (.putfield 316, 3) := by decide +kernel
theorem dX12_feed_5 : decode cX12_feed 5 = .ok (.aload_n 0, 1) := by decide +kernel
theorem dX12_feed_6 : decode cX12_feed 6 = .ok (.iload_n 1, 1) := by decide +kernel
theorem dX12_feed_7 : decode cX12_feed 7 = .ok (.iconst 1, 1) := by decide +kernel
theorem dX12_feed_8 : decode cX12_feed 8 = .ok (.bipush 8, 2) := by decide +kernel
theorem dX12_feed_10 : decode cX12_feed 10 = .ok (.invokestatic 322, 3) := by decide +kernel
theorem dX12_feed_13 : decode cX12_feed 13 = .ok (.ifCond .eq 15, 3) := by decide +kernel
theorem dX12_feed_16 : decode cX12_feed 16 = .ok (.aload_n 0, 1) := by decide +kernel
theorem dX12_feed_17 : decode cX12_feed 17 = .ok (.getfield 319, 3) := by decide +kernel
theorem dX12_feed_20 : decode cX12_feed 20 = .ok (.iload_n 1, 1) := by decide +kernel
theorem dX12_feed_21 : decode cX12_feed 21 = .ok (.iadd, 1) := by decide +kernel
theorem dX12_feed_22 : decode cX12_feed 22 = .ok (.sipush 3000, 3) := by decide +kernel
theorem dX12_feed_25 : decode cX12_feed 25 = .ok (.if_icmp .le 7, 3) := by decide +kernel
theorem dX12_feed_28 : decode cX12_feed 28 = .ok (.iconst 1, 1) := by decide +kernel
theorem dX12_feed_29 : decode cX12_feed 29 = .ok (.goto 4, 3) := by decide +kernel
theorem dX12_feed_32 : decode cX12_feed 32 = .ok (.iconst 0, 1) := by decide +kernel
theorem dX12_feed_33 : decode cX12_feed 33 = .ok (.iconst 1, 1) := by decide +kernel
theorem dX12_feed_34 : decode cX12_feed 34 = .ok (.invokevirtual 558, 3) := by decide +kernel
theorem dX12_feed_37 : decode cX12_feed 37 = .ok (.ifCond .eq 5, 3) := by decide +kernel
theorem dX12_feed_40 : decode cX12_feed 40 = .ok (.iconst 0, 1) := by decide +kernel
theorem dX12_feed_41 : decode cX12_feed 41 = .ok (.ireturn, 1) := by decide +kernel
theorem dX12_feed_42 : decode cX12_feed 42 = .ok (.iconst 0, 1) := by decide +kernel
theorem dX12_feed_43 : decode cX12_feed 43 = .ok (.istore 4, 2) := by decide +kernel
theorem dX12_feed_45 : decode cX12_feed 45 = .ok (.iload 4, 2) := by decide +kernel
theorem dX12_feed_47 : decode cX12_feed 47 = .ok (.iload_n 1, 1) := by decide +kernel
theorem dX12_feed_48 : decode cX12_feed 48 = .ok (.if_icmp .ge 37, 3) := by decide +kernel
theorem dX12_feed_51 : decode cX12_feed 51 = .ok (.aload_n 0, 1) := by decide +kernel
theorem dX12_feed_52 : decode cX12_feed 52 = .ok (.getfield 7, 3) := by decide +kernel
theorem dX12_feed_55 : decode cX12_feed 55 = .ok (.aload_n 0, 1) := by decide +kernel
theorem dX12_feed_56 : decode cX12_feed 56 = .ok (.getfield 319, 3) := by decide +kernel
theorem dX12_feed_59 : decode cX12_feed 59 = .ok (.lload_n 2, 1) := by decide +kernel
theorem dX12_feed_60 : decode cX12_feed 60 = .ok (.bipush 8, 2) := by decide +kernel
theorem dX12_feed_62 : decode cX12_feed 62 = .ok (.iload 4, 2) := by decide +kernel
theorem dX12_feed_64 : decode cX12_feed 64 = .ok (.imul, 1) := by decide +kernel
theorem dX12_feed_65 : decode cX12_feed 65 = .ok (.lshr, 1) := by decide +kernel
theorem dX12_feed_66 : decode cX12_feed 66 = .ok (.l2i, 1) := by decide +kernel
theorem dX12_feed_67 : decode cX12_feed 67 = .ok (.i2b, 1) := by decide +kernel
theorem dX12_feed_68 : decode cX12_feed 68 = .ok (.bastore, 1) := by decide +kernel
theorem dX12_feed_69 : decode cX12_feed 69 = .ok (.aload_n 0, 1) := by decide +kernel
theorem dX12_feed_70 : decode cX12_feed 70 = .ok (.dup, 1) := by decide +kernel
theorem dX12_feed_71 : decode cX12_feed 71 = .ok (.getfield 319, 3) := by decide +kernel
theorem dX12_feed_74 : decode cX12_feed 74 = .ok (.iconst 1, 1) := by decide +kernel
theorem dX12_feed_75 : decode cX12_feed 75 = .ok (.iadd, 1) := by decide +kernel
theorem dX12_feed_76 : decode cX12_feed 76 = .ok (.putfield 319, 3) := by decide +kernel
theorem dX12_feed_79 : decode cX12_feed 79 = .ok (.iinc 4 1, 3) := by decide +kernel
theorem dX12_feed_82 : decode cX12_feed 82 = .ok (.goto (-37), 3) := by decide +kernel
theorem dX12_feed_85 : decode cX12_feed 85 = .ok (.aload_n 0, 1) := by decide +kernel
theorem dX12_feed_86 : decode cX12_feed 86 = .ok (.invokevirtual 562, 3) := by decide +kernel
theorem dX12_feed_89 : decode cX12_feed 89 = .ok (.aload_n 0, 1) := by decide +kernel
theorem dX12_feed_90 : decode cX12_feed 90 = .ok (.getfield 319, 3) := by decide +kernel
theorem dX12_feed_93 : decode cX12_feed 93 = .ok (.ireturn, 1) := by decide +kernel
theorem dX12_wipe_0 : decode cX12_wipe 0 = .ok (.aload_n 0, 1) := by decide +kernel
theorem dX12_wipe_1 : decode cX12_wipe 1 = .ok (.iconst 0, 1) := by decide +kernel
theorem dX12_wipe_2 : decode cX12_wipe 2 = .ok (.putfield 316, 3) := by decide +kernel
theorem dX12_wipe_5 : decode cX12_wipe 5 = .ok (.aload_n 0, 1) := by decide +kernel
theorem dX12_wipe_6 : decode cX12_wipe 6 = .ok (.getfield 319, 3) := by decide +kernel
theorem dX12_wipe_9 : decode cX12_wipe 9 = .ok (.istore_n 1, 1) := by decide +kernel
theorem dX12_wipe_10 : decode cX12_wipe 10 = .ok (.aload_n 0, 1) := by decide +kernel
theorem dX12_wipe_11 : decode cX12_wipe 11 = .ok (.iconst 0, 1) := by decide +kernel
theorem dX12_wipe_12 : decode cX12_wipe 12 = .ok (.putfield 319, 3) := by decide +kernel
theorem dX12_wipe_15 : decode cX12_wipe 15 = .ok (.aload_n 0, 1) := by decide +kernel
theorem dX12_wipe_16 : decode cX12_wipe 16 = .ok (.invokevirtual 562, 3) := by decide +kernel
theorem dX12_wipe_19 : decode cX12_wipe 19 = .ok (.iload_n 1, 1) := by decide +kernel
theorem dX12_wipe_20 : decode cX12_wipe 20 = .ok (.ireturn, 1) := by decide +kernel
theorem dX12_forget_0 : decode cX12_forget 0 = .ok (.aload_n 0, 1) := by decide +kernel
theorem dX12_forget_1 : decode cX12_forget 1 = .ok (.iconst 0, 1) := by decide +kernel
theorem dX12_forget_2 : decode cX12_forget 2 = .ok (.putfield 565, 3) := by decide +kernel
theorem dX12_forget_5 : decode cX12_forget 5 = .ok (.aload_n 0, 1) := by decide +kernel
theorem dX12_forget_6 : decode cX12_forget 6 = .ok (.iconst 0, 1) := by decide +kernel
theorem dX12_forget_7 : decode cX12_forget 7 = .ok (.putfield 569, 3) := by decide +kernel
theorem dX12_forget_10 : decode cX12_forget 10 = .ok (.aload_n 0, 1) := by decide +kernel
theorem dX12_forget_11 : decode cX12_forget 11 = .ok (.iconst 0, 1) := by decide +kernel
theorem dX12_forget_12 : decode cX12_forget 12 = .ok (.putfield 448, 3) := by decide +kernel
theorem dX12_forget_15 : decode cX12_forget 15 = .ok (.aload_n 0, 1) := by decide +kernel
theorem dX12_forget_16 : decode cX12_forget 16 = .ok (.iconst 0, 1) := by decide +kernel
theorem dX12_forget_17 : decode cX12_forget 17 = .ok (.putfield 458, 3) := by decide +kernel
theorem dX12_forget_20 : decode cX12_forget 20 = .ok (.aload_n 0, 1) := by decide +kernel
theorem dX12_forget_21 : decode cX12_forget 21 = .ok (.iconst 0, 1) := by decide +kernel
theorem dX12_forget_22 : decode cX12_forget 22 = .ok (.putfield 461, 3) := by decide +kernel
theorem dX12_forget_25 : decode cX12_forget 25 = .ok (.aload_n 0, 1) := by decide +kernel
theorem dX12_forget_26 : decode cX12_forget 26 = .ok (.iconst 0, 1) := by decide +kernel
theorem dX12_forget_27 : decode cX12_forget 27 = .ok (.putfield 464, 3) := by decide +kernel
theorem dX12_forget_30 : decode cX12_forget 30 = .ok (.aload_n 0, 1) := by decide +kernel
theorem dX12_forget_31 : decode cX12_forget 31 = .ok (.iconst 0, 1) := by decide +kernel
theorem dX12_forget_32 : decode cX12_forget 32 = .ok (.putfield 467, 3) := by decide +kernel
theorem dX12_forget_35 : decode cX12_forget 35 = .ok (.aload_n 0, 1) := by decide +kernel
theorem dX12_forget_36 : decode cX12_forget 36 = .ok (.getfield 254, 3) := by decide +kernel
theorem dX12_forget_39 : decode cX12_forget 39 = .ok (.iconst 0, 1) := by decide +kernel
theorem dX12_forget_40 : decode cX12_forget 40 = .ok (.iconst 0, 1) := by decide +kernel
theorem dX12_forget_41 : decode cX12_forget 41 = .ok (.bastore, 1) := by decide +kernel
theorem dX12_forget_42 : decode cX12_forget 42 = .ok (.aload_n 0, 1) := by decide +kernel
theorem dX12_forget_43 : decode cX12_forget 43 = .ok (.getfield 254, 3) := by decide +kernel
theorem dX12_forget_46 : decode cX12_forget 46 = .ok (.iconst 1, 1) := by decide +kernel
theorem dX12_forget_47 : decode cX12_forget 47 = .ok (.iconst 0, 1) := by decide +kernel
theorem dX12_forget_48 : decode cX12_forget 48 = .ok (.bastore, 1) := by decide +kernel
theorem dX12_forget_49 : decode cX12_forget 49 = .ok (.return_, 1) := by decide +kernel
theorem dX12_compile_0 : decode cX12_compile 0 = .ok (.aload_n 0, 1) := by decide +kernel
theorem dX12_compile_1 : decode cX12_compile 1 = .ok (.iconst 0, 1) := by decide +kernel
theorem dX12_compile_2 : decode cX12_compile 2 = .ok (.putfield 316, 3) := by decide +kernel
theorem dX12_compile_5 : decode cX12_compile 5 = .ok (.aload_n 0, 1) := by decide +kernel
theorem dX12_compile_6 : decode cX12_compile 6 = .ok (.invokevirtual 562, 3) := by decide +kernel
theorem dX12_compile_9 : decode cX12_compile 9 = .ok (.aload_n 0, 1) := by decide +kernel
theorem dX12_compile_10 : decode cX12_compile 10 = .ok (.iconst (-1), 1) := by decide +kernel
theorem dX12_compile_11 : decode cX12_compile 11 = .ok (.putfield 26, 3) := by decide +kernel
theorem dX12_compile_14 : decode cX12_compile 14 = .ok (.aload_n 0, 1) := by decide +kernel
theorem dX12_compile_15 : decode cX12_compile 15 = .ok (.iconst (-1), 1) := by decide +kernel
theorem dX12_compile_16 : decode cX12_compile 16 = .ok (.putfield 30, 3) := by decide +kernel
theorem dX12_compile_19 : decode cX12_compile 19 = .ok (.aload_n 0, 1) := by decide +kernel
theorem dX12_compile_20 : decode cX12_compile 20 = .ok (.invokevirtual 572, 3) := by decide +kernel
theorem dX12_compile_23 : decode cX12_compile 23 = .ok (.aload_n 0, 1) := by decide +kernel
theorem dX12_compile_24 : decode cX12_compile 24 = .ok (.iconst 0, 1) := by decide +kernel
theorem dX12_compile_25 : decode cX12_compile 25 = .ok (.putfield 372, 3) := by decide +kernel
theorem dX12_compile_28 : decode cX12_compile 28 = .ok (.aload_n 0, 1) := by decide +kernel
theorem dX12_compile_29 : decode cX12_compile 29 = .ok (.iconst 0, 1) := by decide +kernel
theorem dX12_compile_30 : decode cX12_compile 30 = .ok (.putfield 366, 3) := by decide +kernel
theorem dX12_compile_33 : decode cX12_compile 33 = .ok (.aload_n 0, 1) := by decide +kernel
theorem dX12_compile_34 : decode cX12_compile 34 = .ok (.iconst 0, 1) := by decide +kernel
theorem dX12_compile_35 : decode cX12_compile 35 = .ok (.putfield 445, 3) := by decide +kernel
theorem dX12_compile_38 : decode cX12_compile 38 = .ok (.aload_n 0, 1) := by decide +kernel
theorem dX12_compile_39 : decode cX12_compile 39 = .ok (.iconst 0, 1) := by decide +kernel
theorem dX12_compile_40 : decode cX12_compile 40 = .ok (.putfield 363, 3) := by decide +kernel
theorem dX12_compile_43 : decode cX12_compile 43 = .ok (.aload_n 0, 1) := by decide +kernel
theorem dX12_compile_44 : decode cX12_compile 44 = .ok (.iconst 0, 1) := by decide +kernel
theorem dX12_compile_45 : decode cX12_compile 45 = .ok (.putfield 527, 3) := by decide +kernel
theorem dX12_compile_48 : decode cX12_compile 48 = .ok (.aload_n 0, 1) := by decide +kernel
theorem dX12_compile_49 : decode cX12_compile 49 = .ok (.getfield 366, 3) := by decide +kernel
theorem dX12_compile_52 : decode cX12_compile 52 = .ok (.ifCond .ne 17, 3) := by decide +kernel
theorem dX12_compile_55 : decode cX12_compile 55 = .ok (.aload_n 0, 1) := by decide +kernel
theorem dX12_compile_56 : decode cX12_compile 56 = .ok (.invokevirtual 389, 3) := by decide +kernel
theorem dX12_compile_59 : decode cX12_compile 59 = .ok (.ifCond .eq 10, 3) := by decide +kernel
theorem dX12_compile_62 : decode cX12_compile 62 = .ok (.aload_n 0, 1) := by decide +kernel
theorem dX12_compile_63 : decode cX12_compile 63 = .ok (.invokevirtual 575, 3) := by decide +kernel
theorem dX12_compile_66 : decode cX12_compile 66 = .ok (.goto (-18), 3) := by decide +kernel
theorem dX12_compile_69 : decode cX12_compile 69 = .ok (.aload_n 0, 1) := by decide +kernel
theorem dX12_compile_70 : decode cX12_compile 70 = .ok (.getfield 366, 3) := by decide +kernel
theorem dX12_compile_73 : decode cX12_compile 73 = .ok (.ifCond .ne 23, 3) := by decide +kernel
theorem dX12_compile_76 : decode cX12_compile 76 = .ok (.aload_n 0, 1) := by decide +kernel
theorem dX12_compile_77 : decode cX12_compile 77 = .ok (.invokevirtual 578, 3) := by decide +kernel
theorem dX12_compile_80 : decode cX12_compile 80 = .ok (.aload_n 0, 1) := by decide +kernel
theorem dX12_compile_81 : decode cX12_compile 81 = .ok (.aload_n 0, 1) := by decide +kernel
theorem dX12_compile_82 : decode cX12_compile 82 = .ok (.getfield 470, 3) := by decide +kernel
theorem dX12_compile_85 : decode cX12_compile 85 = .ok (.putfield 366, 3) := by decide +kernel
theorem dX12_compile_88 : decode cX12_compile 88 = .ok (.aload_n 0, 1) := by decide +kernel
theorem dX12_compile_89 : decode cX12_compile 89 = .ok (.aload_n 0, 1) := by decide +kernel
theorem dX12_compile_90 : decode cX12_compile 90 = .ok (.getfield 473, 3) := by decide +kernel
theorem dX12_compile_93 : decode cX12_compile 93 = .ok (.putfield 369, 3) := by decide +kernel
theorem dX12_compile_96 : decode cX12_compile 96 = .ok (.aload_n 0, 1) := by decide +kernel
theorem dX12_compile_97 : decode cX12_compile 97 = .ok (.getfield 366, 3) := by decide +kernel
theorem dX12_compile_100 : decode cX12_compile 100 = .ok (.ifCond .le 33, 3) := by decide +kernel
theorem dX12_compile_103 : decode cX12_compile 103 = .ok (.aload_n 0, 1) := by decide +kernel
theorem dX12_compile_104 : decode cX12_compile 104 = .ok (.aload_n 0, 1) := by decide +kernel
theorem dX12_compile_105 : decode cX12_compile 105 = .ok (.getfield 369, 3) := by decide +kernel
theorem dX12_compile_108 : decode cX12_compile 108 = .ok (.putfield 26, 3) := by decide +kernel
theorem dX12_compile_111 : decode cX12_compile 111 = .ok (.aload_n 0, 1) := by decide +kernel
theorem dX12_compile_112 : decode cX12_compile 112 = .ok (.aload_n 0, 1) := by decide +kernel
theorem dX12_compile_113 : decode cX12_compile 113 = .ok (.aload_n 0, 1) := by decide +kernel
theorem dX12_compile_114 : decode cX12_compile 114 = .ok (.getfield 369, 3) := by decide +kernel
theorem dX12_compile_117 : decode cX12_compile 117 = .ok (.invokevirtual 508, 3) := by decide +kernel
theorem dX12_compile_120 : decode cX12_compile 120 = .ok (.putfield 30, 3) := by decide +kernel
theorem dX12_compile_123 : decode cX12_compile 123 = .ok (.aload_n 0, 1) := by decide +kernel
theorem dX12_compile_124 : decode cX12_compile 124 = .ok (.invokevirtual 562, 3) := by decide +kernel
theorem dX12_compile_127 : decode cX12_compile 127 = .ok (.aload_n 0, 1) := by decide +kernel
theorem dX12_compile_128 : decode cX12_compile 128 = .ok (.getfield 366, 3) := by decide +kernel
theorem dX12_compile_131 : decode cX12_compile 131 = .ok (.ineg, 1) := by decide +kernel
theorem dX12_compile_132 : decode cX12_compile 132 = .ok (.ireturn, 1) := by decide +kernel
theorem dX12_compile_133 : decode cX12_compile 133 = .ok (.aload_n 0, 1) := by decide +kernel
theorem dX12_compile_134 : decode cX12_compile 134 = .ok (.iconst 1, 1) := by decide +kernel
theorem dX12_compile_135 : decode cX12_compile 135 = .ok (.putfield 565, 3) := by decide +kernel
theorem dX12_compile_138 : decode cX12_compile 138 = .ok (.aload_n 0, 1) := by decide +kernel
theorem dX12_compile_139 : decode cX12_compile 139 = .ok (.getfield 461, 3) := by decide +kernel
theorem dX12_compile_142 : decode cX12_compile 142 = .ok (.ireturn, 1) := by decide +kernel
theorem dX12_fault__0 : decode cX12_fault_ 0 = .ok (.aload_n 0, 1) := by decide +kernel
theorem dX12_fault__1 : decode cX12_fault_ 1 = .ok (.iconst 0, 1) := by decide +kernel
theorem dX12_fault__2 : decode cX12_fault_ 2 = .ok (.putfield 316, 3) := by decide +kernel
theorem dX12_fault__5 : decode cX12_fault_ 5 = .ok (.aload_n 0, 1) := by decide +kernel
theorem dX12_fault__6 : decode cX12_fault_ 6 = .ok (.iload_n 1, 1) := by decide +kernel
theorem dX12_fault__7 : decode cX12_fault_ 7 = .ok (.iconst 0, 1) := by decide +kernel
theorem dX12_fault__8 : decode cX12_fault_ 8 = .ok (.iconst 1, 1) := by decide +kernel
theorem dX12_fault__9 : decode cX12_fault_ 9 = .ok (.invokestatic 322, 3) := by decide +kernel
theorem dX12_fault__12 : decode cX12_fault_ 12 = .ok (.ifCond .ne 7, 3) := by decide +kernel
theorem dX12_fault__15 : decode cX12_fault_ 15 = .ok (.iconst 1, 1) := by decide +kernel
theorem dX12_fault__16 : decode cX12_fault_ 16 = .ok (.goto 4, 3) := by decide +kernel
theorem dX12_fault__19 : decode cX12_fault_ 19 = .ok (.iconst 0, 1) := by decide +kernel
theorem dX12_fault__20 : decode cX12_fault_ 20 = .ok (.iconst 1, 1) := by decide +kernel
theorem dX12_fault__21 : decode cX12_fault_ 21 = .ok (.invokevirtual 558, 3) := by decide +kernel
theorem dX12_fault__24 : decode cX12_fault_ 24 = .ok (.ifCond .eq 5, 3) := by decide +kernel
theorem dX12_fault__27 : decode cX12_fault_ 27 = .ok (.iconst 0, 1) := by decide +kernel
theorem dX12_fault__28 : decode cX12_fault_ 28 = .ok (.ireturn, 1) := by decide +kernel
theorem dX12_fault__29 : decode cX12_fault_ 29 = .ok (.iload_n 1, 1) := by decide +kernel
theorem dX12_fault__30 : decode cX12_fault_ 30 = .ok (.ifCond .ne 10, 3) := by decide +kernel
theorem dX12_fault__33 : decode cX12_fault_ 33 = .ok (.aload_n 0, 1) := by decide +kernel
theorem dX12_fault__34 : decode cX12_fault_ 34 = .ok (.getfield 26, 3) := by decide +kernel
theorem dX12_fault__37 : decode cX12_fault_ 37 = .ok (.goto 7, 3) := by decide +kernel
theorem dX12_fault__40 : decode cX12_fault_ 40 = .ok (.aload_n 0, 1) := by decide +kernel
theorem dX12_fault__41 : decode cX12_fault_ 41 = .ok (.getfield 30, 3) := by decide +kernel
theorem dX12_fault__44 : decode cX12_fault_ 44 = .ok (.ireturn, 1) := by decide +kernel
theorem dX12_count_0 : decode cX12_count 0 = .ok (.aload_n 0, 1) := by decide +kernel
theorem dX12_count_1 : decode cX12_count 1 = .ok (.iconst 0, 1) := by decide +kernel
theorem dX12_count_2 : decode cX12_count 2 = .ok (.putfield 316, 3) := by decide +kernel
theorem dX12_count_5 : decode cX12_count 5 = .ok (.aload_n 0, 1) := by decide +kernel
theorem dX12_count_6 : decode cX12_count 6 = .ok (.iload_n 1, 1) := by decide +kernel
theorem dX12_count_7 : decode cX12_count 7 = .ok (.iconst 0, 1) := by decide +kernel
theorem dX12_count_8 : decode cX12_count 8 = .ok (.iconst 4, 1) := by decide +kernel
theorem dX12_count_9 : decode cX12_count 9 = .ok (.invokestatic 322, 3) := by decide +kernel
theorem dX12_count_12 : decode cX12_count 12 = .ok (.ifCond .ne 7, 3) := by decide +kernel
theorem dX12_count_15 : decode cX12_count 15 = .ok (.iconst 1, 1) := by decide +kernel
theorem dX12_count_16 : decode cX12_count 16 = .ok (.goto 4, 3) := by decide +kernel
theorem dX12_count_19 : decode cX12_count 19 = .ok (.iconst 0, 1) := by decide +kernel
theorem dX12_count_20 : decode cX12_count 20 = .ok (.iconst 1, 1) := by decide +kernel
theorem dX12_count_21 : decode cX12_count 21 = .ok (.invokevirtual 558, 3) := by decide +kernel
theorem dX12_count_24 : decode cX12_count 24 = .ok (.ifCond .eq 5, 3) := by decide +kernel
theorem dX12_count_27 : decode cX12_count 27 = .ok (.iconst 0, 1) := by decide +kernel
theorem dX12_count_28 : decode cX12_count 28 = .ok (.ireturn, 1) := by decide +kernel
theorem dX12_count_29 : decode cX12_count 29 = .ok (.iload_n 1, 1) := by decide +kernel
theorem dX12_count_30 : decode cX12_count 30 = .ok (.ifCond .ne 10, 3) := by decide +kernel
theorem dX12_count_33 : decode cX12_count 33 = .ok (.aload_n 0, 1) := by decide +kernel
theorem dX12_count_34 : decode cX12_count 34 = .ok (.getfield 448, 3) := by decide +kernel
theorem dX12_count_37 : decode cX12_count 37 = .ok (.goto 43, 3) := by decide +kernel
theorem dX12_count_40 : decode cX12_count 40 = .ok (.iload_n 1, 1) := by decide +kernel
theorem dX12_count_41 : decode cX12_count 41 = .ok (.iconst 1, 1) := by decide +kernel
theorem dX12_count_42 : decode cX12_count 42 = .ok (.if_icmp .ne 10, 3) := by decide +kernel
theorem dX12_count_45 : decode cX12_count 45 = .ok (.aload_n 0, 1) := by decide +kernel
theorem dX12_count_46 : decode cX12_count 46 = .ok (.getfield 458, 3) := by decide +kernel
theorem dX12_count_49 : decode cX12_count 49 = .ok (.goto 31, 3) := by decide +kernel
theorem dX12_count_52 : decode cX12_count 52 = .ok (.iload_n 1, 1) := by decide +kernel
theorem dX12_count_53 : decode cX12_count 53 = .ok (.iconst 2, 1) := by decide +kernel
theorem dX12_count_54 : decode cX12_count 54 = .ok (.if_icmp .ne 10, 3) := by decide +kernel
theorem dX12_count_57 : decode cX12_count 57 = .ok (.aload_n 0, 1) := by decide +kernel
theorem dX12_count_58 : decode cX12_count 58 = .ok (.getfield 461, 3) := by decide +kernel
theorem dX12_count_61 : decode cX12_count 61 = .ok (.goto 19, 3) := by decide +kernel
theorem dX12_count_64 : decode cX12_count 64 = .ok (.iload_n 1, 1) := by decide +kernel
theorem dX12_count_65 : decode cX12_count 65 = .ok (.iconst 3, 1) := by decide +kernel
theorem dX12_count_66 : decode cX12_count 66 = .ok (.if_icmp .ne 10, 3) := by decide +kernel
theorem dX12_count_69 : decode cX12_count 69 = .ok (.aload_n 0, 1) := by decide +kernel
theorem dX12_count_70 : decode cX12_count 70 = .ok (.getfield 464, 3) := by decide +kernel
theorem dX12_count_73 : decode cX12_count 73 = .ok (.goto 7, 3) := by decide +kernel
theorem dX12_count_76 : decode cX12_count 76 = .ok (.aload_n 0, 1) := by decide +kernel
theorem dX12_count_77 : decode cX12_count 77 = .ok (.getfield 467, 3) := by decide +kernel
theorem dX12_count_80 : decode cX12_count 80 = .ok (.ireturn, 1) := by decide +kernel
theorem dX12_one_0 : decode cX12_one 0 = .ok (.iload_n 0, 1) := by decide +kernel
theorem dX12_one_1 : decode cX12_one 1 = .ok (.ifCond .eq 7, 3) := by decide +kernel
theorem dX12_one_4 : decode cX12_one 4 = .ok (.iconst 1, 1) := by decide +kernel
theorem dX12_one_5 : decode cX12_one 5 = .ok (.goto 4, 3) := by decide +kernel
theorem dX12_one_8 : decode cX12_one 8 = .ok (.iconst 0, 1) := by decide +kernel
theorem dX12_one_9 : decode cX12_one 9 = .ok (.ireturn, 1) := by decide +kernel
theorem dX12_noRun_0 : decode cX12_noRun 0 = .ok (.aload_n 0, 1) := by decide +kernel
theorem dX12_noRun_1 : decode cX12_noRun 1 = .ok (.aload_n 0, 1) := by decide +kernel
theorem dX12_noRun_2 : decode cX12_noRun 2 = .ok (.getfield 569, 3) := by decide +kernel
theorem dX12_noRun_5 : decode cX12_noRun 5 = .ok (.ifCond .ne 7, 3) := by decide +kernel
theorem dX12_noRun_8 : decode cX12_noRun 8 = .ok (.iconst 1, 1) := by decide +kernel
theorem dX12_noRun_9 : decode cX12_noRun 9 = .ok (.goto 4, 3) := by decide +kernel
theorem dX12_noRun_12 : decode cX12_noRun 12 = .ok (.iconst 0, 1) := by decide +kernel
theorem dX12_noRun_13 : decode cX12_noRun 13 = .ok (.iconst 1, 1) := by decide +kernel
theorem dX12_noRun_14 : decode cX12_noRun 14 = .ok (.invokevirtual 558, 3) := by decide +kernel
theorem dX12_noRun_17 : decode cX12_noRun 17 = .ok (.ireturn, 1) := by decide +kernel
theorem dX12_begin_0 : decode cX12_begin 0 = .ok (.aload_n 0, 1) := by decide +kernel
theorem dX12_begin_1 : decode cX12_begin 1 = .ok (.iconst 0, 1) := by decide +kernel
theorem dX12_begin_2 : decode cX12_begin 2 = .ok (.putfield 316, 3) := by decide +kernel
theorem dX12_begin_5 : decode cX12_begin 5 = .ok (.aload_n 0, 1) := by decide +kernel
theorem dX12_begin_6 : decode cX12_begin 6 = .ok (.aload_n 0, 1) := by decide +kernel
theorem dX12_begin_7 : decode cX12_begin 7 = .ok (.getfield 565, 3) := by decide +kernel
theorem dX12_begin_10 : decode cX12_begin 10 = .ok (.ifCond .ne 7, 3) := by decide +kernel
theorem dX12_begin_13 : decode cX12_begin 13 = .ok (.iconst 1, 1) := by decide +kernel
theorem dX12_begin_14 : decode cX12_begin 14 = .ok (.goto 4, 3) := by decide +kernel
theorem dX12_begin_17 : decode cX12_begin 17 = .ok (.iconst 0, 1) := by decide +kernel
theorem dX12_begin_18 : decode cX12_begin 18 = .ok (.iconst 1, 1) := by decide +kernel
theorem dX12_begin_19 : decode cX12_begin 19 = .ok (.invokevirtual 558, 3) := by decide +kernel
theorem dX12_begin_22 : decode cX12_begin 22 = .ok (.ifCond .ne 25, 3) := by decide +kernel
theorem dX12_begin_25 : decode cX12_begin 25 = .ok (.aload_n 0, 1) := by decide +kernel
theorem dX12_begin_26 : decode cX12_begin 26 = .ok (.iload_n 1, 1) := by decide +kernel
theorem dX12_begin_27 : decode cX12_begin 27 = .ok (.iconst 0, 1) := by decide +kernel
theorem dX12_begin_28 : decode cX12_begin 28 = .ok (.iconst 1, 1) := by decide +kernel
theorem dX12_begin_29 : decode cX12_begin 29 = .ok (.invokestatic 322, 3) := by decide +kernel
theorem dX12_begin_32 : decode cX12_begin 32 = .ok (.ifCond .ne 7, 3) := by decide +kernel
theorem dX12_begin_35 : decode cX12_begin 35 = .ok (.iconst 1, 1) := by decide +kernel
theorem dX12_begin_36 : decode cX12_begin 36 = .ok (.goto 4, 3) := by decide +kernel
theorem dX12_begin_39 : decode cX12_begin 39 = .ok (.iconst 0, 1) := by decide +kernel
theorem dX12_begin_40 : decode cX12_begin 40 = .ok (.iconst 2, 1) := by decide +kernel
theorem dX12_begin_41 : decode cX12_begin 41 = .ok (.invokevirtual 558, 3) := by decide +kernel
theorem dX12_begin_44 : decode cX12_begin 44 = .ok (.ifCond .eq 5, 3) := by decide +kernel
theorem dX12_begin_47 : decode cX12_begin 47 = .ok (.iconst 0, 1) := by decide +kernel
theorem dX12_begin_48 : decode cX12_begin 48 = .ok (.ireturn, 1) := by decide +kernel
theorem dX12_begin_49 : decode cX12_begin 49 = .ok (.aload_n 0, 1) := by decide +kernel
theorem dX12_begin_50 : decode cX12_begin 50 = .ok (.iload_n 1, 1) := by decide +kernel
theorem dX12_begin_51 : decode cX12_begin 51 = .ok (.invokevirtual 677, 3) := by decide +kernel
theorem dX12_begin_54 : decode cX12_begin 54 = .ok (.aload_n 0, 1) := by decide +kernel
theorem dX12_begin_55 : decode cX12_begin 55 = .ok (.getfield 611, 3) := by decide +kernel
theorem dX12_begin_58 : decode cX12_begin 58 = .ok (.ireturn, 1) := by decide +kernel
theorem dX12_choices_0 : decode cX12_choices 0 = .ok (.aload_n 0, 1) := by decide +kernel
theorem dX12_choices_1 : decode cX12_choices 1 = .ok (.iconst 0, 1) := by decide +kernel
theorem dX12_choices_2 : decode cX12_choices 2 = .ok (.putfield 316, 3) := by decide +kernel
theorem dX12_choices_5 : decode cX12_choices 5 = .ok (.aload_n 0, 1) := by decide +kernel
theorem dX12_choices_6 : decode cX12_choices 6 = .ok (.invokevirtual 680, 3) := by decide +kernel
theorem dX12_choices_9 : decode cX12_choices 9 = .ok (.ifCond .eq 7, 3) := by decide +kernel
theorem dX12_choices_12 : decode cX12_choices 12 = .ok (.iconst 0, 1) := by decide +kernel
theorem dX12_choices_13 : decode cX12_choices 13 = .ok (.goto 7, 3) := by decide +kernel
theorem dX12_choices_16 : decode cX12_choices 16 = .ok (.aload_n 0, 1) := by decide +kernel
theorem dX12_choices_17 : decode cX12_choices 17 = .ok (.getfield 611, 3) := by decide +kernel
theorem dX12_choices_20 : decode cX12_choices 20 = .ok (.ireturn, 1) := by decide +kernel
theorem dX12_choice_0 : decode cX12_choice 0 = .ok (.aload_n 0, 1) := by decide +kernel
theorem dX12_choice_1 : decode cX12_choice 1 = .ok (.iconst 0, 1) := by decide +kernel
theorem dX12_choice_2 : decode cX12_choice 2 = .ok (.putfield 316, 3) := by decide +kernel
theorem dX12_choice_5 : decode cX12_choice 5 = .ok (.aload_n 0, 1) := by decide +kernel
theorem dX12_choice_6 : decode cX12_choice 6 = .ok (.invokevirtual 680, 3) := by decide +kernel
theorem dX12_choice_9 : decode cX12_choice 9 = .ok (.ifCond .ne 39, 3) := by decide +kernel
theorem dX12_choice_12 : decode cX12_choice 12 = .ok (.aload_n 0, 1) := by decide +kernel
theorem dX12_choice_13 : decode cX12_choice 13 = .ok (.iload_n 1, 1) := by decide +kernel
theorem dX12_choice_14 : decode cX12_choice 14 = .ok (.iconst 0, 1) := by decide +kernel
theorem dX12_choice_15 : decode cX12_choice 15 = .ok (.aload_n 0, 1) := by decide +kernel
theorem dX12_choice_16 : decode cX12_choice 16 = .ok (.getfield 611, 3) := by decide +kernel
theorem dX12_choice_19 : decode cX12_choice 19 = .ok (.iconst 1, 1) := by decide +kernel
theorem dX12_choice_20 : decode cX12_choice 20 = .ok (.isub, 1) := by decide +kernel
theorem dX12_choice_21 : decode cX12_choice 21 = .ok (.invokestatic 322, 3) := by decide +kernel
theorem dX12_choice_24 : decode cX12_choice 24 = .ok (.ifCond .eq 12, 3) := by decide +kernel
theorem dX12_choice_27 : decode cX12_choice 27 = .ok (.iload_n 2, 1) := by decide +kernel
theorem dX12_choice_28 : decode cX12_choice 28 = .ok (.iconst 0, 1) := by decide +kernel
theorem dX12_choice_29 : decode cX12_choice 29 = .ok (.iconst 4, 1) := by decide +kernel
theorem dX12_choice_30 : decode cX12_choice 30 = .ok (.invokestatic 322, 3) := by decide +kernel
theorem dX12_choice_33 : decode cX12_choice 33 = .ok (.ifCond .ne 7, 3) := by decide +kernel
theorem dX12_choice_36 : decode cX12_choice 36 = .ok (.iconst 1, 1) := by decide +kernel
theorem dX12_choice_37 : decode cX12_choice 37 = .ok (.goto 4, 3) := by decide +kernel
theorem dX12_choice_40 : decode cX12_choice 40 = .ok (.iconst 0, 1) := by decide +kernel
theorem dX12_choice_41 : decode cX12_choice 41 = .ok (.iconst 2, 1) := by decide +kernel
theorem dX12_choice_42 : decode cX12_choice 42 = .ok (.invokevirtual 558, 3) := by decide +kernel
theorem dX12_choice_45 : decode cX12_choice 45 = .ok (.ifCond .eq 5, 3) := by decide +kernel
theorem dX12_choice_48 : decode cX12_choice 48 = .ok (.iconst 0, 1) := by decide +kernel
theorem dX12_choice_49 : decode cX12_choice 49 = .ok (.ireturn, 1) := by decide +kernel
theorem dX12_choice_50 : decode cX12_choice 50 = .ok (.aload_n 0, 1) := by decide +kernel
theorem dX12_choice_51 : decode cX12_choice 51 = .ok (.getfield 184, 3) := by decide +kernel
theorem dX12_choice_54 : decode cX12_choice 54 = .ok (.iload_n 1, 1) := by decide +kernel
theorem dX12_choice_55 : decode cX12_choice 55 = .ok (.iaload, 1) := by decide +kernel
theorem dX12_choice_56 : decode cX12_choice 56 = .ok (.istore_n 3, 1) := by decide +kernel
theorem dX12_choice_57 : decode cX12_choice 57 = .ok (.aload_n 0, 1) := by decide +kernel
theorem dX12_choice_58 : decode cX12_choice 58 = .ok (.getfield 187, 3) := by decide +kernel
theorem dX12_choice_61 : decode cX12_choice 61 = .ok (.iload_n 1, 1) := by decide +kernel
theorem dX12_choice_62 : decode cX12_choice 62 = .ok (.iaload, 1) := by decide +kernel
theorem dX12_choice_63 : decode cX12_choice 63 = .ok (.istore 4, 2) := by decide +kernel
theorem dX12_choice_65 : decode cX12_choice 65 = .ok (.iload_n 2, 1) := by decide +kernel
theorem dX12_choice_66 : decode cX12_choice 66 = .ok (.ifCond .ne 5, 3) := by decide +kernel
theorem dX12_choice_69 : decode cX12_choice 69 = .ok (.iload_n 3, 1) := by decide +kernel
theorem dX12_choice_70 : decode cX12_choice 70 = .ok (.ireturn, 1) := by decide +kernel
theorem dX12_choice_71 : decode cX12_choice 71 = .ok (.iload 4, 2) := by decide +kernel
theorem dX12_choice_73 : decode cX12_choice 73 = .ok (.iconst (-1), 1) := by decide +kernel
theorem dX12_choice_74 : decode cX12_choice 74 = .ok (.if_icmp .eq 39, 3) := by decide +kernel
theorem dX12_choice_77 : decode cX12_choice 77 = .ok (.iload_n 2, 1) := by decide +kernel
theorem dX12_choice_78 : decode cX12_choice 78 = .ok (.iconst 1, 1) := by decide +kernel
theorem dX12_choice_79 : decode cX12_choice 79 = .ok (.if_icmp .eq 8, 3) := by decide +kernel
theorem dX12_choice_82 : decode cX12_choice 82 = .ok (.iload_n 2, 1) := by decide +kernel
theorem dX12_choice_83 : decode cX12_choice 83 = .ok (.iconst 2, 1) := by decide +kernel
theorem dX12_choice_84 : decode cX12_choice 84 = .ok (.if_icmp .ne 7, 3) := by decide +kernel
theorem dX12_choice_87 : decode cX12_choice 87 = .ok (.iconst 1, 1) := by decide +kernel
theorem dX12_choice_88 : decode cX12_choice 88 = .ok (.goto 24, 3) := by decide +kernel
theorem dX12_choice_91 : decode cX12_choice 91 = .ok (.iload_n 2, 1) := by decide +kernel
theorem dX12_choice_92 : decode cX12_choice 92 = .ok (.iconst 3, 1) := by decide +kernel
theorem dX12_choice_93 : decode cX12_choice 93 = .ok (.if_icmp .ne 18, 3) := by decide +kernel
theorem dX12_choice_96 : decode cX12_choice 96 = .ok (.aload_n 0, 1) := by decide +kernel
theorem dX12_choice_97 : decode cX12_choice 97 = .ok (.getfield 175, 3) := by decide +kernel
theorem dX12_choice_100 : decode cX12_choice 100 = .ok (.bipush 10, 2) := by decide +kernel
theorem dX12_choice_102 : decode cX12_choice 102 = .ok (.iload_n 3, 1) := by decide +kernel
theorem dX12_choice_103 : decode cX12_choice 103 = .ok (.imul, 1) := by decide +kernel
theorem dX12_choice_104 : decode cX12_choice 104 = .ok (.iload 4, 2) := by decide +kernel
theorem dX12_choice_106 : decode cX12_choice 106 = .ok (.iadd, 1) := by decide +kernel
theorem dX12_choice_107 : decode cX12_choice 107 = .ok (.iaload, 1) := by decide +kernel
theorem dX12_choice_108 : decode cX12_choice 108 = .ok (.goto 4, 3) := by decide +kernel
theorem dX12_choice_111 : decode cX12_choice 111 = .ok (.iconst (-1), 1) := by decide +kernel
theorem dX12_choice_112 : decode cX12_choice 112 = .ok (.ireturn, 1) := by decide +kernel
theorem dX12_choice_113 : decode cX12_choice 113 = .ok (.iload_n 2, 1) := by decide +kernel
theorem dX12_choice_114 : decode cX12_choice 114 = .ok (.iconst 3, 1) := by decide +kernel
theorem dX12_choice_115 : decode cX12_choice 115 = .ok (.if_icmp .ne 13, 3) := by decide +kernel
theorem dX12_choice_118 : decode cX12_choice 118 = .ok (.aload_n 0, 1) := by decide +kernel
theorem dX12_choice_119 : decode cX12_choice 119 = .ok (.iload_n 3, 1) := by decide +kernel
theorem dX12_choice_120 : decode cX12_choice 120 = .ok (.invokevirtual 632, 3) := by decide +kernel
theorem dX12_choice_123 : decode cX12_choice 123 = .ok (.aload_n 0, 1) := by decide +kernel
theorem dX12_choice_124 : decode cX12_choice 124 = .ok (.getfield 623, 3) := by decide +kernel
theorem dX12_choice_127 : decode cX12_choice 127 = .ok (.ireturn, 1) := by decide +kernel
theorem dX12_choice_128 : decode cX12_choice 128 = .ok (.iload_n 2, 1) := by decide +kernel
theorem dX12_choice_129 : decode cX12_choice 129 = .ok (.iconst 1, 1) := by decide +kernel
theorem dX12_choice_130 : decode cX12_choice 130 = .ok (.if_icmp .ne 7, 3) := by decide +kernel
theorem dX12_choice_133 : decode cX12_choice 133 = .ok (.iconst 0, 1) := by decide +kernel
theorem dX12_choice_134 : decode cX12_choice 134 = .ok (.goto 22, 3) := by decide +kernel
theorem dX12_choice_137 : decode cX12_choice 137 = .ok (.iload_n 2, 1) := by decide +kernel
theorem dX12_choice_138 : decode cX12_choice 138 = .ok (.iconst 2, 1) := by decide +kernel
theorem dX12_choice_139 : decode cX12_choice 139 = .ok (.if_icmp .ne 11, 3) := by decide +kernel
theorem dX12_choice_142 : decode cX12_choice 142 = .ok (.aload_n 0, 1) := by decide +kernel
theorem dX12_choice_143 : decode cX12_choice 143 = .ok (.iload_n 3, 1) := by decide +kernel
theorem dX12_choice_144 : decode cX12_choice 144 = .ok (.invokevirtual 602, 3) := by decide +kernel
theorem dX12_choice_147 : decode cX12_choice 147 = .ok (.goto 9, 3) := by decide +kernel
theorem dX12_choice_150 : decode cX12_choice 150 = .ok (.aload_n 0, 1) := by decide +kernel
theorem dX12_choice_151 : decode cX12_choice 151 = .ok (.getfield 190, 3) := by decide +kernel
theorem dX12_choice_154 : decode cX12_choice 154 = .ok (.iload_n 1, 1) := by decide +kernel
theorem dX12_choice_155 : decode cX12_choice 155 = .ok (.iaload, 1) := by decide +kernel
theorem dX12_choice_156 : decode cX12_choice 156 = .ok (.ireturn, 1) := by decide +kernel
theorem dX12_go_0 : decode cX12_go 0 = .ok (.aload_n 0, 1) := by decide +kernel
theorem dX12_go_1 : decode cX12_go 1 = .ok (.iconst 0, 1) := by decide +kernel
theorem dX12_go_2 : decode cX12_go 2 = .ok (.putfield 316, 3) := by decide +kernel
theorem dX12_go_5 : decode cX12_go 5 = .ok (.aload_n 0, 1) := by decide +kernel
theorem dX12_go_6 : decode cX12_go 6 = .ok (.invokevirtual 680, 3) := by decide +kernel
theorem dX12_go_9 : decode cX12_go 9 = .ok (.ifCond .ne 53, 3) := by decide +kernel
theorem dX12_go_12 : decode cX12_go 12 = .ok (.aload_n 0, 1) := by decide +kernel
theorem dX12_go_13 : decode cX12_go 13 = .ok (.aload_n 0, 1) := by decide +kernel
theorem dX12_go_14 : decode cX12_go 14 = .ok (.getfield 644, 3) := by decide +kernel
theorem dX12_go_17 : decode cX12_go 17 = .ok (.sipush 400, 3) := by decide +kernel
theorem dX12_go_20 : decode cX12_go 20 = .ok (.if_icmp .ne 7, 3) := by decide +kernel
theorem dX12_go_23 : decode cX12_go 23 = .ok (.iconst 1, 1) := by decide +kernel
theorem dX12_go_24 : decode cX12_go 24 = .ok (.goto 4, 3) := by decide +kernel
theorem dX12_go_27 : decode cX12_go 27 = .ok (.iconst 0, 1) := by decide +kernel
theorem dX12_go_28 : decode cX12_go 28 = .ok (.iconst 1, 1) := by decide +kernel
theorem dX12_go_29 : decode cX12_go 29 = .ok (.invokevirtual 558, 3) := by decide +kernel
theorem dX12_go_32 : decode cX12_go 32 = .ok (.ifCond .ne 30, 3) := by decide +kernel
theorem dX12_go_35 : decode cX12_go 35 = .ok (.aload_n 0, 1) := by decide +kernel
theorem dX12_go_36 : decode cX12_go 36 = .ok (.iload_n 1, 1) := by decide +kernel
theorem dX12_go_37 : decode cX12_go 37 = .ok (.iconst 0, 1) := by decide +kernel
theorem dX12_go_38 : decode cX12_go 38 = .ok (.aload_n 0, 1) := by decide +kernel
theorem dX12_go_39 : decode cX12_go 39 = .ok (.getfield 611, 3) := by decide +kernel
theorem dX12_go_42 : decode cX12_go 42 = .ok (.iconst 1, 1) := by decide +kernel
theorem dX12_go_43 : decode cX12_go 43 = .ok (.isub, 1) := by decide +kernel
theorem dX12_go_44 : decode cX12_go 44 = .ok (.invokestatic 322, 3) := by decide +kernel
theorem dX12_go_47 : decode cX12_go 47 = .ok (.ifCond .ne 7, 3) := by decide +kernel
theorem dX12_go_50 : decode cX12_go 50 = .ok (.iconst 1, 1) := by decide +kernel
theorem dX12_go_51 : decode cX12_go 51 = .ok (.goto 4, 3) := by decide +kernel
theorem dX12_go_54 : decode cX12_go 54 = .ok (.iconst 0, 1) := by decide +kernel
theorem dX12_go_55 : decode cX12_go 55 = .ok (.iconst 2, 1) := by decide +kernel
theorem dX12_go_56 : decode cX12_go 56 = .ok (.invokevirtual 558, 3) := by decide +kernel
theorem dX12_go_59 : decode cX12_go 59 = .ok (.ifCond .eq 5, 3) := by decide +kernel
theorem dX12_go_62 : decode cX12_go 62 = .ok (.iconst 0, 1) := by decide +kernel
theorem dX12_go_63 : decode cX12_go 63 = .ok (.ireturn, 1) := by decide +kernel
theorem dX12_go_64 : decode cX12_go 64 = .ok (.aload_n 0, 1) := by decide +kernel
theorem dX12_go_65 : decode cX12_go 65 = .ok (.iload_n 1, 1) := by decide +kernel
theorem dX12_go_66 : decode cX12_go 66 = .ok (.invokevirtual 683, 3) := by decide +kernel
theorem dX12_go_69 : decode cX12_go 69 = .ok (.aload_n 0, 1) := by decide +kernel
theorem dX12_go_70 : decode cX12_go 70 = .ok (.getfield 611, 3) := by decide +kernel
theorem dX12_go_73 : decode cX12_go 73 = .ok (.ireturn, 1) := by decide +kernel
theorem dX12_draw_0 : decode cX12_draw 0 = .ok (.aload_n 0, 1) := by decide +kernel
theorem dX12_draw_1 : decode cX12_draw 1 = .ok (.iconst 0, 1) := by decide +kernel
theorem dX12_draw_2 : decode cX12_draw 2 = .ok (.putfield 316, 3) := by decide +kernel
theorem dX12_draw_5 : decode cX12_draw 5 = .ok (.aload_n 0, 1) := by decide +kernel
theorem dX12_draw_6 : decode cX12_draw 6 = .ok (.invokevirtual 680, 3) := by decide +kernel
theorem dX12_draw_9 : decode cX12_draw 9 = .ok (.ifCond .ne 27, 3) := by decide +kernel
theorem dX12_draw_12 : decode cX12_draw 12 = .ok (.aload_n 0, 1) := by decide +kernel
theorem dX12_draw_13 : decode cX12_draw 13 = .ok (.iload_n 2, 1) := by decide +kernel
theorem dX12_draw_14 : decode cX12_draw 14 = .ok (.iconst 0, 1) := by decide +kernel
theorem dX12_draw_15 : decode cX12_draw 15 = .ok (.sipush 400, 3) := by decide +kernel
theorem dX12_draw_18 : decode cX12_draw 18 = .ok (.invokestatic 322, 3) := by decide +kernel
theorem dX12_draw_21 : decode cX12_draw 21 = .ok (.ifCond .ne 7, 3) := by decide +kernel
theorem dX12_draw_24 : decode cX12_draw 24 = .ok (.iconst 1, 1) := by decide +kernel
theorem dX12_draw_25 : decode cX12_draw 25 = .ok (.goto 4, 3) := by decide +kernel
theorem dX12_draw_28 : decode cX12_draw 28 = .ok (.iconst 0, 1) := by decide +kernel
theorem dX12_draw_29 : decode cX12_draw 29 = .ok (.iconst 2, 1) := by decide +kernel
theorem dX12_draw_30 : decode cX12_draw 30 = .ok (.invokevirtual 558, 3) := by decide +kernel
theorem dX12_draw_33 : decode cX12_draw 33 = .ok (.ifCond .eq 5, 3) := by decide +kernel
theorem dX12_draw_36 : decode cX12_draw 36 = .ok (.iconst 0, 1) := by decide +kernel
theorem dX12_draw_37 : decode cX12_draw 37 = .ok (.ireturn, 1) := by decide +kernel
theorem dX12_draw_38 : decode cX12_draw 38 = .ok (.iload_n 1, 1) := by decide +kernel
theorem dX12_draw_39 : decode cX12_draw 39 = .ok (.istore_n 3, 1) := by decide +kernel
theorem dX12_draw_40 : decode cX12_draw 40 = .ok (.iconst 0, 1) := by decide +kernel
theorem dX12_draw_41 : decode cX12_draw 41 = .ok (.istore 4, 2) := by decide +kernel
theorem dX12_draw_43 : decode cX12_draw 43 = .ok (.iload 4, 2) := by decide +kernel
theorem dX12_draw_45 : decode cX12_draw 45 = .ok (.iload_n 2, 1) := by decide +kernel
theorem dX12_draw_46 : decode cX12_draw 46 = .ok (.if_icmp .ge 53, 3) := by decide +kernel
theorem dX12_draw_49 : decode cX12_draw 49 = .ok (.aload_n 0, 1) := by decide +kernel
theorem dX12_draw_50 : decode cX12_draw 50 = .ok (.getfield 611, 3) := by decide +kernel
theorem dX12_draw_53 : decode cX12_draw 53 = .ok (.ifCond .le 46, 3) := by decide +kernel
theorem dX12_draw_56 : decode cX12_draw 56 = .ok (.aload_n 0, 1) := by decide +kernel
theorem dX12_draw_57 : decode cX12_draw 57 = .ok (.getfield 644, 3) := by decide +kernel
theorem dX12_draw_60 : decode cX12_draw 60 = .ok (.sipush 400, 3) := by decide +kernel
theorem dX12_draw_63 : decode cX12_draw 63 = .ok (.if_icmp .ge 36, 3) := by decide +kernel
theorem dX12_draw_66 : decode cX12_draw 66 = .ok (.iload_n 3, 1) := by decide +kernel
theorem dX12_draw_67 : decode cX12_draw 67 = .ok (.ldc_w 686, 3) := by decide +kernel
theorem dX12_draw_70 : decode cX12_draw 70 = .ok (.imul, 1) := by decide +kernel
theorem dX12_draw_71 : decode cX12_draw 71 = .ok (.sipush 12345, 3) := by decide +kernel
theorem dX12_draw_74 : decode cX12_draw 74 = .ok (.iadd, 1) := by decide +kernel
theorem dX12_draw_75 : decode cX12_draw 75 = .ok (.istore_n 3, 1) := by decide +kernel
theorem dX12_draw_76 : decode cX12_draw 76 = .ok (.aload_n 0, 1) := by decide +kernel
theorem dX12_draw_77 : decode cX12_draw 77 = .ok (.iload_n 3, 1) := by decide +kernel
theorem dX12_draw_78 : decode cX12_draw 78 = .ok (.bipush 16, 2) := by decide +kernel
theorem dX12_draw_80 : decode cX12_draw 80 = .ok (.ishr, 1) := by decide +kernel
theorem dX12_draw_81 : decode cX12_draw 81 = .ok (.sipush 32767, 3) := by decide +kernel
theorem dX12_draw_84 : decode cX12_draw 84 = .ok (.iand, 1) := by decide +kernel
theorem dX12_draw_85 : decode cX12_draw 85 = .ok (.aload_n 0, 1) := by decide +kernel
theorem dX12_draw_86 : decode cX12_draw 86 = .ok (.getfield 611, 3) := by decide +kernel
theorem dX12_draw_89 : decode cX12_draw 89 = .ok (.irem, 1) := by decide +kernel
theorem dX12_draw_90 : decode cX12_draw 90 = .ok (.invokevirtual 683, 3) := by decide +kernel
theorem dX12_draw_93 : decode cX12_draw 93 = .ok (.iinc 4 1, 3) := by decide +kernel
theorem dX12_draw_96 : decode cX12_draw 96 = .ok (.goto (-53), 3) := by decide +kernel
theorem dX12_draw_99 : decode cX12_draw 99 = .ok (.iload 4, 2) := by decide +kernel
theorem dX12_draw_101 : decode cX12_draw 101 = .ok (.ireturn, 1) := by decide +kernel
theorem dX12_again_0 : decode cX12_again 0 = .ok (.aload_n 0, 1) := by decide +kernel
theorem dX12_again_1 : decode cX12_again 1 = .ok (.iconst 0, 1) := by decide +kernel
theorem dX12_again_2 : decode cX12_again 2 = .ok (.putfield 316, 3) := by decide +kernel
theorem dX12_again_5 : decode cX12_again 5 = .ok (.aload_n 0, 1) := by decide +kernel
theorem dX12_again_6 : decode cX12_again 6 = .ok (.invokevirtual 680, 3) := by decide +kernel
theorem dX12_again_9 : decode cX12_again 9 = .ok (.ifCond .ne 28, 3) := by decide +kernel
theorem dX12_again_12 : decode cX12_again 12 = .ok (.aload_n 0, 1) := by decide +kernel
theorem dX12_again_13 : decode cX12_again 13 = .ok (.iload_n 1, 1) := by decide +kernel
theorem dX12_again_14 : decode cX12_again 14 = .ok (.iconst 0, 1) := by decide +kernel
theorem dX12_again_15 : decode cX12_again 15 = .ok (.aload_n 0, 1) := by decide +kernel
theorem dX12_again_16 : decode cX12_again 16 = .ok (.getfield 644, 3) := by decide +kernel
theorem dX12_again_19 : decode cX12_again 19 = .ok (.invokestatic 322, 3) := by decide +kernel
theorem dX12_again_22 : decode cX12_again 22 = .ok (.ifCond .ne 7, 3) := by decide +kernel
theorem dX12_again_25 : decode cX12_again 25 = .ok (.iconst 1, 1) := by decide +kernel
theorem dX12_again_26 : decode cX12_again 26 = .ok (.goto 4, 3) := by decide +kernel
theorem dX12_again_29 : decode cX12_again 29 = .ok (.iconst 0, 1) := by decide +kernel
theorem dX12_again_30 : decode cX12_again 30 = .ok (.iconst 2, 1) := by decide +kernel
theorem dX12_again_31 : decode cX12_again 31 = .ok (.invokevirtual 558, 3) := by decide +kernel
theorem dX12_again_34 : decode cX12_again 34 = .ok (.ifCond .eq 5, 3) := by decide +kernel
theorem dX12_again_37 : decode cX12_again 37 = .ok (.iconst 0, 1) := by decide +kernel
theorem dX12_again_38 : decode cX12_again 38 = .ok (.ireturn, 1) := by decide +kernel
theorem dX12_again_39 : decode cX12_again 39 = .ok (.aload_n 0, 1) := by decide +kernel
theorem dX12_again_40 : decode cX12_again 40 = .ok (.aload_n 0, 1) := by decide +kernel
theorem dX12_again_41 : decode cX12_again 41 = .ok (.getfield 608, 3) := by decide +kernel
theorem dX12_again_44 : decode cX12_again 44 = .ok (.invokevirtual 677, 3) := by decide +kernel
theorem dX12_again_47 : decode cX12_again 47 = .ok (.iconst 0, 1) := by decide +kernel
theorem dX12_again_48 : decode cX12_again 48 = .ok (.istore_n 2, 1) := by decide +kernel
theorem dX12_again_49 : decode cX12_again 49 = .ok (.iload_n 2, 1) := by decide +kernel
theorem dX12_again_50 : decode cX12_again 50 = .ok (.iload_n 1, 1) := by decide +kernel
theorem dX12_again_51 : decode cX12_again 51 = .ok (.if_icmp .ge 19, 3) := by decide +kernel
theorem dX12_again_54 : decode cX12_again 54 = .ok (.aload_n 0, 1) := by decide +kernel
theorem dX12_again_55 : decode cX12_again 55 = .ok (.aload_n 0, 1) := by decide +kernel
theorem dX12_again_56 : decode cX12_again 56 = .ok (.getfield 193, 3) := by decide +kernel
theorem dX12_again_59 : decode cX12_again 59 = .ok (.iload_n 2, 1) := by decide +kernel
theorem dX12_again_60 : decode cX12_again 60 = .ok (.iaload, 1) := by decide +kernel
theorem dX12_again_61 : decode cX12_again 61 = .ok (.invokevirtual 683, 3) := by decide +kernel
theorem dX12_again_64 : decode cX12_again 64 = .ok (.iinc 2 1, 3) := by decide +kernel
theorem dX12_again_67 : decode cX12_again 67 = .ok (.goto (-18), 3) := by decide +kernel
theorem dX12_again_70 : decode cX12_again 70 = .ok (.aload_n 0, 1) := by decide +kernel
theorem dX12_again_71 : decode cX12_again 71 = .ok (.getfield 611, 3) := by decide +kernel
theorem dX12_again_74 : decode cX12_again 74 = .ok (.ireturn, 1) := by decide +kernel
theorem dX12_run_0 : decode cX12_run 0 = .ok (.aload_n 0, 1) := by decide +kernel
theorem dX12_run_1 : decode cX12_run 1 = .ok (.iconst 0, 1) := by decide +kernel
theorem dX12_run_2 : decode cX12_run 2 = .ok (.putfield 316, 3) := by decide +kernel
theorem dX12_run_5 : decode cX12_run 5 = .ok (.aload_n 0, 1) := by decide +kernel
theorem dX12_run_6 : decode cX12_run 6 = .ok (.invokevirtual 680, 3) := by decide +kernel
theorem dX12_run_9 : decode cX12_run 9 = .ok (.ifCond .ne 26, 3) := by decide +kernel
theorem dX12_run_12 : decode cX12_run 12 = .ok (.aload_n 0, 1) := by decide +kernel
theorem dX12_run_13 : decode cX12_run 13 = .ok (.iload_n 1, 1) := by decide +kernel
theorem dX12_run_14 : decode cX12_run 14 = .ok (.iconst 0, 1) := by decide +kernel
theorem dX12_run_15 : decode cX12_run 15 = .ok (.bipush 7, 2) := by decide +kernel
theorem dX12_run_17 : decode cX12_run 17 = .ok (.invokestatic 322, 3) := by decide +kernel
theorem dX12_run_20 : decode cX12_run 20 = .ok (.ifCond .ne 7, 3) := by decide +kernel
theorem dX12_run_23 : decode cX12_run 23 = .ok (.iconst 1, 1) := by decide +kernel
theorem dX12_run_24 : decode cX12_run 24 = .ok (.goto 4, 3) := by decide +kernel
theorem dX12_run_27 : decode cX12_run 27 = .ok (.iconst 0, 1) := by decide +kernel
theorem dX12_run_28 : decode cX12_run 28 = .ok (.iconst 2, 1) := by decide +kernel
theorem dX12_run_29 : decode cX12_run 29 = .ok (.invokevirtual 558, 3) := by decide +kernel
theorem dX12_run_32 : decode cX12_run 32 = .ok (.ifCond .eq 5, 3) := by decide +kernel
theorem dX12_run_35 : decode cX12_run 35 = .ok (.iconst 0, 1) := by decide +kernel
theorem dX12_run_36 : decode cX12_run 36 = .ok (.ireturn, 1) := by decide +kernel
theorem dX12_run_37 : decode cX12_run 37 = .ok (.iconst 0, 1) := by decide +kernel
theorem dX12_run_38 : decode cX12_run 38 = .ok (.istore_n 2, 1) := by decide +kernel
theorem dX12_run_39 : decode cX12_run 39 = .ok (.iload_n 1, 1) := by decide +kernel
theorem dX12_run_40 : decode cX12_run 40 = .ok (.tableswitch 178 0 6 #[44, 49, 54, 59, 75, 83, 129], 44) := by decide +kernel
theorem dX12_run_84 : decode cX12_run 84 = .ok (.aload_n 0, 1) := by decide +kernel
theorem dX12_run_85 : decode cX12_run 85 = .ok (.getfield 608, 3) := by decide +kernel
theorem dX12_run_88 : decode cX12_run 88 = .ok (.ireturn, 1) := by decide +kernel
theorem dX12_run_89 : decode cX12_run 89 = .ok (.aload_n 0, 1) := by decide +kernel
theorem dX12_run_90 : decode cX12_run 90 = .ok (.getfield 644, 3) := by decide +kernel
theorem dX12_run_93 : decode cX12_run 93 = .ok (.ireturn, 1) := by decide +kernel
theorem dX12_run_94 : decode cX12_run 94 = .ok (.aload_n 0, 1) := by decide +kernel
theorem dX12_run_95 : decode cX12_run 95 = .ok (.getfield 647, 3) := by decide +kernel
theorem dX12_run_98 : decode cX12_run 98 = .ok (.ireturn, 1) := by decide +kernel
theorem dX12_run_99 : decode cX12_run 99 = .ok (.aload_n 0, 1) := by decide +kernel
theorem dX12_run_100 : decode cX12_run 100 = .ok (.getfield 611, 3) := by decide +kernel
theorem dX12_run_103 : decode cX12_run 103 = .ok (.ifCond .ne 7, 3) := by decide +kernel
theorem dX12_run_106 : decode cX12_run 106 = .ok (.iconst 1, 1) := by decide +kernel
theorem dX12_run_107 : decode cX12_run 107 = .ok (.goto 4, 3) := by decide +kernel
theorem dX12_run_110 : decode cX12_run 110 = .ok (.iconst 0, 1) := by decide +kernel
theorem dX12_run_111 : decode cX12_run 111 = .ok (.invokestatic 587, 3) := by decide +kernel
theorem dX12_run_114 : decode cX12_run 114 = .ok (.ireturn, 1) := by decide +kernel
theorem dX12_run_115 : decode cX12_run 115 = .ok (.aload_n 0, 1) := by decide +kernel
theorem dX12_run_116 : decode cX12_run 116 = .ok (.invokevirtual 687, 3) := by decide +kernel
theorem dX12_run_119 : decode cX12_run 119 = .ok (.invokestatic 587, 3) := by decide +kernel
theorem dX12_run_122 : decode cX12_run 122 = .ok (.ireturn, 1) := by decide +kernel
theorem dX12_run_123 : decode cX12_run 123 = .ok (.iconst 0, 1) := by decide +kernel
theorem dX12_run_124 : decode cX12_run 124 = .ok (.istore_n 3, 1) := by decide +kernel
theorem dX12_run_125 : decode cX12_run 125 = .ok (.iload_n 3, 1) := by decide +kernel
theorem dX12_run_126 : decode cX12_run 126 = .ok (.aload_n 0, 1) := by decide +kernel
theorem dX12_run_127 : decode cX12_run 127 = .ok (.getfield 647, 3) := by decide +kernel
theorem dX12_run_130 : decode cX12_run 130 = .ok (.if_icmp .ge 37, 3) := by decide +kernel
theorem dX12_run_133 : decode cX12_run 133 = .ok (.iconst 0, 1) := by decide +kernel
theorem dX12_run_134 : decode cX12_run 134 = .ok (.istore 4, 2) := by decide +kernel
theorem dX12_run_136 : decode cX12_run 136 = .ok (.iload 4, 2) := by decide +kernel
theorem dX12_run_138 : decode cX12_run 138 = .ok (.iload_n 3, 1) := by decide +kernel
theorem dX12_run_139 : decode cX12_run 139 = .ok (.if_icmp .ge 22, 3) := by decide +kernel
theorem dX12_run_142 : decode cX12_run 142 = .ok (.iload_n 2, 1) := by decide +kernel
theorem dX12_run_143 : decode cX12_run 143 = .ok (.aload_n 0, 1) := by decide +kernel
theorem dX12_run_144 : decode cX12_run 144 = .ok (.iload 4, 2) := by decide +kernel
theorem dX12_run_146 : decode cX12_run 146 = .ok (.iload_n 3, 1) := by decide +kernel
theorem dX12_run_147 : decode cX12_run 147 = .ok (.invokevirtual 690, 3) := by decide +kernel
theorem dX12_run_150 : decode cX12_run 150 = .ok (.invokestatic 587, 3) := by decide +kernel
theorem dX12_run_153 : decode cX12_run 153 = .ok (.iadd, 1) := by decide +kernel
theorem dX12_run_154 : decode cX12_run 154 = .ok (.istore_n 2, 1) := by decide +kernel
theorem dX12_run_155 : decode cX12_run 155 = .ok (.iinc 4 1, 3) := by decide +kernel
theorem dX12_run_158 : decode cX12_run 158 = .ok (.goto (-22), 3) := by decide +kernel
theorem dX12_run_161 : decode cX12_run 161 = .ok (.iinc 3 1, 3) := by decide +kernel
theorem dX12_run_164 : decode cX12_run 164 = .ok (.goto (-39), 3) := by decide +kernel
theorem dX12_run_167 : decode cX12_run 167 = .ok (.iload_n 2, 1) := by decide +kernel
theorem dX12_run_168 : decode cX12_run 168 = .ok (.ireturn, 1) := by decide +kernel
theorem dX12_run_169 : decode cX12_run 169 = .ok (.iconst 0, 1) := by decide +kernel
theorem dX12_run_170 : decode cX12_run 170 = .ok (.istore_n 3, 1) := by decide +kernel
theorem dX12_run_171 : decode cX12_run 171 = .ok (.iload_n 3, 1) := by decide +kernel
theorem dX12_run_172 : decode cX12_run 172 = .ok (.aload_n 0, 1) := by decide +kernel
theorem dX12_run_173 : decode cX12_run 173 = .ok (.getfield 647, 3) := by decide +kernel
theorem dX12_run_176 : decode cX12_run 176 = .ok (.if_icmp .ge 40, 3) := by decide +kernel
theorem dX12_run_179 : decode cX12_run 179 = .ok (.iload_n 2, 1) := by decide +kernel
theorem dX12_run_180 : decode cX12_run 180 = .ok (.aload_n 0, 1) := by decide +kernel
theorem dX12_run_181 : decode cX12_run 181 = .ok (.getfield 199, 3) := by decide +kernel
theorem dX12_run_184 : decode cX12_run 184 = .ok (.iload_n 3, 1) := by decide +kernel
theorem dX12_run_185 : decode cX12_run 185 = .ok (.iaload, 1) := by decide +kernel
theorem dX12_run_186 : decode cX12_run 186 = .ok (.bipush 13, 2) := by decide +kernel
theorem dX12_run_188 : decode cX12_run 188 = .ok (.if_icmp .ne 16, 3) := by decide +kernel
theorem dX12_run_191 : decode cX12_run 191 = .ok (.aload_n 0, 1) := by decide +kernel
theorem dX12_run_192 : decode cX12_run 192 = .ok (.getfield 211, 3) := by decide +kernel
theorem dX12_run_195 : decode cX12_run 195 = .ok (.iload_n 3, 1) := by decide +kernel
theorem dX12_run_196 : decode cX12_run 196 = .ok (.baload, 1) := by decide +kernel
theorem dX12_run_197 : decode cX12_run 197 = .ok (.ifCond .ne 7, 3) := by decide +kernel
theorem dX12_run_200 : decode cX12_run 200 = .ok (.iconst 1, 1) := by decide +kernel
theorem dX12_run_201 : decode cX12_run 201 = .ok (.goto 4, 3) := by decide +kernel
theorem dX12_run_204 : decode cX12_run 204 = .ok (.iconst 0, 1) := by decide +kernel
theorem dX12_run_205 : decode cX12_run 205 = .ok (.invokestatic 587, 3) := by decide +kernel
theorem dX12_run_208 : decode cX12_run 208 = .ok (.iadd, 1) := by decide +kernel
theorem dX12_run_209 : decode cX12_run 209 = .ok (.istore_n 2, 1) := by decide +kernel
theorem dX12_run_210 : decode cX12_run 210 = .ok (.iinc 3 1, 3) := by decide +kernel
theorem dX12_run_213 : decode cX12_run 213 = .ok (.goto (-42), 3) := by decide +kernel
theorem dX12_run_216 : decode cX12_run 216 = .ok (.iload_n 2, 1) := by decide +kernel
theorem dX12_run_217 : decode cX12_run 217 = .ok (.ireturn, 1) := by decide +kernel
theorem dX12_run_218 : decode cX12_run 218 = .ok (.iconst 0, 1) := by decide +kernel
theorem dX12_run_219 : decode cX12_run 219 = .ok (.istore_n 3, 1) := by decide +kernel
theorem dX12_run_220 : decode cX12_run 220 = .ok (.iload_n 3, 1) := by decide +kernel
theorem dX12_run_221 : decode cX12_run 221 = .ok (.aload_n 0, 1) := by decide +kernel
theorem dX12_run_222 : decode cX12_run 222 = .ok (.getfield 461, 3) := by decide +kernel
theorem dX12_run_225 : decode cX12_run 225 = .ok (.if_icmp .ge 18, 3) := by decide +kernel
theorem dX12_run_228 : decode cX12_run 228 = .ok (.iload_n 2, 1) := by decide +kernel
theorem dX12_run_229 : decode cX12_run 229 = .ok (.aload_n 0, 1) := by decide +kernel
theorem dX12_run_230 : decode cX12_run 230 = .ok (.getfield 172, 3) := by decide +kernel
theorem dX12_run_233 : decode cX12_run 233 = .ok (.iload_n 3, 1) := by decide +kernel
theorem dX12_run_234 : decode cX12_run 234 = .ok (.iaload, 1) := by decide +kernel
theorem dX12_run_235 : decode cX12_run 235 = .ok (.iadd, 1) := by decide +kernel
theorem dX12_run_236 : decode cX12_run 236 = .ok (.istore_n 2, 1) := by decide +kernel
theorem dX12_run_237 : decode cX12_run 237 = .ok (.iinc 3 1, 3) := by decide +kernel
theorem dX12_run_240 : decode cX12_run 240 = .ok (.goto (-20), 3) := by decide +kernel
theorem dX12_run_243 : decode cX12_run 243 = .ok (.iload_n 2, 1) := by decide +kernel
theorem dX12_run_244 : decode cX12_run 244 = .ok (.ireturn, 1) := by decide +kernel
theorem dX12_cell_0 : decode cX12_cell 0 = .ok (.aload_n 0, 1) := by decide +kernel
theorem dX12_cell_1 : decode cX12_cell 1 = .ok (.iconst 0, 1) := by decide +kernel
theorem dX12_cell_2 : decode cX12_cell 2 = .ok (.putfield 316, 3) := by decide +kernel
theorem dX12_cell_5 : decode cX12_cell 5 = .ok (.aload_n 0, 1) := by decide +kernel
theorem dX12_cell_6 : decode cX12_cell 6 = .ok (.invokevirtual 680, 3) := by decide +kernel
theorem dX12_cell_9 : decode cX12_cell 9 = .ok (.ifCond .ne 30, 3) := by decide +kernel
theorem dX12_cell_12 : decode cX12_cell 12 = .ok (.aload_n 0, 1) := by decide +kernel
theorem dX12_cell_13 : decode cX12_cell 13 = .ok (.iload_n 1, 1) := by decide +kernel
theorem dX12_cell_14 : decode cX12_cell 14 = .ok (.iconst 0, 1) := by decide +kernel
theorem dX12_cell_15 : decode cX12_cell 15 = .ok (.aload_n 0, 1) := by decide +kernel
theorem dX12_cell_16 : decode cX12_cell 16 = .ok (.getfield 448, 3) := by decide +kernel
theorem dX12_cell_19 : decode cX12_cell 19 = .ok (.iconst 1, 1) := by decide +kernel
theorem dX12_cell_20 : decode cX12_cell 20 = .ok (.isub, 1) := by decide +kernel
theorem dX12_cell_21 : decode cX12_cell 21 = .ok (.invokestatic 322, 3) := by decide +kernel
theorem dX12_cell_24 : decode cX12_cell 24 = .ok (.ifCond .ne 7, 3) := by decide +kernel
theorem dX12_cell_27 : decode cX12_cell 27 = .ok (.iconst 1, 1) := by decide +kernel
theorem dX12_cell_28 : decode cX12_cell 28 = .ok (.goto 4, 3) := by decide +kernel
theorem dX12_cell_31 : decode cX12_cell 31 = .ok (.iconst 0, 1) := by decide +kernel
theorem dX12_cell_32 : decode cX12_cell 32 = .ok (.iconst 2, 1) := by decide +kernel
theorem dX12_cell_33 : decode cX12_cell 33 = .ok (.invokevirtual 558, 3) := by decide +kernel
theorem dX12_cell_36 : decode cX12_cell 36 = .ok (.ifCond .eq 7, 3) := by decide +kernel
theorem dX12_cell_39 : decode cX12_cell 39 = .ok (.iconst 0, 1) := by decide +kernel
theorem dX12_cell_40 : decode cX12_cell 40 = .ok (.goto 9, 3) := by decide +kernel
theorem dX12_cell_43 : decode cX12_cell 43 = .ok (.aload_n 0, 1) := by decide +kernel
theorem dX12_cell_44 : decode cX12_cell 44 = .ok (.getfield 142, 3) := by decide +kernel
theorem dX12_cell_47 : decode cX12_cell 47 = .ok (.iload_n 1, 1) := by decide +kernel
theorem dX12_cell_48 : decode cX12_cell 48 = .ok (.iaload, 1) := by decide +kernel
theorem dX12_cell_49 : decode cX12_cell 49 = .ok (.ireturn, 1) := by decide +kernel
theorem dX12_seen_0 : decode cX12_seen 0 = .ok (.aload_n 0, 1) := by decide +kernel
theorem dX12_seen_1 : decode cX12_seen 1 = .ok (.iconst 0, 1) := by decide +kernel
theorem dX12_seen_2 : decode cX12_seen 2 = .ok (.putfield 316, 3) := by decide +kernel
theorem dX12_seen_5 : decode cX12_seen 5 = .ok (.aload_n 0, 1) := by decide +kernel
theorem dX12_seen_6 : decode cX12_seen 6 = .ok (.invokevirtual 680, 3) := by decide +kernel
theorem dX12_seen_9 : decode cX12_seen 9 = .ok (.ifCond .ne 44, 3) := by decide +kernel
theorem dX12_seen_12 : decode cX12_seen 12 = .ok (.aload_n 0, 1) := by decide +kernel
theorem dX12_seen_13 : decode cX12_seen 13 = .ok (.iload_n 1, 1) := by decide +kernel
theorem dX12_seen_14 : decode cX12_seen 14 = .ok (.iconst 0, 1) := by decide +kernel
theorem dX12_seen_15 : decode cX12_seen 15 = .ok (.aload_n 0, 1) := by decide +kernel
theorem dX12_seen_16 : decode cX12_seen 16 = .ok (.getfield 461, 3) := by decide +kernel
theorem dX12_seen_19 : decode cX12_seen 19 = .ok (.iconst 1, 1) := by decide +kernel
theorem dX12_seen_20 : decode cX12_seen 20 = .ok (.isub, 1) := by decide +kernel
theorem dX12_seen_21 : decode cX12_seen 21 = .ok (.invokestatic 322, 3) := by decide +kernel
theorem dX12_seen_24 : decode cX12_seen 24 = .ok (.ifCond .eq 17, 3) := by decide +kernel
theorem dX12_seen_27 : decode cX12_seen 27 = .ok (.iload_n 2, 1) := by decide +kernel
theorem dX12_seen_28 : decode cX12_seen 28 = .ok (.iconst 0, 1) := by decide +kernel
theorem dX12_seen_29 : decode cX12_seen 29 = .ok (.aload_n 0, 1) := by decide +kernel
theorem dX12_seen_30 : decode cX12_seen 30 = .ok (.getfield 448, 3) := by decide +kernel
theorem dX12_seen_33 : decode cX12_seen 33 = .ok (.iconst 1, 1) := by decide +kernel
theorem dX12_seen_34 : decode cX12_seen 34 = .ok (.isub, 1) := by decide +kernel
theorem dX12_seen_35 : decode cX12_seen 35 = .ok (.invokestatic 322, 3) := by decide +kernel
theorem dX12_seen_38 : decode cX12_seen 38 = .ok (.ifCond .ne 7, 3) := by decide +kernel
theorem dX12_seen_41 : decode cX12_seen 41 = .ok (.iconst 1, 1) := by decide +kernel
theorem dX12_seen_42 : decode cX12_seen 42 = .ok (.goto 4, 3) := by decide +kernel
theorem dX12_seen_45 : decode cX12_seen 45 = .ok (.iconst 0, 1) := by decide +kernel
theorem dX12_seen_46 : decode cX12_seen 46 = .ok (.iconst 2, 1) := by decide +kernel
theorem dX12_seen_47 : decode cX12_seen 47 = .ok (.invokevirtual 558, 3) := by decide +kernel
theorem dX12_seen_50 : decode cX12_seen 50 = .ok (.ifCond .eq 7, 3) := by decide +kernel
theorem dX12_seen_53 : decode cX12_seen 53 = .ok (.iconst 0, 1) := by decide +kernel
theorem dX12_seen_54 : decode cX12_seen 54 = .ok (.goto 9, 3) := by decide +kernel
theorem dX12_seen_57 : decode cX12_seen 57 = .ok (.aload_n 0, 1) := by decide +kernel
theorem dX12_seen_58 : decode cX12_seen 58 = .ok (.iload_n 1, 1) := by decide +kernel
theorem dX12_seen_59 : decode cX12_seen 59 = .ok (.iload_n 2, 1) := by decide +kernel
theorem dX12_seen_60 : decode cX12_seen 60 = .ok (.invokevirtual 641, 3) := by decide +kernel
theorem dX12_seen_63 : decode cX12_seen 63 = .ok (.ireturn, 1) := by decide +kernel
theorem dX12_lock_0 : decode cX12_lock 0 = .ok (.aload_n 0, 1) := by decide +kernel
theorem dX12_lock_1 : decode cX12_lock 1 = .ok (.iconst 0, 1) := by decide +kernel
theorem dX12_lock_2 : decode cX12_lock 2 = .ok (.putfield 316, 3) := by decide +kernel
theorem dX12_lock_5 : decode cX12_lock 5 = .ok (.aload_n 0, 1) := by decide +kernel
theorem dX12_lock_6 : decode cX12_lock 6 = .ok (.invokevirtual 680, 3) := by decide +kernel
theorem dX12_lock_9 : decode cX12_lock 9 = .ok (.ifCond .ne 39, 3) := by decide +kernel
theorem dX12_lock_12 : decode cX12_lock 12 = .ok (.aload_n 0, 1) := by decide +kernel
theorem dX12_lock_13 : decode cX12_lock 13 = .ok (.iload_n 1, 1) := by decide +kernel
theorem dX12_lock_14 : decode cX12_lock 14 = .ok (.iconst 0, 1) := by decide +kernel
theorem dX12_lock_15 : decode cX12_lock 15 = .ok (.aload_n 0, 1) := by decide +kernel
theorem dX12_lock_16 : decode cX12_lock 16 = .ok (.getfield 458, 3) := by decide +kernel
theorem dX12_lock_19 : decode cX12_lock 19 = .ok (.iconst 1, 1) := by decide +kernel
theorem dX12_lock_20 : decode cX12_lock 20 = .ok (.isub, 1) := by decide +kernel
theorem dX12_lock_21 : decode cX12_lock 21 = .ok (.invokestatic 322, 3) := by decide +kernel
theorem dX12_lock_24 : decode cX12_lock 24 = .ok (.ifCond .eq 12, 3) := by decide +kernel
theorem dX12_lock_27 : decode cX12_lock 27 = .ok (.iload_n 2, 1) := by decide +kernel
theorem dX12_lock_28 : decode cX12_lock 28 = .ok (.iconst 0, 1) := by decide +kernel
theorem dX12_lock_29 : decode cX12_lock 29 = .ok (.iconst 2, 1) := by decide +kernel
theorem dX12_lock_30 : decode cX12_lock 30 = .ok (.invokestatic 322, 3) := by decide +kernel
theorem dX12_lock_33 : decode cX12_lock 33 = .ok (.ifCond .ne 7, 3) := by decide +kernel
theorem dX12_lock_36 : decode cX12_lock 36 = .ok (.iconst 1, 1) := by decide +kernel
theorem dX12_lock_37 : decode cX12_lock 37 = .ok (.goto 4, 3) := by decide +kernel
theorem dX12_lock_40 : decode cX12_lock 40 = .ok (.iconst 0, 1) := by decide +kernel
theorem dX12_lock_41 : decode cX12_lock 41 = .ok (.iconst 2, 1) := by decide +kernel
theorem dX12_lock_42 : decode cX12_lock 42 = .ok (.invokevirtual 558, 3) := by decide +kernel
theorem dX12_lock_45 : decode cX12_lock 45 = .ok (.ifCond .eq 5, 3) := by decide +kernel
theorem dX12_lock_48 : decode cX12_lock 48 = .ok (.iconst 0, 1) := by decide +kernel
theorem dX12_lock_49 : decode cX12_lock 49 = .ok (.ireturn, 1) := by decide +kernel
theorem dX12_lock_50 : decode cX12_lock 50 = .ok (.iconst 0, 1) := by decide +kernel
theorem dX12_lock_51 : decode cX12_lock 51 = .ok (.istore_n 3, 1) := by decide +kernel
theorem dX12_lock_52 : decode cX12_lock 52 = .ok (.iconst 0, 1) := by decide +kernel
theorem dX12_lock_53 : decode cX12_lock 53 = .ok (.istore 4, 2) := by decide +kernel
theorem dX12_lock_55 : decode cX12_lock 55 = .ok (.iload 4, 2) := by decide +kernel
theorem dX12_lock_57 : decode cX12_lock 57 = .ok (.aload_n 0, 1) := by decide +kernel
theorem dX12_lock_58 : decode cX12_lock 58 = .ok (.getfield 461, 3) := by decide +kernel
theorem dX12_lock_61 : decode cX12_lock 61 = .ok (.if_icmp .ge 47, 3) := by decide +kernel
theorem dX12_lock_64 : decode cX12_lock 64 = .ok (.iload_n 3, 1) := by decide +kernel
theorem dX12_lock_65 : decode cX12_lock 65 = .ok (.aload_n 0, 1) := by decide +kernel
theorem dX12_lock_66 : decode cX12_lock 66 = .ok (.getfield 163, 3) := by decide +kernel
theorem dX12_lock_69 : decode cX12_lock 69 = .ok (.iload 4, 2) := by decide +kernel
theorem dX12_lock_71 : decode cX12_lock 71 = .ok (.iaload, 1) := by decide +kernel
theorem dX12_lock_72 : decode cX12_lock 72 = .ok (.iconst 1, 1) := by decide +kernel
theorem dX12_lock_73 : decode cX12_lock 73 = .ok (.if_icmp .ne 23, 3) := by decide +kernel
theorem dX12_lock_76 : decode cX12_lock 76 = .ok (.aload_n 0, 1) := by decide +kernel
theorem dX12_lock_77 : decode cX12_lock 77 = .ok (.getfield 109, 3) := by decide +kernel
theorem dX12_lock_80 : decode cX12_lock 80 = .ok (.aload_n 0, 1) := by decide +kernel
theorem dX12_lock_81 : decode cX12_lock 81 = .ok (.getfield 154, 3) := by decide +kernel
theorem dX12_lock_84 : decode cX12_lock 84 = .ok (.iload 4, 2) := by decide +kernel
theorem dX12_lock_86 : decode cX12_lock 86 = .ok (.iaload, 1) := by decide +kernel
theorem dX12_lock_87 : decode cX12_lock 87 = .ok (.iaload, 1) := by decide +kernel
theorem dX12_lock_88 : decode cX12_lock 88 = .ok (.iload_n 1, 1) := by decide +kernel
theorem dX12_lock_89 : decode cX12_lock 89 = .ok (.if_icmp .ne 7, 3) := by decide +kernel
theorem dX12_lock_92 : decode cX12_lock 92 = .ok (.iconst 1, 1) := by decide +kernel
theorem dX12_lock_93 : decode cX12_lock 93 = .ok (.goto 4, 3) := by decide +kernel
theorem dX12_lock_96 : decode cX12_lock 96 = .ok (.iconst 0, 1) := by decide +kernel
theorem dX12_lock_97 : decode cX12_lock 97 = .ok (.invokestatic 587, 3) := by decide +kernel
theorem dX12_lock_100 : decode cX12_lock 100 = .ok (.iadd, 1) := by decide +kernel
theorem dX12_lock_101 : decode cX12_lock 101 = .ok (.istore_n 3, 1) := by decide +kernel
theorem dX12_lock_102 : decode cX12_lock 102 = .ok (.iinc 4 1, 3) := by decide +kernel
theorem dX12_lock_105 : decode cX12_lock 105 = .ok (.goto (-50), 3) := by decide +kernel
theorem dX12_lock_108 : decode cX12_lock 108 = .ok (.iload_n 2, 1) := by decide +kernel
theorem dX12_lock_109 : decode cX12_lock 109 = .ok (.ifCond .ne 12, 3) := by decide +kernel
theorem dX12_lock_112 : decode cX12_lock 112 = .ok (.aload_n 0, 1) := by decide +kernel
theorem dX12_lock_113 : decode cX12_lock 113 = .ok (.getfield 145, 3) := by decide +kernel
theorem dX12_lock_116 : decode cX12_lock 116 = .ok (.iload_n 1, 1) := by decide +kernel
theorem dX12_lock_117 : decode cX12_lock 117 = .ok (.iaload, 1) := by decide +kernel
theorem dX12_lock_118 : decode cX12_lock 118 = .ok (.goto 18, 3) := by decide +kernel
theorem dX12_lock_121 : decode cX12_lock 121 = .ok (.iload_n 2, 1) := by decide +kernel
theorem dX12_lock_122 : decode cX12_lock 122 = .ok (.iconst 1, 1) := by decide +kernel
theorem dX12_lock_123 : decode cX12_lock 123 = .ok (.if_icmp .ne 12, 3) := by decide +kernel
theorem dX12_lock_126 : decode cX12_lock 126 = .ok (.aload_n 0, 1) := by decide +kernel
theorem dX12_lock_127 : decode cX12_lock 127 = .ok (.getfield 148, 3) := by decide +kernel
theorem dX12_lock_130 : decode cX12_lock 130 = .ok (.iload_n 1, 1) := by decide +kernel
theorem dX12_lock_131 : decode cX12_lock 131 = .ok (.iaload, 1) := by decide +kernel
theorem dX12_lock_132 : decode cX12_lock 132 = .ok (.goto 4, 3) := by decide +kernel
theorem dX12_lock_135 : decode cX12_lock 135 = .ok (.iload_n 3, 1) := by decide +kernel
theorem dX12_lock_136 : decode cX12_lock 136 = .ok (.ireturn, 1) := by decide +kernel
theorem dX12_thread_0 : decode cX12_thread 0 = .ok (.aload_n 0, 1) := by decide +kernel
theorem dX12_thread_1 : decode cX12_thread 1 = .ok (.iconst 0, 1) := by decide +kernel
theorem dX12_thread_2 : decode cX12_thread 2 = .ok (.putfield 316, 3) := by decide +kernel
theorem dX12_thread_5 : decode cX12_thread 5 = .ok (.aload_n 0, 1) := by decide +kernel
theorem dX12_thread_6 : decode cX12_thread 6 = .ok (.invokevirtual 680, 3) := by decide +kernel
theorem dX12_thread_9 : decode cX12_thread 9 = .ok (.ifCond .ne 39, 3) := by decide +kernel
theorem dX12_thread_12 : decode cX12_thread 12 = .ok (.aload_n 0, 1) := by decide +kernel
theorem dX12_thread_13 : decode cX12_thread 13 = .ok (.iload_n 1, 1) := by decide +kernel
theorem dX12_thread_14 : decode cX12_thread 14 = .ok (.iconst 0, 1) := by decide +kernel
theorem dX12_thread_15 : decode cX12_thread 15 = .ok (.aload_n 0, 1) := by decide +kernel
theorem dX12_thread_16 : decode cX12_thread 16 = .ok (.getfield 461, 3) := by decide +kernel
theorem dX12_thread_19 : decode cX12_thread 19 = .ok (.iconst 1, 1) := by decide +kernel
theorem dX12_thread_20 : decode cX12_thread 20 = .ok (.isub, 1) := by decide +kernel
theorem dX12_thread_21 : decode cX12_thread 21 = .ok (.invokestatic 322, 3) := by decide +kernel
theorem dX12_thread_24 : decode cX12_thread 24 = .ok (.ifCond .eq 12, 3) := by decide +kernel
theorem dX12_thread_27 : decode cX12_thread 27 = .ok (.iload_n 2, 1) := by decide +kernel
theorem dX12_thread_28 : decode cX12_thread 28 = .ok (.iconst 0, 1) := by decide +kernel
theorem dX12_thread_29 : decode cX12_thread 29 = .ok (.iconst 4, 1) := by decide +kernel
theorem dX12_thread_30 : decode cX12_thread 30 = .ok (.invokestatic 322, 3) := by decide +kernel
theorem dX12_thread_33 : decode cX12_thread 33 = .ok (.ifCond .ne 7, 3) := by decide +kernel
theorem dX12_thread_36 : decode cX12_thread 36 = .ok (.iconst 1, 1) := by decide +kernel
theorem dX12_thread_37 : decode cX12_thread 37 = .ok (.goto 4, 3) := by decide +kernel
theorem dX12_thread_40 : decode cX12_thread 40 = .ok (.iconst 0, 1) := by decide +kernel
theorem dX12_thread_41 : decode cX12_thread 41 = .ok (.iconst 2, 1) := by decide +kernel
theorem dX12_thread_42 : decode cX12_thread 42 = .ok (.invokevirtual 558, 3) := by decide +kernel
theorem dX12_thread_45 : decode cX12_thread 45 = .ok (.ifCond .eq 5, 3) := by decide +kernel
theorem dX12_thread_48 : decode cX12_thread 48 = .ok (.iconst 0, 1) := by decide +kernel
theorem dX12_thread_49 : decode cX12_thread 49 = .ok (.ireturn, 1) := by decide +kernel
theorem dX12_thread_50 : decode cX12_thread 50 = .ok (.iload_n 2, 1) := by decide +kernel
theorem dX12_thread_51 : decode cX12_thread 51 = .ok (.ifCond .ne 12, 3) := by decide +kernel
theorem dX12_thread_54 : decode cX12_thread 54 = .ok (.aload_n 0, 1) := by decide +kernel
theorem dX12_thread_55 : decode cX12_thread 55 = .ok (.getfield 151, 3) := by decide +kernel
theorem dX12_thread_58 : decode cX12_thread 58 = .ok (.iload_n 1, 1) := by decide +kernel
theorem dX12_thread_59 : decode cX12_thread 59 = .ok (.iaload, 1) := by decide +kernel
theorem dX12_thread_60 : decode cX12_thread 60 = .ok (.goto 72, 3) := by decide +kernel
theorem dX12_thread_63 : decode cX12_thread 63 = .ok (.iload_n 2, 1) := by decide +kernel
theorem dX12_thread_64 : decode cX12_thread 64 = .ok (.iconst 1, 1) := by decide +kernel
theorem dX12_thread_65 : decode cX12_thread 65 = .ok (.if_icmp .ne 12, 3) := by decide +kernel
theorem dX12_thread_68 : decode cX12_thread 68 = .ok (.aload_n 0, 1) := by decide +kernel
theorem dX12_thread_69 : decode cX12_thread 69 = .ok (.getfield 157, 3) := by decide +kernel
theorem dX12_thread_72 : decode cX12_thread 72 = .ok (.iload_n 1, 1) := by decide +kernel
theorem dX12_thread_73 : decode cX12_thread 73 = .ok (.iaload, 1) := by decide +kernel
theorem dX12_thread_74 : decode cX12_thread 74 = .ok (.goto 58, 3) := by decide +kernel
theorem dX12_thread_77 : decode cX12_thread 77 = .ok (.iload_n 2, 1) := by decide +kernel
theorem dX12_thread_78 : decode cX12_thread 78 = .ok (.iconst 2, 1) := by decide +kernel
theorem dX12_thread_79 : decode cX12_thread 79 = .ok (.if_icmp .ne 12, 3) := by decide +kernel
theorem dX12_thread_82 : decode cX12_thread 82 = .ok (.aload_n 0, 1) := by decide +kernel
theorem dX12_thread_83 : decode cX12_thread 83 = .ok (.getfield 172, 3) := by decide +kernel
theorem dX12_thread_86 : decode cX12_thread 86 = .ok (.iload_n 1, 1) := by decide +kernel
theorem dX12_thread_87 : decode cX12_thread 87 = .ok (.iaload, 1) := by decide +kernel
theorem dX12_thread_88 : decode cX12_thread 88 = .ok (.goto 44, 3) := by decide +kernel
theorem dX12_thread_91 : decode cX12_thread 91 = .ok (.iload_n 2, 1) := by decide +kernel
theorem dX12_thread_92 : decode cX12_thread 92 = .ok (.iconst 3, 1) := by decide +kernel
theorem dX12_thread_93 : decode cX12_thread 93 = .ok (.if_icmp .ne 14, 3) := by decide +kernel
theorem dX12_thread_96 : decode cX12_thread 96 = .ok (.aload_n 0, 1) := by decide +kernel
theorem dX12_thread_97 : decode cX12_thread 97 = .ok (.iload_n 1, 1) := by decide +kernel
theorem dX12_thread_98 : decode cX12_thread 98 = .ok (.invokevirtual 693, 3) := by decide +kernel
theorem dX12_thread_101 : decode cX12_thread 101 = .ok (.invokestatic 696, 3) := by decide +kernel
theorem dX12_thread_104 : decode cX12_thread 104 = .ok (.goto 28, 3) := by decide +kernel
theorem dX12_thread_107 : decode cX12_thread 107 = .ok (.aload_n 0, 1) := by decide +kernel
theorem dX12_thread_108 : decode cX12_thread 108 = .ok (.getfield 151, 3) := by decide +kernel
theorem dX12_thread_111 : decode cX12_thread 111 = .ok (.iload_n 1, 1) := by decide +kernel
theorem dX12_thread_112 : decode cX12_thread 112 = .ok (.iaload, 1) := by decide +kernel
theorem dX12_thread_113 : decode cX12_thread 113 = .ok (.iconst 1, 1) := by decide +kernel
theorem dX12_thread_114 : decode cX12_thread 114 = .ok (.if_icmp .ne 17, 3) := by decide +kernel
theorem dX12_thread_117 : decode cX12_thread 117 = .ok (.aload_n 0, 1) := by decide +kernel
theorem dX12_thread_118 : decode cX12_thread 118 = .ok (.getfield 130, 3) := by decide +kernel
theorem dX12_thread_121 : decode cX12_thread 121 = .ok (.aload_n 0, 1) := by decide +kernel
theorem dX12_thread_122 : decode cX12_thread 122 = .ok (.getfield 154, 3) := by decide +kernel
theorem dX12_thread_125 : decode cX12_thread 125 = .ok (.iload_n 1, 1) := by decide +kernel
theorem dX12_thread_126 : decode cX12_thread 126 = .ok (.iaload, 1) := by decide +kernel
theorem dX12_thread_127 : decode cX12_thread 127 = .ok (.iaload, 1) := by decide +kernel
theorem dX12_thread_128 : decode cX12_thread 128 = .ok (.goto 4, 3) := by decide +kernel
theorem dX12_thread_131 : decode cX12_thread 131 = .ok (.iconst 0, 1) := by decide +kernel
theorem dX12_thread_132 : decode cX12_thread 132 = .ok (.ireturn, 1) := by decide +kernel
theorem dX12_local_0 : decode cX12_local 0 = .ok (.aload_n 0, 1) := by decide +kernel
theorem dX12_local_1 : decode cX12_local 1 = .ok (.iconst 0, 1) := by decide +kernel
theorem dX12_local_2 : decode cX12_local 2 = .ok (.putfield 316, 3) := by decide +kernel
theorem dX12_local_5 : decode cX12_local 5 = .ok (.aload_n 0, 1) := by decide +kernel
theorem dX12_local_6 : decode cX12_local 6 = .ok (.invokevirtual 680, 3) := by decide +kernel
theorem dX12_local_9 : decode cX12_local 9 = .ok (.ifCond .ne 30, 3) := by decide +kernel
theorem dX12_local_12 : decode cX12_local 12 = .ok (.aload_n 0, 1) := by decide +kernel
theorem dX12_local_13 : decode cX12_local 13 = .ok (.iload_n 1, 1) := by decide +kernel
theorem dX12_local_14 : decode cX12_local 14 = .ok (.iconst 0, 1) := by decide +kernel
theorem dX12_local_15 : decode cX12_local 15 = .ok (.aload_n 0, 1) := by decide +kernel
theorem dX12_local_16 : decode cX12_local 16 = .ok (.getfield 461, 3) := by decide +kernel
theorem dX12_local_19 : decode cX12_local 19 = .ok (.iconst 1, 1) := by decide +kernel
theorem dX12_local_20 : decode cX12_local 20 = .ok (.isub, 1) := by decide +kernel
theorem dX12_local_21 : decode cX12_local 21 = .ok (.invokestatic 322, 3) := by decide +kernel
theorem dX12_local_24 : decode cX12_local 24 = .ok (.ifCond .ne 7, 3) := by decide +kernel
theorem dX12_local_27 : decode cX12_local 27 = .ok (.iconst 1, 1) := by decide +kernel
theorem dX12_local_28 : decode cX12_local 28 = .ok (.goto 4, 3) := by decide +kernel
theorem dX12_local_31 : decode cX12_local 31 = .ok (.iconst 0, 1) := by decide +kernel
theorem dX12_local_32 : decode cX12_local 32 = .ok (.iconst 2, 1) := by decide +kernel
theorem dX12_local_33 : decode cX12_local 33 = .ok (.invokevirtual 558, 3) := by decide +kernel
theorem dX12_local_36 : decode cX12_local 36 = .ok (.ifCond .eq 5, 3) := by decide +kernel
theorem dX12_local_39 : decode cX12_local 39 = .ok (.iconst 0, 1) := by decide +kernel
theorem dX12_local_40 : decode cX12_local 40 = .ok (.ireturn, 1) := by decide +kernel
theorem dX12_local_41 : decode cX12_local 41 = .ok (.aload_n 0, 1) := by decide +kernel
theorem dX12_local_42 : decode cX12_local 42 = .ok (.iload_n 1, 1) := by decide +kernel
theorem dX12_local_43 : decode cX12_local 43 = .ok (.invokevirtual 693, 3) := by decide +kernel
theorem dX12_local_46 : decode cX12_local 46 = .ok (.istore_n 3, 1) := by decide +kernel
theorem dX12_local_47 : decode cX12_local 47 = .ok (.iconst 0, 1) := by decide +kernel
theorem dX12_local_48 : decode cX12_local 48 = .ok (.istore 4, 2) := by decide +kernel
theorem dX12_local_50 : decode cX12_local 50 = .ok (.iconst 0, 1) := by decide +kernel
theorem dX12_local_51 : decode cX12_local 51 = .ok (.istore 5, 2) := by decide +kernel
theorem dX12_local_53 : decode cX12_local 53 = .ok (.iload 5, 2) := by decide +kernel
theorem dX12_local_55 : decode cX12_local 55 = .ok (.bipush 8, 2) := by decide +kernel
theorem dX12_local_57 : decode cX12_local 57 = .ok (.if_icmp .ge 41, 3) := by decide +kernel
theorem dX12_local_60 : decode cX12_local 60 = .ok (.iload_n 3, 1) := by decide +kernel
theorem dX12_local_61 : decode cX12_local 61 = .ok (.iload 5, 2) := by decide +kernel
theorem dX12_local_63 : decode cX12_local 63 = .ok (.ishr, 1) := by decide +kernel
theorem dX12_local_64 : decode cX12_local 64 = .ok (.iconst 1, 1) := by decide +kernel
theorem dX12_local_65 : decode cX12_local 65 = .ok (.iand, 1) := by decide +kernel
theorem dX12_local_66 : decode cX12_local 66 = .ok (.iconst 1, 1) := by decide +kernel
theorem dX12_local_67 : decode cX12_local 67 = .ok (.if_icmp .ne 25, 3) := by decide +kernel
theorem dX12_local_70 : decode cX12_local 70 = .ok (.iload 4, 2) := by decide +kernel
theorem dX12_local_72 : decode cX12_local 72 = .ok (.iload_n 2, 1) := by decide +kernel
theorem dX12_local_73 : decode cX12_local 73 = .ok (.if_icmp .ne 16, 3) := by decide +kernel
theorem dX12_local_76 : decode cX12_local 76 = .ok (.aload_n 0, 1) := by decide +kernel
theorem dX12_local_77 : decode cX12_local 77 = .ok (.getfield 160, 3) := by decide +kernel
theorem dX12_local_80 : decode cX12_local 80 = .ok (.bipush 8, 2) := by decide +kernel
theorem dX12_local_82 : decode cX12_local 82 = .ok (.iload_n 1, 1) := by decide +kernel
theorem dX12_local_83 : decode cX12_local 83 = .ok (.imul, 1) := by decide +kernel
theorem dX12_local_84 : decode cX12_local 84 = .ok (.iload 5, 2) := by decide +kernel
theorem dX12_local_86 : decode cX12_local 86 = .ok (.iadd, 1) := by decide +kernel
theorem dX12_local_87 : decode cX12_local 87 = .ok (.iaload, 1) := by decide +kernel
theorem dX12_local_88 : decode cX12_local 88 = .ok (.ireturn, 1) := by decide +kernel
theorem dX12_local_89 : decode cX12_local 89 = .ok (.iinc 4 1, 3) := by decide +kernel
theorem dX12_local_92 : decode cX12_local 92 = .ok (.iinc 5 1, 3) := by decide +kernel
theorem dX12_local_95 : decode cX12_local 95 = .ok (.goto (-42), 3) := by decide +kernel
theorem dX12_local_98 : decode cX12_local 98 = .ok (.aload_n 0, 1) := by decide +kernel
theorem dX12_local_99 : decode cX12_local 99 = .ok (.iconst 1, 1) := by decide +kernel
theorem dX12_local_100 : decode cX12_local 100 = .ok (.iconst 2, 1) := by decide +kernel
theorem dX12_local_101 : decode cX12_local 101 = .ok (.invokevirtual 558, 3) := by decide +kernel
theorem dX12_local_104 : decode cX12_local 104 = .ok (.istore 5, 2) := by decide +kernel
theorem dX12_local_106 : decode cX12_local 106 = .ok (.iconst 0, 1) := by decide +kernel
theorem dX12_local_107 : decode cX12_local 107 = .ok (.ireturn, 1) := by decide +kernel
theorem dX12_act_0 : decode cX12_act 0 = .ok (.aload_n 0, 1) := by decide +kernel
theorem dX12_act_1 : decode cX12_act 1 = .ok (.iconst 0, 1) := by decide +kernel
theorem dX12_act_2 : decode cX12_act 2 = .ok (.putfield 316, 3) := by decide +kernel
theorem dX12_act_5 : decode cX12_act 5 = .ok (.aload_n 0, 1) := by decide +kernel
theorem dX12_act_6 : decode cX12_act 6 = .ok (.invokevirtual 680, 3) := by decide +kernel
theorem dX12_act_9 : decode cX12_act 9 = .ok (.ifCond .ne 39, 3) := by decide +kernel
theorem dX12_act_12 : decode cX12_act 12 = .ok (.aload_n 0, 1) := by decide +kernel
theorem dX12_act_13 : decode cX12_act 13 = .ok (.iload_n 1, 1) := by decide +kernel
theorem dX12_act_14 : decode cX12_act 14 = .ok (.iconst 0, 1) := by decide +kernel
theorem dX12_act_15 : decode cX12_act 15 = .ok (.aload_n 0, 1) := by decide +kernel
theorem dX12_act_16 : decode cX12_act 16 = .ok (.getfield 647, 3) := by decide +kernel
theorem dX12_act_19 : decode cX12_act 19 = .ok (.iconst 1, 1) := by decide +kernel
theorem dX12_act_20 : decode cX12_act 20 = .ok (.isub, 1) := by decide +kernel
theorem dX12_act_21 : decode cX12_act 21 = .ok (.invokestatic 322, 3) := by decide +kernel
theorem dX12_act_24 : decode cX12_act 24 = .ok (.ifCond .eq 12, 3) := by decide +kernel
theorem dX12_act_27 : decode cX12_act 27 = .ok (.iload_n 2, 1) := by decide +kernel
theorem dX12_act_28 : decode cX12_act 28 = .ok (.iconst 0, 1) := by decide +kernel
theorem dX12_act_29 : decode cX12_act 29 = .ok (.iconst 4, 1) := by decide +kernel
theorem dX12_act_30 : decode cX12_act 30 = .ok (.invokestatic 322, 3) := by decide +kernel
theorem dX12_act_33 : decode cX12_act 33 = .ok (.ifCond .ne 7, 3) := by decide +kernel
theorem dX12_act_36 : decode cX12_act 36 = .ok (.iconst 1, 1) := by decide +kernel
theorem dX12_act_37 : decode cX12_act 37 = .ok (.goto 4, 3) := by decide +kernel
theorem dX12_act_40 : decode cX12_act 40 = .ok (.iconst 0, 1) := by decide +kernel
theorem dX12_act_41 : decode cX12_act 41 = .ok (.iconst 2, 1) := by decide +kernel
theorem dX12_act_42 : decode cX12_act 42 = .ok (.invokevirtual 558, 3) := by decide +kernel
theorem dX12_act_45 : decode cX12_act 45 = .ok (.ifCond .eq 5, 3) := by decide +kernel
theorem dX12_act_48 : decode cX12_act 48 = .ok (.iconst 0, 1) := by decide +kernel
theorem dX12_act_49 : decode cX12_act 49 = .ok (.ireturn, 1) := by decide +kernel
theorem dX12_act_50 : decode cX12_act 50 = .ok (.iload_n 2, 1) := by decide +kernel
theorem dX12_act_51 : decode cX12_act 51 = .ok (.ifCond .ne 12, 3) := by decide +kernel
theorem dX12_act_54 : decode cX12_act 54 = .ok (.aload_n 0, 1) := by decide +kernel
theorem dX12_act_55 : decode cX12_act 55 = .ok (.getfield 196, 3) := by decide +kernel
theorem dX12_act_58 : decode cX12_act 58 = .ok (.iload_n 1, 1) := by decide +kernel
theorem dX12_act_59 : decode cX12_act 59 = .ok (.iaload, 1) := by decide +kernel
theorem dX12_act_60 : decode cX12_act 60 = .ok (.goto 51, 3) := by decide +kernel
theorem dX12_act_63 : decode cX12_act 63 = .ok (.iload_n 2, 1) := by decide +kernel
theorem dX12_act_64 : decode cX12_act 64 = .ok (.iconst 1, 1) := by decide +kernel
theorem dX12_act_65 : decode cX12_act 65 = .ok (.if_icmp .ne 12, 3) := by decide +kernel
theorem dX12_act_68 : decode cX12_act 68 = .ok (.aload_n 0, 1) := by decide +kernel
theorem dX12_act_69 : decode cX12_act 69 = .ok (.getfield 199, 3) := by decide +kernel
theorem dX12_act_72 : decode cX12_act 72 = .ok (.iload_n 1, 1) := by decide +kernel
theorem dX12_act_73 : decode cX12_act 73 = .ok (.iaload, 1) := by decide +kernel
theorem dX12_act_74 : decode cX12_act 74 = .ok (.goto 37, 3) := by decide +kernel
theorem dX12_act_77 : decode cX12_act 77 = .ok (.iload_n 2, 1) := by decide +kernel
theorem dX12_act_78 : decode cX12_act 78 = .ok (.iconst 2, 1) := by decide +kernel
theorem dX12_act_79 : decode cX12_act 79 = .ok (.if_icmp .ne 12, 3) := by decide +kernel
theorem dX12_act_82 : decode cX12_act 82 = .ok (.aload_n 0, 1) := by decide +kernel
theorem dX12_act_83 : decode cX12_act 83 = .ok (.getfield 202, 3) := by decide +kernel
theorem dX12_act_86 : decode cX12_act 86 = .ok (.iload_n 1, 1) := by decide +kernel
theorem dX12_act_87 : decode cX12_act 87 = .ok (.iaload, 1) := by decide +kernel
theorem dX12_act_88 : decode cX12_act 88 = .ok (.goto 23, 3) := by decide +kernel
theorem dX12_act_91 : decode cX12_act 91 = .ok (.iload_n 2, 1) := by decide +kernel
theorem dX12_act_92 : decode cX12_act 92 = .ok (.iconst 3, 1) := by decide +kernel
theorem dX12_act_93 : decode cX12_act 93 = .ok (.if_icmp .ne 12, 3) := by decide +kernel
theorem dX12_act_96 : decode cX12_act 96 = .ok (.aload_n 0, 1) := by decide +kernel
theorem dX12_act_97 : decode cX12_act 97 = .ok (.getfield 205, 3) := by decide +kernel
theorem dX12_act_100 : decode cX12_act 100 = .ok (.iload_n 1, 1) := by decide +kernel
theorem dX12_act_101 : decode cX12_act 101 = .ok (.iaload, 1) := by decide +kernel
theorem dX12_act_102 : decode cX12_act 102 = .ok (.goto 9, 3) := by decide +kernel
theorem dX12_act_105 : decode cX12_act 105 = .ok (.aload_n 0, 1) := by decide +kernel
theorem dX12_act_106 : decode cX12_act 106 = .ok (.getfield 208, 3) := by decide +kernel
theorem dX12_act_109 : decode cX12_act 109 = .ok (.iload_n 1, 1) := by decide +kernel
theorem dX12_act_110 : decode cX12_act 110 = .ok (.iaload, 1) := by decide +kernel
theorem dX12_act_111 : decode cX12_act 111 = .ok (.ireturn, 1) := by decide +kernel
theorem dX12_before_0 : decode cX12_before 0 = .ok (.aload_n 0, 1) := by decide +kernel
theorem dX12_before_1 : decode cX12_before 1 = .ok (.iconst 0, 1) := by decide +kernel
theorem dX12_before_2 : decode cX12_before 2 = .ok (.putfield 316, 3) := by decide +kernel
theorem dX12_before_5 : decode cX12_before 5 = .ok (.aload_n 0, 1) := by decide +kernel
theorem dX12_before_6 : decode cX12_before 6 = .ok (.invokevirtual 680, 3) := by decide +kernel
theorem dX12_before_9 : decode cX12_before 9 = .ok (.ifCond .ne 57, 3) := by decide +kernel
theorem dX12_before_12 : decode cX12_before 12 = .ok (.aload_n 0, 1) := by decide +kernel
theorem dX12_before_13 : decode cX12_before 13 = .ok (.iload_n 1, 1) := by decide +kernel
theorem dX12_before_14 : decode cX12_before 14 = .ok (.iconst 0, 1) := by decide +kernel
theorem dX12_before_15 : decode cX12_before 15 = .ok (.aload_n 0, 1) := by decide +kernel
theorem dX12_before_16 : decode cX12_before 16 = .ok (.getfield 647, 3) := by decide +kernel
theorem dX12_before_19 : decode cX12_before 19 = .ok (.iconst 1, 1) := by decide +kernel
theorem dX12_before_20 : decode cX12_before 20 = .ok (.isub, 1) := by decide +kernel
theorem dX12_before_21 : decode cX12_before 21 = .ok (.invokestatic 322, 3) := by decide +kernel
theorem dX12_before_24 : decode cX12_before 24 = .ok (.ifCond .eq 17, 3) := by decide +kernel
theorem dX12_before_27 : decode cX12_before 27 = .ok (.iload_n 2, 1) := by decide +kernel
theorem dX12_before_28 : decode cX12_before 28 = .ok (.iconst 0, 1) := by decide +kernel
theorem dX12_before_29 : decode cX12_before 29 = .ok (.aload_n 0, 1) := by decide +kernel
theorem dX12_before_30 : decode cX12_before 30 = .ok (.getfield 647, 3) := by decide +kernel
theorem dX12_before_33 : decode cX12_before 33 = .ok (.iconst 1, 1) := by decide +kernel
theorem dX12_before_34 : decode cX12_before 34 = .ok (.isub, 1) := by decide +kernel
theorem dX12_before_35 : decode cX12_before 35 = .ok (.invokestatic 322, 3) := by decide +kernel
theorem dX12_before_38 : decode cX12_before 38 = .ok (.ifCond .ne 7, 3) := by decide +kernel
theorem dX12_before_41 : decode cX12_before 41 = .ok (.iconst 1, 1) := by decide +kernel
theorem dX12_before_42 : decode cX12_before 42 = .ok (.goto 4, 3) := by decide +kernel
theorem dX12_before_45 : decode cX12_before 45 = .ok (.iconst 0, 1) := by decide +kernel
theorem dX12_before_46 : decode cX12_before 46 = .ok (.iconst 2, 1) := by decide +kernel
theorem dX12_before_47 : decode cX12_before 47 = .ok (.invokevirtual 558, 3) := by decide +kernel
theorem dX12_before_50 : decode cX12_before 50 = .ok (.ifCond .ne 16, 3) := by decide +kernel
theorem dX12_before_53 : decode cX12_before 53 = .ok (.aload_n 0, 1) := by decide +kernel
theorem dX12_before_54 : decode cX12_before 54 = .ok (.iload_n 1, 1) := by decide +kernel
theorem dX12_before_55 : decode cX12_before 55 = .ok (.iload_n 2, 1) := by decide +kernel
theorem dX12_before_56 : decode cX12_before 56 = .ok (.invokevirtual 674, 3) := by decide +kernel
theorem dX12_before_59 : decode cX12_before 59 = .ok (.ifCond .eq 7, 3) := by decide +kernel
theorem dX12_before_62 : decode cX12_before 62 = .ok (.iconst 1, 1) := by decide +kernel
theorem dX12_before_63 : decode cX12_before 63 = .ok (.goto 4, 3) := by decide +kernel
theorem dX12_before_66 : decode cX12_before 66 = .ok (.iconst 0, 1) := by decide +kernel
theorem dX12_before_67 : decode cX12_before 67 = .ok (.ireturn, 1) := by decide +kernel
theorem dX12_race_0 : decode cX12_race 0 = .ok (.aload_n 0, 1) := by decide +kernel
theorem dX12_race_1 : decode cX12_race 1 = .ok (.iconst 0, 1) := by decide +kernel
theorem dX12_race_2 : decode cX12_race 2 = .ok (.putfield 316, 3) := by decide +kernel
theorem dX12_race_5 : decode cX12_race 5 = .ok (.aload_n 0, 1) := by decide +kernel
theorem dX12_race_6 : decode cX12_race 6 = .ok (.invokevirtual 680, 3) := by decide +kernel
theorem dX12_race_9 : decode cX12_race 9 = .ok (.ifCond .eq 5, 3) := by decide +kernel
theorem dX12_race_12 : decode cX12_race 12 = .ok (.iconst 0, 1) := by decide +kernel
theorem dX12_race_13 : decode cX12_race 13 = .ok (.ireturn, 1) := by decide +kernel
theorem dX12_race_14 : decode cX12_race 14 = .ok (.iconst 0, 1) := by decide +kernel
theorem dX12_race_15 : decode cX12_race 15 = .ok (.istore_n 3, 1) := by decide +kernel
theorem dX12_race_16 : decode cX12_race 16 = .ok (.iconst 0, 1) := by decide +kernel
theorem dX12_race_17 : decode cX12_race 17 = .ok (.istore 4, 2) := by decide +kernel
theorem dX12_race_19 : decode cX12_race 19 = .ok (.iload 4, 2) := by decide +kernel
theorem dX12_race_21 : decode cX12_race 21 = .ok (.aload_n 0, 1) := by decide +kernel
theorem dX12_race_22 : decode cX12_race 22 = .ok (.getfield 647, 3) := by decide +kernel
theorem dX12_race_25 : decode cX12_race 25 = .ok (.if_icmp .ge 65, 3) := by decide +kernel
theorem dX12_race_28 : decode cX12_race 28 = .ok (.iload_n 2, 1) := by decide +kernel
theorem dX12_race_29 : decode cX12_race 29 = .ok (.iconst 0, 1) := by decide +kernel
theorem dX12_race_30 : decode cX12_race 30 = .ok (.iconst 1, 1) := by decide +kernel
theorem dX12_race_31 : decode cX12_race 31 = .ok (.invokestatic 322, 3) := by decide +kernel
theorem dX12_race_34 : decode cX12_race 34 = .ok (.ifCond .eq 56, 3) := by decide +kernel
theorem dX12_race_37 : decode cX12_race 37 = .ok (.iconst 0, 1) := by decide +kernel
theorem dX12_race_38 : decode cX12_race 38 = .ok (.istore 5, 2) := by decide +kernel
theorem dX12_race_40 : decode cX12_race 40 = .ok (.iload 5, 2) := by decide +kernel
theorem dX12_race_42 : decode cX12_race 42 = .ok (.iload 4, 2) := by decide +kernel
theorem dX12_race_44 : decode cX12_race 44 = .ok (.if_icmp .ge 40, 3) := by decide +kernel
theorem dX12_race_47 : decode cX12_race 47 = .ok (.aload_n 0, 1) := by decide +kernel
theorem dX12_race_48 : decode cX12_race 48 = .ok (.iload 5, 2) := by decide +kernel
theorem dX12_race_50 : decode cX12_race 50 = .ok (.iload 4, 2) := by decide +kernel
theorem dX12_race_52 : decode cX12_race 52 = .ok (.invokevirtual 690, 3) := by decide +kernel
theorem dX12_race_55 : decode cX12_race 55 = .ok (.ifCond .eq 23, 3) := by decide +kernel
theorem dX12_race_58 : decode cX12_race 58 = .ok (.iload_n 3, 1) := by decide +kernel
theorem dX12_race_59 : decode cX12_race 59 = .ok (.iload_n 1, 1) := by decide +kernel
theorem dX12_race_60 : decode cX12_race 60 = .ok (.if_icmp .ne 15, 3) := by decide +kernel
theorem dX12_race_63 : decode cX12_race 63 = .ok (.iload_n 2, 1) := by decide +kernel
theorem dX12_race_64 : decode cX12_race 64 = .ok (.ifCond .ne 8, 3) := by decide +kernel
theorem dX12_race_67 : decode cX12_race 67 = .ok (.iload 5, 2) := by decide +kernel
theorem dX12_race_69 : decode cX12_race 69 = .ok (.goto 5, 3) := by decide +kernel
theorem dX12_race_72 : decode cX12_race 72 = .ok (.iload 4, 2) := by decide +kernel
theorem dX12_race_74 : decode cX12_race 74 = .ok (.ireturn, 1) := by decide +kernel
theorem dX12_race_75 : decode cX12_race 75 = .ok (.iinc 3 1, 3) := by decide +kernel
theorem dX12_race_78 : decode cX12_race 78 = .ok (.iinc 5 1, 3) := by decide +kernel
theorem dX12_race_81 : decode cX12_race 81 = .ok (.goto (-41), 3) := by decide +kernel
theorem dX12_race_84 : decode cX12_race 84 = .ok (.iinc 4 1, 3) := by decide +kernel
theorem dX12_race_87 : decode cX12_race 87 = .ok (.goto (-68), 3) := by decide +kernel
theorem dX12_race_90 : decode cX12_race 90 = .ok (.aload_n 0, 1) := by decide +kernel
theorem dX12_race_91 : decode cX12_race 91 = .ok (.iconst 1, 1) := by decide +kernel
theorem dX12_race_92 : decode cX12_race 92 = .ok (.iconst 2, 1) := by decide +kernel
theorem dX12_race_93 : decode cX12_race 93 = .ok (.invokevirtual 558, 3) := by decide +kernel
theorem dX12_race_96 : decode cX12_race 96 = .ok (.istore 4, 2) := by decide +kernel
theorem dX12_race_98 : decode cX12_race 98 = .ok (.iconst 0, 1) := by decide +kernel
theorem dX12_race_99 : decode cX12_race 99 = .ok (.ireturn, 1) := by decide +kernel
theorem dX12_linear_0 : decode cX12_linear 0 = .ok (.aload_n 0, 1) := by decide +kernel
theorem dX12_linear_1 : decode cX12_linear 1 = .ok (.iconst 0, 1) := by decide +kernel
theorem dX12_linear_2 : decode cX12_linear 2 = .ok (.putfield 316, 3) := by decide +kernel
theorem dX12_linear_5 : decode cX12_linear 5 = .ok (.aload_n 0, 1) := by decide +kernel
theorem dX12_linear_6 : decode cX12_linear 6 = .ok (.invokevirtual 680, 3) := by decide +kernel
theorem dX12_linear_9 : decode cX12_linear 9 = .ok (.ifCond .ne 25, 3) := by decide +kernel
theorem dX12_linear_12 : decode cX12_linear 12 = .ok (.aload_n 0, 1) := by decide +kernel
theorem dX12_linear_13 : decode cX12_linear 13 = .ok (.iload_n 1, 1) := by decide +kernel
theorem dX12_linear_14 : decode cX12_linear 14 = .ok (.iconst 0, 1) := by decide +kernel
theorem dX12_linear_15 : decode cX12_linear 15 = .ok (.iconst 3, 1) := by decide +kernel
theorem dX12_linear_16 : decode cX12_linear 16 = .ok (.invokestatic 322, 3) := by decide +kernel
theorem dX12_linear_19 : decode cX12_linear 19 = .ok (.ifCond .ne 7, 3) := by decide +kernel
theorem dX12_linear_22 : decode cX12_linear 22 = .ok (.iconst 1, 1) := by decide +kernel
theorem dX12_linear_23 : decode cX12_linear 23 = .ok (.goto 4, 3) := by decide +kernel
theorem dX12_linear_26 : decode cX12_linear 26 = .ok (.iconst 0, 1) := by decide +kernel
theorem dX12_linear_27 : decode cX12_linear 27 = .ok (.iconst 2, 1) := by decide +kernel
theorem dX12_linear_28 : decode cX12_linear 28 = .ok (.invokevirtual 558, 3) := by decide +kernel
theorem dX12_linear_31 : decode cX12_linear 31 = .ok (.ifCond .eq 5, 3) := by decide +kernel
theorem dX12_linear_34 : decode cX12_linear 34 = .ok (.iconst 0, 1) := by decide +kernel
theorem dX12_linear_35 : decode cX12_linear 35 = .ok (.ireturn, 1) := by decide +kernel
theorem dX12_linear_36 : decode cX12_linear 36 = .ok (.aload_n 0, 1) := by decide +kernel
theorem dX12_linear_37 : decode cX12_linear 37 = .ok (.sipush 1000, 3) := by decide +kernel
theorem dX12_linear_40 : decode cX12_linear 40 = .ok (.invokevirtual 714, 3) := by decide +kernel
theorem dX12_linear_43 : decode cX12_linear 43 = .ok (.istore_n 2, 1) := by decide +kernel
theorem dX12_linear_44 : decode cX12_linear 44 = .ok (.aload_n 0, 1) := by decide +kernel
theorem dX12_linear_45 : decode cX12_linear 45 = .ok (.getfield 699, 3) := by decide +kernel
theorem dX12_linear_48 : decode cX12_linear 48 = .ok (.bipush 12, 2) := by decide +kernel
theorem dX12_linear_50 : decode cX12_linear 50 = .ok (.if_icmp .le 5, 3) := by decide +kernel
theorem dX12_linear_53 : decode cX12_linear 53 = .ok (.iconst (-1), 1) := by decide +kernel
theorem dX12_linear_54 : decode cX12_linear 54 = .ok (.ireturn, 1) := by decide +kernel
theorem dX12_linear_55 : decode cX12_linear 55 = .ok (.iconst 1, 1) := by decide +kernel
theorem dX12_linear_56 : decode cX12_linear 56 = .ok (.istore_n 3, 1) := by decide +kernel
theorem dX12_linear_57 : decode cX12_linear 57 = .ok (.iload_n 3, 1) := by decide +kernel
theorem dX12_linear_58 : decode cX12_linear 58 = .ok (.iload_n 2, 1) := by decide +kernel
theorem dX12_linear_59 : decode cX12_linear 59 = .ok (.if_icmp .gt 29, 3) := by decide +kernel
theorem dX12_linear_62 : decode cX12_linear 62 = .ok (.aload_n 0, 1) := by decide +kernel
theorem dX12_linear_63 : decode cX12_linear 63 = .ok (.iload_n 3, 1) := by decide +kernel
theorem dX12_linear_64 : decode cX12_linear 64 = .ok (.invokevirtual 714, 3) := by decide +kernel
theorem dX12_linear_67 : decode cX12_linear 67 = .ok (.istore 4, 2) := by decide +kernel
theorem dX12_linear_69 : decode cX12_linear 69 = .ok (.aload_n 0, 1) := by decide +kernel
theorem dX12_linear_70 : decode cX12_linear 70 = .ok (.iload_n 1, 1) := by decide +kernel
theorem dX12_linear_71 : decode cX12_linear 71 = .ok (.invokevirtual 717, 3) := by decide +kernel
theorem dX12_linear_74 : decode cX12_linear 74 = .ok (.ifCond .ne 8, 3) := by decide +kernel
theorem dX12_linear_77 : decode cX12_linear 77 = .ok (.bipush (-2), 2) := by decide +kernel
theorem dX12_linear_79 : decode cX12_linear 79 = .ok (.iload_n 3, 1) := by decide +kernel
theorem dX12_linear_80 : decode cX12_linear 80 = .ok (.isub, 1) := by decide +kernel
theorem dX12_linear_81 : decode cX12_linear 81 = .ok (.ireturn, 1) := by decide +kernel
theorem dX12_linear_82 : decode cX12_linear 82 = .ok (.iinc 3 1, 3) := by decide +kernel
theorem dX12_linear_85 : decode cX12_linear 85 = .ok (.goto (-28), 3) := by decide +kernel
theorem dX12_linear_88 : decode cX12_linear 88 = .ok (.iconst 1, 1) := by decide +kernel
theorem dX12_linear_89 : decode cX12_linear 89 = .ok (.ireturn, 1) := by decide +kernel
theorem dX12_attempt_0 : decode cX12_attempt 0 = .ok (.aload_n 0, 1) := by decide +kernel
theorem dX12_attempt_1 : decode cX12_attempt 1 = .ok (.iconst 0, 1) := by decide +kernel
theorem dX12_attempt_2 : decode cX12_attempt 2 = .ok (.putfield 316, 3) := by decide +kernel
theorem dX12_attempt_5 : decode cX12_attempt 5 = .ok (.aload_n 0, 1) := by decide +kernel
theorem dX12_attempt_6 : decode cX12_attempt 6 = .ok (.aload_n 0, 1) := by decide +kernel
theorem dX12_attempt_7 : decode cX12_attempt 7 = .ok (.getfield 565, 3) := by decide +kernel
theorem dX12_attempt_10 : decode cX12_attempt 10 = .ok (.ifCond .ne 7, 3) := by decide +kernel
theorem dX12_attempt_13 : decode cX12_attempt 13 = .ok (.iconst 1, 1) := by decide +kernel
theorem dX12_attempt_14 : decode cX12_attempt 14 = .ok (.goto 4, 3) := by decide +kernel
theorem dX12_attempt_17 : decode cX12_attempt 17 = .ok (.iconst 0, 1) := by decide +kernel
theorem dX12_attempt_18 : decode cX12_attempt 18 = .ok (.iconst 1, 1) := by decide +kernel
theorem dX12_attempt_19 : decode cX12_attempt 19 = .ok (.invokevirtual 558, 3) := by decide +kernel
theorem dX12_attempt_22 : decode cX12_attempt 22 = .ok (.ifCond .ne 36, 3) := by decide +kernel
theorem dX12_attempt_25 : decode cX12_attempt 25 = .ok (.aload_n 0, 1) := by decide +kernel
theorem dX12_attempt_26 : decode cX12_attempt 26 = .ok (.iload_n 1, 1) := by decide +kernel
theorem dX12_attempt_27 : decode cX12_attempt 27 = .ok (.iconst 0, 1) := by decide +kernel
theorem dX12_attempt_28 : decode cX12_attempt 28 = .ok (.iconst 1, 1) := by decide +kernel
theorem dX12_attempt_29 : decode cX12_attempt 29 = .ok (.invokestatic 322, 3) := by decide +kernel
theorem dX12_attempt_32 : decode cX12_attempt 32 = .ok (.ifCond .eq 14, 3) := by decide +kernel
theorem dX12_attempt_35 : decode cX12_attempt 35 = .ok (.iload_n 2, 1) := by decide +kernel
theorem dX12_attempt_36 : decode cX12_attempt 36 = .ok (.iconst 1, 1) := by decide +kernel
theorem dX12_attempt_37 : decode cX12_attempt 37 = .ok (.sipush 3000, 3) := by decide +kernel
theorem dX12_attempt_40 : decode cX12_attempt 40 = .ok (.invokestatic 322, 3) := by decide +kernel
theorem dX12_attempt_43 : decode cX12_attempt 43 = .ok (.ifCond .ne 7, 3) := by decide +kernel
theorem dX12_attempt_46 : decode cX12_attempt 46 = .ok (.iconst 1, 1) := by decide +kernel
theorem dX12_attempt_47 : decode cX12_attempt 47 = .ok (.goto 4, 3) := by decide +kernel
theorem dX12_attempt_50 : decode cX12_attempt 50 = .ok (.iconst 0, 1) := by decide +kernel
theorem dX12_attempt_51 : decode cX12_attempt 51 = .ok (.iconst 2, 1) := by decide +kernel
theorem dX12_attempt_52 : decode cX12_attempt 52 = .ok (.invokevirtual 558, 3) := by decide +kernel
theorem dX12_attempt_55 : decode cX12_attempt 55 = .ok (.ifCond .eq 5, 3) := by decide +kernel
theorem dX12_attempt_58 : decode cX12_attempt 58 = .ok (.iconst 0, 1) := by decide +kernel
theorem dX12_attempt_59 : decode cX12_attempt 59 = .ok (.ireturn, 1) := by decide +kernel
theorem dX12_attempt_60 : decode cX12_attempt 60 = .ok (.aload_n 0, 1) := by decide +kernel
theorem dX12_attempt_61 : decode cX12_attempt 61 = .ok (.getfield 608, 3) := by decide +kernel
theorem dX12_attempt_64 : decode cX12_attempt 64 = .ok (.istore_n 3, 1) := by decide +kernel
theorem dX12_attempt_65 : decode cX12_attempt 65 = .ok (.aload_n 0, 1) := by decide +kernel
theorem dX12_attempt_66 : decode cX12_attempt 66 = .ok (.getfield 569, 3) := by decide +kernel
theorem dX12_attempt_69 : decode cX12_attempt 69 = .ok (.ifCond .eq 12, 3) := by decide +kernel
theorem dX12_attempt_72 : decode cX12_attempt 72 = .ok (.aload_n 0, 1) := by decide +kernel
theorem dX12_attempt_73 : decode cX12_attempt 73 = .ok (.aload_n 0, 1) := by decide +kernel
theorem dX12_attempt_74 : decode cX12_attempt 74 = .ok (.getfield 307, 3) := by decide +kernel
theorem dX12_attempt_77 : decode cX12_attempt 77 = .ok (.iconst 0, 1) := by decide +kernel
theorem dX12_attempt_78 : decode cX12_attempt 78 = .ok (.invokevirtual 723, 3) := by decide +kernel
theorem dX12_attempt_81 : decode cX12_attempt 81 = .ok (.aload_n 0, 1) := by decide +kernel
theorem dX12_attempt_82 : decode cX12_attempt 82 = .ok (.iload_n 1, 1) := by decide +kernel
theorem dX12_attempt_83 : decode cX12_attempt 83 = .ok (.putfield 608, 3) := by decide +kernel
theorem dX12_attempt_86 : decode cX12_attempt 86 = .ok (.aload_n 0, 1) := by decide +kernel
theorem dX12_attempt_87 : decode cX12_attempt 87 = .ok (.iload_n 1, 1) := by decide +kernel
theorem dX12_attempt_88 : decode cX12_attempt 88 = .ok (.iload_n 2, 1) := by decide +kernel
theorem dX12_attempt_89 : decode cX12_attempt 89 = .ok (.invokevirtual 755, 3) := by decide +kernel
theorem dX12_attempt_92 : decode cX12_attempt 92 = .ok (.aload_n 0, 1) := by decide +kernel
theorem dX12_attempt_93 : decode cX12_attempt 93 = .ok (.getfield 254, 3) := by decide +kernel
theorem dX12_attempt_96 : decode cX12_attempt 96 = .ok (.iload_n 1, 1) := by decide +kernel
theorem dX12_attempt_97 : decode cX12_attempt 97 = .ok (.iconst 1, 1) := by decide +kernel
theorem dX12_attempt_98 : decode cX12_attempt 98 = .ok (.bastore, 1) := by decide +kernel
theorem dX12_attempt_99 : decode cX12_attempt 99 = .ok (.aload_n 0, 1) := by decide +kernel
theorem dX12_attempt_100 : decode cX12_attempt 100 = .ok (.iload_n 3, 1) := by decide +kernel
theorem dX12_attempt_101 : decode cX12_attempt 101 = .ok (.putfield 608, 3) := by decide +kernel
theorem dX12_attempt_104 : decode cX12_attempt 104 = .ok (.aload_n 0, 1) := by decide +kernel
theorem dX12_attempt_105 : decode cX12_attempt 105 = .ok (.getfield 569, 3) := by decide +kernel
theorem dX12_attempt_108 : decode cX12_attempt 108 = .ok (.ifCond .eq 16, 3) := by decide +kernel
theorem dX12_attempt_111 : decode cX12_attempt 111 = .ok (.aload_n 0, 1) := by decide +kernel
theorem dX12_attempt_112 : decode cX12_attempt 112 = .ok (.aload_n 0, 1) := by decide +kernel
theorem dX12_attempt_113 : decode cX12_attempt 113 = .ok (.getfield 307, 3) := by decide +kernel
theorem dX12_attempt_116 : decode cX12_attempt 116 = .ok (.iconst 0, 1) := by decide +kernel
theorem dX12_attempt_117 : decode cX12_attempt 117 = .ok (.invokevirtual 749, 3) := by decide +kernel
theorem dX12_attempt_120 : decode cX12_attempt 120 = .ok (.aload_n 0, 1) := by decide +kernel
theorem dX12_attempt_121 : decode cX12_attempt 121 = .ok (.invokevirtual 653, 3) := by decide +kernel
theorem dX12_attempt_124 : decode cX12_attempt 124 = .ok (.aload_n 0, 1) := by decide +kernel
theorem dX12_attempt_125 : decode cX12_attempt 125 = .ok (.getfield 257, 3) := by decide +kernel
theorem dX12_attempt_128 : decode cX12_attempt 128 = .ok (.iload_n 1, 1) := by decide +kernel
theorem dX12_attempt_129 : decode cX12_attempt 129 = .ok (.iaload, 1) := by decide +kernel
theorem dX12_attempt_130 : decode cX12_attempt 130 = .ok (.ireturn, 1) := by decide +kernel
theorem dX12_tried_0 : decode cX12_tried 0 = .ok (.aload_n 0, 1) := by decide +kernel
theorem dX12_tried_1 : decode cX12_tried 1 = .ok (.iconst 0, 1) := by decide +kernel
theorem dX12_tried_2 : decode cX12_tried 2 = .ok (.putfield 316, 3) := by decide +kernel
theorem dX12_tried_5 : decode cX12_tried 5 = .ok (.aload_n 0, 1) := by decide +kernel
theorem dX12_tried_6 : decode cX12_tried 6 = .ok (.iload_n 1, 1) := by decide +kernel
theorem dX12_tried_7 : decode cX12_tried 7 = .ok (.iconst 0, 1) := by decide +kernel
theorem dX12_tried_8 : decode cX12_tried 8 = .ok (.iconst 1, 1) := by decide +kernel
theorem dX12_tried_9 : decode cX12_tried 9 = .ok (.invokestatic 322, 3) := by decide +kernel
theorem dX12_tried_12 : decode cX12_tried 12 = .ok (.ifCond .ne 7, 3) := by decide +kernel
theorem dX12_tried_15 : decode cX12_tried 15 = .ok (.iconst 1, 1) := by decide +kernel
theorem dX12_tried_16 : decode cX12_tried 16 = .ok (.goto 4, 3) := by decide +kernel
theorem dX12_tried_19 : decode cX12_tried 19 = .ok (.iconst 0, 1) := by decide +kernel
theorem dX12_tried_20 : decode cX12_tried 20 = .ok (.iconst 1, 1) := by decide +kernel
theorem dX12_tried_21 : decode cX12_tried 21 = .ok (.invokevirtual 558, 3) := by decide +kernel
theorem dX12_tried_24 : decode cX12_tried 24 = .ok (.ifCond .ne 34, 3) := by decide +kernel
theorem dX12_tried_27 : decode cX12_tried 27 = .ok (.aload_n 0, 1) := by decide +kernel
theorem dX12_tried_28 : decode cX12_tried 28 = .ok (.iload_n 2, 1) := by decide +kernel
theorem dX12_tried_29 : decode cX12_tried 29 = .ok (.iconst 0, 1) := by decide +kernel
theorem dX12_tried_30 : decode cX12_tried 30 = .ok (.iconst 5, 1) := by decide +kernel
theorem dX12_tried_31 : decode cX12_tried 31 = .ok (.invokestatic 322, 3) := by decide +kernel
theorem dX12_tried_34 : decode cX12_tried 34 = .ok (.ifCond .ne 7, 3) := by decide +kernel
theorem dX12_tried_37 : decode cX12_tried 37 = .ok (.iconst 1, 1) := by decide +kernel
theorem dX12_tried_38 : decode cX12_tried 38 = .ok (.goto 4, 3) := by decide +kernel
theorem dX12_tried_41 : decode cX12_tried 41 = .ok (.iconst 0, 1) := by decide +kernel
theorem dX12_tried_42 : decode cX12_tried 42 = .ok (.iconst 2, 1) := by decide +kernel
theorem dX12_tried_43 : decode cX12_tried 43 = .ok (.invokevirtual 558, 3) := by decide +kernel
theorem dX12_tried_46 : decode cX12_tried 46 = .ok (.ifCond .ne 12, 3) := by decide +kernel
theorem dX12_tried_49 : decode cX12_tried 49 = .ok (.aload_n 0, 1) := by decide +kernel
theorem dX12_tried_50 : decode cX12_tried 50 = .ok (.getfield 254, 3) := by decide +kernel
theorem dX12_tried_53 : decode cX12_tried 53 = .ok (.iload_n 1, 1) := by decide +kernel
theorem dX12_tried_54 : decode cX12_tried 54 = .ok (.baload, 1) := by decide +kernel
theorem dX12_tried_55 : decode cX12_tried 55 = .ok (.ifCond .ne 5, 3) := by decide +kernel
theorem dX12_tried_58 : decode cX12_tried 58 = .ok (.iconst 0, 1) := by decide +kernel
theorem dX12_tried_59 : decode cX12_tried 59 = .ok (.ireturn, 1) := by decide +kernel
theorem dX12_tried_60 : decode cX12_tried 60 = .ok (.iload_n 2, 1) := by decide +kernel
theorem dX12_tried_61 : decode cX12_tried 61 = .ok (.ifCond .ne 12, 3) := by decide +kernel
theorem dX12_tried_64 : decode cX12_tried 64 = .ok (.aload_n 0, 1) := by decide +kernel
theorem dX12_tried_65 : decode cX12_tried 65 = .ok (.getfield 257, 3) := by decide +kernel
theorem dX12_tried_68 : decode cX12_tried 68 = .ok (.iload_n 1, 1) := by decide +kernel
theorem dX12_tried_69 : decode cX12_tried 69 = .ok (.iaload, 1) := by decide +kernel
theorem dX12_tried_70 : decode cX12_tried 70 = .ok (.goto 68, 3) := by decide +kernel
theorem dX12_tried_73 : decode cX12_tried 73 = .ok (.iload_n 2, 1) := by decide +kernel
theorem dX12_tried_74 : decode cX12_tried 74 = .ok (.iconst 1, 1) := by decide +kernel
theorem dX12_tried_75 : decode cX12_tried 75 = .ok (.if_icmp .ne 15, 3) := by decide +kernel
theorem dX12_tried_78 : decode cX12_tried 78 = .ok (.aload_n 0, 1) := by decide +kernel
theorem dX12_tried_79 : decode cX12_tried 79 = .ok (.getfield 260, 3) := by decide +kernel
theorem dX12_tried_82 : decode cX12_tried 82 = .ok (.iload_n 1, 1) := by decide +kernel
theorem dX12_tried_83 : decode cX12_tried 83 = .ok (.baload, 1) := by decide +kernel
theorem dX12_tried_84 : decode cX12_tried 84 = .ok (.invokestatic 587, 3) := by decide +kernel
theorem dX12_tried_87 : decode cX12_tried 87 = .ok (.goto 51, 3) := by decide +kernel
theorem dX12_tried_90 : decode cX12_tried 90 = .ok (.iload_n 2, 1) := by decide +kernel
theorem dX12_tried_91 : decode cX12_tried 91 = .ok (.iconst 2, 1) := by decide +kernel
theorem dX12_tried_92 : decode cX12_tried 92 = .ok (.if_icmp .ne 12, 3) := by decide +kernel
theorem dX12_tried_95 : decode cX12_tried 95 = .ok (.aload_n 0, 1) := by decide +kernel
theorem dX12_tried_96 : decode cX12_tried 96 = .ok (.getfield 263, 3) := by decide +kernel
theorem dX12_tried_99 : decode cX12_tried 99 = .ok (.iload_n 1, 1) := by decide +kernel
theorem dX12_tried_100 : decode cX12_tried 100 = .ok (.iaload, 1) := by decide +kernel
theorem dX12_tried_101 : decode cX12_tried 101 = .ok (.goto 37, 3) := by decide +kernel
theorem dX12_tried_104 : decode cX12_tried 104 = .ok (.iload_n 2, 1) := by decide +kernel
theorem dX12_tried_105 : decode cX12_tried 105 = .ok (.iconst 3, 1) := by decide +kernel
theorem dX12_tried_106 : decode cX12_tried 106 = .ok (.if_icmp .ne 12, 3) := by decide +kernel
theorem dX12_tried_109 : decode cX12_tried 109 = .ok (.aload_n 0, 1) := by decide +kernel
theorem dX12_tried_110 : decode cX12_tried 110 = .ok (.getfield 266, 3) := by decide +kernel
theorem dX12_tried_113 : decode cX12_tried 113 = .ok (.iload_n 1, 1) := by decide +kernel
theorem dX12_tried_114 : decode cX12_tried 114 = .ok (.iaload, 1) := by decide +kernel
theorem dX12_tried_115 : decode cX12_tried 115 = .ok (.goto 23, 3) := by decide +kernel
theorem dX12_tried_118 : decode cX12_tried 118 = .ok (.iload_n 2, 1) := by decide +kernel
theorem dX12_tried_119 : decode cX12_tried 119 = .ok (.iconst 4, 1) := by decide +kernel
theorem dX12_tried_120 : decode cX12_tried 120 = .ok (.if_icmp .ne 12, 3) := by decide +kernel
theorem dX12_tried_123 : decode cX12_tried 123 = .ok (.aload_n 0, 1) := by decide +kernel
theorem dX12_tried_124 : decode cX12_tried 124 = .ok (.getfield 269, 3) := by decide +kernel
theorem dX12_tried_127 : decode cX12_tried 127 = .ok (.iload_n 1, 1) := by decide +kernel
theorem dX12_tried_128 : decode cX12_tried 128 = .ok (.iaload, 1) := by decide +kernel
theorem dX12_tried_129 : decode cX12_tried 129 = .ok (.goto 9, 3) := by decide +kernel
theorem dX12_tried_132 : decode cX12_tried 132 = .ok (.aload_n 0, 1) := by decide +kernel
theorem dX12_tried_133 : decode cX12_tried 133 = .ok (.getfield 272, 3) := by decide +kernel
theorem dX12_tried_136 : decode cX12_tried 136 = .ok (.iload_n 1, 1) := by decide +kernel
theorem dX12_tried_137 : decode cX12_tried 137 = .ok (.iaload, 1) := by decide +kernel
theorem dX12_tried_138 : decode cX12_tried 138 = .ok (.ireturn, 1) := by decide +kernel
theorem dX12_outcome_0 : decode cX12_outcome 0 = .ok (.aload_n 0, 1) := by decide +kernel
theorem dX12_outcome_1 : decode cX12_outcome 1 = .ok (.iconst 0, 1) := by decide +kernel
theorem dX12_outcome_2 : decode cX12_outcome 2 = .ok (.putfield 316, 3) := by decide +kernel
theorem dX12_outcome_5 : decode cX12_outcome 5 = .ok (.aload_n 0, 1) := by decide +kernel
theorem dX12_outcome_6 : decode cX12_outcome 6 = .ok (.iload_n 1, 1) := by decide +kernel
theorem dX12_outcome_7 : decode cX12_outcome 7 = .ok (.iconst 0, 1) := by decide +kernel
theorem dX12_outcome_8 : decode cX12_outcome 8 = .ok (.iconst 1, 1) := by decide +kernel
theorem dX12_outcome_9 : decode cX12_outcome 9 = .ok (.invokestatic 322, 3) := by decide +kernel
theorem dX12_outcome_12 : decode cX12_outcome 12 = .ok (.ifCond .ne 7, 3) := by decide +kernel
theorem dX12_outcome_15 : decode cX12_outcome 15 = .ok (.iconst 1, 1) := by decide +kernel
theorem dX12_outcome_16 : decode cX12_outcome 16 = .ok (.goto 4, 3) := by decide +kernel
theorem dX12_outcome_19 : decode cX12_outcome 19 = .ok (.iconst 0, 1) := by decide +kernel
theorem dX12_outcome_20 : decode cX12_outcome 20 = .ok (.iconst 1, 1) := by decide +kernel
theorem dX12_outcome_21 : decode cX12_outcome 21 = .ok (.invokevirtual 558, 3) := by decide +kernel
theorem dX12_outcome_24 : decode cX12_outcome 24 = .ok (.ifCond .ne 55, 3) := by decide +kernel
theorem dX12_outcome_27 : decode cX12_outcome 27 = .ok (.aload_n 0, 1) := by decide +kernel
theorem dX12_outcome_28 : decode cX12_outcome 28 = .ok (.aload_n 0, 1) := by decide +kernel
theorem dX12_outcome_29 : decode cX12_outcome 29 = .ok (.getfield 254, 3) := by decide +kernel
theorem dX12_outcome_32 : decode cX12_outcome 32 = .ok (.iload_n 1, 1) := by decide +kernel
theorem dX12_outcome_33 : decode cX12_outcome 33 = .ok (.baload, 1) := by decide +kernel
theorem dX12_outcome_34 : decode cX12_outcome 34 = .ok (.ifCond .eq 33, 3) := by decide +kernel
theorem dX12_outcome_37 : decode cX12_outcome 37 = .ok (.iload_n 2, 1) := by decide +kernel
theorem dX12_outcome_38 : decode cX12_outcome 38 = .ok (.iconst 0, 1) := by decide +kernel
theorem dX12_outcome_39 : decode cX12_outcome 39 = .ok (.aload_n 0, 1) := by decide +kernel
theorem dX12_outcome_40 : decode cX12_outcome 40 = .ok (.getfield 266, 3) := by decide +kernel
theorem dX12_outcome_43 : decode cX12_outcome 43 = .ok (.iload_n 1, 1) := by decide +kernel
theorem dX12_outcome_44 : decode cX12_outcome 44 = .ok (.iaload, 1) := by decide +kernel
theorem dX12_outcome_45 : decode cX12_outcome 45 = .ok (.iconst 1, 1) := by decide +kernel
theorem dX12_outcome_46 : decode cX12_outcome 46 = .ok (.isub, 1) := by decide +kernel
theorem dX12_outcome_47 : decode cX12_outcome 47 = .ok (.invokestatic 322, 3) := by decide +kernel
theorem dX12_outcome_50 : decode cX12_outcome 50 = .ok (.ifCond .eq 17, 3) := by decide +kernel
theorem dX12_outcome_53 : decode cX12_outcome 53 = .ok (.iload_n 3, 1) := by decide +kernel
theorem dX12_outcome_54 : decode cX12_outcome 54 = .ok (.iconst 0, 1) := by decide +kernel
theorem dX12_outcome_55 : decode cX12_outcome 55 = .ok (.aload_n 0, 1) := by decide +kernel
theorem dX12_outcome_56 : decode cX12_outcome 56 = .ok (.getfield 448, 3) := by decide +kernel
theorem dX12_outcome_59 : decode cX12_outcome 59 = .ok (.iconst 1, 1) := by decide +kernel
theorem dX12_outcome_60 : decode cX12_outcome 60 = .ok (.isub, 1) := by decide +kernel
theorem dX12_outcome_61 : decode cX12_outcome 61 = .ok (.invokestatic 322, 3) := by decide +kernel
theorem dX12_outcome_64 : decode cX12_outcome 64 = .ok (.ifCond .ne 7, 3) := by decide +kernel
theorem dX12_outcome_67 : decode cX12_outcome 67 = .ok (.iconst 1, 1) := by decide +kernel
theorem dX12_outcome_68 : decode cX12_outcome 68 = .ok (.goto 4, 3) := by decide +kernel
theorem dX12_outcome_71 : decode cX12_outcome 71 = .ok (.iconst 0, 1) := by decide +kernel
theorem dX12_outcome_72 : decode cX12_outcome 72 = .ok (.iconst 2, 1) := by decide +kernel
theorem dX12_outcome_73 : decode cX12_outcome 73 = .ok (.invokevirtual 558, 3) := by decide +kernel
theorem dX12_outcome_76 : decode cX12_outcome 76 = .ok (.ifCond .eq 5, 3) := by decide +kernel
theorem dX12_outcome_79 : decode cX12_outcome 79 = .ok (.iconst 0, 1) := by decide +kernel
theorem dX12_outcome_80 : decode cX12_outcome 80 = .ok (.ireturn, 1) := by decide +kernel
theorem dX12_outcome_81 : decode cX12_outcome 81 = .ok (.aload_n 0, 1) := by decide +kernel
theorem dX12_outcome_82 : decode cX12_outcome 82 = .ok (.getfield 285, 3) := by decide +kernel
theorem dX12_outcome_85 : decode cX12_outcome 85 = .ok (.ldc_w 727, 3) := by decide +kernel
theorem dX12_outcome_88 : decode cX12_outcome 88 = .ok (.iload_n 1, 1) := by decide +kernel
theorem dX12_outcome_89 : decode cX12_outcome 89 = .ok (.imul, 1) := by decide +kernel
theorem dX12_outcome_90 : decode cX12_outcome 90 = .ok (.bipush 24, 2) := by decide +kernel
theorem dX12_outcome_92 : decode cX12_outcome 92 = .ok (.iload_n 2, 1) := by decide +kernel
theorem dX12_outcome_93 : decode cX12_outcome 93 = .ok (.imul, 1) := by decide +kernel
theorem dX12_outcome_94 : decode cX12_outcome 94 = .ok (.iadd, 1) := by decide +kernel
theorem dX12_outcome_95 : decode cX12_outcome 95 = .ok (.iload_n 3, 1) := by decide +kernel
theorem dX12_outcome_96 : decode cX12_outcome 96 = .ok (.iadd, 1) := by decide +kernel
theorem dX12_outcome_97 : decode cX12_outcome 97 = .ok (.iaload, 1) := by decide +kernel
theorem dX12_outcome_98 : decode cX12_outcome 98 = .ok (.ireturn, 1) := by decide +kernel
theorem dX12_finding_0 : decode cX12_finding 0 = .ok (.aload_n 0, 1) := by decide +kernel
theorem dX12_finding_1 : decode cX12_finding 1 = .ok (.iconst 0, 1) := by decide +kernel
theorem dX12_finding_2 : decode cX12_finding 2 = .ok (.putfield 316, 3) := by decide +kernel
theorem dX12_finding_5 : decode cX12_finding 5 = .ok (.aload_n 0, 1) := by decide +kernel
theorem dX12_finding_6 : decode cX12_finding 6 = .ok (.iload_n 1, 1) := by decide +kernel
theorem dX12_finding_7 : decode cX12_finding 7 = .ok (.iconst 0, 1) := by decide +kernel
theorem dX12_finding_8 : decode cX12_finding 8 = .ok (.iconst 1, 1) := by decide +kernel
theorem dX12_finding_9 : decode cX12_finding 9 = .ok (.invokestatic 322, 3) := by decide +kernel
theorem dX12_finding_12 : decode cX12_finding 12 = .ok (.ifCond .eq 13, 3) := by decide +kernel
theorem dX12_finding_15 : decode cX12_finding 15 = .ok (.iload_n 2, 1) := by decide +kernel
theorem dX12_finding_16 : decode cX12_finding 16 = .ok (.iconst 0, 1) := by decide +kernel
theorem dX12_finding_17 : decode cX12_finding 17 = .ok (.bipush 10, 2) := by decide +kernel
theorem dX12_finding_19 : decode cX12_finding 19 = .ok (.invokestatic 322, 3) := by decide +kernel
theorem dX12_finding_22 : decode cX12_finding 22 = .ok (.ifCond .ne 7, 3) := by decide +kernel
theorem dX12_finding_25 : decode cX12_finding 25 = .ok (.iconst 1, 1) := by decide +kernel
theorem dX12_finding_26 : decode cX12_finding 26 = .ok (.goto 4, 3) := by decide +kernel
theorem dX12_finding_29 : decode cX12_finding 29 = .ok (.iconst 0, 1) := by decide +kernel
theorem dX12_finding_30 : decode cX12_finding 30 = .ok (.iconst 1, 1) := by decide +kernel
theorem dX12_finding_31 : decode cX12_finding 31 = .ok (.invokevirtual 558, 3) := by decide +kernel
theorem dX12_finding_34 : decode cX12_finding 34 = .ok (.ifCond .eq 5, 3) := by decide +kernel
theorem dX12_finding_37 : decode cX12_finding 37 = .ok (.iconst 0, 1) := by decide +kernel
theorem dX12_finding_38 : decode cX12_finding 38 = .ok (.ireturn, 1) := by decide +kernel
theorem dX12_finding_39 : decode cX12_finding 39 = .ok (.aload_n 0, 1) := by decide +kernel
theorem dX12_finding_40 : decode cX12_finding 40 = .ok (.getfield 254, 3) := by decide +kernel
theorem dX12_finding_43 : decode cX12_finding 43 = .ok (.iload_n 1, 1) := by decide +kernel
theorem dX12_finding_44 : decode cX12_finding 44 = .ok (.baload, 1) := by decide +kernel
theorem dX12_finding_45 : decode cX12_finding 45 = .ok (.ifCond .eq 17, 3) := by decide +kernel
theorem dX12_finding_48 : decode cX12_finding 48 = .ok (.aload_n 0, 1) := by decide +kernel
theorem dX12_finding_49 : decode cX12_finding 49 = .ok (.getfield 275, 3) := by decide +kernel
theorem dX12_finding_52 : decode cX12_finding 52 = .ok (.bipush 11, 2) := by decide +kernel
theorem dX12_finding_54 : decode cX12_finding 54 = .ok (.iload_n 1, 1) := by decide +kernel
theorem dX12_finding_55 : decode cX12_finding 55 = .ok (.imul, 1) := by decide +kernel
theorem dX12_finding_56 : decode cX12_finding 56 = .ok (.iload_n 2, 1) := by decide +kernel
theorem dX12_finding_57 : decode cX12_finding 57 = .ok (.iadd, 1) := by decide +kernel
theorem dX12_finding_58 : decode cX12_finding 58 = .ok (.iaload, 1) := by decide +kernel
theorem dX12_finding_59 : decode cX12_finding 59 = .ok (.goto 4, 3) := by decide +kernel
theorem dX12_finding_62 : decode cX12_finding 62 = .ok (.iconst (-1), 1) := by decide +kernel
theorem dX12_finding_63 : decode cX12_finding 63 = .ok (.istore_n 3, 1) := by decide +kernel
theorem dX12_finding_64 : decode cX12_finding 64 = .ok (.iload_n 3, 1) := by decide +kernel
theorem dX12_finding_65 : decode cX12_finding 65 = .ok (.iconst (-1), 1) := by decide +kernel
theorem dX12_finding_66 : decode cX12_finding 66 = .ok (.if_icmp .ne 7, 3) := by decide +kernel
theorem dX12_finding_69 : decode cX12_finding 69 = .ok (.iconst (-1), 1) := by decide +kernel
theorem dX12_finding_70 : decode cX12_finding 70 = .ok (.goto 15, 3) := by decide +kernel
theorem dX12_finding_73 : decode cX12_finding 73 = .ok (.aload_n 0, 1) := by decide +kernel
theorem dX12_finding_74 : decode cX12_finding 74 = .ok (.getfield 294, 3) := by decide +kernel
theorem dX12_finding_77 : decode cX12_finding 77 = .ok (.sipush 3000, 3) := by decide +kernel
theorem dX12_finding_80 : decode cX12_finding 80 = .ok (.iload_n 1, 1) := by decide +kernel
theorem dX12_finding_81 : decode cX12_finding 81 = .ok (.imul, 1) := by decide +kernel
theorem dX12_finding_82 : decode cX12_finding 82 = .ok (.iload_n 3, 1) := by decide +kernel
theorem dX12_finding_83 : decode cX12_finding 83 = .ok (.iadd, 1) := by decide +kernel
theorem dX12_finding_84 : decode cX12_finding 84 = .ok (.iaload, 1) := by decide +kernel
theorem dX12_finding_85 : decode cX12_finding 85 = .ok (.ireturn, 1) := by decide +kernel
theorem dX12_show_0 : decode cX12_show 0 = .ok (.aload_n 0, 1) := by decide +kernel
theorem dX12_show_1 : decode cX12_show 1 = .ok (.iconst 0, 1) := by decide +kernel
theorem dX12_show_2 : decode cX12_show 2 = .ok (.putfield 316, 3) := by decide +kernel
theorem dX12_show_5 : decode cX12_show 5 = .ok (.aload_n 0, 1) := by decide +kernel
theorem dX12_show_6 : decode cX12_show 6 = .ok (.iload_n 1, 1) := by decide +kernel
theorem dX12_show_7 : decode cX12_show 7 = .ok (.iconst 0, 1) := by decide +kernel
theorem dX12_show_8 : decode cX12_show 8 = .ok (.iconst 1, 1) := by decide +kernel
theorem dX12_show_9 : decode cX12_show 9 = .ok (.invokestatic 322, 3) := by decide +kernel
theorem dX12_show_12 : decode cX12_show 12 = .ok (.ifCond .eq 13, 3) := by decide +kernel
theorem dX12_show_15 : decode cX12_show 15 = .ok (.iload_n 2, 1) := by decide +kernel
theorem dX12_show_16 : decode cX12_show 16 = .ok (.iconst 0, 1) := by decide +kernel
theorem dX12_show_17 : decode cX12_show 17 = .ok (.bipush 10, 2) := by decide +kernel
theorem dX12_show_19 : decode cX12_show 19 = .ok (.invokestatic 322, 3) := by decide +kernel
theorem dX12_show_22 : decode cX12_show 22 = .ok (.ifCond .ne 7, 3) := by decide +kernel
theorem dX12_show_25 : decode cX12_show 25 = .ok (.iconst 1, 1) := by decide +kernel
theorem dX12_show_26 : decode cX12_show 26 = .ok (.goto 4, 3) := by decide +kernel
theorem dX12_show_29 : decode cX12_show 29 = .ok (.iconst 0, 1) := by decide +kernel
theorem dX12_show_30 : decode cX12_show 30 = .ok (.iconst 1, 1) := by decide +kernel
theorem dX12_show_31 : decode cX12_show 31 = .ok (.invokevirtual 558, 3) := by decide +kernel
theorem dX12_show_34 : decode cX12_show 34 = .ok (.ifCond .eq 5, 3) := by decide +kernel
theorem dX12_show_37 : decode cX12_show 37 = .ok (.iconst 0, 1) := by decide +kernel
theorem dX12_show_38 : decode cX12_show 38 = .ok (.ireturn, 1) := by decide +kernel
theorem dX12_show_39 : decode cX12_show 39 = .ok (.aload_n 0, 1) := by decide +kernel
theorem dX12_show_40 : decode cX12_show 40 = .ok (.getfield 254, 3) := by decide +kernel
theorem dX12_show_43 : decode cX12_show 43 = .ok (.iload_n 1, 1) := by decide +kernel
theorem dX12_show_44 : decode cX12_show 44 = .ok (.baload, 1) := by decide +kernel
theorem dX12_show_45 : decode cX12_show 45 = .ok (.ifCond .eq 17, 3) := by decide +kernel
theorem dX12_show_48 : decode cX12_show 48 = .ok (.aload_n 0, 1) := by decide +kernel
theorem dX12_show_49 : decode cX12_show 49 = .ok (.getfield 275, 3) := by decide +kernel
theorem dX12_show_52 : decode cX12_show 52 = .ok (.bipush 11, 2) := by decide +kernel
theorem dX12_show_54 : decode cX12_show 54 = .ok (.iload_n 1, 1) := by decide +kernel
theorem dX12_show_55 : decode cX12_show 55 = .ok (.imul, 1) := by decide +kernel
theorem dX12_show_56 : decode cX12_show 56 = .ok (.iload_n 2, 1) := by decide +kernel
theorem dX12_show_57 : decode cX12_show 57 = .ok (.iadd, 1) := by decide +kernel
theorem dX12_show_58 : decode cX12_show 58 = .ok (.iaload, 1) := by decide +kernel
theorem dX12_show_59 : decode cX12_show 59 = .ok (.goto 4, 3) := by decide +kernel
theorem dX12_show_62 : decode cX12_show 62 = .ok (.iconst (-1), 1) := by decide +kernel
theorem dX12_show_63 : decode cX12_show 63 = .ok (.istore_n 3, 1) := by decide +kernel
theorem dX12_show_64 : decode cX12_show 64 = .ok (.aload_n 0, 1) := by decide +kernel
theorem dX12_show_65 : decode cX12_show 65 = .ok (.iload_n 3, 1) := by decide +kernel
theorem dX12_show_66 : decode cX12_show 66 = .ok (.iconst (-1), 1) := by decide +kernel
theorem dX12_show_67 : decode cX12_show 67 = .ok (.if_icmp .ne 7, 3) := by decide +kernel
theorem dX12_show_70 : decode cX12_show 70 = .ok (.iconst 1, 1) := by decide +kernel
theorem dX12_show_71 : decode cX12_show 71 = .ok (.goto 4, 3) := by decide +kernel
theorem dX12_show_74 : decode cX12_show 74 = .ok (.iconst 0, 1) := by decide +kernel
theorem dX12_show_75 : decode cX12_show 75 = .ok (.iconst 2, 1) := by decide +kernel
theorem dX12_show_76 : decode cX12_show 76 = .ok (.invokevirtual 558, 3) := by decide +kernel
theorem dX12_show_79 : decode cX12_show 79 = .ok (.ifCond .ne 34, 3) := by decide +kernel
theorem dX12_show_82 : decode cX12_show 82 = .ok (.aload_n 0, 1) := by decide +kernel
theorem dX12_show_83 : decode cX12_show 83 = .ok (.aload_n 0, 1) := by decide +kernel
theorem dX12_show_84 : decode cX12_show 84 = .ok (.getfield 294, 3) := by decide +kernel
theorem dX12_show_87 : decode cX12_show 87 = .ok (.sipush 3000, 3) := by decide +kernel
theorem dX12_show_90 : decode cX12_show 90 = .ok (.iload_n 1, 1) := by decide +kernel
theorem dX12_show_91 : decode cX12_show 91 = .ok (.imul, 1) := by decide +kernel
theorem dX12_show_92 : decode cX12_show 92 = .ok (.iload_n 3, 1) := by decide +kernel
theorem dX12_show_93 : decode cX12_show 93 = .ok (.iadd, 1) := by decide +kernel
theorem dX12_show_94 : decode cX12_show 94 = .ok (.iaload, 1) := by decide +kernel
theorem dX12_show_95 : decode cX12_show 95 = .ok (.sipush 400, 3) := by decide +kernel
theorem dX12_show_98 : decode cX12_show 98 = .ok (.if_icmp .le 7, 3) := by decide +kernel
theorem dX12_show_101 : decode cX12_show 101 = .ok (.iconst 1, 1) := by decide +kernel
theorem dX12_show_102 : decode cX12_show 102 = .ok (.goto 4, 3) := by decide +kernel
theorem dX12_show_105 : decode cX12_show 105 = .ok (.iconst 0, 1) := by decide +kernel
theorem dX12_show_106 : decode cX12_show 106 = .ok (.iconst 2, 1) := by decide +kernel
theorem dX12_show_107 : decode cX12_show 107 = .ok (.invokevirtual 558, 3) := by decide +kernel
theorem dX12_show_110 : decode cX12_show 110 = .ok (.ifCond .eq 5, 3) := by decide +kernel
theorem dX12_show_113 : decode cX12_show 113 = .ok (.iconst 0, 1) := by decide +kernel
theorem dX12_show_114 : decode cX12_show 114 = .ok (.ireturn, 1) := by decide +kernel
theorem dX12_show_115 : decode cX12_show 115 = .ok (.aload_n 0, 1) := by decide +kernel
theorem dX12_show_116 : decode cX12_show 116 = .ok (.getfield 294, 3) := by decide +kernel
theorem dX12_show_119 : decode cX12_show 119 = .ok (.sipush 3000, 3) := by decide +kernel
theorem dX12_show_122 : decode cX12_show 122 = .ok (.iload_n 1, 1) := by decide +kernel
theorem dX12_show_123 : decode cX12_show 123 = .ok (.imul, 1) := by decide +kernel
theorem dX12_show_124 : decode cX12_show 124 = .ok (.iload_n 3, 1) := by decide +kernel
theorem dX12_show_125 : decode cX12_show 125 = .ok (.iadd, 1) := by decide +kernel
theorem dX12_show_126 : decode cX12_show 126 = .ok (.iaload, 1) := by decide +kernel
theorem dX12_show_127 : decode cX12_show 127 = .ok (.istore 4, 2) := by decide +kernel
theorem dX12_show_129 : decode cX12_show 129 = .ok (.iload 4, 2) := by decide +kernel
theorem dX12_show_131 : decode cX12_show 131 = .ok (.iconst 1, 1) := by decide +kernel
theorem dX12_show_132 : decode cX12_show 132 = .ok (.isub, 1) := by decide +kernel
theorem dX12_show_133 : decode cX12_show 133 = .ok (.istore 5, 2) := by decide +kernel
theorem dX12_show_135 : decode cX12_show 135 = .ok (.iload 5, 2) := by decide +kernel
theorem dX12_show_137 : decode cX12_show 137 = .ok (.ifCond .lt 41, 3) := by decide +kernel
theorem dX12_show_140 : decode cX12_show 140 = .ok (.aload_n 0, 1) := by decide +kernel
theorem dX12_show_141 : decode cX12_show 141 = .ok (.getfield 310, 3) := by decide +kernel
theorem dX12_show_144 : decode cX12_show 144 = .ok (.iload 5, 2) := by decide +kernel
theorem dX12_show_146 : decode cX12_show 146 = .ok (.aload_n 0, 1) := by decide +kernel
theorem dX12_show_147 : decode cX12_show 147 = .ok (.getfield 291, 3) := by decide +kernel
theorem dX12_show_150 : decode cX12_show 150 = .ok (.sipush 3000, 3) := by decide +kernel
theorem dX12_show_153 : decode cX12_show 153 = .ok (.iload_n 1, 1) := by decide +kernel
theorem dX12_show_154 : decode cX12_show 154 = .ok (.imul, 1) := by decide +kernel
theorem dX12_show_155 : decode cX12_show 155 = .ok (.iload_n 3, 1) := by decide +kernel
theorem dX12_show_156 : decode cX12_show 156 = .ok (.iadd, 1) := by decide +kernel
theorem dX12_show_157 : decode cX12_show 157 = .ok (.iaload, 1) := by decide +kernel
theorem dX12_show_158 : decode cX12_show 158 = .ok (.iastore, 1) := by decide +kernel
theorem dX12_show_159 : decode cX12_show 159 = .ok (.aload_n 0, 1) := by decide +kernel
theorem dX12_show_160 : decode cX12_show 160 = .ok (.getfield 288, 3) := by decide +kernel
theorem dX12_show_163 : decode cX12_show 163 = .ok (.sipush 3000, 3) := by decide +kernel
theorem dX12_show_166 : decode cX12_show 166 = .ok (.iload_n 1, 1) := by decide +kernel
theorem dX12_show_167 : decode cX12_show 167 = .ok (.imul, 1) := by decide +kernel
theorem dX12_show_168 : decode cX12_show 168 = .ok (.iload_n 3, 1) := by decide +kernel
theorem dX12_show_169 : decode cX12_show 169 = .ok (.iadd, 1) := by decide +kernel
theorem dX12_show_170 : decode cX12_show 170 = .ok (.iaload, 1) := by decide +kernel
theorem dX12_show_171 : decode cX12_show 171 = .ok (.istore_n 3, 1) := by decide +kernel
theorem dX12_show_172 : decode cX12_show 172 = .ok (.iinc 5 (-1), 3) := by decide +kernel
theorem dX12_show_175 : decode cX12_show 175 = .ok (.goto (-40), 3) := by decide +kernel
theorem dX12_show_178 : decode cX12_show 178 = .ok (.aload_n 0, 1) := by decide +kernel
theorem dX12_show_179 : decode cX12_show 179 = .ok (.iload_n 1, 1) := by decide +kernel
theorem dX12_show_180 : decode cX12_show 180 = .ok (.invokevirtual 677, 3) := by decide +kernel
theorem dX12_show_183 : decode cX12_show 183 = .ok (.iconst 0, 1) := by decide +kernel
theorem dX12_show_184 : decode cX12_show 184 = .ok (.istore 5, 2) := by decide +kernel
theorem dX12_show_186 : decode cX12_show 186 = .ok (.iload 5, 2) := by decide +kernel
theorem dX12_show_188 : decode cX12_show 188 = .ok (.iload 4, 2) := by decide +kernel
theorem dX12_show_190 : decode cX12_show 190 = .ok (.if_icmp .ge 20, 3) := by decide +kernel
theorem dX12_show_193 : decode cX12_show 193 = .ok (.aload_n 0, 1) := by decide +kernel
theorem dX12_show_194 : decode cX12_show 194 = .ok (.aload_n 0, 1) := by decide +kernel
theorem dX12_show_195 : decode cX12_show 195 = .ok (.getfield 310, 3) := by decide +kernel
theorem dX12_show_198 : decode cX12_show 198 = .ok (.iload 5, 2) := by decide +kernel
theorem dX12_show_200 : decode cX12_show 200 = .ok (.iaload, 1) := by decide +kernel
theorem dX12_show_201 : decode cX12_show 201 = .ok (.invokevirtual 683, 3) := by decide +kernel
theorem dX12_show_204 : decode cX12_show 204 = .ok (.iinc 5 1, 3) := by decide +kernel
theorem dX12_show_207 : decode cX12_show 207 = .ok (.goto (-21), 3) := by decide +kernel
theorem dX12_show_210 : decode cX12_show 210 = .ok (.aload_n 0, 1) := by decide +kernel
theorem dX12_show_211 : decode cX12_show 211 = .ok (.getfield 644, 3) := by decide +kernel
theorem dX12_show_214 : decode cX12_show 214 = .ok (.ireturn, 1) := by decide +kernel
theorem dX12_common_0 : decode cX12_common 0 = .ok (.aload_n 0, 1) := by decide +kernel
theorem dX12_common_1 : decode cX12_common 1 = .ok (.iconst 0, 1) := by decide +kernel
theorem dX12_common_2 : decode cX12_common 2 = .ok (.putfield 316, 3) := by decide +kernel
theorem dX12_common_5 : decode cX12_common 5 = .ok (.aload_n 0, 1) := by decide +kernel
theorem dX12_common_6 : decode cX12_common 6 = .ok (.iload_n 1, 1) := by decide +kernel
theorem dX12_common_7 : decode cX12_common 7 = .ok (.iconst 0, 1) := by decide +kernel
theorem dX12_common_8 : decode cX12_common 8 = .ok (.iconst 1, 1) := by decide +kernel
theorem dX12_common_9 : decode cX12_common 9 = .ok (.invokestatic 322, 3) := by decide +kernel
theorem dX12_common_12 : decode cX12_common 12 = .ok (.ifCond .ne 7, 3) := by decide +kernel
theorem dX12_common_15 : decode cX12_common 15 = .ok (.iconst 1, 1) := by decide +kernel
theorem dX12_common_16 : decode cX12_common 16 = .ok (.goto 4, 3) := by decide +kernel
theorem dX12_common_19 : decode cX12_common 19 = .ok (.iconst 0, 1) := by decide +kernel
theorem dX12_common_20 : decode cX12_common 20 = .ok (.iconst 1, 1) := by decide +kernel
theorem dX12_common_21 : decode cX12_common 21 = .ok (.invokevirtual 558, 3) := by decide +kernel
theorem dX12_common_24 : decode cX12_common 24 = .ok (.ifCond .ne 30, 3) := by decide +kernel
theorem dX12_common_27 : decode cX12_common 27 = .ok (.aload_n 0, 1) := by decide +kernel
theorem dX12_common_28 : decode cX12_common 28 = .ok (.iload_n 2, 1) := by decide +kernel
theorem dX12_common_29 : decode cX12_common 29 = .ok (.iconst 0, 1) := by decide +kernel
theorem dX12_common_30 : decode cX12_common 30 = .ok (.aload_n 0, 1) := by decide +kernel
theorem dX12_common_31 : decode cX12_common 31 = .ok (.getfield 448, 3) := by decide +kernel
theorem dX12_common_34 : decode cX12_common 34 = .ok (.iconst 1, 1) := by decide +kernel
theorem dX12_common_35 : decode cX12_common 35 = .ok (.isub, 1) := by decide +kernel
theorem dX12_common_36 : decode cX12_common 36 = .ok (.invokestatic 322, 3) := by decide +kernel
theorem dX12_common_39 : decode cX12_common 39 = .ok (.ifCond .ne 7, 3) := by decide +kernel
theorem dX12_common_42 : decode cX12_common 42 = .ok (.iconst 1, 1) := by decide +kernel
theorem dX12_common_43 : decode cX12_common 43 = .ok (.goto 4, 3) := by decide +kernel
theorem dX12_common_46 : decode cX12_common 46 = .ok (.iconst 0, 1) := by decide +kernel
theorem dX12_common_47 : decode cX12_common 47 = .ok (.iconst 2, 1) := by decide +kernel
theorem dX12_common_48 : decode cX12_common 48 = .ok (.invokevirtual 558, 3) := by decide +kernel
theorem dX12_common_51 : decode cX12_common 51 = .ok (.ifCond .eq 5, 3) := by decide +kernel
theorem dX12_common_54 : decode cX12_common 54 = .ok (.iconst 0, 1) := by decide +kernel
theorem dX12_common_55 : decode cX12_common 55 = .ok (.ireturn, 1) := by decide +kernel
theorem dX12_common_56 : decode cX12_common 56 = .ok (.aload_n 0, 1) := by decide +kernel
theorem dX12_common_57 : decode cX12_common 57 = .ok (.getfield 254, 3) := by decide +kernel
theorem dX12_common_60 : decode cX12_common 60 = .ok (.iload_n 1, 1) := by decide +kernel
theorem dX12_common_61 : decode cX12_common 61 = .ok (.baload, 1) := by decide +kernel
theorem dX12_common_62 : decode cX12_common 62 = .ok (.ifCond .eq 17, 3) := by decide +kernel
theorem dX12_common_65 : decode cX12_common 65 = .ok (.aload_n 0, 1) := by decide +kernel
theorem dX12_common_66 : decode cX12_common 66 = .ok (.getfield 278, 3) := by decide +kernel
theorem dX12_common_69 : decode cX12_common 69 = .ok (.bipush 24, 2) := by decide +kernel
theorem dX12_common_71 : decode cX12_common 71 = .ok (.iload_n 1, 1) := by decide +kernel
theorem dX12_common_72 : decode cX12_common 72 = .ok (.imul, 1) := by decide +kernel
theorem dX12_common_73 : decode cX12_common 73 = .ok (.iload_n 2, 1) := by decide +kernel
theorem dX12_common_74 : decode cX12_common 74 = .ok (.iadd, 1) := by decide +kernel
theorem dX12_common_75 : decode cX12_common 75 = .ok (.iaload, 1) := by decide +kernel
theorem dX12_common_76 : decode cX12_common 76 = .ok (.goto 11, 3) := by decide +kernel
theorem dX12_common_79 : decode cX12_common 79 = .ok (.iconst 1, 1) := by decide +kernel
theorem dX12_common_80 : decode cX12_common 80 = .ok (.aload_n 0, 1) := by decide +kernel
theorem dX12_common_81 : decode cX12_common 81 = .ok (.getfield 458, 3) := by decide +kernel
theorem dX12_common_84 : decode cX12_common 84 = .ok (.ishl, 1) := by decide +kernel
theorem dX12_common_85 : decode cX12_common 85 = .ok (.iconst 1, 1) := by decide +kernel
theorem dX12_common_86 : decode cX12_common 86 = .ok (.isub, 1) := by decide +kernel
theorem dX12_common_87 : decode cX12_common 87 = .ok (.ireturn, 1) := by decide +kernel
theorem dX12_ring_0 : decode cX12_ring 0 = .ok (.aload_n 0, 1) := by decide +kernel
theorem dX12_ring_1 : decode cX12_ring 1 = .ok (.iconst 0, 1) := by decide +kernel
theorem dX12_ring_2 : decode cX12_ring 2 = .ok (.putfield 316, 3) := by decide +kernel
theorem dX12_ring_5 : decode cX12_ring 5 = .ok (.aload_n 0, 1) := by decide +kernel
theorem dX12_ring_6 : decode cX12_ring 6 = .ok (.iload_n 1, 1) := by decide +kernel
theorem dX12_ring_7 : decode cX12_ring 7 = .ok (.iconst 0, 1) := by decide +kernel
theorem dX12_ring_8 : decode cX12_ring 8 = .ok (.iconst 1, 1) := by decide +kernel
theorem dX12_ring_9 : decode cX12_ring 9 = .ok (.invokestatic 322, 3) := by decide +kernel
theorem dX12_ring_12 : decode cX12_ring 12 = .ok (.ifCond .ne 7, 3) := by decide +kernel
theorem dX12_ring_15 : decode cX12_ring 15 = .ok (.iconst 1, 1) := by decide +kernel
theorem dX12_ring_16 : decode cX12_ring 16 = .ok (.goto 4, 3) := by decide +kernel
theorem dX12_ring_19 : decode cX12_ring 19 = .ok (.iconst 0, 1) := by decide +kernel
theorem dX12_ring_20 : decode cX12_ring 20 = .ok (.iconst 1, 1) := by decide +kernel
theorem dX12_ring_21 : decode cX12_ring 21 = .ok (.invokevirtual 558, 3) := by decide +kernel
theorem dX12_ring_24 : decode cX12_ring 24 = .ok (.ifCond .ne 12, 3) := by decide +kernel
theorem dX12_ring_27 : decode cX12_ring 27 = .ok (.aload_n 0, 1) := by decide +kernel
theorem dX12_ring_28 : decode cX12_ring 28 = .ok (.getfield 254, 3) := by decide +kernel
theorem dX12_ring_31 : decode cX12_ring 31 = .ok (.iload_n 1, 1) := by decide +kernel
theorem dX12_ring_32 : decode cX12_ring 32 = .ok (.baload, 1) := by decide +kernel
theorem dX12_ring_33 : decode cX12_ring 33 = .ok (.ifCond .ne 5, 3) := by decide +kernel
theorem dX12_ring_36 : decode cX12_ring 36 = .ok (.iconst 0, 1) := by decide +kernel
theorem dX12_ring_37 : decode cX12_ring 37 = .ok (.ireturn, 1) := by decide +kernel
theorem dX12_ring_38 : decode cX12_ring 38 = .ok (.iconst 0, 1) := by decide +kernel
theorem dX12_ring_39 : decode cX12_ring 39 = .ok (.istore_n 2, 1) := by decide +kernel
theorem dX12_ring_40 : decode cX12_ring 40 = .ok (.iconst 0, 1) := by decide +kernel
theorem dX12_ring_41 : decode cX12_ring 41 = .ok (.istore_n 3, 1) := by decide +kernel
theorem dX12_ring_42 : decode cX12_ring 42 = .ok (.iload_n 3, 1) := by decide +kernel
theorem dX12_ring_43 : decode cX12_ring 43 = .ok (.aload_n 0, 1) := by decide +kernel
theorem dX12_ring_44 : decode cX12_ring 44 = .ok (.getfield 458, 3) := by decide +kernel
theorem dX12_ring_47 : decode cX12_ring 47 = .ok (.if_icmp .ge 209, 3) := by decide +kernel
theorem dX12_ring_50 : decode cX12_ring 50 = .ok (.iconst 0, 1) := by decide +kernel
theorem dX12_ring_51 : decode cX12_ring 51 = .ok (.istore 4, 2) := by decide +kernel
theorem dX12_ring_53 : decode cX12_ring 53 = .ok (.iload 4, 2) := by decide +kernel
theorem dX12_ring_55 : decode cX12_ring 55 = .ok (.aload_n 0, 1) := by decide +kernel
theorem dX12_ring_56 : decode cX12_ring 56 = .ok (.getfield 458, 3) := by decide +kernel
theorem dX12_ring_59 : decode cX12_ring 59 = .ok (.if_icmp .ge 17, 3) := by decide +kernel
theorem dX12_ring_62 : decode cX12_ring 62 = .ok (.aload_n 0, 1) := by decide +kernel
theorem dX12_ring_63 : decode cX12_ring 63 = .ok (.getfield 313, 3) := by decide +kernel
theorem dX12_ring_66 : decode cX12_ring 66 = .ok (.iload 4, 2) := by decide +kernel
theorem dX12_ring_68 : decode cX12_ring 68 = .ok (.iconst 0, 1) := by decide +kernel
theorem dX12_ring_69 : decode cX12_ring 69 = .ok (.iastore, 1) := by decide +kernel
theorem dX12_ring_70 : decode cX12_ring 70 = .ok (.iinc 4 1, 3) := by decide +kernel
theorem dX12_ring_73 : decode cX12_ring 73 = .ok (.goto (-20), 3) := by decide +kernel
theorem dX12_ring_76 : decode cX12_ring 76 = .ok (.iconst 1, 1) := by decide +kernel
theorem dX12_ring_77 : decode cX12_ring 77 = .ok (.istore 4, 2) := by decide +kernel
theorem dX12_ring_79 : decode cX12_ring 79 = .ok (.iload 4, 2) := by decide +kernel
theorem dX12_ring_81 : decode cX12_ring 81 = .ok (.aload_n 0, 1) := by decide +kernel
theorem dX12_ring_82 : decode cX12_ring 82 = .ok (.getfield 458, 3) := by decide +kernel
theorem dX12_ring_85 : decode cX12_ring 85 = .ok (.if_icmp .gt 131, 3) := by decide +kernel
theorem dX12_ring_88 : decode cX12_ring 88 = .ok (.iconst 0, 1) := by decide +kernel
theorem dX12_ring_89 : decode cX12_ring 89 = .ok (.istore 5, 2) := by decide +kernel
theorem dX12_ring_91 : decode cX12_ring 91 = .ok (.iload 5, 2) := by decide +kernel
theorem dX12_ring_93 : decode cX12_ring 93 = .ok (.aload_n 0, 1) := by decide +kernel
theorem dX12_ring_94 : decode cX12_ring 94 = .ok (.getfield 458, 3) := by decide +kernel
theorem dX12_ring_97 : decode cX12_ring 97 = .ok (.if_icmp .ge 113, 3) := by decide +kernel
theorem dX12_ring_100 : decode cX12_ring 100 = .ok (.iload 4, 2) := by decide +kernel
theorem dX12_ring_102 : decode cX12_ring 102 = .ok (.iconst 1, 1) := by decide +kernel
theorem dX12_ring_103 : decode cX12_ring 103 = .ok (.if_icmp .ne 17, 3) := by decide +kernel
theorem dX12_ring_106 : decode cX12_ring 106 = .ok (.iload 5, 2) := by decide +kernel
theorem dX12_ring_108 : decode cX12_ring 108 = .ok (.iload_n 3, 1) := by decide +kernel
theorem dX12_ring_109 : decode cX12_ring 109 = .ok (.if_icmp .ne 7, 3) := by decide +kernel
theorem dX12_ring_112 : decode cX12_ring 112 = .ok (.iconst 1, 1) := by decide +kernel
theorem dX12_ring_113 : decode cX12_ring 113 = .ok (.goto 26, 3) := by decide +kernel
theorem dX12_ring_116 : decode cX12_ring 116 = .ok (.iconst 0, 1) := by decide +kernel
theorem dX12_ring_117 : decode cX12_ring 117 = .ok (.goto 22, 3) := by decide +kernel
theorem dX12_ring_120 : decode cX12_ring 120 = .ok (.aload_n 0, 1) := by decide +kernel
theorem dX12_ring_121 : decode cX12_ring 121 = .ok (.getfield 313, 3) := by decide +kernel
theorem dX12_ring_124 : decode cX12_ring 124 = .ok (.iload 5, 2) := by decide +kernel
theorem dX12_ring_126 : decode cX12_ring 126 = .ok (.iaload, 1) := by decide +kernel
theorem dX12_ring_127 : decode cX12_ring 127 = .ok (.iload 4, 2) := by decide +kernel
theorem dX12_ring_129 : decode cX12_ring 129 = .ok (.iconst 1, 1) := by decide +kernel
theorem dX12_ring_130 : decode cX12_ring 130 = .ok (.isub, 1) := by decide +kernel
theorem dX12_ring_131 : decode cX12_ring 131 = .ok (.if_icmp .ne 7, 3) := by decide +kernel
theorem dX12_ring_134 : decode cX12_ring 134 = .ok (.iconst 1, 1) := by decide +kernel
theorem dX12_ring_135 : decode cX12_ring 135 = .ok (.goto 4, 3) := by decide +kernel
theorem dX12_ring_138 : decode cX12_ring 138 = .ok (.iconst 0, 1) := by decide +kernel
theorem dX12_ring_139 : decode cX12_ring 139 = .ok (.istore 6, 2) := by decide +kernel
theorem dX12_ring_141 : decode cX12_ring 141 = .ok (.iconst 0, 1) := by decide +kernel
theorem dX12_ring_142 : decode cX12_ring 142 = .ok (.istore 7, 2) := by decide +kernel
theorem dX12_ring_144 : decode cX12_ring 144 = .ok (.iload 7, 2) := by decide +kernel
theorem dX12_ring_146 : decode cX12_ring 146 = .ok (.aload_n 0, 1) := by decide +kernel
theorem dX12_ring_147 : decode cX12_ring 147 = .ok (.getfield 458, 3) := by decide +kernel
theorem dX12_ring_150 : decode cX12_ring 150 = .ok (.if_icmp .ge 54, 3) := by decide +kernel
theorem dX12_ring_153 : decode cX12_ring 153 = .ok (.iload 6, 2) := by decide +kernel
theorem dX12_ring_155 : decode cX12_ring 155 = .ok (.ifCond .eq 49, 3) := by decide +kernel
theorem dX12_ring_158 : decode cX12_ring 158 = .ok (.aload_n 0, 1) := by decide +kernel
theorem dX12_ring_159 : decode cX12_ring 159 = .ok (.getfield 281, 3) := by decide +kernel
theorem dX12_ring_162 : decode cX12_ring 162 = .ok (.bipush 36, 2) := by decide +kernel
theorem dX12_ring_164 : decode cX12_ring 164 = .ok (.iload_n 1, 1) := by decide +kernel
theorem dX12_ring_165 : decode cX12_ring 165 = .ok (.imul, 1) := by decide +kernel
theorem dX12_ring_166 : decode cX12_ring 166 = .ok (.bipush 6, 2) := by decide +kernel
theorem dX12_ring_168 : decode cX12_ring 168 = .ok (.iload 5, 2) := by decide +kernel
theorem dX12_ring_170 : decode cX12_ring 170 = .ok (.imul, 1) := by decide +kernel
theorem dX12_ring_171 : decode cX12_ring 171 = .ok (.iadd, 1) := by decide +kernel
theorem dX12_ring_172 : decode cX12_ring 172 = .ok (.iload 7, 2) := by decide +kernel
theorem dX12_ring_174 : decode cX12_ring 174 = .ok (.iadd, 1) := by decide +kernel
theorem dX12_ring_175 : decode cX12_ring 175 = .ok (.baload, 1) := by decide +kernel
theorem dX12_ring_176 : decode cX12_ring 176 = .ok (.ifCond .eq 22, 3) := by decide +kernel
theorem dX12_ring_179 : decode cX12_ring 179 = .ok (.aload_n 0, 1) := by decide +kernel
theorem dX12_ring_180 : decode cX12_ring 180 = .ok (.getfield 313, 3) := by decide +kernel
theorem dX12_ring_183 : decode cX12_ring 183 = .ok (.iload 7, 2) := by decide +kernel
theorem dX12_ring_185 : decode cX12_ring 185 = .ok (.iaload, 1) := by decide +kernel
theorem dX12_ring_186 : decode cX12_ring 186 = .ok (.ifCond .ne 12, 3) := by decide +kernel
theorem dX12_ring_189 : decode cX12_ring 189 = .ok (.aload_n 0, 1) := by decide +kernel
theorem dX12_ring_190 : decode cX12_ring 190 = .ok (.getfield 313, 3) := by decide +kernel
theorem dX12_ring_193 : decode cX12_ring 193 = .ok (.iload 7, 2) := by decide +kernel
theorem dX12_ring_195 : decode cX12_ring 195 = .ok (.iload 4, 2) := by decide +kernel
theorem dX12_ring_197 : decode cX12_ring 197 = .ok (.iastore, 1) := by decide +kernel
theorem dX12_ring_198 : decode cX12_ring 198 = .ok (.iinc 7 1, 3) := by decide +kernel
theorem dX12_ring_201 : decode cX12_ring 201 = .ok (.goto (-57), 3) := by decide +kernel
theorem dX12_ring_204 : decode cX12_ring 204 = .ok (.iinc 5 1, 3) := by decide +kernel
theorem dX12_ring_207 : decode cX12_ring 207 = .ok (.goto (-116), 3) := by decide +kernel
theorem dX12_ring_210 : decode cX12_ring 210 = .ok (.iinc 4 1, 3) := by decide +kernel
theorem dX12_ring_213 : decode cX12_ring 213 = .ok (.goto (-134), 3) := by decide +kernel
theorem dX12_ring_216 : decode cX12_ring 216 = .ok (.aload_n 0, 1) := by decide +kernel
theorem dX12_ring_217 : decode cX12_ring 217 = .ok (.getfield 313, 3) := by decide +kernel
theorem dX12_ring_220 : decode cX12_ring 220 = .ok (.iload_n 3, 1) := by decide +kernel
theorem dX12_ring_221 : decode cX12_ring 221 = .ok (.iaload, 1) := by decide +kernel
theorem dX12_ring_222 : decode cX12_ring 222 = .ok (.ifCond .le 26, 3) := by decide +kernel
theorem dX12_ring_225 : decode cX12_ring 225 = .ok (.iload_n 2, 1) := by decide +kernel
theorem dX12_ring_226 : decode cX12_ring 226 = .ok (.ifCond .eq 13, 3) := by decide +kernel
theorem dX12_ring_229 : decode cX12_ring 229 = .ok (.aload_n 0, 1) := by decide +kernel
theorem dX12_ring_230 : decode cX12_ring 230 = .ok (.getfield 313, 3) := by decide +kernel
theorem dX12_ring_233 : decode cX12_ring 233 = .ok (.iload_n 3, 1) := by decide +kernel
theorem dX12_ring_234 : decode cX12_ring 234 = .ok (.iaload, 1) := by decide +kernel
theorem dX12_ring_235 : decode cX12_ring 235 = .ok (.iload_n 2, 1) := by decide +kernel
theorem dX12_ring_236 : decode cX12_ring 236 = .ok (.if_icmp .ge 12, 3) := by decide +kernel
theorem dX12_ring_239 : decode cX12_ring 239 = .ok (.aload_n 0, 1) := by decide +kernel
theorem dX12_ring_240 : decode cX12_ring 240 = .ok (.getfield 313, 3) := by decide +kernel
theorem dX12_ring_243 : decode cX12_ring 243 = .ok (.iload_n 3, 1) := by decide +kernel
theorem dX12_ring_244 : decode cX12_ring 244 = .ok (.iaload, 1) := by decide +kernel
theorem dX12_ring_245 : decode cX12_ring 245 = .ok (.goto 4, 3) := by decide +kernel
theorem dX12_ring_248 : decode cX12_ring 248 = .ok (.iload_n 2, 1) := by decide +kernel
theorem dX12_ring_249 : decode cX12_ring 249 = .ok (.istore_n 2, 1) := by decide +kernel
theorem dX12_ring_250 : decode cX12_ring 250 = .ok (.iinc 3 1, 3) := by decide +kernel
theorem dX12_ring_253 : decode cX12_ring 253 = .ok (.goto (-211), 3) := by decide +kernel
theorem dX12_ring_256 : decode cX12_ring 256 = .ok (.iload_n 2, 1) := by decide +kernel
theorem dX12_ring_257 : decode cX12_ring 257 = .ok (.ireturn, 1) := by decide +kernel
theorem dX12_alike_0 : decode cX12_alike 0 = .ok (.aload_n 0, 1) := by decide +kernel
theorem dX12_alike_1 : decode cX12_alike 1 = .ok (.iconst 0, 1) := by decide +kernel
theorem dX12_alike_2 : decode cX12_alike 2 = .ok (.putfield 316, 3) := by decide +kernel
theorem dX12_alike_5 : decode cX12_alike 5 = .ok (.aload_n 0, 1) := by decide +kernel
theorem dX12_alike_6 : decode cX12_alike 6 = .ok (.getfield 254, 3) := by decide +kernel
theorem dX12_alike_9 : decode cX12_alike 9 = .ok (.iconst 0, 1) := by decide +kernel
theorem dX12_alike_10 : decode cX12_alike 10 = .ok (.baload, 1) := by decide +kernel
theorem dX12_alike_11 : decode cX12_alike 11 = .ok (.ifCond .eq 30, 3) := by decide +kernel
theorem dX12_alike_14 : decode cX12_alike 14 = .ok (.aload_n 0, 1) := by decide +kernel
theorem dX12_alike_15 : decode cX12_alike 15 = .ok (.getfield 254, 3) := by decide +kernel
theorem dX12_alike_18 : decode cX12_alike 18 = .ok (.iconst 1, 1) := by decide +kernel
theorem dX12_alike_19 : decode cX12_alike 19 = .ok (.baload, 1) := by decide +kernel
theorem dX12_alike_20 : decode cX12_alike 20 = .ok (.ifCond .eq 21, 3) := by decide +kernel
theorem dX12_alike_23 : decode cX12_alike 23 = .ok (.aload_n 0, 1) := by decide +kernel
theorem dX12_alike_24 : decode cX12_alike 24 = .ok (.getfield 260, 3) := by decide +kernel
theorem dX12_alike_27 : decode cX12_alike 27 = .ok (.iconst 0, 1) := by decide +kernel
theorem dX12_alike_28 : decode cX12_alike 28 = .ok (.baload, 1) := by decide +kernel
theorem dX12_alike_29 : decode cX12_alike 29 = .ok (.ifCond .ne 12, 3) := by decide +kernel
theorem dX12_alike_32 : decode cX12_alike 32 = .ok (.aload_n 0, 1) := by decide +kernel
theorem dX12_alike_33 : decode cX12_alike 33 = .ok (.getfield 260, 3) := by decide +kernel
theorem dX12_alike_36 : decode cX12_alike 36 = .ok (.iconst 1, 1) := by decide +kernel
theorem dX12_alike_37 : decode cX12_alike 37 = .ok (.baload, 1) := by decide +kernel
theorem dX12_alike_38 : decode cX12_alike 38 = .ok (.ifCond .eq 5, 3) := by decide +kernel
theorem dX12_alike_41 : decode cX12_alike 41 = .ok (.iconst (-1), 1) := by decide +kernel
theorem dX12_alike_42 : decode cX12_alike 42 = .ok (.ireturn, 1) := by decide +kernel
theorem dX12_alike_43 : decode cX12_alike 43 = .ok (.aload_n 0, 1) := by decide +kernel
theorem dX12_alike_44 : decode cX12_alike 44 = .ok (.getfield 266, 3) := by decide +kernel
theorem dX12_alike_47 : decode cX12_alike 47 = .ok (.iconst 0, 1) := by decide +kernel
theorem dX12_alike_48 : decode cX12_alike 48 = .ok (.iaload, 1) := by decide +kernel
theorem dX12_alike_49 : decode cX12_alike 49 = .ok (.aload_n 0, 1) := by decide +kernel
theorem dX12_alike_50 : decode cX12_alike 50 = .ok (.getfield 266, 3) := by decide +kernel
theorem dX12_alike_53 : decode cX12_alike 53 = .ok (.iconst 1, 1) := by decide +kernel
theorem dX12_alike_54 : decode cX12_alike 54 = .ok (.iaload, 1) := by decide +kernel
theorem dX12_alike_55 : decode cX12_alike 55 = .ok (.if_icmp .eq 5, 3) := by decide +kernel
theorem dX12_alike_58 : decode cX12_alike 58 = .ok (.iconst 0, 1) := by decide +kernel
theorem dX12_alike_59 : decode cX12_alike 59 = .ok (.ireturn, 1) := by decide +kernel
theorem dX12_alike_60 : decode cX12_alike 60 = .ok (.iconst 0, 1) := by decide +kernel
theorem dX12_alike_61 : decode cX12_alike 61 = .ok (.istore_n 1, 1) := by decide +kernel
theorem dX12_alike_62 : decode cX12_alike 62 = .ok (.iload_n 1, 1) := by decide +kernel
theorem dX12_alike_63 : decode cX12_alike 63 = .ok (.bipush 24, 2) := by decide +kernel
theorem dX12_alike_65 : decode cX12_alike 65 = .ok (.aload_n 0, 1) := by decide +kernel
theorem dX12_alike_66 : decode cX12_alike 66 = .ok (.getfield 266, 3) := by decide +kernel
theorem dX12_alike_69 : decode cX12_alike 69 = .ok (.iconst 0, 1) := by decide +kernel
theorem dX12_alike_70 : decode cX12_alike 70 = .ok (.iaload, 1) := by decide +kernel
theorem dX12_alike_71 : decode cX12_alike 71 = .ok (.imul, 1) := by decide +kernel
theorem dX12_alike_72 : decode cX12_alike 72 = .ok (.if_icmp .ge 30, 3) := by decide +kernel
theorem dX12_alike_75 : decode cX12_alike 75 = .ok (.aload_n 0, 1) := by decide +kernel
theorem dX12_alike_76 : decode cX12_alike 76 = .ok (.getfield 285, 3) := by decide +kernel
theorem dX12_alike_79 : decode cX12_alike 79 = .ok (.iload_n 1, 1) := by decide +kernel
theorem dX12_alike_80 : decode cX12_alike 80 = .ok (.iaload, 1) := by decide +kernel
theorem dX12_alike_81 : decode cX12_alike 81 = .ok (.aload_n 0, 1) := by decide +kernel
theorem dX12_alike_82 : decode cX12_alike 82 = .ok (.getfield 285, 3) := by decide +kernel
theorem dX12_alike_85 : decode cX12_alike 85 = .ok (.ldc_w 727, 3) := by decide +kernel
theorem dX12_alike_88 : decode cX12_alike 88 = .ok (.iload_n 1, 1) := by decide +kernel
theorem dX12_alike_89 : decode cX12_alike 89 = .ok (.iadd, 1) := by decide +kernel
theorem dX12_alike_90 : decode cX12_alike 90 = .ok (.iaload, 1) := by decide +kernel
theorem dX12_alike_91 : decode cX12_alike 91 = .ok (.if_icmp .eq 5, 3) := by decide +kernel
theorem dX12_alike_94 : decode cX12_alike 94 = .ok (.iconst 0, 1) := by decide +kernel
theorem dX12_alike_95 : decode cX12_alike 95 = .ok (.ireturn, 1) := by decide +kernel
theorem dX12_alike_96 : decode cX12_alike 96 = .ok (.iinc 1 1, 3) := by decide +kernel
theorem dX12_alike_99 : decode cX12_alike 99 = .ok (.goto (-37), 3) := by decide +kernel
theorem dX12_alike_102 : decode cX12_alike 102 = .ok (.iconst 1, 1) := by decide +kernel
theorem dX12_alike_103 : decode cX12_alike 103 = .ok (.ireturn, 1) := by decide +kernel
