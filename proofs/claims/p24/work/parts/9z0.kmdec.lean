set_option maxRecDepth 100000 in
theorem dmi_0 : decode cX12_init 0 = .ok (.aload_n 0, 1) := by decide +kernel
set_option maxRecDepth 100000 in
theorem dmi_1 : decode cX12_init 1 = .ok (.invokespecial 1, 3) := by decide +kernel
set_option maxRecDepth 100000 in
theorem dmi_4 : decode cX12_init 4 = .ok (.aload_n 0, 1) := by decide +kernel
set_option maxRecDepth 100000 in
theorem dmi_5 : decode cX12_init 5 = .ok (.sipush 3000, 3) := by decide +kernel
set_option maxRecDepth 100000 in
theorem dmi_8 : decode cX12_init 8 = .ok (.newarray .byte, 2) := by decide +kernel
set_option maxRecDepth 100000 in
theorem dmi_10 : decode cX12_init 10 = .ok (.putfield 7, 3) := by decide +kernel
set_option maxRecDepth 100000 in
theorem dmi_13 : decode cX12_init 13 = .ok (.aload_n 0, 1) := by decide +kernel
set_option maxRecDepth 100000 in
theorem dmi_14 : decode cX12_init 14 = .ok (.sipush 710, 3) := by decide +kernel
set_option maxRecDepth 100000 in
theorem dmi_17 : decode cX12_init 17 = .ok (.newarray .int, 2) := by decide +kernel
set_option maxRecDepth 100000 in
theorem dmi_19 : decode cX12_init 19 = .ok (.putfield 13, 3) := by decide +kernel
set_option maxRecDepth 100000 in
theorem dmi_22 : decode cX12_init 22 = .ok (.aload_n 0, 1) := by decide +kernel
set_option maxRecDepth 100000 in
theorem dmi_23 : decode cX12_init 23 = .ok (.sipush 710, 3) := by decide +kernel
set_option maxRecDepth 100000 in
theorem dmi_26 : decode cX12_init 26 = .ok (.newarray .int, 2) := by decide +kernel
set_option maxRecDepth 100000 in
theorem dmi_28 : decode cX12_init 28 = .ok (.putfield 17, 3) := by decide +kernel
set_option maxRecDepth 100000 in
theorem dmi_31 : decode cX12_init 31 = .ok (.aload_n 0, 1) := by decide +kernel
set_option maxRecDepth 100000 in
theorem dmi_32 : decode cX12_init 32 = .ok (.sipush 710, 3) := by decide +kernel
set_option maxRecDepth 100000 in
theorem dmi_35 : decode cX12_init 35 = .ok (.newarray .int, 2) := by decide +kernel
set_option maxRecDepth 100000 in
theorem dmi_37 : decode cX12_init 37 = .ok (.putfield 20, 3) := by decide +kernel
set_option maxRecDepth 100000 in
theorem dmi_40 : decode cX12_init 40 = .ok (.aload_n 0, 1) := by decide +kernel
set_option maxRecDepth 100000 in
theorem dmi_41 : decode cX12_init 41 = .ok (.sipush 710, 3) := by decide +kernel
set_option maxRecDepth 100000 in
theorem dmi_44 : decode cX12_init 44 = .ok (.newarray .int, 2) := by decide +kernel
set_option maxRecDepth 100000 in
theorem dmi_46 : decode cX12_init 46 = .ok (.putfield 23, 3) := by decide +kernel
set_option maxRecDepth 100000 in
theorem dmi_49 : decode cX12_init 49 = .ok (.aload_n 0, 1) := by decide +kernel
set_option maxRecDepth 100000 in
theorem dmi_50 : decode cX12_init 50 = .ok (.iconst (-1), 1) := by decide +kernel
set_option maxRecDepth 100000 in
theorem dmi_51 : decode cX12_init 51 = .ok (.putfield 26, 3) := by decide +kernel
set_option maxRecDepth 100000 in
theorem dmi_54 : decode cX12_init 54 = .ok (.aload_n 0, 1) := by decide +kernel
set_option maxRecDepth 100000 in
theorem dmi_55 : decode cX12_init 55 = .ok (.iconst (-1), 1) := by decide +kernel
set_option maxRecDepth 100000 in
theorem dmi_56 : decode cX12_init 56 = .ok (.putfield 30, 3) := by decide +kernel
set_option maxRecDepth 100000 in
theorem dmi_59 : decode cX12_init 59 = .ok (.aload_n 0, 1) := by decide +kernel
set_option maxRecDepth 100000 in
theorem dmi_60 : decode cX12_init 60 = .ok (.sipush 3000, 3) := by decide +kernel
set_option maxRecDepth 100000 in
theorem dmi_63 : decode cX12_init 63 = .ok (.newarray .int, 2) := by decide +kernel
set_option maxRecDepth 100000 in
theorem dmi_65 : decode cX12_init 65 = .ok (.putfield 33, 3) := by decide +kernel
set_option maxRecDepth 100000 in
theorem dmi_68 : decode cX12_init 68 = .ok (.aload_n 0, 1) := by decide +kernel
set_option maxRecDepth 100000 in
theorem dmi_69 : decode cX12_init 69 = .ok (.sipush 3000, 3) := by decide +kernel
set_option maxRecDepth 100000 in
theorem dmi_72 : decode cX12_init 72 = .ok (.newarray .int, 2) := by decide +kernel
set_option maxRecDepth 100000 in
theorem dmi_74 : decode cX12_init 74 = .ok (.putfield 36, 3) := by decide +kernel
set_option maxRecDepth 100000 in
theorem dmi_77 : decode cX12_init 77 = .ok (.aload_n 0, 1) := by decide +kernel
set_option maxRecDepth 100000 in
theorem dmi_78 : decode cX12_init 78 = .ok (.sipush 3000, 3) := by decide +kernel
set_option maxRecDepth 100000 in
theorem dmi_81 : decode cX12_init 81 = .ok (.newarray .int, 2) := by decide +kernel
set_option maxRecDepth 100000 in
theorem dmi_83 : decode cX12_init 83 = .ok (.putfield 39, 3) := by decide +kernel
set_option maxRecDepth 100000 in
theorem dmi_86 : decode cX12_init 86 = .ok (.aload_n 0, 1) := by decide +kernel
set_option maxRecDepth 100000 in
theorem dmi_87 : decode cX12_init 87 = .ok (.sipush 3000, 3) := by decide +kernel
set_option maxRecDepth 100000 in
theorem dmi_90 : decode cX12_init 90 = .ok (.newarray .int, 2) := by decide +kernel
set_option maxRecDepth 100000 in
theorem dmi_92 : decode cX12_init 92 = .ok (.putfield 42, 3) := by decide +kernel
set_option maxRecDepth 100000 in
theorem dmi_95 : decode cX12_init 95 = .ok (.aload_n 0, 1) := by decide +kernel
set_option maxRecDepth 100000 in
theorem dmi_96 : decode cX12_init 96 = .ok (.sipush 3000, 3) := by decide +kernel
set_option maxRecDepth 100000 in
theorem dmi_99 : decode cX12_init 99 = .ok (.newarray .int, 2) := by decide +kernel
set_option maxRecDepth 100000 in
theorem dmi_101 : decode cX12_init 101 = .ok (.putfield 45, 3) := by decide +kernel
set_option maxRecDepth 100000 in
theorem dmi_104 : decode cX12_init 104 = .ok (.aload_n 0, 1) := by decide +kernel
set_option maxRecDepth 100000 in
theorem dmi_105 : decode cX12_init 105 = .ok (.sipush 3000, 3) := by decide +kernel
set_option maxRecDepth 100000 in
theorem dmi_108 : decode cX12_init 108 = .ok (.newarray .int, 2) := by decide +kernel
set_option maxRecDepth 100000 in
theorem dmi_110 : decode cX12_init 110 = .ok (.putfield 48, 3) := by decide +kernel
set_option maxRecDepth 100000 in
theorem dmi_113 : decode cX12_init 113 = .ok (.aload_n 0, 1) := by decide +kernel
set_option maxRecDepth 100000 in
theorem dmi_114 : decode cX12_init 114 = .ok (.bipush 40, 2) := by decide +kernel
set_option maxRecDepth 100000 in
theorem dmi_116 : decode cX12_init 116 = .ok (.newarray .int, 2) := by decide +kernel
set_option maxRecDepth 100000 in
theorem dmi_118 : decode cX12_init 118 = .ok (.putfield 51, 3) := by decide +kernel
set_option maxRecDepth 100000 in
theorem dmi_121 : decode cX12_init 121 = .ok (.aload_n 0, 1) := by decide +kernel
set_option maxRecDepth 100000 in
theorem dmi_122 : decode cX12_init 122 = .ok (.bipush 40, 2) := by decide +kernel
set_option maxRecDepth 100000 in
theorem dmi_124 : decode cX12_init 124 = .ok (.newarray .int, 2) := by decide +kernel
set_option maxRecDepth 100000 in
theorem dmi_126 : decode cX12_init 126 = .ok (.putfield 54, 3) := by decide +kernel
set_option maxRecDepth 100000 in
theorem dmi_129 : decode cX12_init 129 = .ok (.aload_n 0, 1) := by decide +kernel
set_option maxRecDepth 100000 in
theorem dmi_130 : decode cX12_init 130 = .ok (.bipush 40, 2) := by decide +kernel
set_option maxRecDepth 100000 in
theorem dmi_132 : decode cX12_init 132 = .ok (.newarray .int, 2) := by decide +kernel
set_option maxRecDepth 100000 in
theorem dmi_134 : decode cX12_init 134 = .ok (.putfield 57, 3) := by decide +kernel
set_option maxRecDepth 100000 in
theorem dmi_137 : decode cX12_init 137 = .ok (.aload_n 0, 1) := by decide +kernel
set_option maxRecDepth 100000 in
theorem dmi_138 : decode cX12_init 138 = .ok (.bipush 40, 2) := by decide +kernel
set_option maxRecDepth 100000 in
theorem dmi_140 : decode cX12_init 140 = .ok (.newarray .int, 2) := by decide +kernel
set_option maxRecDepth 100000 in
theorem dmi_142 : decode cX12_init 142 = .ok (.putfield 60, 3) := by decide +kernel
set_option maxRecDepth 100000 in
theorem dmi_145 : decode cX12_init 145 = .ok (.aload_n 0, 1) := by decide +kernel
set_option maxRecDepth 100000 in
theorem dmi_146 : decode cX12_init 146 = .ok (.bipush 40, 2) := by decide +kernel
set_option maxRecDepth 100000 in
theorem dmi_148 : decode cX12_init 148 = .ok (.newarray .boolean, 2) := by decide +kernel
set_option maxRecDepth 100000 in
theorem dmi_150 : decode cX12_init 150 = .ok (.putfield 63, 3) := by decide +kernel
set_option maxRecDepth 100000 in
theorem dmi_153 : decode cX12_init 153 = .ok (.aload_n 0, 1) := by decide +kernel
set_option maxRecDepth 100000 in
theorem dmi_154 : decode cX12_init 154 = .ok (.bipush 40, 2) := by decide +kernel
set_option maxRecDepth 100000 in
theorem dmi_156 : decode cX12_init 156 = .ok (.newarray .int, 2) := by decide +kernel
set_option maxRecDepth 100000 in
theorem dmi_158 : decode cX12_init 158 = .ok (.putfield 67, 3) := by decide +kernel
set_option maxRecDepth 100000 in
theorem dmi_161 : decode cX12_init 161 = .ok (.aload_n 0, 1) := by decide +kernel
set_option maxRecDepth 100000 in
theorem dmi_162 : decode cX12_init 162 = .ok (.bipush 24, 2) := by decide +kernel
set_option maxRecDepth 100000 in
theorem dmi_164 : decode cX12_init 164 = .ok (.newarray .int, 2) := by decide +kernel
set_option maxRecDepth 100000 in
theorem dmi_166 : decode cX12_init 166 = .ok (.putfield 70, 3) := by decide +kernel
set_option maxRecDepth 100000 in
theorem dmi_169 : decode cX12_init 169 = .ok (.aload_n 0, 1) := by decide +kernel
set_option maxRecDepth 100000 in
theorem dmi_170 : decode cX12_init 170 = .ok (.bipush 24, 2) := by decide +kernel
set_option maxRecDepth 100000 in
theorem dmi_172 : decode cX12_init 172 = .ok (.newarray .boolean, 2) := by decide +kernel
set_option maxRecDepth 100000 in
theorem dmi_174 : decode cX12_init 174 = .ok (.putfield 73, 3) := by decide +kernel
set_option maxRecDepth 100000 in
theorem dmi_177 : decode cX12_init 177 = .ok (.aload_n 0, 1) := by decide +kernel
set_option maxRecDepth 100000 in
theorem dmi_178 : decode cX12_init 178 = .ok (.bipush 6, 2) := by decide +kernel
set_option maxRecDepth 100000 in
theorem dmi_180 : decode cX12_init 180 = .ok (.newarray .boolean, 2) := by decide +kernel
set_option maxRecDepth 100000 in
theorem dmi_182 : decode cX12_init 182 = .ok (.putfield 76, 3) := by decide +kernel
set_option maxRecDepth 100000 in
theorem dmi_185 : decode cX12_init 185 = .ok (.aload_n 0, 1) := by decide +kernel
set_option maxRecDepth 100000 in
theorem dmi_186 : decode cX12_init 186 = .ok (.bipush 6, 2) := by decide +kernel
set_option maxRecDepth 100000 in
theorem dmi_188 : decode cX12_init 188 = .ok (.newarray .int, 2) := by decide +kernel
set_option maxRecDepth 100000 in
theorem dmi_190 : decode cX12_init 190 = .ok (.putfield 79, 3) := by decide +kernel
set_option maxRecDepth 100000 in
theorem dmi_193 : decode cX12_init 193 = .ok (.aload_n 0, 1) := by decide +kernel
set_option maxRecDepth 100000 in
theorem dmi_194 : decode cX12_init 194 = .ok (.iconst 4, 1) := by decide +kernel
set_option maxRecDepth 100000 in
theorem dmi_195 : decode cX12_init 195 = .ok (.newarray .int, 2) := by decide +kernel
set_option maxRecDepth 100000 in
theorem dmi_197 : decode cX12_init 197 = .ok (.putfield 82, 3) := by decide +kernel
set_option maxRecDepth 100000 in
theorem dmi_200 : decode cX12_init 200 = .ok (.aload_n 0, 1) := by decide +kernel
set_option maxRecDepth 100000 in
theorem dmi_201 : decode cX12_init 201 = .ok (.iconst 4, 1) := by decide +kernel
set_option maxRecDepth 100000 in
theorem dmi_202 : decode cX12_init 202 = .ok (.newarray .int, 2) := by decide +kernel
set_option maxRecDepth 100000 in
theorem dmi_204 : decode cX12_init 204 = .ok (.putfield 85, 3) := by decide +kernel
set_option maxRecDepth 100000 in
theorem dmi_207 : decode cX12_init 207 = .ok (.aload_n 0, 1) := by decide +kernel
set_option maxRecDepth 100000 in
theorem dmi_208 : decode cX12_init 208 = .ok (.bipush 40, 2) := by decide +kernel
set_option maxRecDepth 100000 in
theorem dmi_210 : decode cX12_init 210 = .ok (.newarray .int, 2) := by decide +kernel
set_option maxRecDepth 100000 in
theorem dmi_212 : decode cX12_init 212 = .ok (.putfield 88, 3) := by decide +kernel
set_option maxRecDepth 100000 in
theorem dmi_215 : decode cX12_init 215 = .ok (.aload_n 0, 1) := by decide +kernel
set_option maxRecDepth 100000 in
theorem dmi_216 : decode cX12_init 216 = .ok (.bipush 40, 2) := by decide +kernel
set_option maxRecDepth 100000 in
theorem dmi_218 : decode cX12_init 218 = .ok (.newarray .int, 2) := by decide +kernel
set_option maxRecDepth 100000 in
theorem dmi_220 : decode cX12_init 220 = .ok (.putfield 91, 3) := by decide +kernel
set_option maxRecDepth 100000 in
theorem dmi_223 : decode cX12_init 223 = .ok (.aload_n 0, 1) := by decide +kernel
set_option maxRecDepth 100000 in
theorem dmi_224 : decode cX12_init 224 = .ok (.bipush 40, 2) := by decide +kernel
set_option maxRecDepth 100000 in
theorem dmi_226 : decode cX12_init 226 = .ok (.newarray .int, 2) := by decide +kernel
set_option maxRecDepth 100000 in
theorem dmi_228 : decode cX12_init 228 = .ok (.putfield 94, 3) := by decide +kernel
set_option maxRecDepth 100000 in
theorem dmi_231 : decode cX12_init 231 = .ok (.aload_n 0, 1) := by decide +kernel
set_option maxRecDepth 100000 in
theorem dmi_232 : decode cX12_init 232 = .ok (.sipush 6000, 3) := by decide +kernel
set_option maxRecDepth 100000 in
theorem dmi_235 : decode cX12_init 235 = .ok (.newarray .int, 2) := by decide +kernel
set_option maxRecDepth 100000 in
theorem dmi_237 : decode cX12_init 237 = .ok (.putfield 97, 3) := by decide +kernel
set_option maxRecDepth 100000 in
theorem dmi_240 : decode cX12_init 240 = .ok (.aload_n 0, 1) := by decide +kernel
set_option maxRecDepth 100000 in
theorem dmi_241 : decode cX12_init 241 = .ok (.sipush 6000, 3) := by decide +kernel
set_option maxRecDepth 100000 in
theorem dmi_244 : decode cX12_init 244 = .ok (.newarray .int, 2) := by decide +kernel
set_option maxRecDepth 100000 in
theorem dmi_246 : decode cX12_init 246 = .ok (.putfield 100, 3) := by decide +kernel
set_option maxRecDepth 100000 in
theorem dmi_249 : decode cX12_init 249 = .ok (.aload_n 0, 1) := by decide +kernel
set_option maxRecDepth 100000 in
theorem dmi_250 : decode cX12_init 250 = .ok (.sipush 1500, 3) := by decide +kernel
set_option maxRecDepth 100000 in
theorem dmi_253 : decode cX12_init 253 = .ok (.newarray .int, 2) := by decide +kernel
set_option maxRecDepth 100000 in
theorem dmi_255 : decode cX12_init 255 = .ok (.putfield 103, 3) := by decide +kernel
set_option maxRecDepth 100000 in
theorem dmi_258 : decode cX12_init 258 = .ok (.aload_n 0, 1) := by decide +kernel
set_option maxRecDepth 100000 in
theorem dmi_259 : decode cX12_init 259 = .ok (.sipush 1500, 3) := by decide +kernel
set_option maxRecDepth 100000 in
theorem dmi_262 : decode cX12_init 262 = .ok (.newarray .int, 2) := by decide +kernel
set_option maxRecDepth 100000 in
theorem dmi_264 : decode cX12_init 264 = .ok (.putfield 106, 3) := by decide +kernel
set_option maxRecDepth 100000 in
theorem dmi_267 : decode cX12_init 267 = .ok (.aload_n 0, 1) := by decide +kernel
set_option maxRecDepth 100000 in
theorem dmi_268 : decode cX12_init 268 = .ok (.sipush 1500, 3) := by decide +kernel
set_option maxRecDepth 100000 in
theorem dmi_271 : decode cX12_init 271 = .ok (.newarray .int, 2) := by decide +kernel
set_option maxRecDepth 100000 in
theorem dmi_273 : decode cX12_init 273 = .ok (.putfield 109, 3) := by decide +kernel
set_option maxRecDepth 100000 in
theorem dmi_276 : decode cX12_init 276 = .ok (.aload_n 0, 1) := by decide +kernel
set_option maxRecDepth 100000 in
theorem dmi_277 : decode cX12_init 277 = .ok (.sipush 1500, 3) := by decide +kernel
set_option maxRecDepth 100000 in
theorem dmi_280 : decode cX12_init 280 = .ok (.newarray .int, 2) := by decide +kernel
set_option maxRecDepth 100000 in
theorem dmi_282 : decode cX12_init 282 = .ok (.putfield 112, 3) := by decide +kernel
set_option maxRecDepth 100000 in
theorem dmi_285 : decode cX12_init 285 = .ok (.aload_n 0, 1) := by decide +kernel
set_option maxRecDepth 100000 in
theorem dmi_286 : decode cX12_init 286 = .ok (.sipush 1500, 3) := by decide +kernel
set_option maxRecDepth 100000 in
theorem dmi_289 : decode cX12_init 289 = .ok (.newarray .int, 2) := by decide +kernel
set_option maxRecDepth 100000 in
theorem dmi_291 : decode cX12_init 291 = .ok (.putfield 115, 3) := by decide +kernel
set_option maxRecDepth 100000 in
theorem dmi_294 : decode cX12_init 294 = .ok (.aload_n 0, 1) := by decide +kernel
set_option maxRecDepth 100000 in
theorem dmi_295 : decode cX12_init 295 = .ok (.sipush 1500, 3) := by decide +kernel
set_option maxRecDepth 100000 in
theorem dmi_298 : decode cX12_init 298 = .ok (.newarray .int, 2) := by decide +kernel
set_option maxRecDepth 100000 in
theorem dmi_300 : decode cX12_init 300 = .ok (.putfield 118, 3) := by decide +kernel
set_option maxRecDepth 100000 in
theorem dmi_303 : decode cX12_init 303 = .ok (.aload_n 0, 1) := by decide +kernel
set_option maxRecDepth 100000 in
theorem dmi_304 : decode cX12_init 304 = .ok (.sipush 1500, 3) := by decide +kernel
set_option maxRecDepth 100000 in
theorem dmi_307 : decode cX12_init 307 = .ok (.newarray .int, 2) := by decide +kernel
set_option maxRecDepth 100000 in
theorem dmi_309 : decode cX12_init 309 = .ok (.putfield 121, 3) := by decide +kernel
set_option maxRecDepth 100000 in
theorem dmi_312 : decode cX12_init 312 = .ok (.aload_n 0, 1) := by decide +kernel
set_option maxRecDepth 100000 in
theorem dmi_313 : decode cX12_init 313 = .ok (.sipush 1500, 3) := by decide +kernel
set_option maxRecDepth 100000 in
theorem dmi_316 : decode cX12_init 316 = .ok (.newarray .int, 2) := by decide +kernel
set_option maxRecDepth 100000 in
theorem dmi_318 : decode cX12_init 318 = .ok (.putfield 124, 3) := by decide +kernel
set_option maxRecDepth 100000 in
theorem dmi_321 : decode cX12_init 321 = .ok (.aload_n 0, 1) := by decide +kernel
set_option maxRecDepth 100000 in
theorem dmi_322 : decode cX12_init 322 = .ok (.sipush 1500, 3) := by decide +kernel
set_option maxRecDepth 100000 in
theorem dmi_325 : decode cX12_init 325 = .ok (.newarray .int, 2) := by decide +kernel
set_option maxRecDepth 100000 in
theorem dmi_327 : decode cX12_init 327 = .ok (.putfield 127, 3) := by decide +kernel
set_option maxRecDepth 100000 in
theorem dmi_330 : decode cX12_init 330 = .ok (.aload_n 0, 1) := by decide +kernel
set_option maxRecDepth 100000 in
theorem dmi_331 : decode cX12_init 331 = .ok (.sipush 1500, 3) := by decide +kernel
set_option maxRecDepth 100000 in
theorem dmi_334 : decode cX12_init 334 = .ok (.newarray .int, 2) := by decide +kernel
set_option maxRecDepth 100000 in
theorem dmi_336 : decode cX12_init 336 = .ok (.putfield 130, 3) := by decide +kernel
set_option maxRecDepth 100000 in
theorem dmi_339 : decode cX12_init 339 = .ok (.aload_n 0, 1) := by decide +kernel
set_option maxRecDepth 100000 in
theorem dmi_340 : decode cX12_init 340 = .ok (.bipush 6, 2) := by decide +kernel
set_option maxRecDepth 100000 in
theorem dmi_342 : decode cX12_init 342 = .ok (.newarray .int, 2) := by decide +kernel
set_option maxRecDepth 100000 in
theorem dmi_344 : decode cX12_init 344 = .ok (.putfield 133, 3) := by decide +kernel
set_option maxRecDepth 100000 in
theorem dmi_347 : decode cX12_init 347 = .ok (.aload_n 0, 1) := by decide +kernel
set_option maxRecDepth 100000 in
theorem dmi_348 : decode cX12_init 348 = .ok (.iconst 4, 1) := by decide +kernel
set_option maxRecDepth 100000 in
theorem dmi_349 : decode cX12_init 349 = .ok (.newarray .int, 2) := by decide +kernel
set_option maxRecDepth 100000 in
theorem dmi_351 : decode cX12_init 351 = .ok (.putfield 136, 3) := by decide +kernel
set_option maxRecDepth 100000 in
theorem dmi_354 : decode cX12_init 354 = .ok (.aload_n 0, 1) := by decide +kernel
set_option maxRecDepth 100000 in
theorem dmi_355 : decode cX12_init 355 = .ok (.iconst 4, 1) := by decide +kernel
set_option maxRecDepth 100000 in
theorem dmi_356 : decode cX12_init 356 = .ok (.newarray .int, 2) := by decide +kernel
set_option maxRecDepth 100000 in
theorem dmi_358 : decode cX12_init 358 = .ok (.putfield 139, 3) := by decide +kernel
set_option maxRecDepth 100000 in
theorem dmi_361 : decode cX12_init 361 = .ok (.aload_n 0, 1) := by decide +kernel
set_option maxRecDepth 100000 in
theorem dmi_362 : decode cX12_init 362 = .ok (.bipush 24, 2) := by decide +kernel
set_option maxRecDepth 100000 in
theorem dmi_364 : decode cX12_init 364 = .ok (.newarray .int, 2) := by decide +kernel
set_option maxRecDepth 100000 in
theorem dmi_366 : decode cX12_init 366 = .ok (.putfield 142, 3) := by decide +kernel
set_option maxRecDepth 100000 in
theorem dmi_369 : decode cX12_init 369 = .ok (.aload_n 0, 1) := by decide +kernel
set_option maxRecDepth 100000 in
theorem dmi_370 : decode cX12_init 370 = .ok (.bipush 6, 2) := by decide +kernel
set_option maxRecDepth 100000 in
theorem dmi_372 : decode cX12_init 372 = .ok (.newarray .int, 2) := by decide +kernel
set_option maxRecDepth 100000 in
theorem dmi_374 : decode cX12_init 374 = .ok (.putfield 145, 3) := by decide +kernel
set_option maxRecDepth 100000 in
theorem dmi_377 : decode cX12_init 377 = .ok (.aload_n 0, 1) := by decide +kernel
set_option maxRecDepth 100000 in
theorem dmi_378 : decode cX12_init 378 = .ok (.bipush 6, 2) := by decide +kernel
set_option maxRecDepth 100000 in
theorem dmi_380 : decode cX12_init 380 = .ok (.newarray .int, 2) := by decide +kernel
set_option maxRecDepth 100000 in
theorem dmi_382 : decode cX12_init 382 = .ok (.putfield 148, 3) := by decide +kernel
set_option maxRecDepth 100000 in
theorem dmi_385 : decode cX12_init 385 = .ok (.aload_n 0, 1) := by decide +kernel
set_option maxRecDepth 100000 in
theorem dmi_386 : decode cX12_init 386 = .ok (.bipush 6, 2) := by decide +kernel
set_option maxRecDepth 100000 in
theorem dmi_388 : decode cX12_init 388 = .ok (.newarray .int, 2) := by decide +kernel
set_option maxRecDepth 100000 in
theorem dmi_390 : decode cX12_init 390 = .ok (.putfield 151, 3) := by decide +kernel
set_option maxRecDepth 100000 in
theorem dmi_393 : decode cX12_init 393 = .ok (.aload_n 0, 1) := by decide +kernel
set_option maxRecDepth 100000 in
theorem dmi_394 : decode cX12_init 394 = .ok (.bipush 6, 2) := by decide +kernel
set_option maxRecDepth 100000 in
theorem dmi_396 : decode cX12_init 396 = .ok (.newarray .int, 2) := by decide +kernel
set_option maxRecDepth 100000 in
theorem dmi_398 : decode cX12_init 398 = .ok (.putfield 154, 3) := by decide +kernel
set_option maxRecDepth 100000 in
theorem dmi_401 : decode cX12_init 401 = .ok (.aload_n 0, 1) := by decide +kernel
set_option maxRecDepth 100000 in
theorem dmi_402 : decode cX12_init 402 = .ok (.bipush 6, 2) := by decide +kernel
set_option maxRecDepth 100000 in
theorem dmi_404 : decode cX12_init 404 = .ok (.newarray .int, 2) := by decide +kernel
set_option maxRecDepth 100000 in
theorem dmi_406 : decode cX12_init 406 = .ok (.putfield 157, 3) := by decide +kernel
set_option maxRecDepth 100000 in
theorem dmi_409 : decode cX12_init 409 = .ok (.aload_n 0, 1) := by decide +kernel
set_option maxRecDepth 100000 in
theorem dmi_410 : decode cX12_init 410 = .ok (.bipush 48, 2) := by decide +kernel
set_option maxRecDepth 100000 in
theorem dmi_412 : decode cX12_init 412 = .ok (.newarray .int, 2) := by decide +kernel
set_option maxRecDepth 100000 in
theorem dmi_414 : decode cX12_init 414 = .ok (.putfield 160, 3) := by decide +kernel
set_option maxRecDepth 100000 in
theorem dmi_417 : decode cX12_init 417 = .ok (.aload_n 0, 1) := by decide +kernel
set_option maxRecDepth 100000 in
theorem dmi_418 : decode cX12_init 418 = .ok (.bipush 6, 2) := by decide +kernel
set_option maxRecDepth 100000 in
theorem dmi_420 : decode cX12_init 420 = .ok (.newarray .int, 2) := by decide +kernel
set_option maxRecDepth 100000 in
theorem dmi_422 : decode cX12_init 422 = .ok (.putfield 163, 3) := by decide +kernel
set_option maxRecDepth 100000 in
theorem dmi_425 : decode cX12_init 425 = .ok (.aload_n 0, 1) := by decide +kernel
set_option maxRecDepth 100000 in
theorem dmi_426 : decode cX12_init 426 = .ok (.bipush 6, 2) := by decide +kernel
set_option maxRecDepth 100000 in
theorem dmi_428 : decode cX12_init 428 = .ok (.newarray .int, 2) := by decide +kernel
set_option maxRecDepth 100000 in
theorem dmi_430 : decode cX12_init 430 = .ok (.putfield 166, 3) := by decide +kernel
set_option maxRecDepth 100000 in
theorem dmi_433 : decode cX12_init 433 = .ok (.aload_n 0, 1) := by decide +kernel
set_option maxRecDepth 100000 in
theorem dmi_434 : decode cX12_init 434 = .ok (.bipush 6, 2) := by decide +kernel
set_option maxRecDepth 100000 in
theorem dmi_436 : decode cX12_init 436 = .ok (.newarray .int, 2) := by decide +kernel
set_option maxRecDepth 100000 in
theorem dmi_438 : decode cX12_init 438 = .ok (.putfield 169, 3) := by decide +kernel
set_option maxRecDepth 100000 in
theorem dmi_441 : decode cX12_init 441 = .ok (.aload_n 0, 1) := by decide +kernel
set_option maxRecDepth 100000 in
theorem dmi_442 : decode cX12_init 442 = .ok (.bipush 6, 2) := by decide +kernel
set_option maxRecDepth 100000 in
theorem dmi_444 : decode cX12_init 444 = .ok (.newarray .int, 2) := by decide +kernel
set_option maxRecDepth 100000 in
theorem dmi_446 : decode cX12_init 446 = .ok (.putfield 172, 3) := by decide +kernel
set_option maxRecDepth 100000 in
theorem dmi_449 : decode cX12_init 449 = .ok (.aload_n 0, 1) := by decide +kernel
set_option maxRecDepth 100000 in
theorem dmi_450 : decode cX12_init 450 = .ok (.bipush 60, 2) := by decide +kernel
set_option maxRecDepth 100000 in
theorem dmi_452 : decode cX12_init 452 = .ok (.newarray .int, 2) := by decide +kernel
set_option maxRecDepth 100000 in
theorem dmi_454 : decode cX12_init 454 = .ok (.putfield 175, 3) := by decide +kernel
set_option maxRecDepth 100000 in
theorem dmi_457 : decode cX12_init 457 = .ok (.aload_n 0, 1) := by decide +kernel
set_option maxRecDepth 100000 in
theorem dmi_458 : decode cX12_init 458 = .ok (.bipush 60, 2) := by decide +kernel
set_option maxRecDepth 100000 in
theorem dmi_460 : decode cX12_init 460 = .ok (.newarray .int, 2) := by decide +kernel
set_option maxRecDepth 100000 in
theorem dmi_462 : decode cX12_init 462 = .ok (.putfield 178, 3) := by decide +kernel
set_option maxRecDepth 100000 in
theorem dmi_465 : decode cX12_init 465 = .ok (.aload_n 0, 1) := by decide +kernel
set_option maxRecDepth 100000 in
theorem dmi_466 : decode cX12_init 466 = .ok (.bipush 60, 2) := by decide +kernel
set_option maxRecDepth 100000 in
theorem dmi_468 : decode cX12_init 468 = .ok (.newarray .int, 2) := by decide +kernel
set_option maxRecDepth 100000 in
theorem dmi_470 : decode cX12_init 470 = .ok (.putfield 181, 3) := by decide +kernel
set_option maxRecDepth 100000 in
theorem dmi_473 : decode cX12_init 473 = .ok (.aload_n 0, 1) := by decide +kernel
set_option maxRecDepth 100000 in
theorem dmi_474 : decode cX12_init 474 = .ok (.sipush 200, 3) := by decide +kernel
set_option maxRecDepth 100000 in
theorem dmi_477 : decode cX12_init 477 = .ok (.newarray .int, 2) := by decide +kernel
set_option maxRecDepth 100000 in
theorem dmi_479 : decode cX12_init 479 = .ok (.putfield 184, 3) := by decide +kernel
set_option maxRecDepth 100000 in
theorem dmi_482 : decode cX12_init 482 = .ok (.aload_n 0, 1) := by decide +kernel
set_option maxRecDepth 100000 in
theorem dmi_483 : decode cX12_init 483 = .ok (.sipush 200, 3) := by decide +kernel
set_option maxRecDepth 100000 in
theorem dmi_486 : decode cX12_init 486 = .ok (.newarray .int, 2) := by decide +kernel
set_option maxRecDepth 100000 in
theorem dmi_488 : decode cX12_init 488 = .ok (.putfield 187, 3) := by decide +kernel
set_option maxRecDepth 100000 in
theorem dmi_491 : decode cX12_init 491 = .ok (.aload_n 0, 1) := by decide +kernel
set_option maxRecDepth 100000 in
theorem dmi_492 : decode cX12_init 492 = .ok (.sipush 200, 3) := by decide +kernel
set_option maxRecDepth 100000 in
theorem dmi_495 : decode cX12_init 495 = .ok (.newarray .int, 2) := by decide +kernel
set_option maxRecDepth 100000 in
theorem dmi_497 : decode cX12_init 497 = .ok (.putfield 190, 3) := by decide +kernel
set_option maxRecDepth 100000 in
theorem dmi_500 : decode cX12_init 500 = .ok (.aload_n 0, 1) := by decide +kernel
set_option maxRecDepth 100000 in
theorem dmi_501 : decode cX12_init 501 = .ok (.sipush 400, 3) := by decide +kernel
set_option maxRecDepth 100000 in
theorem dmi_504 : decode cX12_init 504 = .ok (.newarray .int, 2) := by decide +kernel
set_option maxRecDepth 100000 in
theorem dmi_506 : decode cX12_init 506 = .ok (.putfield 193, 3) := by decide +kernel
set_option maxRecDepth 100000 in
theorem dmi_509 : decode cX12_init 509 = .ok (.aload_n 0, 1) := by decide +kernel
set_option maxRecDepth 100000 in
theorem dmi_510 : decode cX12_init 510 = .ok (.sipush 400, 3) := by decide +kernel
set_option maxRecDepth 100000 in
theorem dmi_513 : decode cX12_init 513 = .ok (.newarray .int, 2) := by decide +kernel
set_option maxRecDepth 100000 in
theorem dmi_515 : decode cX12_init 515 = .ok (.putfield 196, 3) := by decide +kernel
set_option maxRecDepth 100000 in
theorem dmi_518 : decode cX12_init 518 = .ok (.aload_n 0, 1) := by decide +kernel
set_option maxRecDepth 100000 in
theorem dmi_519 : decode cX12_init 519 = .ok (.sipush 400, 3) := by decide +kernel
set_option maxRecDepth 100000 in
theorem dmi_522 : decode cX12_init 522 = .ok (.newarray .int, 2) := by decide +kernel
set_option maxRecDepth 100000 in
theorem dmi_524 : decode cX12_init 524 = .ok (.putfield 199, 3) := by decide +kernel
set_option maxRecDepth 100000 in
theorem dmi_527 : decode cX12_init 527 = .ok (.aload_n 0, 1) := by decide +kernel
set_option maxRecDepth 100000 in
theorem dmi_528 : decode cX12_init 528 = .ok (.sipush 400, 3) := by decide +kernel
set_option maxRecDepth 100000 in
theorem dmi_531 : decode cX12_init 531 = .ok (.newarray .int, 2) := by decide +kernel
set_option maxRecDepth 100000 in
theorem dmi_533 : decode cX12_init 533 = .ok (.putfield 202, 3) := by decide +kernel
set_option maxRecDepth 100000 in
theorem dmi_536 : decode cX12_init 536 = .ok (.aload_n 0, 1) := by decide +kernel
set_option maxRecDepth 100000 in
theorem dmi_537 : decode cX12_init 537 = .ok (.sipush 400, 3) := by decide +kernel
set_option maxRecDepth 100000 in
theorem dmi_540 : decode cX12_init 540 = .ok (.newarray .int, 2) := by decide +kernel
set_option maxRecDepth 100000 in
theorem dmi_542 : decode cX12_init 542 = .ok (.putfield 205, 3) := by decide +kernel
set_option maxRecDepth 100000 in
theorem dmi_545 : decode cX12_init 545 = .ok (.aload_n 0, 1) := by decide +kernel
set_option maxRecDepth 100000 in
theorem dmi_546 : decode cX12_init 546 = .ok (.sipush 400, 3) := by decide +kernel
set_option maxRecDepth 100000 in
theorem dmi_549 : decode cX12_init 549 = .ok (.newarray .int, 2) := by decide +kernel
set_option maxRecDepth 100000 in
theorem dmi_551 : decode cX12_init 551 = .ok (.putfield 208, 3) := by decide +kernel
set_option maxRecDepth 100000 in
theorem dmi_554 : decode cX12_init 554 = .ok (.aload_n 0, 1) := by decide +kernel
set_option maxRecDepth 100000 in
theorem dmi_555 : decode cX12_init 555 = .ok (.sipush 400, 3) := by decide +kernel
set_option maxRecDepth 100000 in
theorem dmi_558 : decode cX12_init 558 = .ok (.newarray .boolean, 2) := by decide +kernel
set_option maxRecDepth 100000 in
theorem dmi_560 : decode cX12_init 560 = .ok (.putfield 211, 3) := by decide +kernel
set_option maxRecDepth 100000 in
theorem dmi_563 : decode cX12_init 563 = .ok (.aload_n 0, 1) := by decide +kernel
set_option maxRecDepth 100000 in
theorem dmi_564 : decode cX12_init 564 = .ok (.sipush 400, 3) := by decide +kernel
set_option maxRecDepth 100000 in
theorem dmi_567 : decode cX12_init 567 = .ok (.newarray .int, 2) := by decide +kernel
set_option maxRecDepth 100000 in
theorem dmi_569 : decode cX12_init 569 = .ok (.putfield 214, 3) := by decide +kernel
set_option maxRecDepth 100000 in
theorem dmi_572 : decode cX12_init 572 = .ok (.aload_n 0, 1) := by decide +kernel
set_option maxRecDepth 100000 in
theorem dmi_573 : decode cX12_init 573 = .ok (.sipush 2800, 3) := by decide +kernel
set_option maxRecDepth 100000 in
theorem dmi_576 : decode cX12_init 576 = .ok (.newarray .long, 2) := by decide +kernel
set_option maxRecDepth 100000 in
theorem dmi_578 : decode cX12_init 578 = .ok (.putfield 217, 3) := by decide +kernel
set_option maxRecDepth 100000 in
theorem dmi_581 : decode cX12_init 581 = .ok (.aload_n 0, 1) := by decide +kernel
set_option maxRecDepth 100000 in
theorem dmi_582 : decode cX12_init 582 = .ok (.bipush 6, 2) := by decide +kernel
set_option maxRecDepth 100000 in
theorem dmi_584 : decode cX12_init 584 = .ok (.newarray .int, 2) := by decide +kernel
set_option maxRecDepth 100000 in
theorem dmi_586 : decode cX12_init 586 = .ok (.putfield 221, 3) := by decide +kernel
set_option maxRecDepth 100000 in
theorem dmi_589 : decode cX12_init 589 = .ok (.aload_n 0, 1) := by decide +kernel
set_option maxRecDepth 100000 in
theorem dmi_590 : decode cX12_init 590 = .ok (.bipush 6, 2) := by decide +kernel
set_option maxRecDepth 100000 in
theorem dmi_592 : decode cX12_init 592 = .ok (.newarray .int, 2) := by decide +kernel
set_option maxRecDepth 100000 in
theorem dmi_594 : decode cX12_init 594 = .ok (.putfield 224, 3) := by decide +kernel
set_option maxRecDepth 100000 in
theorem dmi_597 : decode cX12_init 597 = .ok (.aload_n 0, 1) := by decide +kernel
set_option maxRecDepth 100000 in
theorem dmi_598 : decode cX12_init 598 = .ok (.bipush 14, 2) := by decide +kernel
set_option maxRecDepth 100000 in
theorem dmi_600 : decode cX12_init 600 = .ok (.newarray .int, 2) := by decide +kernel
set_option maxRecDepth 100000 in
theorem dmi_602 : decode cX12_init 602 = .ok (.putfield 227, 3) := by decide +kernel
set_option maxRecDepth 100000 in
theorem dmi_605 : decode cX12_init 605 = .ok (.aload_n 0, 1) := by decide +kernel
set_option maxRecDepth 100000 in
theorem dmi_606 : decode cX12_init 606 = .ok (.bipush 14, 2) := by decide +kernel
set_option maxRecDepth 100000 in
theorem dmi_608 : decode cX12_init 608 = .ok (.newarray .int, 2) := by decide +kernel
set_option maxRecDepth 100000 in
theorem dmi_610 : decode cX12_init 610 = .ok (.putfield 230, 3) := by decide +kernel
set_option maxRecDepth 100000 in
theorem dmi_613 : decode cX12_init 613 = .ok (.aload_n 0, 1) := by decide +kernel
set_option maxRecDepth 100000 in
theorem dmi_614 : decode cX12_init 614 = .ok (.bipush 14, 2) := by decide +kernel
set_option maxRecDepth 100000 in
theorem dmi_616 : decode cX12_init 616 = .ok (.newarray .int, 2) := by decide +kernel
set_option maxRecDepth 100000 in
theorem dmi_618 : decode cX12_init 618 = .ok (.putfield 233, 3) := by decide +kernel
set_option maxRecDepth 100000 in
theorem dmi_621 : decode cX12_init 621 = .ok (.aload_n 0, 1) := by decide +kernel
set_option maxRecDepth 100000 in
theorem dmi_622 : decode cX12_init 622 = .ok (.bipush 14, 2) := by decide +kernel
set_option maxRecDepth 100000 in
theorem dmi_624 : decode cX12_init 624 = .ok (.newarray .int, 2) := by decide +kernel
set_option maxRecDepth 100000 in
theorem dmi_626 : decode cX12_init 626 = .ok (.putfield 236, 3) := by decide +kernel
set_option maxRecDepth 100000 in
theorem dmi_629 : decode cX12_init 629 = .ok (.aload_n 0, 1) := by decide +kernel
set_option maxRecDepth 100000 in
theorem dmi_630 : decode cX12_init 630 = .ok (.bipush 14, 2) := by decide +kernel
set_option maxRecDepth 100000 in
theorem dmi_632 : decode cX12_init 632 = .ok (.newarray .int, 2) := by decide +kernel
set_option maxRecDepth 100000 in
theorem dmi_634 : decode cX12_init 634 = .ok (.putfield 239, 3) := by decide +kernel
set_option maxRecDepth 100000 in
theorem dmi_637 : decode cX12_init 637 = .ok (.aload_n 0, 1) := by decide +kernel
set_option maxRecDepth 100000 in
theorem dmi_638 : decode cX12_init 638 = .ok (.bipush 14, 2) := by decide +kernel
set_option maxRecDepth 100000 in
theorem dmi_640 : decode cX12_init 640 = .ok (.newarray .int, 2) := by decide +kernel
set_option maxRecDepth 100000 in
theorem dmi_642 : decode cX12_init 642 = .ok (.putfield 242, 3) := by decide +kernel
set_option maxRecDepth 100000 in
theorem dmi_645 : decode cX12_init 645 = .ok (.aload_n 0, 1) := by decide +kernel
set_option maxRecDepth 100000 in
theorem dmi_646 : decode cX12_init 646 = .ok (.bipush 14, 2) := by decide +kernel
set_option maxRecDepth 100000 in
theorem dmi_648 : decode cX12_init 648 = .ok (.newarray .int, 2) := by decide +kernel
set_option maxRecDepth 100000 in
theorem dmi_650 : decode cX12_init 650 = .ok (.putfield 245, 3) := by decide +kernel
set_option maxRecDepth 100000 in
theorem dmi_653 : decode cX12_init 653 = .ok (.aload_n 0, 1) := by decide +kernel
set_option maxRecDepth 100000 in
theorem dmi_654 : decode cX12_init 654 = .ok (.bipush 14, 2) := by decide +kernel
set_option maxRecDepth 100000 in
theorem dmi_656 : decode cX12_init 656 = .ok (.newarray .int, 2) := by decide +kernel
set_option maxRecDepth 100000 in
theorem dmi_658 : decode cX12_init 658 = .ok (.putfield 248, 3) := by decide +kernel
set_option maxRecDepth 100000 in
theorem dmi_661 : decode cX12_init 661 = .ok (.aload_n 0, 1) := by decide +kernel
set_option maxRecDepth 100000 in
theorem dmi_662 : decode cX12_init 662 = .ok (.bipush 6, 2) := by decide +kernel
set_option maxRecDepth 100000 in
theorem dmi_664 : decode cX12_init 664 = .ok (.newarray .int, 2) := by decide +kernel
set_option maxRecDepth 100000 in
theorem dmi_666 : decode cX12_init 666 = .ok (.putfield 251, 3) := by decide +kernel
set_option maxRecDepth 100000 in
theorem dmi_669 : decode cX12_init 669 = .ok (.aload_n 0, 1) := by decide +kernel
set_option maxRecDepth 100000 in
theorem dmi_670 : decode cX12_init 670 = .ok (.iconst 2, 1) := by decide +kernel
set_option maxRecDepth 100000 in
theorem dmi_671 : decode cX12_init 671 = .ok (.newarray .boolean, 2) := by decide +kernel
set_option maxRecDepth 100000 in
theorem dmi_673 : decode cX12_init 673 = .ok (.putfield 254, 3) := by decide +kernel
set_option maxRecDepth 100000 in
theorem dmi_676 : decode cX12_init 676 = .ok (.aload_n 0, 1) := by decide +kernel
set_option maxRecDepth 100000 in
theorem dmi_677 : decode cX12_init 677 = .ok (.iconst 2, 1) := by decide +kernel
set_option maxRecDepth 100000 in
theorem dmi_678 : decode cX12_init 678 = .ok (.newarray .int, 2) := by decide +kernel
set_option maxRecDepth 100000 in
theorem dmi_680 : decode cX12_init 680 = .ok (.putfield 257, 3) := by decide +kernel
set_option maxRecDepth 100000 in
theorem dmi_683 : decode cX12_init 683 = .ok (.aload_n 0, 1) := by decide +kernel
set_option maxRecDepth 100000 in
theorem dmi_684 : decode cX12_init 684 = .ok (.iconst 2, 1) := by decide +kernel
set_option maxRecDepth 100000 in
theorem dmi_685 : decode cX12_init 685 = .ok (.newarray .boolean, 2) := by decide +kernel
set_option maxRecDepth 100000 in
theorem dmi_687 : decode cX12_init 687 = .ok (.putfield 260, 3) := by decide +kernel
set_option maxRecDepth 100000 in
theorem dmi_690 : decode cX12_init 690 = .ok (.aload_n 0, 1) := by decide +kernel
set_option maxRecDepth 100000 in
theorem dmi_691 : decode cX12_init 691 = .ok (.iconst 2, 1) := by decide +kernel
set_option maxRecDepth 100000 in
theorem dmi_692 : decode cX12_init 692 = .ok (.newarray .int, 2) := by decide +kernel
set_option maxRecDepth 100000 in
theorem dmi_694 : decode cX12_init 694 = .ok (.putfield 263, 3) := by decide +kernel
set_option maxRecDepth 100000 in
theorem dmi_697 : decode cX12_init 697 = .ok (.aload_n 0, 1) := by decide +kernel
set_option maxRecDepth 100000 in
theorem dmi_698 : decode cX12_init 698 = .ok (.iconst 2, 1) := by decide +kernel
set_option maxRecDepth 100000 in
theorem dmi_699 : decode cX12_init 699 = .ok (.newarray .int, 2) := by decide +kernel
set_option maxRecDepth 100000 in
theorem dmi_701 : decode cX12_init 701 = .ok (.putfield 266, 3) := by decide +kernel
set_option maxRecDepth 100000 in
theorem dmi_704 : decode cX12_init 704 = .ok (.aload_n 0, 1) := by decide +kernel
set_option maxRecDepth 100000 in
theorem dmi_705 : decode cX12_init 705 = .ok (.iconst 2, 1) := by decide +kernel
set_option maxRecDepth 100000 in
theorem dmi_706 : decode cX12_init 706 = .ok (.newarray .int, 2) := by decide +kernel
set_option maxRecDepth 100000 in
theorem dmi_708 : decode cX12_init 708 = .ok (.putfield 269, 3) := by decide +kernel
set_option maxRecDepth 100000 in
theorem dmi_711 : decode cX12_init 711 = .ok (.aload_n 0, 1) := by decide +kernel
set_option maxRecDepth 100000 in
theorem dmi_712 : decode cX12_init 712 = .ok (.iconst 2, 1) := by decide +kernel
set_option maxRecDepth 100000 in
theorem dmi_713 : decode cX12_init 713 = .ok (.newarray .int, 2) := by decide +kernel
set_option maxRecDepth 100000 in
theorem dmi_715 : decode cX12_init 715 = .ok (.putfield 272, 3) := by decide +kernel
set_option maxRecDepth 100000 in
theorem dmi_718 : decode cX12_init 718 = .ok (.aload_n 0, 1) := by decide +kernel
set_option maxRecDepth 100000 in
theorem dmi_719 : decode cX12_init 719 = .ok (.bipush 22, 2) := by decide +kernel
set_option maxRecDepth 100000 in
theorem dmi_721 : decode cX12_init 721 = .ok (.newarray .int, 2) := by decide +kernel
set_option maxRecDepth 100000 in
theorem dmi_723 : decode cX12_init 723 = .ok (.putfield 275, 3) := by decide +kernel
set_option maxRecDepth 100000 in
theorem dmi_726 : decode cX12_init 726 = .ok (.aload_n 0, 1) := by decide +kernel
set_option maxRecDepth 100000 in
theorem dmi_727 : decode cX12_init 727 = .ok (.bipush 48, 2) := by decide +kernel
set_option maxRecDepth 100000 in
theorem dmi_729 : decode cX12_init 729 = .ok (.newarray .int, 2) := by decide +kernel
set_option maxRecDepth 100000 in
theorem dmi_731 : decode cX12_init 731 = .ok (.putfield 278, 3) := by decide +kernel
set_option maxRecDepth 100000 in
theorem dmi_734 : decode cX12_init 734 = .ok (.aload_n 0, 1) := by decide +kernel
set_option maxRecDepth 100000 in
theorem dmi_735 : decode cX12_init 735 = .ok (.bipush 72, 2) := by decide +kernel
set_option maxRecDepth 100000 in
theorem dmi_737 : decode cX12_init 737 = .ok (.newarray .boolean, 2) := by decide +kernel
set_option maxRecDepth 100000 in
theorem dmi_739 : decode cX12_init 739 = .ok (.putfield 281, 3) := by decide +kernel
set_option maxRecDepth 100000 in
theorem dmi_742 : decode cX12_init 742 = .ok (.aload_n 0, 1) := by decide +kernel
set_option maxRecDepth 100000 in
theorem dmi_743 : decode cX12_init 743 = .ok (.ldc_w 284, 3) := by decide +kernel
set_option maxRecDepth 100000 in
theorem dmi_746 : decode cX12_init 746 = .ok (.newarray .int, 2) := by decide +kernel
set_option maxRecDepth 100000 in
theorem dmi_748 : decode cX12_init 748 = .ok (.putfield 285, 3) := by decide +kernel
set_option maxRecDepth 100000 in
theorem dmi_751 : decode cX12_init 751 = .ok (.aload_n 0, 1) := by decide +kernel
set_option maxRecDepth 100000 in
theorem dmi_752 : decode cX12_init 752 = .ok (.sipush 6000, 3) := by decide +kernel
set_option maxRecDepth 100000 in
theorem dmi_755 : decode cX12_init 755 = .ok (.newarray .int, 2) := by decide +kernel
set_option maxRecDepth 100000 in
theorem dmi_757 : decode cX12_init 757 = .ok (.putfield 288, 3) := by decide +kernel
set_option maxRecDepth 100000 in
theorem dmi_760 : decode cX12_init 760 = .ok (.aload_n 0, 1) := by decide +kernel
set_option maxRecDepth 100000 in
theorem dmi_761 : decode cX12_init 761 = .ok (.sipush 6000, 3) := by decide +kernel
set_option maxRecDepth 100000 in
theorem dmi_764 : decode cX12_init 764 = .ok (.newarray .int, 2) := by decide +kernel
set_option maxRecDepth 100000 in
theorem dmi_766 : decode cX12_init 766 = .ok (.putfield 291, 3) := by decide +kernel
set_option maxRecDepth 100000 in
theorem dmi_769 : decode cX12_init 769 = .ok (.aload_n 0, 1) := by decide +kernel
set_option maxRecDepth 100000 in
theorem dmi_770 : decode cX12_init 770 = .ok (.sipush 6000, 3) := by decide +kernel
set_option maxRecDepth 100000 in
theorem dmi_773 : decode cX12_init 773 = .ok (.newarray .int, 2) := by decide +kernel
set_option maxRecDepth 100000 in
theorem dmi_775 : decode cX12_init 775 = .ok (.putfield 294, 3) := by decide +kernel
set_option maxRecDepth 100000 in
theorem dmi_778 : decode cX12_init 778 = .ok (.aload_n 0, 1) := by decide +kernel
set_option maxRecDepth 100000 in
theorem dmi_779 : decode cX12_init 779 = .ok (.ldc_w 297, 3) := by decide +kernel
set_option maxRecDepth 100000 in
theorem dmi_782 : decode cX12_init 782 = .ok (.newarray .int, 2) := by decide +kernel
set_option maxRecDepth 100000 in
theorem dmi_784 : decode cX12_init 784 = .ok (.putfield 298, 3) := by decide +kernel
set_option maxRecDepth 100000 in
theorem dmi_787 : decode cX12_init 787 = .ok (.aload_n 0, 1) := by decide +kernel
set_option maxRecDepth 100000 in
theorem dmi_788 : decode cX12_init 788 = .ok (.sipush 3001, 3) := by decide +kernel
set_option maxRecDepth 100000 in
theorem dmi_791 : decode cX12_init 791 = .ok (.newarray .int, 2) := by decide +kernel
set_option maxRecDepth 100000 in
theorem dmi_793 : decode cX12_init 793 = .ok (.putfield 301, 3) := by decide +kernel
set_option maxRecDepth 100000 in
theorem dmi_796 : decode cX12_init 796 = .ok (.aload_n 0, 1) := by decide +kernel
set_option maxRecDepth 100000 in
theorem dmi_797 : decode cX12_init 797 = .ok (.sipush 4096, 3) := by decide +kernel
set_option maxRecDepth 100000 in
theorem dmi_800 : decode cX12_init 800 = .ok (.newarray .int, 2) := by decide +kernel
set_option maxRecDepth 100000 in
theorem dmi_802 : decode cX12_init 802 = .ok (.putfield 304, 3) := by decide +kernel
set_option maxRecDepth 100000 in
theorem dmi_805 : decode cX12_init 805 = .ok (.aload_n 0, 1) := by decide +kernel
set_option maxRecDepth 100000 in
theorem dmi_806 : decode cX12_init 806 = .ok (.sipush 240, 3) := by decide +kernel
set_option maxRecDepth 100000 in
theorem dmi_809 : decode cX12_init 809 = .ok (.newarray .int, 2) := by decide +kernel
set_option maxRecDepth 100000 in
theorem dmi_811 : decode cX12_init 811 = .ok (.putfield 307, 3) := by decide +kernel
set_option maxRecDepth 100000 in
theorem dmi_814 : decode cX12_init 814 = .ok (.aload_n 0, 1) := by decide +kernel
set_option maxRecDepth 100000 in
theorem dmi_815 : decode cX12_init 815 = .ok (.sipush 400, 3) := by decide +kernel
set_option maxRecDepth 100000 in
theorem dmi_818 : decode cX12_init 818 = .ok (.newarray .int, 2) := by decide +kernel
set_option maxRecDepth 100000 in
theorem dmi_820 : decode cX12_init 820 = .ok (.putfield 310, 3) := by decide +kernel
set_option maxRecDepth 100000 in
theorem dmi_823 : decode cX12_init 823 = .ok (.aload_n 0, 1) := by decide +kernel
set_option maxRecDepth 100000 in
theorem dmi_824 : decode cX12_init 824 = .ok (.bipush 6, 2) := by decide +kernel
set_option maxRecDepth 100000 in
theorem dmi_826 : decode cX12_init 826 = .ok (.newarray .int, 2) := by decide +kernel
set_option maxRecDepth 100000 in
theorem dmi_828 : decode cX12_init 828 = .ok (.putfield 313, 3) := by decide +kernel
set_option maxRecDepth 100000 in
theorem dmi_831 : decode cX12_init 831 = .ok (.return_, 1) := by decide +kernel
