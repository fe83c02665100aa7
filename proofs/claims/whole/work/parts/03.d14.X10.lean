theorem dX10_init_0 : decode cX10_init 0 = .ok (.aload_n 0, 1) := by decide +kernel
theorem dX10_init_1 : decode cX10_init 1 = .ok (.invokespecial 1, 3) := by decide +kernel
theorem dX10_init_4 : decode cX10_init 4 = .ok (.aload_n 0, 1) := by decide +kernel
theorem dX10_init_5 : decode cX10_init 5 = .ok (.sipush 700, 3) := by decide +kernel
theorem dX10_init_8 : decode cX10_init 8 = .ok (.newarray .int, 2) := by decide +kernel
theorem dX10_init_10 : decode cX10_init 10 = .ok (.putfield 7, 3) := by decide +kernel
theorem dX10_init_13 : decode cX10_init 13 = .ok (.aload_n 0, 1) := by decide +kernel
theorem dX10_init_14 : decode cX10_init 14 = .ok (.bipush 18, 2) := by decide +kernel
theorem dX10_init_16 : decode cX10_init 16 = .ok (.newarray .int, 2) := by decide +kernel
theorem dX10_init_18 : decode cX10_init 18 = .ok (.dup, 1) := by decide +kernel
theorem dX10_init_19 : decode cX10_init 19 = .ok (.iconst 0, 1) := by decide +kernel
theorem dX10_init_20 : decode cX10_init 20 = .ok (.iconst 0, 1) := by decide +kernel
theorem dX10_init_21 : decode cX10_init 21 = .ok (.iastore, 1) := by decide +kernel
theorem dX10_init_22 : decode cX10_init 22 = .ok (.dup, 1) := by decide +kernel
theorem dX10_init_23 : decode cX10_init 23 = .ok (.iconst 1, 1) := by decide +kernel
theorem dX10_init_24 : decode cX10_init 24 = .ok (.iconst 0, 1) := by decide +kernel
theorem dX10_init_25 : decode cX10_init 25 = .ok (.iastore, 1) := by decide +kernel
theorem dX10_init_26 : decode cX10_init 26 = .ok (.dup, 1) := by decide +kernel
theorem dX10_init_27 : decode cX10_init 27 = .ok (.iconst 2, 1) := by decide +kernel
theorem dX10_init_28 : decode cX10_init 28 = .ok (.iconst 0, 1) := by decide +kernel
theorem dX10_init_29 : decode cX10_init 29 = .ok (.iastore, 1) := by decide +kernel
theorem dX10_init_30 : decode cX10_init 30 = .ok (.dup, 1) := by decide +kernel
theorem dX10_init_31 : decode cX10_init 31 = .ok (.iconst 3, 1) := by decide +kernel
theorem dX10_init_32 : decode cX10_init 32 = .ok (.bipush 99, 2) := by decide +kernel
theorem dX10_init_34 : decode cX10_init 34 = .ok (.iastore, 1) := by decide +kernel
theorem dX10_init_35 : decode cX10_init 35 = .ok (.dup, 1) := by decide +kernel
theorem dX10_init_36 : decode cX10_init 36 = .ok (.iconst 4, 1) := by decide +kernel
theorem dX10_init_37 : decode cX10_init 37 = .ok (.iconst 1, 1) := by decide +kernel
theorem dX10_init_38 : decode cX10_init 38 = .ok (.iastore, 1) := by decide +kernel
theorem dX10_init_39 : decode cX10_init 39 = .ok (.dup, 1) := by decide +kernel
theorem dX10_init_40 : decode cX10_init 40 = .ok (.iconst 5, 1) := by decide +kernel
theorem dX10_init_41 : decode cX10_init 41 = .ok (.iconst 0, 1) := by decide +kernel
theorem dX10_init_42 : decode cX10_init 42 = .ok (.iastore, 1) := by decide +kernel
theorem dX10_init_43 : decode cX10_init 43 = .ok (.dup, 1) := by decide +kernel
theorem dX10_init_44 : decode cX10_init 44 = .ok (.bipush 6, 2) := by decide +kernel
theorem dX10_init_46 : decode cX10_init 46 = .ok (.iconst 0, 1) := by decide +kernel
theorem dX10_init_47 : decode cX10_init 47 = .ok (.iastore, 1) := by decide +kernel
theorem dX10_init_48 : decode cX10_init 48 = .ok (.dup, 1) := by decide +kernel
theorem dX10_init_49 : decode cX10_init 49 = .ok (.bipush 7, 2) := by decide +kernel
theorem dX10_init_51 : decode cX10_init 51 = .ok (.iconst 0, 1) := by decide +kernel
theorem dX10_init_52 : decode cX10_init 52 = .ok (.iastore, 1) := by decide +kernel
theorem dX10_init_53 : decode cX10_init 53 = .ok (.dup, 1) := by decide +kernel
theorem dX10_init_54 : decode cX10_init 54 = .ok (.bipush 8, 2) := by decide +kernel
theorem dX10_init_56 : decode cX10_init 56 = .ok (.iconst 0, 1) := by decide +kernel
theorem dX10_init_57 : decode cX10_init 57 = .ok (.iastore, 1) := by decide +kernel
theorem dX10_init_58 : decode cX10_init 58 = .ok (.dup, 1) := by decide +kernel
theorem dX10_init_59 : decode cX10_init 59 = .ok (.bipush 9, 2) := by decide +kernel
theorem dX10_init_61 : decode cX10_init 61 = .ok (.iconst 0, 1) := by decide +kernel
theorem dX10_init_62 : decode cX10_init 62 = .ok (.iastore, 1) := by decide +kernel
theorem dX10_init_63 : decode cX10_init 63 = .ok (.dup, 1) := by decide +kernel
theorem dX10_init_64 : decode cX10_init 64 = .ok (.bipush 10, 2) := by decide +kernel
theorem dX10_init_66 : decode cX10_init 66 = .ok (.iconst 0, 1) := by decide +kernel
theorem dX10_init_67 : decode cX10_init 67 = .ok (.iastore, 1) := by decide +kernel
theorem dX10_init_68 : decode cX10_init 68 = .ok (.dup, 1) := by decide +kernel
theorem dX10_init_69 : decode cX10_init 69 = .ok (.bipush 11, 2) := by decide +kernel
theorem dX10_init_71 : decode cX10_init 71 = .ok (.iconst 0, 1) := by decide +kernel
theorem dX10_init_72 : decode cX10_init 72 = .ok (.iastore, 1) := by decide +kernel
theorem dX10_init_73 : decode cX10_init 73 = .ok (.dup, 1) := by decide +kernel
theorem dX10_init_74 : decode cX10_init 74 = .ok (.bipush 12, 2) := by decide +kernel
theorem dX10_init_76 : decode cX10_init 76 = .ok (.bipush 99, 2) := by decide +kernel
theorem dX10_init_78 : decode cX10_init 78 = .ok (.iastore, 1) := by decide +kernel
theorem dX10_init_79 : decode cX10_init 79 = .ok (.dup, 1) := by decide +kernel
theorem dX10_init_80 : decode cX10_init 80 = .ok (.bipush 13, 2) := by decide +kernel
theorem dX10_init_82 : decode cX10_init 82 = .ok (.iconst 1, 1) := by decide +kernel
theorem dX10_init_83 : decode cX10_init 83 = .ok (.iastore, 1) := by decide +kernel
theorem dX10_init_84 : decode cX10_init 84 = .ok (.dup, 1) := by decide +kernel
theorem dX10_init_85 : decode cX10_init 85 = .ok (.bipush 14, 2) := by decide +kernel
theorem dX10_init_87 : decode cX10_init 87 = .ok (.iconst 0, 1) := by decide +kernel
theorem dX10_init_88 : decode cX10_init 88 = .ok (.iastore, 1) := by decide +kernel
theorem dX10_init_89 : decode cX10_init 89 = .ok (.dup, 1) := by decide +kernel
theorem dX10_init_90 : decode cX10_init 90 = .ok (.bipush 15, 2) := by decide +kernel
theorem dX10_init_92 : decode cX10_init 92 = .ok (.iconst 0, 1) := by decide +kernel
theorem dX10_init_93 : decode cX10_init 93 = .ok (.iastore, 1) := by decide +kernel
theorem dX10_init_94 : decode cX10_init 94 = .ok (.dup, 1) := by decide +kernel
theorem dX10_init_95 : decode cX10_init 95 = .ok (.bipush 16, 2) := by decide +kernel
theorem dX10_init_97 : decode cX10_init 97 = .ok (.iconst 0, 1) := by decide +kernel
theorem dX10_init_98 : decode cX10_init 98 = .ok (.iastore, 1) := by decide +kernel
theorem dX10_init_99 : decode cX10_init 99 = .ok (.dup, 1) := by decide +kernel
theorem dX10_init_100 : decode cX10_init 100 = .ok (.bipush 17, 2) := by decide +kernel
theorem dX10_init_102 : decode cX10_init 102 = .ok (.iconst 0, 1) := by decide +kernel
theorem dX10_init_103 : decode cX10_init 103 = .ok (.iastore, 1) := by decide +kernel
theorem dX10_init_104 : decode cX10_init 104 = .ok (.putfield 13, 3) := by decide +kernel
theorem dX10_init_107 : decode cX10_init 107 = .ok (.aload_n 0, 1) := by decide +kernel
theorem dX10_init_108 : decode cX10_init 108 = .ok (.bipush 12, 2) := by decide +kernel
theorem dX10_init_110 : decode cX10_init 110 = .ok (.newarray .int, 2) := by decide +kernel
theorem dX10_init_112 : decode cX10_init 112 = .ok (.putfield 16, 3) := by decide +kernel
theorem dX10_init_115 : decode cX10_init 115 = .ok (.aload_n 0, 1) := by decide +kernel
theorem dX10_init_116 : decode cX10_init 116 = .ok (.bipush 12, 2) := by decide +kernel
theorem dX10_init_118 : decode cX10_init 118 = .ok (.newarray .int, 2) := by decide +kernel
theorem dX10_init_120 : decode cX10_init 120 = .ok (.putfield 19, 3) := by decide +kernel
theorem dX10_init_123 : decode cX10_init 123 = .ok (.aload_n 0, 1) := by decide +kernel
theorem dX10_init_124 : decode cX10_init 124 = .ok (.bipush 12, 2) := by decide +kernel
theorem dX10_init_126 : decode cX10_init 126 = .ok (.newarray .int, 2) := by decide +kernel
theorem dX10_init_128 : decode cX10_init 128 = .ok (.putfield 22, 3) := by decide +kernel
theorem dX10_init_131 : decode cX10_init 131 = .ok (.aload_n 0, 1) := by decide +kernel
theorem dX10_init_132 : decode cX10_init 132 = .ok (.bipush 12, 2) := by decide +kernel
theorem dX10_init_134 : decode cX10_init 134 = .ok (.newarray .int, 2) := by decide +kernel
theorem dX10_init_136 : decode cX10_init 136 = .ok (.putfield 25, 3) := by decide +kernel
theorem dX10_init_139 : decode cX10_init 139 = .ok (.aload_n 0, 1) := by decide +kernel
theorem dX10_init_140 : decode cX10_init 140 = .ok (.bipush 16, 2) := by decide +kernel
theorem dX10_init_142 : decode cX10_init 142 = .ok (.newarray .int, 2) := by decide +kernel
theorem dX10_init_144 : decode cX10_init 144 = .ok (.putfield 28, 3) := by decide +kernel
theorem dX10_init_147 : decode cX10_init 147 = .ok (.aload_n 0, 1) := by decide +kernel
theorem dX10_init_148 : decode cX10_init 148 = .ok (.bipush 16, 2) := by decide +kernel
theorem dX10_init_150 : decode cX10_init 150 = .ok (.newarray .int, 2) := by decide +kernel
theorem dX10_init_152 : decode cX10_init 152 = .ok (.putfield 31, 3) := by decide +kernel
theorem dX10_init_155 : decode cX10_init 155 = .ok (.aload_n 0, 1) := by decide +kernel
theorem dX10_init_156 : decode cX10_init 156 = .ok (.bipush 16, 2) := by decide +kernel
theorem dX10_init_158 : decode cX10_init 158 = .ok (.newarray .int, 2) := by decide +kernel
theorem dX10_init_160 : decode cX10_init 160 = .ok (.putfield 34, 3) := by decide +kernel
theorem dX10_init_163 : decode cX10_init 163 = .ok (.aload_n 0, 1) := by decide +kernel
theorem dX10_init_164 : decode cX10_init 164 = .ok (.bipush 16, 2) := by decide +kernel
theorem dX10_init_166 : decode cX10_init 166 = .ok (.newarray .int, 2) := by decide +kernel
theorem dX10_init_168 : decode cX10_init 168 = .ok (.putfield 37, 3) := by decide +kernel
theorem dX10_init_171 : decode cX10_init 171 = .ok (.aload_n 0, 1) := by decide +kernel
theorem dX10_init_172 : decode cX10_init 172 = .ok (.bipush 20, 2) := by decide +kernel
theorem dX10_init_174 : decode cX10_init 174 = .ok (.newarray .int, 2) := by decide +kernel
theorem dX10_init_176 : decode cX10_init 176 = .ok (.putfield 40, 3) := by decide +kernel
theorem dX10_init_179 : decode cX10_init 179 = .ok (.aload_n 0, 1) := by decide +kernel
theorem dX10_init_180 : decode cX10_init 180 = .ok (.bipush 20, 2) := by decide +kernel
theorem dX10_init_182 : decode cX10_init 182 = .ok (.newarray .int, 2) := by decide +kernel
theorem dX10_init_184 : decode cX10_init 184 = .ok (.putfield 43, 3) := by decide +kernel
theorem dX10_init_187 : decode cX10_init 187 = .ok (.aload_n 0, 1) := by decide +kernel
theorem dX10_init_188 : decode cX10_init 188 = .ok (.bipush 20, 2) := by decide +kernel
theorem dX10_init_190 : decode cX10_init 190 = .ok (.newarray .int, 2) := by decide +kernel
theorem dX10_init_192 : decode cX10_init 192 = .ok (.putfield 46, 3) := by decide +kernel
theorem dX10_init_195 : decode cX10_init 195 = .ok (.aload_n 0, 1) := by decide +kernel
theorem dX10_init_196 : decode cX10_init 196 = .ok (.bipush 6, 2) := by decide +kernel
theorem dX10_init_198 : decode cX10_init 198 = .ok (.newarray .int, 2) := by decide +kernel
theorem dX10_init_200 : decode cX10_init 200 = .ok (.putfield 49, 3) := by decide +kernel
theorem dX10_init_203 : decode cX10_init 203 = .ok (.aload_n 0, 1) := by decide +kernel
theorem dX10_init_204 : decode cX10_init 204 = .ok (.bipush 6, 2) := by decide +kernel
theorem dX10_init_206 : decode cX10_init 206 = .ok (.newarray .int, 2) := by decide +kernel
theorem dX10_init_208 : decode cX10_init 208 = .ok (.putfield 52, 3) := by decide +kernel
theorem dX10_init_211 : decode cX10_init 211 = .ok (.aload_n 0, 1) := by decide +kernel
theorem dX10_init_212 : decode cX10_init 212 = .ok (.sipush 128, 3) := by decide +kernel
theorem dX10_init_215 : decode cX10_init 215 = .ok (.newarray .int, 2) := by decide +kernel
theorem dX10_init_217 : decode cX10_init 217 = .ok (.putfield 55, 3) := by decide +kernel
theorem dX10_init_220 : decode cX10_init 220 = .ok (.aload_n 0, 1) := by decide +kernel
theorem dX10_init_221 : decode cX10_init 221 = .ok (.sipush 128, 3) := by decide +kernel
theorem dX10_init_224 : decode cX10_init 224 = .ok (.newarray .int, 2) := by decide +kernel
theorem dX10_init_226 : decode cX10_init 226 = .ok (.putfield 58, 3) := by decide +kernel
theorem dX10_init_229 : decode cX10_init 229 = .ok (.aload_n 0, 1) := by decide +kernel
theorem dX10_init_230 : decode cX10_init 230 = .ok (.iconst (-1), 1) := by decide +kernel
theorem dX10_init_231 : decode cX10_init 231 = .ok (.putfield 61, 3) := by decide +kernel
theorem dX10_init_234 : decode cX10_init 234 = .ok (.aload_n 0, 1) := by decide +kernel
theorem dX10_init_235 : decode cX10_init 235 = .ok (.bipush 7, 2) := by decide +kernel
theorem dX10_init_237 : decode cX10_init 237 = .ok (.newarray .long, 2) := by decide +kernel
theorem dX10_init_239 : decode cX10_init 239 = .ok (.putfield 65, 3) := by decide +kernel
theorem dX10_init_242 : decode cX10_init 242 = .ok (.aload_n 0, 1) := by decide +kernel
theorem dX10_init_243 : decode cX10_init 243 = .ok (.bipush 64, 2) := by decide +kernel
theorem dX10_init_245 : decode cX10_init 245 = .ok (.newarray .long, 2) := by decide +kernel
theorem dX10_init_247 : decode cX10_init 247 = .ok (.putfield 69, 3) := by decide +kernel
theorem dX10_init_250 : decode cX10_init 250 = .ok (.aload_n 0, 1) := by decide +kernel
theorem dX10_init_251 : decode cX10_init 251 = .ok (.bipush 23, 2) := by decide +kernel
theorem dX10_init_253 : decode cX10_init 253 = .ok (.newarray .int, 2) := by decide +kernel
theorem dX10_init_255 : decode cX10_init 255 = .ok (.putfield 72, 3) := by decide +kernel
theorem dX10_init_258 : decode cX10_init 258 = .ok (.aload_n 0, 1) := by decide +kernel
theorem dX10_init_259 : decode cX10_init 259 = .ok (.bipush 23, 2) := by decide +kernel
theorem dX10_init_261 : decode cX10_init 261 = .ok (.newarray .int, 2) := by decide +kernel
theorem dX10_init_263 : decode cX10_init 263 = .ok (.putfield 75, 3) := by decide +kernel
theorem dX10_init_266 : decode cX10_init 266 = .ok (.aload_n 0, 1) := by decide +kernel
theorem dX10_init_267 : decode cX10_init 267 = .ok (.bipush 23, 2) := by decide +kernel
theorem dX10_init_269 : decode cX10_init 269 = .ok (.newarray .int, 2) := by decide +kernel
theorem dX10_init_271 : decode cX10_init 271 = .ok (.putfield 78, 3) := by decide +kernel
theorem dX10_init_274 : decode cX10_init 274 = .ok (.aload_n 0, 1) := by decide +kernel
theorem dX10_init_275 : decode cX10_init 275 = .ok (.bipush 23, 2) := by decide +kernel
theorem dX10_init_277 : decode cX10_init 277 = .ok (.newarray .int, 2) := by decide +kernel
theorem dX10_init_279 : decode cX10_init 279 = .ok (.putfield 81, 3) := by decide +kernel
theorem dX10_init_282 : decode cX10_init 282 = .ok (.aload_n 0, 1) := by decide +kernel
theorem dX10_init_283 : decode cX10_init 283 = .ok (.bipush 23, 2) := by decide +kernel
theorem dX10_init_285 : decode cX10_init 285 = .ok (.newarray .int, 2) := by decide +kernel
theorem dX10_init_287 : decode cX10_init 287 = .ok (.putfield 84, 3) := by decide +kernel
theorem dX10_init_290 : decode cX10_init 290 = .ok (.aload_n 0, 1) := by decide +kernel
theorem dX10_init_291 : decode cX10_init 291 = .ok (.sipush 138, 3) := by decide +kernel
theorem dX10_init_294 : decode cX10_init 294 = .ok (.newarray .int, 2) := by decide +kernel
theorem dX10_init_296 : decode cX10_init 296 = .ok (.putfield 87, 3) := by decide +kernel
theorem dX10_init_299 : decode cX10_init 299 = .ok (.aload_n 0, 1) := by decide +kernel
theorem dX10_init_300 : decode cX10_init 300 = .ok (.sipush 138, 3) := by decide +kernel
theorem dX10_init_303 : decode cX10_init 303 = .ok (.newarray .int, 2) := by decide +kernel
theorem dX10_init_305 : decode cX10_init 305 = .ok (.putfield 90, 3) := by decide +kernel
theorem dX10_init_308 : decode cX10_init 308 = .ok (.aload_n 0, 1) := by decide +kernel
theorem dX10_init_309 : decode cX10_init 309 = .ok (.sipush 138, 3) := by decide +kernel
theorem dX10_init_312 : decode cX10_init 312 = .ok (.newarray .int, 2) := by decide +kernel
theorem dX10_init_314 : decode cX10_init 314 = .ok (.putfield 93, 3) := by decide +kernel
theorem dX10_init_317 : decode cX10_init 317 = .ok (.aload_n 0, 1) := by decide +kernel
theorem dX10_init_318 : decode cX10_init 318 = .ok (.sipush 138, 3) := by decide +kernel
theorem dX10_init_321 : decode cX10_init 321 = .ok (.newarray .int, 2) := by decide +kernel
theorem dX10_init_323 : decode cX10_init 323 = .ok (.putfield 96, 3) := by decide +kernel
theorem dX10_init_326 : decode cX10_init 326 = .ok (.aload_n 0, 1) := by decide +kernel
theorem dX10_init_327 : decode cX10_init 327 = .ok (.sipush 138, 3) := by decide +kernel
theorem dX10_init_330 : decode cX10_init 330 = .ok (.newarray .int, 2) := by decide +kernel
theorem dX10_init_332 : decode cX10_init 332 = .ok (.putfield 99, 3) := by decide +kernel
theorem dX10_init_335 : decode cX10_init 335 = .ok (.aload_n 0, 1) := by decide +kernel
theorem dX10_init_336 : decode cX10_init 336 = .ok (.sipush 138, 3) := by decide +kernel
theorem dX10_init_339 : decode cX10_init 339 = .ok (.newarray .int, 2) := by decide +kernel
theorem dX10_init_341 : decode cX10_init 341 = .ok (.putfield 102, 3) := by decide +kernel
theorem dX10_init_344 : decode cX10_init 344 = .ok (.aload_n 0, 1) := by decide +kernel
theorem dX10_init_345 : decode cX10_init 345 = .ok (.sipush 138, 3) := by decide +kernel
theorem dX10_init_348 : decode cX10_init 348 = .ok (.newarray .int, 2) := by decide +kernel
theorem dX10_init_350 : decode cX10_init 350 = .ok (.putfield 105, 3) := by decide +kernel
theorem dX10_init_353 : decode cX10_init 353 = .ok (.aload_n 0, 1) := by decide +kernel
theorem dX10_init_354 : decode cX10_init 354 = .ok (.sipush 184, 3) := by decide +kernel
theorem dX10_init_357 : decode cX10_init 357 = .ok (.newarray .int, 2) := by decide +kernel
theorem dX10_init_359 : decode cX10_init 359 = .ok (.putfield 108, 3) := by decide +kernel
theorem dX10_init_362 : decode cX10_init 362 = .ok (.aload_n 0, 1) := by decide +kernel
theorem dX10_init_363 : decode cX10_init 363 = .ok (.sipush 184, 3) := by decide +kernel
theorem dX10_init_366 : decode cX10_init 366 = .ok (.newarray .int, 2) := by decide +kernel
theorem dX10_init_368 : decode cX10_init 368 = .ok (.putfield 111, 3) := by decide +kernel
theorem dX10_init_371 : decode cX10_init 371 = .ok (.aload_n 0, 1) := by decide +kernel
theorem dX10_init_372 : decode cX10_init 372 = .ok (.iconst (-1), 1) := by decide +kernel
theorem dX10_init_373 : decode cX10_init 373 = .ok (.putfield 114, 3) := by decide +kernel
theorem dX10_init_376 : decode cX10_init 376 = .ok (.aload_n 0, 1) := by decide +kernel
theorem dX10_init_377 : decode cX10_init 377 = .ok (.bipush 6, 2) := by decide +kernel
theorem dX10_init_379 : decode cX10_init 379 = .ok (.newarray .int, 2) := by decide +kernel
theorem dX10_init_381 : decode cX10_init 381 = .ok (.putfield 117, 3) := by decide +kernel
theorem dX10_init_384 : decode cX10_init 384 = .ok (.aload_n 0, 1) := by decide +kernel
theorem dX10_init_385 : decode cX10_init 385 = .ok (.bipush 6, 2) := by decide +kernel
theorem dX10_init_387 : decode cX10_init 387 = .ok (.newarray .int, 2) := by decide +kernel
theorem dX10_init_389 : decode cX10_init 389 = .ok (.putfield 120, 3) := by decide +kernel
theorem dX10_init_392 : decode cX10_init 392 = .ok (.aload_n 0, 1) := by decide +kernel
theorem dX10_init_393 : decode cX10_init 393 = .ok (.bipush 6, 2) := by decide +kernel
theorem dX10_init_395 : decode cX10_init 395 = .ok (.newarray .int, 2) := by decide +kernel
theorem dX10_init_397 : decode cX10_init 397 = .ok (.putfield 123, 3) := by decide +kernel
theorem dX10_init_400 : decode cX10_init 400 = .ok (.aload_n 0, 1) := by decide +kernel
theorem dX10_init_401 : decode cX10_init 401 = .ok (.iconst 4, 1) := by decide +kernel
theorem dX10_init_402 : decode cX10_init 402 = .ok (.newarray .int, 2) := by decide +kernel
theorem dX10_init_404 : decode cX10_init 404 = .ok (.putfield 126, 3) := by decide +kernel
theorem dX10_init_407 : decode cX10_init 407 = .ok (.aload_n 0, 1) := by decide +kernel
theorem dX10_init_408 : decode cX10_init 408 = .ok (.iconst 4, 1) := by decide +kernel
theorem dX10_init_409 : decode cX10_init 409 = .ok (.newarray .int, 2) := by decide +kernel
theorem dX10_init_411 : decode cX10_init 411 = .ok (.putfield 129, 3) := by decide +kernel
theorem dX10_init_414 : decode cX10_init 414 = .ok (.aload_n 0, 1) := by decide +kernel
theorem dX10_init_415 : decode cX10_init 415 = .ok (.iconst (-1), 1) := by decide +kernel
theorem dX10_init_416 : decode cX10_init 416 = .ok (.putfield 132, 3) := by decide +kernel
theorem dX10_init_419 : decode cX10_init 419 = .ok (.aload_n 0, 1) := by decide +kernel
theorem dX10_init_420 : decode cX10_init 420 = .ok (.bipush 24, 2) := by decide +kernel
theorem dX10_init_422 : decode cX10_init 422 = .ok (.newarray .int, 2) := by decide +kernel
theorem dX10_init_424 : decode cX10_init 424 = .ok (.putfield 135, 3) := by decide +kernel
theorem dX10_init_427 : decode cX10_init 427 = .ok (.aload_n 0, 1) := by decide +kernel
theorem dX10_init_428 : decode cX10_init 428 = .ok (.bipush 24, 2) := by decide +kernel
theorem dX10_init_430 : decode cX10_init 430 = .ok (.newarray .int, 2) := by decide +kernel
theorem dX10_init_432 : decode cX10_init 432 = .ok (.putfield 138, 3) := by decide +kernel
theorem dX10_init_435 : decode cX10_init 435 = .ok (.aload_n 0, 1) := by decide +kernel
theorem dX10_init_436 : decode cX10_init 436 = .ok (.bipush 24, 2) := by decide +kernel
theorem dX10_init_438 : decode cX10_init 438 = .ok (.newarray .boolean, 2) := by decide +kernel
theorem dX10_init_440 : decode cX10_init 440 = .ok (.putfield 141, 3) := by decide +kernel
theorem dX10_init_443 : decode cX10_init 443 = .ok (.aload_n 0, 1) := by decide +kernel
theorem dX10_init_444 : decode cX10_init 444 = .ok (.bipush 24, 2) := by decide +kernel
theorem dX10_init_446 : decode cX10_init 446 = .ok (.newarray .int, 2) := by decide +kernel
theorem dX10_init_448 : decode cX10_init 448 = .ok (.putfield 145, 3) := by decide +kernel
theorem dX10_init_451 : decode cX10_init 451 = .ok (.aload_n 0, 1) := by decide +kernel
theorem dX10_init_452 : decode cX10_init 452 = .ok (.bipush 24, 2) := by decide +kernel
theorem dX10_init_454 : decode cX10_init 454 = .ok (.newarray .boolean, 2) := by decide +kernel
theorem dX10_init_456 : decode cX10_init 456 = .ok (.putfield 148, 3) := by decide +kernel
theorem dX10_init_459 : decode cX10_init 459 = .ok (.aload_n 0, 1) := by decide +kernel
theorem dX10_init_460 : decode cX10_init 460 = .ok (.invokevirtual 151, 3) := by decide +kernel
theorem dX10_init_463 : decode cX10_init 463 = .ok (.return_, 1) := by decide +kernel
theorem dX10_thrown_0 : decode cX10_thrown 0 = .ok (.aload_n 0, 1) := by decide +kernel
theorem dX10_thrown_1 : decode cX10_thrown 1 = .ok (.getfield 154, 3) := by decide +kernel
theorem dX10_thrown_4 : decode cX10_thrown 4 = .ok (.ireturn, 1) := by decide +kernel
theorem dX10_feed_0 : decode cX10_feed 0 = .ok (.aload_n 0, 1) := by decide +kernel
theorem dX10_feed_1 : decode cX10_feed 1 = .ok (.iconst 0, 1) := by decide +kernel
theorem dX10_feed_2 : decode cX10_feed 2 = .ok (.putfield 154, 3) := by decide +kernel
theorem dX10_feed_5 : decode cX10_feed 5 = .ok (.aload_n 0, 1) := by decide +kernel
theorem dX10_feed_6 : decode cX10_feed 6 = .ok (.getfield 157, 3) := by decide +kernel
theorem dX10_feed_9 : decode cX10_feed 9 = .ok (.sipush 680, 3) := by decide +kernel
theorem dX10_feed_12 : decode cX10_feed 12 = .ok (.if_icmp .le 5, 3) := by decide +kernel
theorem dX10_feed_15 : decode cX10_feed 15 = .ok (.iconst (-1), 1) := by decide +kernel
theorem dX10_feed_16 : decode cX10_feed 16 = .ok (.ireturn, 1) := by decide +kernel
theorem dX10_feed_17 : decode cX10_feed 17 = .ok (.iconst 0, 1) := by decide +kernel
theorem dX10_feed_18 : decode cX10_feed 18 = .ok (.istore 6, 2) := by decide +kernel
theorem dX10_feed_20 : decode cX10_feed 20 = .ok (.iload 6, 2) := by decide +kernel
theorem dX10_feed_22 : decode cX10_feed 22 = .ok (.bipush 20, 2) := by decide +kernel
theorem dX10_feed_24 : decode cX10_feed 24 = .ok (.if_icmp .ge 86, 3) := by decide +kernel
theorem dX10_feed_27 : decode cX10_feed 27 = .ok (.iload 6, 2) := by decide +kernel
theorem dX10_feed_29 : decode cX10_feed 29 = .ok (.iconst 4, 1) := by decide +kernel
theorem dX10_feed_30 : decode cX10_feed 30 = .ok (.if_icmp .ge 7, 3) := by decide +kernel
theorem dX10_feed_33 : decode cX10_feed 33 = .ok (.iload_n 1, 1) := by decide +kernel
theorem dX10_feed_34 : decode cX10_feed 34 = .ok (.goto 39, 3) := by decide +kernel
theorem dX10_feed_37 : decode cX10_feed 37 = .ok (.iload 6, 2) := by decide +kernel
theorem dX10_feed_39 : decode cX10_feed 39 = .ok (.bipush 8, 2) := by decide +kernel
theorem dX10_feed_41 : decode cX10_feed 41 = .ok (.if_icmp .ge 7, 3) := by decide +kernel
theorem dX10_feed_44 : decode cX10_feed 44 = .ok (.iload_n 2, 1) := by decide +kernel
theorem dX10_feed_45 : decode cX10_feed 45 = .ok (.goto 28, 3) := by decide +kernel
theorem dX10_feed_48 : decode cX10_feed 48 = .ok (.iload 6, 2) := by decide +kernel
theorem dX10_feed_50 : decode cX10_feed 50 = .ok (.bipush 12, 2) := by decide +kernel
theorem dX10_feed_52 : decode cX10_feed 52 = .ok (.if_icmp .ge 7, 3) := by decide +kernel
theorem dX10_feed_55 : decode cX10_feed 55 = .ok (.iload_n 3, 1) := by decide +kernel
theorem dX10_feed_56 : decode cX10_feed 56 = .ok (.goto 17, 3) := by decide +kernel
theorem dX10_feed_59 : decode cX10_feed 59 = .ok (.iload 6, 2) := by decide +kernel
theorem dX10_feed_61 : decode cX10_feed 61 = .ok (.bipush 16, 2) := by decide +kernel
theorem dX10_feed_63 : decode cX10_feed 63 = .ok (.if_icmp .ge 8, 3) := by decide +kernel
theorem dX10_feed_66 : decode cX10_feed 66 = .ok (.iload 4, 2) := by decide +kernel
theorem dX10_feed_68 : decode cX10_feed 68 = .ok (.goto 5, 3) := by decide +kernel
theorem dX10_feed_71 : decode cX10_feed 71 = .ok (.iload 5, 2) := by decide +kernel
theorem dX10_feed_73 : decode cX10_feed 73 = .ok (.istore 7, 2) := by decide +kernel
theorem dX10_feed_75 : decode cX10_feed 75 = .ok (.aload_n 0, 1) := by decide +kernel
theorem dX10_feed_76 : decode cX10_feed 76 = .ok (.getfield 7, 3) := by decide +kernel
theorem dX10_feed_79 : decode cX10_feed 79 = .ok (.aload_n 0, 1) := by decide +kernel
theorem dX10_feed_80 : decode cX10_feed 80 = .ok (.getfield 157, 3) := by decide +kernel
theorem dX10_feed_83 : decode cX10_feed 83 = .ok (.iload 6, 2) := by decide +kernel
theorem dX10_feed_85 : decode cX10_feed 85 = .ok (.iadd, 1) := by decide +kernel
theorem dX10_feed_86 : decode cX10_feed 86 = .ok (.iload 7, 2) := by decide +kernel
theorem dX10_feed_88 : decode cX10_feed 88 = .ok (.bipush 24, 2) := by decide +kernel
theorem dX10_feed_90 : decode cX10_feed 90 = .ok (.bipush 8, 2) := by decide +kernel
theorem dX10_feed_92 : decode cX10_feed 92 = .ok (.iload 6, 2) := by decide +kernel
theorem dX10_feed_94 : decode cX10_feed 94 = .ok (.iconst 4, 1) := by decide +kernel
theorem dX10_feed_95 : decode cX10_feed 95 = .ok (.irem, 1) := by decide +kernel
theorem dX10_feed_96 : decode cX10_feed 96 = .ok (.imul, 1) := by decide +kernel
theorem dX10_feed_97 : decode cX10_feed 97 = .ok (.isub, 1) := by decide +kernel
theorem dX10_feed_98 : decode cX10_feed 98 = .ok (.ishr, 1) := by decide +kernel
theorem dX10_feed_99 : decode cX10_feed 99 = .ok (.sipush 255, 3) := by decide +kernel
theorem dX10_feed_102 : decode cX10_feed 102 = .ok (.iand, 1) := by decide +kernel
theorem dX10_feed_103 : decode cX10_feed 103 = .ok (.iastore, 1) := by decide +kernel
theorem dX10_feed_104 : decode cX10_feed 104 = .ok (.iinc 6 1, 3) := by decide +kernel
theorem dX10_feed_107 : decode cX10_feed 107 = .ok (.goto (-87), 3) := by decide +kernel
theorem dX10_feed_110 : decode cX10_feed 110 = .ok (.aload_n 0, 1) := by decide +kernel
theorem dX10_feed_111 : decode cX10_feed 111 = .ok (.dup, 1) := by decide +kernel
theorem dX10_feed_112 : decode cX10_feed 112 = .ok (.getfield 157, 3) := by decide +kernel
theorem dX10_feed_115 : decode cX10_feed 115 = .ok (.bipush 20, 2) := by decide +kernel
theorem dX10_feed_117 : decode cX10_feed 117 = .ok (.iadd, 1) := by decide +kernel
theorem dX10_feed_118 : decode cX10_feed 118 = .ok (.putfield 157, 3) := by decide +kernel
theorem dX10_feed_121 : decode cX10_feed 121 = .ok (.aload_n 0, 1) := by decide +kernel
theorem dX10_feed_122 : decode cX10_feed 122 = .ok (.getfield 157, 3) := by decide +kernel
theorem dX10_feed_125 : decode cX10_feed 125 = .ok (.ireturn, 1) := by decide +kernel
theorem dX10_here_0 : decode cX10_here 0 = .ok (.aload_n 0, 1) := by decide +kernel
theorem dX10_here_1 : decode cX10_here 1 = .ok (.getfield 160, 3) := by decide +kernel
theorem dX10_here_4 : decode cX10_here 4 = .ok (.aload_n 0, 1) := by decide +kernel
theorem dX10_here_5 : decode cX10_here 5 = .ok (.getfield 163, 3) := by decide +kernel
theorem dX10_here_8 : decode cX10_here 8 = .ok (.if_icmp .ge 15, 3) := by decide +kernel
theorem dX10_here_11 : decode cX10_here 11 = .ok (.aload_n 0, 1) := by decide +kernel
theorem dX10_here_12 : decode cX10_here 12 = .ok (.getfield 7, 3) := by decide +kernel
theorem dX10_here_15 : decode cX10_here 15 = .ok (.aload_n 0, 1) := by decide +kernel
theorem dX10_here_16 : decode cX10_here 16 = .ok (.getfield 160, 3) := by decide +kernel
theorem dX10_here_19 : decode cX10_here 19 = .ok (.iaload, 1) := by decide +kernel
theorem dX10_here_20 : decode cX10_here 20 = .ok (.goto 4, 3) := by decide +kernel
theorem dX10_here_23 : decode cX10_here 23 = .ok (.iconst (-1), 1) := by decide +kernel
theorem dX10_here_24 : decode cX10_here 24 = .ok (.ireturn, 1) := by decide +kernel
theorem dX10_isSmall_0 : decode cX10_isSmall 0 = .ok (.iload_n 0, 1) := by decide +kernel
theorem dX10_isSmall_1 : decode cX10_isSmall 1 = .ok (.bipush 97, 2) := by decide +kernel
theorem dX10_isSmall_3 : decode cX10_isSmall 3 = .ok (.if_icmp .lt 13, 3) := by decide +kernel
theorem dX10_isSmall_6 : decode cX10_isSmall 6 = .ok (.iload_n 0, 1) := by decide +kernel
theorem dX10_isSmall_7 : decode cX10_isSmall 7 = .ok (.bipush 122, 2) := by decide +kernel
theorem dX10_isSmall_9 : decode cX10_isSmall 9 = .ok (.if_icmp .gt 7, 3) := by decide +kernel
theorem dX10_isSmall_12 : decode cX10_isSmall 12 = .ok (.iconst 1, 1) := by decide +kernel
theorem dX10_isSmall_13 : decode cX10_isSmall 13 = .ok (.goto 4, 3) := by decide +kernel
theorem dX10_isSmall_16 : decode cX10_isSmall 16 = .ok (.iconst 0, 1) := by decide +kernel
theorem dX10_isSmall_17 : decode cX10_isSmall 17 = .ok (.ireturn, 1) := by decide +kernel
theorem dX10_isDigit_0 : decode cX10_isDigit 0 = .ok (.iload_n 0, 1) := by decide +kernel
theorem dX10_isDigit_1 : decode cX10_isDigit 1 = .ok (.bipush 48, 2) := by decide +kernel
theorem dX10_isDigit_3 : decode cX10_isDigit 3 = .ok (.if_icmp .lt 13, 3) := by decide +kernel
theorem dX10_isDigit_6 : decode cX10_isDigit 6 = .ok (.iload_n 0, 1) := by decide +kernel
theorem dX10_isDigit_7 : decode cX10_isDigit 7 = .ok (.bipush 57, 2) := by decide +kernel
theorem dX10_isDigit_9 : decode cX10_isDigit 9 = .ok (.if_icmp .gt 7, 3) := by decide +kernel
theorem dX10_isDigit_12 : decode cX10_isDigit 12 = .ok (.iconst 1, 1) := by decide +kernel
theorem dX10_isDigit_13 : decode cX10_isDigit 13 = .ok (.goto 4, 3) := by decide +kernel
theorem dX10_isDigit_16 : decode cX10_isDigit 16 = .ok (.iconst 0, 1) := by decide +kernel
theorem dX10_isDigit_17 : decode cX10_isDigit 17 = .ok (.ireturn, 1) := by decide +kernel
theorem dX10_token_0 : decode cX10_token 0 = .ok (.aload_n 0, 1) := by decide +kernel
theorem dX10_token_1 : decode cX10_token 1 = .ok (.invokevirtual 166, 3) := by decide +kernel
theorem dX10_token_4 : decode cX10_token 4 = .ok (.bipush 10, 2) := by decide +kernel
theorem dX10_token_6 : decode cX10_token 6 = .ok (.if_icmp .eq 12, 3) := by decide +kernel
theorem dX10_token_9 : decode cX10_token 9 = .ok (.aload_n 0, 1) := by decide +kernel
theorem dX10_token_10 : decode cX10_token 10 = .ok (.invokevirtual 166, 3) := by decide +kernel
theorem dX10_token_13 : decode cX10_token 13 = .ok (.bipush 32, 2) := by decide +kernel
theorem dX10_token_15 : decode cX10_token 15 = .ok (.if_icmp .ne 16, 3) := by decide +kernel
theorem dX10_token_18 : decode cX10_token 18 = .ok (.aload_n 0, 1) := by decide +kernel
theorem dX10_token_19 : decode cX10_token 19 = .ok (.dup, 1) := by decide +kernel
theorem dX10_token_20 : decode cX10_token 20 = .ok (.getfield 160, 3) := by decide +kernel
theorem dX10_token_23 : decode cX10_token 23 = .ok (.iconst 1, 1) := by decide +kernel
theorem dX10_token_24 : decode cX10_token 24 = .ok (.iadd, 1) := by decide +kernel
theorem dX10_token_25 : decode cX10_token 25 = .ok (.putfield 160, 3) := by decide +kernel
theorem dX10_token_28 : decode cX10_token 28 = .ok (.goto (-28), 3) := by decide +kernel
theorem dX10_token_31 : decode cX10_token 31 = .ok (.aload_n 0, 1) := by decide +kernel
theorem dX10_token_32 : decode cX10_token 32 = .ok (.aload_n 0, 1) := by decide +kernel
theorem dX10_token_33 : decode cX10_token 33 = .ok (.getfield 160, 3) := by decide +kernel
theorem dX10_token_36 : decode cX10_token 36 = .ok (.putfield 170, 3) := by decide +kernel
theorem dX10_token_39 : decode cX10_token 39 = .ok (.aload_n 0, 1) := by decide +kernel
theorem dX10_token_40 : decode cX10_token 40 = .ok (.invokevirtual 166, 3) := by decide +kernel
theorem dX10_token_43 : decode cX10_token 43 = .ok (.istore_n 1, 1) := by decide +kernel
theorem dX10_token_44 : decode cX10_token 44 = .ok (.iload_n 1, 1) := by decide +kernel
theorem dX10_token_45 : decode cX10_token 45 = .ok (.iconst (-1), 1) := by decide +kernel
theorem dX10_token_46 : decode cX10_token 46 = .ok (.if_icmp .ne 11, 3) := by decide +kernel
theorem dX10_token_49 : decode cX10_token 49 = .ok (.aload_n 0, 1) := by decide +kernel
theorem dX10_token_50 : decode cX10_token 50 = .ok (.iconst 4, 1) := by decide +kernel
theorem dX10_token_51 : decode cX10_token 51 = .ok (.putfield 173, 3) := by decide +kernel
theorem dX10_token_54 : decode cX10_token 54 = .ok (.goto 171, 3) := by decide +kernel
theorem dX10_token_57 : decode cX10_token 57 = .ok (.iload_n 1, 1) := by decide +kernel
theorem dX10_token_58 : decode cX10_token 58 = .ok (.invokestatic 176, 3) := by decide +kernel
theorem dX10_token_61 : decode cX10_token 61 = .ok (.ifCond .eq 84, 3) := by decide +kernel
theorem dX10_token_64 : decode cX10_token 64 = .ok (.aload_n 0, 1) := by decide +kernel
theorem dX10_token_65 : decode cX10_token 65 = .ok (.invokevirtual 166, 3) := by decide +kernel
theorem dX10_token_68 : decode cX10_token 68 = .ok (.invokestatic 176, 3) := by decide +kernel
theorem dX10_token_71 : decode cX10_token 71 = .ok (.ifCond .eq 16, 3) := by decide +kernel
theorem dX10_token_74 : decode cX10_token 74 = .ok (.aload_n 0, 1) := by decide +kernel
theorem dX10_token_75 : decode cX10_token 75 = .ok (.dup, 1) := by decide +kernel
theorem dX10_token_76 : decode cX10_token 76 = .ok (.getfield 160, 3) := by decide +kernel
theorem dX10_token_79 : decode cX10_token 79 = .ok (.iconst 1, 1) := by decide +kernel
theorem dX10_token_80 : decode cX10_token 80 = .ok (.iadd, 1) := by decide +kernel
theorem dX10_token_81 : decode cX10_token 81 = .ok (.putfield 160, 3) := by decide +kernel
theorem dX10_token_84 : decode cX10_token 84 = .ok (.goto (-20), 3) := by decide +kernel
theorem dX10_token_87 : decode cX10_token 87 = .ok (.aload_n 0, 1) := by decide +kernel
theorem dX10_token_88 : decode cX10_token 88 = .ok (.aload_n 0, 1) := by decide +kernel
theorem dX10_token_89 : decode cX10_token 89 = .ok (.invokevirtual 180, 3) := by decide +kernel
theorem dX10_token_92 : decode cX10_token 92 = .ok (.putfield 183, 3) := by decide +kernel
theorem dX10_token_95 : decode cX10_token 95 = .ok (.aload_n 0, 1) := by decide +kernel
theorem dX10_token_96 : decode cX10_token 96 = .ok (.aload_n 0, 1) := by decide +kernel
theorem dX10_token_97 : decode cX10_token 97 = .ok (.getfield 183, 3) := by decide +kernel
theorem dX10_token_100 : decode cX10_token 100 = .ok (.iconst (-1), 1) := by decide +kernel
theorem dX10_token_101 : decode cX10_token 101 = .ok (.if_icmp .eq 7, 3) := by decide +kernel
theorem dX10_token_104 : decode cX10_token 104 = .ok (.iconst 0, 1) := by decide +kernel
theorem dX10_token_105 : decode cX10_token 105 = .ok (.goto 22, 3) := by decide +kernel
theorem dX10_token_108 : decode cX10_token 108 = .ok (.aload_n 0, 1) := by decide +kernel
theorem dX10_token_109 : decode cX10_token 109 = .ok (.getfield 160, 3) := by decide +kernel
theorem dX10_token_112 : decode cX10_token 112 = .ok (.aload_n 0, 1) := by decide +kernel
theorem dX10_token_113 : decode cX10_token 113 = .ok (.getfield 170, 3) := by decide +kernel
theorem dX10_token_116 : decode cX10_token 116 = .ok (.isub, 1) := by decide +kernel
theorem dX10_token_117 : decode cX10_token 117 = .ok (.bipush 6, 2) := by decide +kernel
theorem dX10_token_119 : decode cX10_token 119 = .ok (.if_icmp .le 7, 3) := by decide +kernel
theorem dX10_token_122 : decode cX10_token 122 = .ok (.iconst 5, 1) := by decide +kernel
theorem dX10_token_123 : decode cX10_token 123 = .ok (.goto 4, 3) := by decide +kernel
theorem dX10_token_126 : decode cX10_token 126 = .ok (.iconst 1, 1) := by decide +kernel
theorem dX10_token_127 : decode cX10_token 127 = .ok (.putfield 173, 3) := by decide +kernel
theorem dX10_token_130 : decode cX10_token 130 = .ok (.aload_n 0, 1) := by decide +kernel
theorem dX10_token_131 : decode cX10_token 131 = .ok (.getfield 173, 3) := by decide +kernel
theorem dX10_token_134 : decode cX10_token 134 = .ok (.iconst 1, 1) := by decide +kernel
theorem dX10_token_135 : decode cX10_token 135 = .ok (.if_icmp .ne 90, 3) := by decide +kernel
theorem dX10_token_138 : decode cX10_token 138 = .ok (.aload_n 0, 1) := by decide +kernel
theorem dX10_token_139 : decode cX10_token 139 = .ok (.invokevirtual 186, 3) := by decide +kernel
theorem dX10_token_142 : decode cX10_token 142 = .ok (.goto 83, 3) := by decide +kernel
theorem dX10_token_145 : decode cX10_token 145 = .ok (.iload_n 1, 1) := by decide +kernel
theorem dX10_token_146 : decode cX10_token 146 = .ok (.invokestatic 189, 3) := by decide +kernel
theorem dX10_token_149 : decode cX10_token 149 = .ok (.ifCond .eq 71, 3) := by decide +kernel
theorem dX10_token_152 : decode cX10_token 152 = .ok (.aload_n 0, 1) := by decide +kernel
theorem dX10_token_153 : decode cX10_token 153 = .ok (.iconst 2, 1) := by decide +kernel
theorem dX10_token_154 : decode cX10_token 154 = .ok (.putfield 173, 3) := by decide +kernel
theorem dX10_token_157 : decode cX10_token 157 = .ok (.aload_n 0, 1) := by decide +kernel
theorem dX10_token_158 : decode cX10_token 158 = .ok (.iconst 0, 1) := by decide +kernel
theorem dX10_token_159 : decode cX10_token 159 = .ok (.putfield 183, 3) := by decide +kernel
theorem dX10_token_162 : decode cX10_token 162 = .ok (.aload_n 0, 1) := by decide +kernel
theorem dX10_token_163 : decode cX10_token 163 = .ok (.invokevirtual 166, 3) := by decide +kernel
theorem dX10_token_166 : decode cX10_token 166 = .ok (.invokestatic 189, 3) := by decide +kernel
theorem dX10_token_169 : decode cX10_token 169 = .ok (.ifCond .eq 56, 3) := by decide +kernel
theorem dX10_token_172 : decode cX10_token 172 = .ok (.aload_n 0, 1) := by decide +kernel
theorem dX10_token_173 : decode cX10_token 173 = .ok (.aload_n 0, 1) := by decide +kernel
theorem dX10_token_174 : decode cX10_token 174 = .ok (.getfield 183, 3) := by decide +kernel
theorem dX10_token_177 : decode cX10_token 177 = .ok (.ldc 192, 2) := by decide +kernel
theorem dX10_token_179 : decode cX10_token 179 = .ok (.if_icmp .le 10, 3) := by decide +kernel
theorem dX10_token_182 : decode cX10_token 182 = .ok (.aload_n 0, 1) := by decide +kernel
theorem dX10_token_183 : decode cX10_token 183 = .ok (.getfield 183, 3) := by decide +kernel
theorem dX10_token_186 : decode cX10_token 186 = .ok (.goto 18, 3) := by decide +kernel
theorem dX10_token_189 : decode cX10_token 189 = .ok (.bipush 10, 2) := by decide +kernel
theorem dX10_token_191 : decode cX10_token 191 = .ok (.aload_n 0, 1) := by decide +kernel
theorem dX10_token_192 : decode cX10_token 192 = .ok (.getfield 183, 3) := by decide +kernel
theorem dX10_token_195 : decode cX10_token 195 = .ok (.imul, 1) := by decide +kernel
theorem dX10_token_196 : decode cX10_token 196 = .ok (.aload_n 0, 1) := by decide +kernel
theorem dX10_token_197 : decode cX10_token 197 = .ok (.invokevirtual 166, 3) := by decide +kernel
theorem dX10_token_200 : decode cX10_token 200 = .ok (.iadd, 1) := by decide +kernel
theorem dX10_token_201 : decode cX10_token 201 = .ok (.bipush 48, 2) := by decide +kernel
theorem dX10_token_203 : decode cX10_token 203 = .ok (.isub, 1) := by decide +kernel
theorem dX10_token_204 : decode cX10_token 204 = .ok (.putfield 183, 3) := by decide +kernel
theorem dX10_token_207 : decode cX10_token 207 = .ok (.aload_n 0, 1) := by decide +kernel
theorem dX10_token_208 : decode cX10_token 208 = .ok (.dup, 1) := by decide +kernel
theorem dX10_token_209 : decode cX10_token 209 = .ok (.getfield 160, 3) := by decide +kernel
theorem dX10_token_212 : decode cX10_token 212 = .ok (.iconst 1, 1) := by decide +kernel
theorem dX10_token_213 : decode cX10_token 213 = .ok (.iadd, 1) := by decide +kernel
theorem dX10_token_214 : decode cX10_token 214 = .ok (.putfield 160, 3) := by decide +kernel
theorem dX10_token_217 : decode cX10_token 217 = .ok (.goto (-55), 3) := by decide +kernel
theorem dX10_token_220 : decode cX10_token 220 = .ok (.aload_n 0, 1) := by decide +kernel
theorem dX10_token_221 : decode cX10_token 221 = .ok (.iload_n 1, 1) := by decide +kernel
theorem dX10_token_222 : decode cX10_token 222 = .ok (.invokevirtual 193, 3) := by decide +kernel
theorem dX10_token_225 : decode cX10_token 225 = .ok (.return_, 1) := by decide +kernel
theorem dX10_sign_0 : decode cX10_sign 0 = .ok (.aload_n 0, 1) := by decide +kernel
theorem dX10_sign_1 : decode cX10_sign 1 = .ok (.dup, 1) := by decide +kernel
theorem dX10_sign_2 : decode cX10_sign 2 = .ok (.getfield 160, 3) := by decide +kernel
theorem dX10_sign_5 : decode cX10_sign 5 = .ok (.iconst 1, 1) := by decide +kernel
theorem dX10_sign_6 : decode cX10_sign 6 = .ok (.iadd, 1) := by decide +kernel
theorem dX10_sign_7 : decode cX10_sign 7 = .ok (.putfield 160, 3) := by decide +kernel
theorem dX10_sign_10 : decode cX10_sign 10 = .ok (.aload_n 0, 1) := by decide +kernel
theorem dX10_sign_11 : decode cX10_sign 11 = .ok (.iload_n 1, 1) := by decide +kernel
theorem dX10_sign_12 : decode cX10_sign 12 = .ok (.bipush 59, 2) := by decide +kernel
theorem dX10_sign_14 : decode cX10_sign 14 = .ok (.if_icmp .eq 57, 3) := by decide +kernel
theorem dX10_sign_17 : decode cX10_sign 17 = .ok (.iload_n 1, 1) := by decide +kernel
theorem dX10_sign_18 : decode cX10_sign 18 = .ok (.bipush 40, 2) := by decide +kernel
theorem dX10_sign_20 : decode cX10_sign 20 = .ok (.if_icmp .eq 51, 3) := by decide +kernel
theorem dX10_sign_23 : decode cX10_sign 23 = .ok (.iload_n 1, 1) := by decide +kernel
theorem dX10_sign_24 : decode cX10_sign 24 = .ok (.bipush 41, 2) := by decide +kernel
theorem dX10_sign_26 : decode cX10_sign 26 = .ok (.if_icmp .eq 45, 3) := by decide +kernel
theorem dX10_sign_29 : decode cX10_sign 29 = .ok (.iload_n 1, 1) := by decide +kernel
theorem dX10_sign_30 : decode cX10_sign 30 = .ok (.bipush 43, 2) := by decide +kernel
theorem dX10_sign_32 : decode cX10_sign 32 = .ok (.if_icmp .eq 39, 3) := by decide +kernel
theorem dX10_sign_35 : decode cX10_sign 35 = .ok (.iload_n 1, 1) := by decide +kernel
theorem dX10_sign_36 : decode cX10_sign 36 = .ok (.bipush 45, 2) := by decide +kernel
theorem dX10_sign_38 : decode cX10_sign 38 = .ok (.if_icmp .eq 33, 3) := by decide +kernel
theorem dX10_sign_41 : decode cX10_sign 41 = .ok (.iload_n 1, 1) := by decide +kernel
theorem dX10_sign_42 : decode cX10_sign 42 = .ok (.bipush 42, 2) := by decide +kernel
theorem dX10_sign_44 : decode cX10_sign 44 = .ok (.if_icmp .eq 27, 3) := by decide +kernel
theorem dX10_sign_47 : decode cX10_sign 47 = .ok (.iload_n 1, 1) := by decide +kernel
theorem dX10_sign_48 : decode cX10_sign 48 = .ok (.bipush 47, 2) := by decide +kernel
theorem dX10_sign_50 : decode cX10_sign 50 = .ok (.if_icmp .eq 21, 3) := by decide +kernel
theorem dX10_sign_53 : decode cX10_sign 53 = .ok (.iload_n 1, 1) := by decide +kernel
theorem dX10_sign_54 : decode cX10_sign 54 = .ok (.bipush 60, 2) := by decide +kernel
theorem dX10_sign_56 : decode cX10_sign 56 = .ok (.if_icmp .eq 15, 3) := by decide +kernel
theorem dX10_sign_59 : decode cX10_sign 59 = .ok (.iload_n 1, 1) := by decide +kernel
theorem dX10_sign_60 : decode cX10_sign 60 = .ok (.bipush 61, 2) := by decide +kernel
theorem dX10_sign_62 : decode cX10_sign 62 = .ok (.if_icmp .eq 9, 3) := by decide +kernel
theorem dX10_sign_65 : decode cX10_sign 65 = .ok (.iload_n 1, 1) := by decide +kernel
theorem dX10_sign_66 : decode cX10_sign 66 = .ok (.bipush 62, 2) := by decide +kernel
theorem dX10_sign_68 : decode cX10_sign 68 = .ok (.if_icmp .ne 7, 3) := by decide +kernel
theorem dX10_sign_71 : decode cX10_sign 71 = .ok (.iconst 3, 1) := by decide +kernel
theorem dX10_sign_72 : decode cX10_sign 72 = .ok (.goto 4, 3) := by decide +kernel
theorem dX10_sign_75 : decode cX10_sign 75 = .ok (.iconst 5, 1) := by decide +kernel
theorem dX10_sign_76 : decode cX10_sign 76 = .ok (.putfield 173, 3) := by decide +kernel
theorem dX10_sign_79 : decode cX10_sign 79 = .ok (.aload_n 0, 1) := by decide +kernel
theorem dX10_sign_80 : decode cX10_sign 80 = .ok (.iload_n 1, 1) := by decide +kernel
theorem dX10_sign_81 : decode cX10_sign 81 = .ok (.putfield 183, 3) := by decide +kernel
theorem dX10_sign_84 : decode cX10_sign 84 = .ok (.iload_n 1, 1) := by decide +kernel
theorem dX10_sign_85 : decode cX10_sign 85 = .ok (.bipush 60, 2) := by decide +kernel
theorem dX10_sign_87 : decode cX10_sign 87 = .ok (.if_icmp .ne 19, 3) := by decide +kernel
theorem dX10_sign_90 : decode cX10_sign 90 = .ok (.aload_n 0, 1) := by decide +kernel
theorem dX10_sign_91 : decode cX10_sign 91 = .ok (.invokevirtual 166, 3) := by decide +kernel
theorem dX10_sign_94 : decode cX10_sign 94 = .ok (.bipush 61, 2) := by decide +kernel
theorem dX10_sign_96 : decode cX10_sign 96 = .ok (.if_icmp .ne 10, 3) := by decide +kernel
theorem dX10_sign_99 : decode cX10_sign 99 = .ok (.aload_n 0, 1) := by decide +kernel
theorem dX10_sign_100 : decode cX10_sign 100 = .ok (.sipush 256, 3) := by decide +kernel
theorem dX10_sign_103 : decode cX10_sign 103 = .ok (.putfield 183, 3) := by decide +kernel
theorem dX10_sign_106 : decode cX10_sign 106 = .ok (.iload_n 1, 1) := by decide +kernel
theorem dX10_sign_107 : decode cX10_sign 107 = .ok (.bipush 60, 2) := by decide +kernel
theorem dX10_sign_109 : decode cX10_sign 109 = .ok (.if_icmp .ne 19, 3) := by decide +kernel
theorem dX10_sign_112 : decode cX10_sign 112 = .ok (.aload_n 0, 1) := by decide +kernel
theorem dX10_sign_113 : decode cX10_sign 113 = .ok (.invokevirtual 166, 3) := by decide +kernel
theorem dX10_sign_116 : decode cX10_sign 116 = .ok (.bipush 62, 2) := by decide +kernel
theorem dX10_sign_118 : decode cX10_sign 118 = .ok (.if_icmp .ne 10, 3) := by decide +kernel
theorem dX10_sign_121 : decode cX10_sign 121 = .ok (.aload_n 0, 1) := by decide +kernel
theorem dX10_sign_122 : decode cX10_sign 122 = .ok (.sipush 257, 3) := by decide +kernel
theorem dX10_sign_125 : decode cX10_sign 125 = .ok (.putfield 183, 3) := by decide +kernel
theorem dX10_sign_128 : decode cX10_sign 128 = .ok (.iload_n 1, 1) := by decide +kernel
theorem dX10_sign_129 : decode cX10_sign 129 = .ok (.bipush 62, 2) := by decide +kernel
theorem dX10_sign_131 : decode cX10_sign 131 = .ok (.if_icmp .ne 19, 3) := by decide +kernel
theorem dX10_sign_134 : decode cX10_sign 134 = .ok (.aload_n 0, 1) := by decide +kernel
theorem dX10_sign_135 : decode cX10_sign 135 = .ok (.invokevirtual 166, 3) := by decide +kernel
theorem dX10_sign_138 : decode cX10_sign 138 = .ok (.bipush 61, 2) := by decide +kernel
theorem dX10_sign_140 : decode cX10_sign 140 = .ok (.if_icmp .ne 10, 3) := by decide +kernel
theorem dX10_sign_143 : decode cX10_sign 143 = .ok (.aload_n 0, 1) := by decide +kernel
theorem dX10_sign_144 : decode cX10_sign 144 = .ok (.sipush 258, 3) := by decide +kernel
theorem dX10_sign_147 : decode cX10_sign 147 = .ok (.putfield 183, 3) := by decide +kernel
theorem dX10_sign_150 : decode cX10_sign 150 = .ok (.aload_n 0, 1) := by decide +kernel
theorem dX10_sign_151 : decode cX10_sign 151 = .ok (.getfield 183, 3) := by decide +kernel
theorem dX10_sign_154 : decode cX10_sign 154 = .ok (.sipush 256, 3) := by decide +kernel
theorem dX10_sign_157 : decode cX10_sign 157 = .ok (.if_icmp .lt 13, 3) := by decide +kernel
theorem dX10_sign_160 : decode cX10_sign 160 = .ok (.aload_n 0, 1) := by decide +kernel
theorem dX10_sign_161 : decode cX10_sign 161 = .ok (.dup, 1) := by decide +kernel
theorem dX10_sign_162 : decode cX10_sign 162 = .ok (.getfield 160, 3) := by decide +kernel
theorem dX10_sign_165 : decode cX10_sign 165 = .ok (.iconst 1, 1) := by decide +kernel
theorem dX10_sign_166 : decode cX10_sign 166 = .ok (.iadd, 1) := by decide +kernel
theorem dX10_sign_167 : decode cX10_sign 167 = .ok (.putfield 160, 3) := by decide +kernel
theorem dX10_sign_170 : decode cX10_sign 170 = .ok (.return_, 1) := by decide +kernel
theorem dX10_word_0 : decode cX10_word 0 = .ok (.iconst 0, 1) := by decide +kernel
theorem dX10_word_1 : decode cX10_word 1 = .ok (.istore_n 1, 1) := by decide +kernel
theorem dX10_word_2 : decode cX10_word 2 = .ok (.iconst 0, 1) := by decide +kernel
theorem dX10_word_3 : decode cX10_word 3 = .ok (.istore_n 2, 1) := by decide +kernel
theorem dX10_word_4 : decode cX10_word 4 = .ok (.iload_n 2, 1) := by decide +kernel
theorem dX10_word_5 : decode cX10_word 5 = .ok (.ldc 197, 2) := by decide +kernel
theorem dX10_word_7 : decode cX10_word 7 = .ok (.invokevirtual 199, 3) := by decide +kernel
theorem dX10_word_10 : decode cX10_word 10 = .ok (.if_icmp .ge 113, 3) := by decide +kernel
theorem dX10_word_13 : decode cX10_word 13 = .ok (.iconst 0, 1) := by decide +kernel
theorem dX10_word_14 : decode cX10_word 14 = .ok (.istore_n 3, 1) := by decide +kernel
theorem dX10_word_15 : decode cX10_word 15 = .ok (.ldc 197, 2) := by decide +kernel
theorem dX10_word_17 : decode cX10_word 17 = .ok (.iload_n 2, 1) := by decide +kernel
theorem dX10_word_18 : decode cX10_word 18 = .ok (.iload_n 3, 1) := by decide +kernel
theorem dX10_word_19 : decode cX10_word 19 = .ok (.iadd, 1) := by decide +kernel
theorem dX10_word_20 : decode cX10_word 20 = .ok (.invokevirtual 204, 3) := by decide +kernel
theorem dX10_word_23 : decode cX10_word 23 = .ok (.bipush 32, 2) := by decide +kernel
theorem dX10_word_25 : decode cX10_word 25 = .ok (.if_icmp .eq 44, 3) := by decide +kernel
theorem dX10_word_28 : decode cX10_word 28 = .ok (.aload_n 0, 1) := by decide +kernel
theorem dX10_word_29 : decode cX10_word 29 = .ok (.getfield 170, 3) := by decide +kernel
theorem dX10_word_32 : decode cX10_word 32 = .ok (.iload_n 3, 1) := by decide +kernel
theorem dX10_word_33 : decode cX10_word 33 = .ok (.iadd, 1) := by decide +kernel
theorem dX10_word_34 : decode cX10_word 34 = .ok (.aload_n 0, 1) := by decide +kernel
theorem dX10_word_35 : decode cX10_word 35 = .ok (.getfield 160, 3) := by decide +kernel
theorem dX10_word_38 : decode cX10_word 38 = .ok (.if_icmp .ge 31, 3) := by decide +kernel
theorem dX10_word_41 : decode cX10_word 41 = .ok (.aload_n 0, 1) := by decide +kernel
theorem dX10_word_42 : decode cX10_word 42 = .ok (.getfield 7, 3) := by decide +kernel
theorem dX10_word_45 : decode cX10_word 45 = .ok (.aload_n 0, 1) := by decide +kernel
theorem dX10_word_46 : decode cX10_word 46 = .ok (.getfield 170, 3) := by decide +kernel
theorem dX10_word_49 : decode cX10_word 49 = .ok (.iload_n 3, 1) := by decide +kernel
theorem dX10_word_50 : decode cX10_word 50 = .ok (.iadd, 1) := by decide +kernel
theorem dX10_word_51 : decode cX10_word 51 = .ok (.iaload, 1) := by decide +kernel
theorem dX10_word_52 : decode cX10_word 52 = .ok (.ldc 197, 2) := by decide +kernel
theorem dX10_word_54 : decode cX10_word 54 = .ok (.iload_n 2, 1) := by decide +kernel
theorem dX10_word_55 : decode cX10_word 55 = .ok (.iload_n 3, 1) := by decide +kernel
theorem dX10_word_56 : decode cX10_word 56 = .ok (.iadd, 1) := by decide +kernel
theorem dX10_word_57 : decode cX10_word 57 = .ok (.invokevirtual 204, 3) := by decide +kernel
theorem dX10_word_60 : decode cX10_word 60 = .ok (.if_icmp .ne 9, 3) := by decide +kernel
theorem dX10_word_63 : decode cX10_word 63 = .ok (.iinc 3 1, 3) := by decide +kernel
theorem dX10_word_66 : decode cX10_word 66 = .ok (.goto (-51), 3) := by decide +kernel
theorem dX10_word_69 : decode cX10_word 69 = .ok (.ldc 197, 2) := by decide +kernel
theorem dX10_word_71 : decode cX10_word 71 = .ok (.iload_n 2, 1) := by decide +kernel
theorem dX10_word_72 : decode cX10_word 72 = .ok (.iload_n 3, 1) := by decide +kernel
theorem dX10_word_73 : decode cX10_word 73 = .ok (.iadd, 1) := by decide +kernel
theorem dX10_word_74 : decode cX10_word 74 = .ok (.invokevirtual 204, 3) := by decide +kernel
theorem dX10_word_77 : decode cX10_word 77 = .ok (.bipush 32, 2) := by decide +kernel
theorem dX10_word_79 : decode cX10_word 79 = .ok (.if_icmp .ne 18, 3) := by decide +kernel
theorem dX10_word_82 : decode cX10_word 82 = .ok (.aload_n 0, 1) := by decide +kernel
theorem dX10_word_83 : decode cX10_word 83 = .ok (.getfield 170, 3) := by decide +kernel
theorem dX10_word_86 : decode cX10_word 86 = .ok (.iload_n 3, 1) := by decide +kernel
theorem dX10_word_87 : decode cX10_word 87 = .ok (.iadd, 1) := by decide +kernel
theorem dX10_word_88 : decode cX10_word 88 = .ok (.aload_n 0, 1) := by decide +kernel
theorem dX10_word_89 : decode cX10_word 89 = .ok (.getfield 160, 3) := by decide +kernel
theorem dX10_word_92 : decode cX10_word 92 = .ok (.if_icmp .ne 5, 3) := by decide +kernel
theorem dX10_word_95 : decode cX10_word 95 = .ok (.iload_n 1, 1) := by decide +kernel
theorem dX10_word_96 : decode cX10_word 96 = .ok (.ireturn, 1) := by decide +kernel
theorem dX10_word_97 : decode cX10_word 97 = .ok (.ldc 197, 2) := by decide +kernel
theorem dX10_word_99 : decode cX10_word 99 = .ok (.iload_n 2, 1) := by decide +kernel
theorem dX10_word_100 : decode cX10_word 100 = .ok (.invokevirtual 204, 3) := by decide +kernel
theorem dX10_word_103 : decode cX10_word 103 = .ok (.bipush 32, 2) := by decide +kernel
theorem dX10_word_105 : decode cX10_word 105 = .ok (.if_icmp .eq 9, 3) := by decide +kernel
theorem dX10_word_108 : decode cX10_word 108 = .ok (.iinc 2 1, 3) := by decide +kernel
theorem dX10_word_111 : decode cX10_word 111 = .ok (.goto (-14), 3) := by decide +kernel
theorem dX10_word_114 : decode cX10_word 114 = .ok (.iinc 2 1, 3) := by decide +kernel
theorem dX10_word_117 : decode cX10_word 117 = .ok (.iinc 1 1, 3) := by decide +kernel
theorem dX10_word_120 : decode cX10_word 120 = .ok (.goto (-116), 3) := by decide +kernel
theorem dX10_word_123 : decode cX10_word 123 = .ok (.iconst (-1), 1) := by decide +kernel
theorem dX10_word_124 : decode cX10_word 124 = .ok (.ireturn, 1) := by decide +kernel
theorem dX10_name_0 : decode cX10_name 0 = .ok (.aload_n 0, 1) := by decide +kernel
theorem dX10_name_1 : decode cX10_name 1 = .ok (.iconst 0, 1) := by decide +kernel
theorem dX10_name_2 : decode cX10_name 2 = .ok (.putfield 183, 3) := by decide +kernel
theorem dX10_name_5 : decode cX10_name 5 = .ok (.iconst 0, 1) := by decide +kernel
theorem dX10_name_6 : decode cX10_name 6 = .ok (.istore_n 1, 1) := by decide +kernel
theorem dX10_name_7 : decode cX10_name 7 = .ok (.iload_n 1, 1) := by decide +kernel
theorem dX10_name_8 : decode cX10_name 8 = .ok (.bipush 6, 2) := by decide +kernel
theorem dX10_name_10 : decode cX10_name 10 = .ok (.if_icmp .ge 53, 3) := by decide +kernel
theorem dX10_name_13 : decode cX10_name 13 = .ok (.aload_n 0, 1) := by decide +kernel
theorem dX10_name_14 : decode cX10_name 14 = .ok (.aload_n 0, 1) := by decide +kernel
theorem dX10_name_15 : decode cX10_name 15 = .ok (.getfield 183, 3) := by decide +kernel
theorem dX10_name_18 : decode cX10_name 18 = .ok (.iconst 5, 1) := by decide +kernel
theorem dX10_name_19 : decode cX10_name 19 = .ok (.ishl, 1) := by decide +kernel
theorem dX10_name_20 : decode cX10_name 20 = .ok (.aload_n 0, 1) := by decide +kernel
theorem dX10_name_21 : decode cX10_name 21 = .ok (.getfield 170, 3) := by decide +kernel
theorem dX10_name_24 : decode cX10_name 24 = .ok (.iload_n 1, 1) := by decide +kernel
theorem dX10_name_25 : decode cX10_name 25 = .ok (.iadd, 1) := by decide +kernel
theorem dX10_name_26 : decode cX10_name 26 = .ok (.aload_n 0, 1) := by decide +kernel
theorem dX10_name_27 : decode cX10_name 27 = .ok (.getfield 160, 3) := by decide +kernel
theorem dX10_name_30 : decode cX10_name 30 = .ok (.if_icmp .ge 22, 3) := by decide +kernel
theorem dX10_name_33 : decode cX10_name 33 = .ok (.aload_n 0, 1) := by decide +kernel
theorem dX10_name_34 : decode cX10_name 34 = .ok (.getfield 7, 3) := by decide +kernel
theorem dX10_name_37 : decode cX10_name 37 = .ok (.aload_n 0, 1) := by decide +kernel
theorem dX10_name_38 : decode cX10_name 38 = .ok (.getfield 170, 3) := by decide +kernel
theorem dX10_name_41 : decode cX10_name 41 = .ok (.iload_n 1, 1) := by decide +kernel
theorem dX10_name_42 : decode cX10_name 42 = .ok (.iadd, 1) := by decide +kernel
theorem dX10_name_43 : decode cX10_name 43 = .ok (.iaload, 1) := by decide +kernel
theorem dX10_name_44 : decode cX10_name 44 = .ok (.bipush 97, 2) := by decide +kernel
theorem dX10_name_46 : decode cX10_name 46 = .ok (.isub, 1) := by decide +kernel
theorem dX10_name_47 : decode cX10_name 47 = .ok (.iconst 1, 1) := by decide +kernel
theorem dX10_name_48 : decode cX10_name 48 = .ok (.iadd, 1) := by decide +kernel
theorem dX10_name_49 : decode cX10_name 49 = .ok (.goto 4, 3) := by decide +kernel
theorem dX10_name_52 : decode cX10_name 52 = .ok (.iconst 0, 1) := by decide +kernel
theorem dX10_name_53 : decode cX10_name 53 = .ok (.ior, 1) := by decide +kernel
theorem dX10_name_54 : decode cX10_name 54 = .ok (.putfield 183, 3) := by decide +kernel
theorem dX10_name_57 : decode cX10_name 57 = .ok (.iinc 1 1, 3) := by decide +kernel
theorem dX10_name_60 : decode cX10_name 60 = .ok (.goto (-53), 3) := by decide +kernel
theorem dX10_name_63 : decode cX10_name 63 = .ok (.return_, 1) := by decide +kernel
theorem dX10_wrong_0 : decode cX10_wrong 0 = .ok (.aload_n 0, 1) := by decide +kernel
theorem dX10_wrong_1 : decode cX10_wrong 1 = .ok (.getfield 208, 3) := by decide +kernel
theorem dX10_wrong_4 : decode cX10_wrong 4 = .ok (.ifCond .eq 4, 3) := by decide +kernel
theorem dX10_wrong_7 : decode cX10_wrong 7 = .ok (.return_, 1) := by decide +kernel
theorem dX10_wrong_8 : decode cX10_wrong 8 = .ok (.aload_n 0, 1) := by decide +kernel
theorem dX10_wrong_9 : decode cX10_wrong 9 = .ok (.iload_n 1, 1) := by decide +kernel
theorem dX10_wrong_10 : decode cX10_wrong 10 = .ok (.putfield 208, 3) := by decide +kernel
theorem dX10_wrong_13 : decode cX10_wrong 13 = .ok (.aload_n 0, 1) := by decide +kernel
theorem dX10_wrong_14 : decode cX10_wrong 14 = .ok (.aload_n 0, 1) := by decide +kernel
theorem dX10_wrong_15 : decode cX10_wrong 15 = .ok (.getfield 170, 3) := by decide +kernel
theorem dX10_wrong_18 : decode cX10_wrong 18 = .ok (.putfield 211, 3) := by decide +kernel
theorem dX10_wrong_21 : decode cX10_wrong 21 = .ok (.return_, 1) := by decide +kernel
theorem dX10_isWord_0 : decode cX10_isWord 0 = .ok (.aload_n 0, 1) := by decide +kernel
theorem dX10_isWord_1 : decode cX10_isWord 1 = .ok (.getfield 208, 3) := by decide +kernel
theorem dX10_isWord_4 : decode cX10_isWord 4 = .ok (.ifCond .ne 22, 3) := by decide +kernel
theorem dX10_isWord_7 : decode cX10_isWord 7 = .ok (.aload_n 0, 1) := by decide +kernel
theorem dX10_isWord_8 : decode cX10_isWord 8 = .ok (.getfield 173, 3) := by decide +kernel
theorem dX10_isWord_11 : decode cX10_isWord 11 = .ok (.ifCond .ne 15, 3) := by decide +kernel
theorem dX10_isWord_14 : decode cX10_isWord 14 = .ok (.aload_n 0, 1) := by decide +kernel
theorem dX10_isWord_15 : decode cX10_isWord 15 = .ok (.getfield 183, 3) := by decide +kernel
theorem dX10_isWord_18 : decode cX10_isWord 18 = .ok (.iload_n 1, 1) := by decide +kernel
theorem dX10_isWord_19 : decode cX10_isWord 19 = .ok (.if_icmp .ne 7, 3) := by decide +kernel
theorem dX10_isWord_22 : decode cX10_isWord 22 = .ok (.iconst 1, 1) := by decide +kernel
theorem dX10_isWord_23 : decode cX10_isWord 23 = .ok (.goto 4, 3) := by decide +kernel
theorem dX10_isWord_26 : decode cX10_isWord 26 = .ok (.iconst 0, 1) := by decide +kernel
theorem dX10_isWord_27 : decode cX10_isWord 27 = .ok (.ireturn, 1) := by decide +kernel
theorem dX10_isSign_0 : decode cX10_isSign 0 = .ok (.aload_n 0, 1) := by decide +kernel
theorem dX10_isSign_1 : decode cX10_isSign 1 = .ok (.getfield 208, 3) := by decide +kernel
theorem dX10_isSign_4 : decode cX10_isSign 4 = .ok (.ifCond .ne 23, 3) := by decide +kernel
theorem dX10_isSign_7 : decode cX10_isSign 7 = .ok (.aload_n 0, 1) := by decide +kernel
theorem dX10_isSign_8 : decode cX10_isSign 8 = .ok (.getfield 173, 3) := by decide +kernel
theorem dX10_isSign_11 : decode cX10_isSign 11 = .ok (.iconst 3, 1) := by decide +kernel
theorem dX10_isSign_12 : decode cX10_isSign 12 = .ok (.if_icmp .ne 15, 3) := by decide +kernel
theorem dX10_isSign_15 : decode cX10_isSign 15 = .ok (.aload_n 0, 1) := by decide +kernel
theorem dX10_isSign_16 : decode cX10_isSign 16 = .ok (.getfield 183, 3) := by decide +kernel
theorem dX10_isSign_19 : decode cX10_isSign 19 = .ok (.iload_n 1, 1) := by decide +kernel
theorem dX10_isSign_20 : decode cX10_isSign 20 = .ok (.if_icmp .ne 7, 3) := by decide +kernel
