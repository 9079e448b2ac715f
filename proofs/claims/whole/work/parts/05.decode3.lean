theorem dX12_init_0 : decode cX12_init 0 = .ok (.aload_n 0, 1) := by decide +kernel
theorem dX12_init_1 : decode cX12_init 1 = .ok (.invokespecial 1, 3) := by decide +kernel
theorem dX12_init_4 : decode cX12_init 4 = .ok (.aload_n 0, 1) := by decide +kernel
theorem dX12_init_5 : decode cX12_init 5 = .ok (.bipush 6, 2) := by decide +kernel
theorem dX12_init_7 : decode cX12_init 7 = .ok (.newarray .int, 2) := by decide +kernel
theorem dX12_init_9 : decode cX12_init 9 = .ok (.putfield 9, 3) := by decide +kernel
theorem dX12_init_12 : decode cX12_init 12 = .ok (.aload_n 0, 1) := by decide +kernel
theorem dX12_init_13 : decode cX12_init 13 = .ok (.bipush 6, 2) := by decide +kernel
theorem dX12_init_15 : decode cX12_init 15 = .ok (.newarray .int, 2) := by decide +kernel
theorem dX12_init_17 : decode cX12_init 17 = .ok (.putfield 13, 3) := by decide +kernel
theorem dX12_init_20 : decode cX12_init 20 = .ok (.aload_n 0, 1) := by decide +kernel
theorem dX12_init_21 : decode cX12_init 21 = .ok (.bipush 16, 2) := by decide +kernel
theorem dX12_init_23 : decode cX12_init 23 = .ok (.newarray .int, 2) := by decide +kernel
theorem dX12_init_25 : decode cX12_init 25 = .ok (.putfield 16, 3) := by decide +kernel
theorem dX12_init_28 : decode cX12_init 28 = .ok (.aload_n 0, 1) := by decide +kernel
theorem dX12_init_29 : decode cX12_init 29 = .ok (.bipush 10, 2) := by decide +kernel
theorem dX12_init_31 : decode cX12_init 31 = .ok (.newarray .int, 2) := by decide +kernel
theorem dX12_init_33 : decode cX12_init 33 = .ok (.putfield 19, 3) := by decide +kernel
theorem dX12_init_36 : decode cX12_init 36 = .ok (.aload_n 0, 1) := by decide +kernel
theorem dX12_init_37 : decode cX12_init 37 = .ok (.bipush 10, 2) := by decide +kernel
theorem dX12_init_39 : decode cX12_init 39 = .ok (.newarray .int, 2) := by decide +kernel
theorem dX12_init_41 : decode cX12_init 41 = .ok (.putfield 22, 3) := by decide +kernel
theorem dX12_init_44 : decode cX12_init 44 = .ok (.aload_n 0, 1) := by decide +kernel
theorem dX12_init_45 : decode cX12_init 45 = .ok (.sipush 1024, 3) := by decide +kernel
theorem dX12_init_48 : decode cX12_init 48 = .ok (.newarray .boolean, 2) := by decide +kernel
theorem dX12_init_50 : decode cX12_init 50 = .ok (.putfield 25, 3) := by decide +kernel
theorem dX12_init_53 : decode cX12_init 53 = .ok (.aload_n 0, 1) := by decide +kernel
theorem dX12_init_54 : decode cX12_init 54 = .ok (.bipush 120, 2) := by decide +kernel
theorem dX12_init_56 : decode cX12_init 56 = .ok (.newarray .byte, 2) := by decide +kernel
theorem dX12_init_58 : decode cX12_init 58 = .ok (.putfield 29, 3) := by decide +kernel
theorem dX12_init_61 : decode cX12_init 61 = .ok (.aload_n 0, 1) := by decide +kernel
theorem dX12_init_62 : decode cX12_init 62 = .ok (.sipush 480, 3) := by decide +kernel
theorem dX12_init_65 : decode cX12_init 65 = .ok (.newarray .byte, 2) := by decide +kernel
theorem dX12_init_67 : decode cX12_init 67 = .ok (.putfield 33, 3) := by decide +kernel
theorem dX12_init_70 : decode cX12_init 70 = .ok (.aload_n 0, 1) := by decide +kernel
theorem dX12_init_71 : decode cX12_init 71 = .ok (.iconst 4, 1) := by decide +kernel
theorem dX12_init_72 : decode cX12_init 72 = .ok (.newarray .int, 2) := by decide +kernel
theorem dX12_init_74 : decode cX12_init 74 = .ok (.putfield 36, 3) := by decide +kernel
theorem dX12_init_77 : decode cX12_init 77 = .ok (.aload_n 0, 1) := by decide +kernel
theorem dX12_init_78 : decode cX12_init 78 = .ok (.sipush 128, 3) := by decide +kernel
theorem dX12_init_81 : decode cX12_init 81 = .ok (.newarray .int, 2) := by decide +kernel
theorem dX12_init_83 : decode cX12_init 83 = .ok (.putfield 39, 3) := by decide +kernel
theorem dX12_init_86 : decode cX12_init 86 = .ok (.aload_n 0, 1) := by decide +kernel
theorem dX12_init_87 : decode cX12_init 87 = .ok (.aload_n 0, 1) := by decide +kernel
theorem dX12_init_88 : decode cX12_init 88 = .ok (.getfield 29, 3) := by decide +kernel
theorem dX12_init_91 : decode cX12_init 91 = .ok (.putfield 42, 3) := by decide +kernel
theorem dX12_init_94 : decode cX12_init 94 = .ok (.aload_n 0, 1) := by decide +kernel
theorem dX12_init_95 : decode cX12_init 95 = .ok (.iconst (-1), 1) := by decide +kernel
theorem dX12_init_96 : decode cX12_init 96 = .ok (.putfield 45, 3) := by decide +kernel
theorem dX12_init_99 : decode cX12_init 99 = .ok (.aload_n 0, 1) := by decide +kernel
theorem dX12_init_100 : decode cX12_init 100 = .ok (.ldc 49, 2) := by decide +kernel
theorem dX12_init_102 : decode cX12_init 102 = .ok (.putfield 51, 3) := by decide +kernel
theorem dX12_init_105 : decode cX12_init 105 = .ok (.aload_n 0, 1) := by decide +kernel
theorem dX12_init_106 : decode cX12_init 106 = .ok (.ldc 55, 2) := by decide +kernel
theorem dX12_init_108 : decode cX12_init 108 = .ok (.putfield 57, 3) := by decide +kernel
theorem dX12_init_111 : decode cX12_init 111 = .ok (.aload_n 0, 1) := by decide +kernel
theorem dX12_init_112 : decode cX12_init 112 = .ok (.bipush 30, 2) := by decide +kernel
theorem dX12_init_114 : decode cX12_init 114 = .ok (.newarray .int, 2) := by decide +kernel
theorem dX12_init_116 : decode cX12_init 116 = .ok (.putfield 60, 3) := by decide +kernel
theorem dX12_init_119 : decode cX12_init 119 = .ok (.aload_n 0, 1) := by decide +kernel
theorem dX12_init_120 : decode cX12_init 120 = .ok (.bipush 96, 2) := by decide +kernel
theorem dX12_init_122 : decode cX12_init 122 = .ok (.newarray .int, 2) := by decide +kernel
theorem dX12_init_124 : decode cX12_init 124 = .ok (.putfield 63, 3) := by decide +kernel
theorem dX12_init_127 : decode cX12_init 127 = .ok (.aload_n 0, 1) := by decide +kernel
theorem dX12_init_128 : decode cX12_init 128 = .ok (.bipush 6, 2) := by decide +kernel
theorem dX12_init_130 : decode cX12_init 130 = .ok (.newarray .int, 2) := by decide +kernel
theorem dX12_init_132 : decode cX12_init 132 = .ok (.putfield 66, 3) := by decide +kernel
theorem dX12_init_135 : decode cX12_init 135 = .ok (.aload_n 0, 1) := by decide +kernel
theorem dX12_init_136 : decode cX12_init 136 = .ok (.bipush 6, 2) := by decide +kernel
theorem dX12_init_138 : decode cX12_init 138 = .ok (.newarray .int, 2) := by decide +kernel
theorem dX12_init_140 : decode cX12_init 140 = .ok (.putfield 69, 3) := by decide +kernel
theorem dX12_init_143 : decode cX12_init 143 = .ok (.aload_n 0, 1) := by decide +kernel
theorem dX12_init_144 : decode cX12_init 144 = .ok (.bipush 6, 2) := by decide +kernel
theorem dX12_init_146 : decode cX12_init 146 = .ok (.newarray .int, 2) := by decide +kernel
theorem dX12_init_148 : decode cX12_init 148 = .ok (.putfield 72, 3) := by decide +kernel
theorem dX12_init_151 : decode cX12_init 151 = .ok (.aload_n 0, 1) := by decide +kernel
theorem dX12_init_152 : decode cX12_init 152 = .ok (.bipush 48, 2) := by decide +kernel
theorem dX12_init_154 : decode cX12_init 154 = .ok (.newarray .int, 2) := by decide +kernel
theorem dX12_init_156 : decode cX12_init 156 = .ok (.putfield 75, 3) := by decide +kernel
theorem dX12_init_159 : decode cX12_init 159 = .ok (.aload_n 0, 1) := by decide +kernel
theorem dX12_init_160 : decode cX12_init 160 = .ok (.bipush 48, 2) := by decide +kernel
theorem dX12_init_162 : decode cX12_init 162 = .ok (.newarray .int, 2) := by decide +kernel
theorem dX12_init_164 : decode cX12_init 164 = .ok (.putfield 78, 3) := by decide +kernel
theorem dX12_init_167 : decode cX12_init 167 = .ok (.aload_n 0, 1) := by decide +kernel
theorem dX12_init_168 : decode cX12_init 168 = .ok (.bipush 48, 2) := by decide +kernel
theorem dX12_init_170 : decode cX12_init 170 = .ok (.newarray .int, 2) := by decide +kernel
theorem dX12_init_172 : decode cX12_init 172 = .ok (.putfield 81, 3) := by decide +kernel
theorem dX12_init_175 : decode cX12_init 175 = .ok (.aload_n 0, 1) := by decide +kernel
theorem dX12_init_176 : decode cX12_init 176 = .ok (.bipush 16, 2) := by decide +kernel
theorem dX12_init_178 : decode cX12_init 178 = .ok (.newarray .int, 2) := by decide +kernel
theorem dX12_init_180 : decode cX12_init 180 = .ok (.putfield 84, 3) := by decide +kernel
theorem dX12_init_183 : decode cX12_init 183 = .ok (.aload_n 0, 1) := by decide +kernel
theorem dX12_init_184 : decode cX12_init 184 = .ok (.bipush 16, 2) := by decide +kernel
theorem dX12_init_186 : decode cX12_init 186 = .ok (.newarray .int, 2) := by decide +kernel
theorem dX12_init_188 : decode cX12_init 188 = .ok (.putfield 87, 3) := by decide +kernel
theorem dX12_init_191 : decode cX12_init 191 = .ok (.aload_n 0, 1) := by decide +kernel
theorem dX12_init_192 : decode cX12_init 192 = .ok (.bipush 16, 2) := by decide +kernel
theorem dX12_init_194 : decode cX12_init 194 = .ok (.newarray .int, 2) := by decide +kernel
theorem dX12_init_196 : decode cX12_init 196 = .ok (.putfield 90, 3) := by decide +kernel
theorem dX12_init_199 : decode cX12_init 199 = .ok (.aload_n 0, 1) := by decide +kernel
theorem dX12_init_200 : decode cX12_init 200 = .ok (.bipush 16, 2) := by decide +kernel
theorem dX12_init_202 : decode cX12_init 202 = .ok (.newarray .int, 2) := by decide +kernel
theorem dX12_init_204 : decode cX12_init 204 = .ok (.putfield 93, 3) := by decide +kernel
theorem dX12_init_207 : decode cX12_init 207 = .ok (.aload_n 0, 1) := by decide +kernel
theorem dX12_init_208 : decode cX12_init 208 = .ok (.bipush 16, 2) := by decide +kernel
theorem dX12_init_210 : decode cX12_init 210 = .ok (.newarray .boolean, 2) := by decide +kernel
theorem dX12_init_212 : decode cX12_init 212 = .ok (.putfield 96, 3) := by decide +kernel
theorem dX12_init_215 : decode cX12_init 215 = .ok (.aload_n 0, 1) := by decide +kernel
theorem dX12_init_216 : decode cX12_init 216 = .ok (.bipush 96, 2) := by decide +kernel
theorem dX12_init_218 : decode cX12_init 218 = .ok (.newarray .int, 2) := by decide +kernel
theorem dX12_init_220 : decode cX12_init 220 = .ok (.putfield 99, 3) := by decide +kernel
theorem dX12_init_223 : decode cX12_init 223 = .ok (.aload_n 0, 1) := by decide +kernel
theorem dX12_init_224 : decode cX12_init 224 = .ok (.bipush 96, 2) := by decide +kernel
theorem dX12_init_226 : decode cX12_init 226 = .ok (.newarray .int, 2) := by decide +kernel
theorem dX12_init_228 : decode cX12_init 228 = .ok (.putfield 102, 3) := by decide +kernel
theorem dX12_init_231 : decode cX12_init 231 = .ok (.aload_n 0, 1) := by decide +kernel
theorem dX12_init_232 : decode cX12_init 232 = .ok (.bipush 8, 2) := by decide +kernel
theorem dX12_init_234 : decode cX12_init 234 = .ok (.newarray .int, 2) := by decide +kernel
theorem dX12_init_236 : decode cX12_init 236 = .ok (.putfield 105, 3) := by decide +kernel
theorem dX12_init_239 : decode cX12_init 239 = .ok (.aload_n 0, 1) := by decide +kernel
theorem dX12_init_240 : decode cX12_init 240 = .ok (.bipush 8, 2) := by decide +kernel
theorem dX12_init_242 : decode cX12_init 242 = .ok (.newarray .int, 2) := by decide +kernel
theorem dX12_init_244 : decode cX12_init 244 = .ok (.putfield 108, 3) := by decide +kernel
theorem dX12_init_247 : decode cX12_init 247 = .ok (.aload_n 0, 1) := by decide +kernel
theorem dX12_init_248 : decode cX12_init 248 = .ok (.bipush 16, 2) := by decide +kernel
theorem dX12_init_250 : decode cX12_init 250 = .ok (.newarray .int, 2) := by decide +kernel
theorem dX12_init_252 : decode cX12_init 252 = .ok (.putfield 111, 3) := by decide +kernel
theorem dX12_init_255 : decode cX12_init 255 = .ok (.aload_n 0, 1) := by decide +kernel
theorem dX12_init_256 : decode cX12_init 256 = .ok (.bipush 8, 2) := by decide +kernel
theorem dX12_init_258 : decode cX12_init 258 = .ok (.newarray .int, 2) := by decide +kernel
theorem dX12_init_260 : decode cX12_init 260 = .ok (.putfield 114, 3) := by decide +kernel
theorem dX12_init_263 : decode cX12_init 263 = .ok (.aload_n 0, 1) := by decide +kernel
theorem dX12_init_264 : decode cX12_init 264 = .ok (.bipush 16, 2) := by decide +kernel
theorem dX12_init_266 : decode cX12_init 266 = .ok (.newarray .int, 2) := by decide +kernel
theorem dX12_init_268 : decode cX12_init 268 = .ok (.putfield 117, 3) := by decide +kernel
theorem dX12_init_271 : decode cX12_init 271 = .ok (.aload_n 0, 1) := by decide +kernel
theorem dX12_init_272 : decode cX12_init 272 = .ok (.bipush 64, 2) := by decide +kernel
theorem dX12_init_274 : decode cX12_init 274 = .ok (.newarray .byte, 2) := by decide +kernel
theorem dX12_init_276 : decode cX12_init 276 = .ok (.putfield 120, 3) := by decide +kernel
theorem dX12_init_279 : decode cX12_init 279 = .ok (.aload_n 0, 1) := by decide +kernel
theorem dX12_init_280 : decode cX12_init 280 = .ok (.sipush 960, 3) := by decide +kernel
theorem dX12_init_283 : decode cX12_init 283 = .ok (.newarray .byte, 2) := by decide +kernel
theorem dX12_init_285 : decode cX12_init 285 = .ok (.putfield 123, 3) := by decide +kernel
theorem dX12_init_288 : decode cX12_init 288 = .ok (.aload_n 0, 1) := by decide +kernel
theorem dX12_init_289 : decode cX12_init 289 = .ok (.bipush 8, 2) := by decide +kernel
theorem dX12_init_291 : decode cX12_init 291 = .ok (.newarray .int, 2) := by decide +kernel
theorem dX12_init_293 : decode cX12_init 293 = .ok (.putfield 126, 3) := by decide +kernel
theorem dX12_init_296 : decode cX12_init 296 = .ok (.aload_n 0, 1) := by decide +kernel
theorem dX12_init_297 : decode cX12_init 297 = .ok (.bipush 120, 2) := by decide +kernel
theorem dX12_init_299 : decode cX12_init 299 = .ok (.newarray .int, 2) := by decide +kernel
theorem dX12_init_301 : decode cX12_init 301 = .ok (.putfield 129, 3) := by decide +kernel
theorem dX12_init_304 : decode cX12_init 304 = .ok (.aload_n 0, 1) := by decide +kernel
theorem dX12_init_305 : decode cX12_init 305 = .ok (.iconst 1, 1) := by decide +kernel
theorem dX12_init_306 : decode cX12_init 306 = .ok (.putfield 132, 3) := by decide +kernel
theorem dX12_init_309 : decode cX12_init 309 = .ok (.aload_n 0, 1) := by decide +kernel
theorem dX12_init_310 : decode cX12_init 310 = .ok (.bipush 81, 2) := by decide +kernel
theorem dX12_init_312 : decode cX12_init 312 = .ok (.newarray .int, 2) := by decide +kernel
theorem dX12_init_314 : decode cX12_init 314 = .ok (.putfield 135, 3) := by decide +kernel
theorem dX12_init_317 : decode cX12_init 317 = .ok (.aload_n 0, 1) := by decide +kernel
theorem dX12_init_318 : decode cX12_init 318 = .ok (.bipush 16, 2) := by decide +kernel
theorem dX12_init_320 : decode cX12_init 320 = .ok (.newarray .int, 2) := by decide +kernel
theorem dX12_init_322 : decode cX12_init 322 = .ok (.putfield 138, 3) := by decide +kernel
theorem dX12_init_325 : decode cX12_init 325 = .ok (.aload_n 0, 1) := by decide +kernel
theorem dX12_init_326 : decode cX12_init 326 = .ok (.bipush 16, 2) := by decide +kernel
theorem dX12_init_328 : decode cX12_init 328 = .ok (.newarray .int, 2) := by decide +kernel
theorem dX12_init_330 : decode cX12_init 330 = .ok (.putfield 141, 3) := by decide +kernel
theorem dX12_init_333 : decode cX12_init 333 = .ok (.aload_n 0, 1) := by decide +kernel
theorem dX12_init_334 : decode cX12_init 334 = .ok (.bipush 6, 2) := by decide +kernel
theorem dX12_init_336 : decode cX12_init 336 = .ok (.newarray .int, 2) := by decide +kernel
theorem dX12_init_338 : decode cX12_init 338 = .ok (.putfield 144, 3) := by decide +kernel
theorem dX12_init_341 : decode cX12_init 341 = .ok (.aload_n 0, 1) := by decide +kernel
theorem dX12_init_342 : decode cX12_init 342 = .ok (.bipush 120, 2) := by decide +kernel
theorem dX12_init_344 : decode cX12_init 344 = .ok (.newarray .int, 2) := by decide +kernel
theorem dX12_init_346 : decode cX12_init 346 = .ok (.putfield 147, 3) := by decide +kernel
theorem dX12_init_349 : decode cX12_init 349 = .ok (.aload_n 0, 1) := by decide +kernel
theorem dX12_init_350 : decode cX12_init 350 = .ok (.bipush 120, 2) := by decide +kernel
theorem dX12_init_352 : decode cX12_init 352 = .ok (.newarray .int, 2) := by decide +kernel
theorem dX12_init_354 : decode cX12_init 354 = .ok (.putfield 150, 3) := by decide +kernel
theorem dX12_init_357 : decode cX12_init 357 = .ok (.aload_n 0, 1) := by decide +kernel
theorem dX12_init_358 : decode cX12_init 358 = .ok (.bipush 120, 2) := by decide +kernel
theorem dX12_init_360 : decode cX12_init 360 = .ok (.newarray .int, 2) := by decide +kernel
theorem dX12_init_362 : decode cX12_init 362 = .ok (.putfield 153, 3) := by decide +kernel
theorem dX12_init_365 : decode cX12_init 365 = .ok (.aload_n 0, 1) := by decide +kernel
theorem dX12_init_366 : decode cX12_init 366 = .ok (.bipush 21, 2) := by decide +kernel
theorem dX12_init_368 : decode cX12_init 368 = .ok (.newarray .boolean, 2) := by decide +kernel
theorem dX12_init_370 : decode cX12_init 370 = .ok (.putfield 156, 3) := by decide +kernel
theorem dX12_init_373 : decode cX12_init 373 = .ok (.aload_n 0, 1) := by decide +kernel
theorem dX12_init_374 : decode cX12_init 374 = .ok (.bipush 21, 2) := by decide +kernel
theorem dX12_init_376 : decode cX12_init 376 = .ok (.newarray .int, 2) := by decide +kernel
theorem dX12_init_378 : decode cX12_init 378 = .ok (.putfield 159, 3) := by decide +kernel
theorem dX12_init_381 : decode cX12_init 381 = .ok (.aload_n 0, 1) := by decide +kernel
theorem dX12_init_382 : decode cX12_init 382 = .ok (.bipush 96, 2) := by decide +kernel
theorem dX12_init_384 : decode cX12_init 384 = .ok (.newarray .int, 2) := by decide +kernel
theorem dX12_init_386 : decode cX12_init 386 = .ok (.putfield 162, 3) := by decide +kernel
theorem dX12_init_389 : decode cX12_init 389 = .ok (.aload_n 0, 1) := by decide +kernel
theorem dX12_init_390 : decode cX12_init 390 = .ok (.sipush 768, 3) := by decide +kernel
theorem dX12_init_393 : decode cX12_init 393 = .ok (.newarray .int, 2) := by decide +kernel
theorem dX12_init_395 : decode cX12_init 395 = .ok (.putfield 165, 3) := by decide +kernel
theorem dX12_init_398 : decode cX12_init 398 = .ok (.aload_n 0, 1) := by decide +kernel
theorem dX12_init_399 : decode cX12_init 399 = .ok (.iconst 2, 1) := by decide +kernel
theorem dX12_init_400 : decode cX12_init 400 = .ok (.bipush 16, 2) := by decide +kernel
theorem dX12_init_402 : decode cX12_init 402 = .ok (.iload_n 1, 1) := by decide +kernel
theorem dX12_init_403 : decode cX12_init 403 = .ok (.invokestatic 168, 3) := by decide +kernel
theorem dX12_init_406 : decode cX12_init 406 = .ok (.invokestatic 174, 3) := by decide +kernel
theorem dX12_init_409 : decode cX12_init 409 = .ok (.putfield 177, 3) := by decide +kernel
theorem dX12_init_412 : decode cX12_init 412 = .ok (.iconst 0, 1) := by decide +kernel
theorem dX12_init_413 : decode cX12_init 413 = .ok (.istore_n 2, 1) := by decide +kernel
theorem dX12_init_414 : decode cX12_init 414 = .ok (.iload_n 2, 1) := by decide +kernel
theorem dX12_init_415 : decode cX12_init 415 = .ok (.bipush 6, 2) := by decide +kernel
theorem dX12_init_417 : decode cX12_init 417 = .ok (.if_icmp .ge 23, 3) := by decide +kernel
theorem dX12_init_420 : decode cX12_init 420 = .ok (.aload_n 0, 1) := by decide +kernel
theorem dX12_init_421 : decode cX12_init 421 = .ok (.getfield 66, 3) := by decide +kernel
theorem dX12_init_424 : decode cX12_init 424 = .ok (.iload_n 2, 1) := by decide +kernel
theorem dX12_init_425 : decode cX12_init 425 = .ok (.iconst (-1), 1) := by decide +kernel
theorem dX12_init_426 : decode cX12_init 426 = .ok (.iastore, 1) := by decide +kernel
theorem dX12_init_427 : decode cX12_init 427 = .ok (.aload_n 0, 1) := by decide +kernel
theorem dX12_init_428 : decode cX12_init 428 = .ok (.getfield 69, 3) := by decide +kernel
theorem dX12_init_431 : decode cX12_init 431 = .ok (.iload_n 2, 1) := by decide +kernel
theorem dX12_init_432 : decode cX12_init 432 = .ok (.iconst 1, 1) := by decide +kernel
theorem dX12_init_433 : decode cX12_init 433 = .ok (.iastore, 1) := by decide +kernel
theorem dX12_init_434 : decode cX12_init 434 = .ok (.iinc 2 1, 3) := by decide +kernel
theorem dX12_init_437 : decode cX12_init 437 = .ok (.goto (-23), 3) := by decide +kernel
theorem dX12_init_440 : decode cX12_init 440 = .ok (.iconst 0, 1) := by decide +kernel
theorem dX12_init_441 : decode cX12_init 441 = .ok (.istore_n 2, 1) := by decide +kernel
theorem dX12_init_442 : decode cX12_init 442 = .ok (.iload_n 2, 1) := by decide +kernel
theorem dX12_init_443 : decode cX12_init 443 = .ok (.bipush 16, 2) := by decide +kernel
theorem dX12_init_445 : decode cX12_init 445 = .ok (.if_icmp .ge 16, 3) := by decide +kernel
theorem dX12_init_448 : decode cX12_init 448 = .ok (.aload_n 0, 1) := by decide +kernel
theorem dX12_init_449 : decode cX12_init 449 = .ok (.getfield 16, 3) := by decide +kernel
theorem dX12_init_452 : decode cX12_init 452 = .ok (.iload_n 2, 1) := by decide +kernel
theorem dX12_init_453 : decode cX12_init 453 = .ok (.iconst (-1), 1) := by decide +kernel
theorem dX12_init_454 : decode cX12_init 454 = .ok (.iastore, 1) := by decide +kernel
theorem dX12_init_455 : decode cX12_init 455 = .ok (.iinc 2 1, 3) := by decide +kernel
theorem dX12_init_458 : decode cX12_init 458 = .ok (.goto (-16), 3) := by decide +kernel
theorem dX12_init_461 : decode cX12_init 461 = .ok (.return_, 1) := by decide +kernel
theorem dX12_isIn_0 : decode cX12_isIn 0 = .ok (.iload_n 0, 1) := by decide +kernel
theorem dX12_isIn_1 : decode cX12_isIn 1 = .ok (.iload_n 1, 1) := by decide +kernel
theorem dX12_isIn_2 : decode cX12_isIn 2 = .ok (.if_icmp .lt 12, 3) := by decide +kernel
theorem dX12_isIn_5 : decode cX12_isIn 5 = .ok (.iload_n 0, 1) := by decide +kernel
theorem dX12_isIn_6 : decode cX12_isIn 6 = .ok (.iload_n 2, 1) := by decide +kernel
theorem dX12_isIn_7 : decode cX12_isIn 7 = .ok (.if_icmp .gt 7, 3) := by decide +kernel
theorem dX12_isIn_10 : decode cX12_isIn 10 = .ok (.iconst 1, 1) := by decide +kernel
theorem dX12_isIn_11 : decode cX12_isIn 11 = .ok (.goto 4, 3) := by decide +kernel
theorem dX12_isIn_14 : decode cX12_isIn 14 = .ok (.iconst 0, 1) := by decide +kernel
theorem dX12_isIn_15 : decode cX12_isIn 15 = .ok (.ireturn, 1) := by decide +kernel
theorem dX12_has_0 : decode cX12_has 0 = .ok (.iload_n 0, 1) := by decide +kernel
theorem dX12_has_1 : decode cX12_has 1 = .ok (.iload_n 1, 1) := by decide +kernel
theorem dX12_has_2 : decode cX12_has 2 = .ok (.ishr, 1) := by decide +kernel
theorem dX12_has_3 : decode cX12_has 3 = .ok (.iconst 1, 1) := by decide +kernel
theorem dX12_has_4 : decode cX12_has 4 = .ok (.iand, 1) := by decide +kernel
theorem dX12_has_5 : decode cX12_has 5 = .ok (.iconst 1, 1) := by decide +kernel
theorem dX12_has_6 : decode cX12_has 6 = .ok (.if_icmp .ne 7, 3) := by decide +kernel
theorem dX12_has_9 : decode cX12_has 9 = .ok (.iconst 1, 1) := by decide +kernel
theorem dX12_has_10 : decode cX12_has 10 = .ok (.goto 4, 3) := by decide +kernel
theorem dX12_has_13 : decode cX12_has 13 = .ok (.iconst 0, 1) := by decide +kernel
theorem dX12_has_14 : decode cX12_has 14 = .ok (.ireturn, 1) := by decide +kernel
theorem dX12_isBefore_0 : decode cX12_isBefore 0 = .ok (.iload_n 0, 1) := by decide +kernel
theorem dX12_isBefore_1 : decode cX12_isBefore 1 = .ok (.invokestatic 183, 3) := by decide +kernel
theorem dX12_isBefore_4 : decode cX12_isBefore 4 = .ok (.istore_n 2, 1) := by decide +kernel
theorem dX12_isBefore_5 : decode cX12_isBefore 5 = .ok (.iload_n 1, 1) := by decide +kernel
theorem dX12_isBefore_6 : decode cX12_isBefore 6 = .ok (.invokestatic 183, 3) := by decide +kernel
theorem dX12_isBefore_9 : decode cX12_isBefore 9 = .ok (.istore_n 3, 1) := by decide +kernel
theorem dX12_isBefore_10 : decode cX12_isBefore 10 = .ok (.iload_n 0, 1) := by decide +kernel
theorem dX12_isBefore_11 : decode cX12_isBefore 11 = .ok (.iload_n 1, 1) := by decide +kernel
theorem dX12_isBefore_12 : decode cX12_isBefore 12 = .ok (.ixor, 1) := by decide +kernel
theorem dX12_isBefore_13 : decode cX12_isBefore 13 = .ok (.istore 4, 2) := by decide +kernel
theorem dX12_isBefore_15 : decode cX12_isBefore 15 = .ok (.iload_n 2, 1) := by decide +kernel
theorem dX12_isBefore_16 : decode cX12_isBefore 16 = .ok (.iload_n 3, 1) := by decide +kernel
theorem dX12_isBefore_17 : decode cX12_isBefore 17 = .ok (.if_icmp .eq 16, 3) := by decide +kernel
theorem dX12_isBefore_20 : decode cX12_isBefore 20 = .ok (.iload_n 2, 1) := by decide +kernel
theorem dX12_isBefore_21 : decode cX12_isBefore 21 = .ok (.iload_n 3, 1) := by decide +kernel
theorem dX12_isBefore_22 : decode cX12_isBefore 22 = .ok (.if_icmp .ge 7, 3) := by decide +kernel
theorem dX12_isBefore_25 : decode cX12_isBefore 25 = .ok (.iconst 1, 1) := by decide +kernel
theorem dX12_isBefore_26 : decode cX12_isBefore 26 = .ok (.goto 23, 3) := by decide +kernel
theorem dX12_isBefore_29 : decode cX12_isBefore 29 = .ok (.iconst 0, 1) := by decide +kernel
theorem dX12_isBefore_30 : decode cX12_isBefore 30 = .ok (.goto 19, 3) := by decide +kernel
theorem dX12_isBefore_33 : decode cX12_isBefore 33 = .ok (.iload_n 0, 1) := by decide +kernel
theorem dX12_isBefore_34 : decode cX12_isBefore 34 = .ok (.iload 4, 2) := by decide +kernel
theorem dX12_isBefore_36 : decode cX12_isBefore 36 = .ok (.iand, 1) := by decide +kernel
theorem dX12_isBefore_37 : decode cX12_isBefore 37 = .ok (.iload 4, 2) := by decide +kernel
theorem dX12_isBefore_39 : decode cX12_isBefore 39 = .ok (.ineg, 1) := by decide +kernel
theorem dX12_isBefore_40 : decode cX12_isBefore 40 = .ok (.iand, 1) := by decide +kernel
theorem dX12_isBefore_41 : decode cX12_isBefore 41 = .ok (.ifCond .eq 7, 3) := by decide +kernel
theorem dX12_isBefore_44 : decode cX12_isBefore 44 = .ok (.iconst 1, 1) := by decide +kernel
theorem dX12_isBefore_45 : decode cX12_isBefore 45 = .ok (.goto 4, 3) := by decide +kernel
theorem dX12_isBefore_48 : decode cX12_isBefore 48 = .ok (.iconst 0, 1) := by decide +kernel
theorem dX12_isBefore_49 : decode cX12_isBefore 49 = .ok (.ireturn, 1) := by decide +kernel
theorem dX12_isRow_0 : decode cX12_isRow 0 = .ok (.iload_n 1, 1) := by decide +kernel
theorem dX12_isRow_1 : decode cX12_isRow 1 = .ok (.ifCond .lt 17, 3) := by decide +kernel
theorem dX12_isRow_4 : decode cX12_isRow 4 = .ok (.iload_n 1, 1) := by decide +kernel
theorem dX12_isRow_5 : decode cX12_isRow 5 = .ok (.iconst 1, 1) := by decide +kernel
theorem dX12_isRow_6 : decode cX12_isRow 6 = .ok (.aload_n 0, 1) := by decide +kernel
theorem dX12_isRow_7 : decode cX12_isRow 7 = .ok (.getfield 177, 3) := by decide +kernel
theorem dX12_isRow_10 : decode cX12_isRow 10 = .ok (.ishl, 1) := by decide +kernel
theorem dX12_isRow_11 : decode cX12_isRow 11 = .ok (.if_icmp .ge 7, 3) := by decide +kernel
theorem dX12_isRow_14 : decode cX12_isRow 14 = .ok (.iconst 1, 1) := by decide +kernel
theorem dX12_isRow_15 : decode cX12_isRow 15 = .ok (.goto 4, 3) := by decide +kernel
theorem dX12_isRow_18 : decode cX12_isRow 18 = .ok (.iconst 0, 1) := by decide +kernel
theorem dX12_isRow_19 : decode cX12_isRow 19 = .ok (.ireturn, 1) := by decide +kernel
theorem dX12_office_0 : decode cX12_office 0 = .ok (.aload_n 0, 1) := by decide +kernel
theorem dX12_office_1 : decode cX12_office 1 = .ok (.iconst 0, 1) := by decide +kernel
theorem dX12_office_2 : decode cX12_office 2 = .ok (.putfield 180, 3) := by decide +kernel
theorem dX12_office_5 : decode cX12_office 5 = .ok (.aload_n 0, 1) := by decide +kernel
theorem dX12_office_6 : decode cX12_office 6 = .ok (.getfield 189, 3) := by decide +kernel
theorem dX12_office_9 : decode cX12_office 9 = .ok (.bipush 6, 2) := by decide +kernel
theorem dX12_office_11 : decode cX12_office 11 = .ok (.if_icmp .eq 27, 3) := by decide +kernel
theorem dX12_office_14 : decode cX12_office 14 = .ok (.aload_n 0, 1) := by decide +kernel
theorem dX12_office_15 : decode cX12_office 15 = .ok (.iload_n 1, 1) := by decide +kernel
theorem dX12_office_16 : decode cX12_office 16 = .ok (.invokevirtual 192, 3) := by decide +kernel
theorem dX12_office_19 : decode cX12_office 19 = .ok (.ifCond .eq 19, 3) := by decide +kernel
theorem dX12_office_22 : decode cX12_office 22 = .ok (.iload_n 1, 1) := by decide +kernel
theorem dX12_office_23 : decode cX12_office 23 = .ok (.ifCond .eq 15, 3) := by decide +kernel
theorem dX12_office_26 : decode cX12_office 26 = .ok (.iload_n 2, 1) := by decide +kernel
theorem dX12_office_27 : decode cX12_office 27 = .ok (.iconst 1, 1) := by decide +kernel
theorem dX12_office_28 : decode cX12_office 28 = .ok (.iload_n 1, 1) := by decide +kernel
theorem dX12_office_29 : decode cX12_office 29 = .ok (.invokestatic 183, 3) := by decide +kernel
theorem dX12_office_32 : decode cX12_office 32 = .ok (.invokestatic 196, 3) := by decide +kernel
theorem dX12_office_35 : decode cX12_office 35 = .ok (.ifCond .ne 5, 3) := by decide +kernel
theorem dX12_office_38 : decode cX12_office 38 = .ok (.iconst (-1), 1) := by decide +kernel
theorem dX12_office_39 : decode cX12_office 39 = .ok (.ireturn, 1) := by decide +kernel
theorem dX12_office_40 : decode cX12_office 40 = .ok (.iconst 0, 1) := by decide +kernel
theorem dX12_office_41 : decode cX12_office 41 = .ok (.istore_n 3, 1) := by decide +kernel
theorem dX12_office_42 : decode cX12_office 42 = .ok (.iload_n 3, 1) := by decide +kernel
theorem dX12_office_43 : decode cX12_office 43 = .ok (.aload_n 0, 1) := by decide +kernel
theorem dX12_office_44 : decode cX12_office 44 = .ok (.getfield 177, 3) := by decide +kernel
theorem dX12_office_47 : decode cX12_office 47 = .ok (.if_icmp .ge 29, 3) := by decide +kernel
theorem dX12_office_50 : decode cX12_office 50 = .ok (.iload_n 1, 1) := by decide +kernel
theorem dX12_office_51 : decode cX12_office 51 = .ok (.iload_n 3, 1) := by decide +kernel
theorem dX12_office_52 : decode cX12_office 52 = .ok (.invokestatic 200, 3) := by decide +kernel
theorem dX12_office_55 : decode cX12_office 55 = .ok (.ifCond .eq 15, 3) := by decide +kernel
theorem dX12_office_58 : decode cX12_office 58 = .ok (.aload_n 0, 1) := by decide +kernel
theorem dX12_office_59 : decode cX12_office 59 = .ok (.getfield 16, 3) := by decide +kernel
theorem dX12_office_62 : decode cX12_office 62 = .ok (.iload_n 3, 1) := by decide +kernel
theorem dX12_office_63 : decode cX12_office 63 = .ok (.iaload, 1) := by decide +kernel
theorem dX12_office_64 : decode cX12_office 64 = .ok (.iconst (-1), 1) := by decide +kernel
theorem dX12_office_65 : decode cX12_office 65 = .ok (.if_icmp .eq 5, 3) := by decide +kernel
theorem dX12_office_68 : decode cX12_office 68 = .ok (.iconst (-1), 1) := by decide +kernel
theorem dX12_office_69 : decode cX12_office 69 = .ok (.ireturn, 1) := by decide +kernel
theorem dX12_office_70 : decode cX12_office 70 = .ok (.iinc 3 1, 3) := by decide +kernel
theorem dX12_office_73 : decode cX12_office 73 = .ok (.goto (-31), 3) := by decide +kernel
theorem dX12_office_76 : decode cX12_office 76 = .ok (.iconst 0, 1) := by decide +kernel
theorem dX12_office_77 : decode cX12_office 77 = .ok (.istore_n 3, 1) := by decide +kernel
theorem dX12_office_78 : decode cX12_office 78 = .ok (.iload_n 3, 1) := by decide +kernel
theorem dX12_office_79 : decode cX12_office 79 = .ok (.aload_n 0, 1) := by decide +kernel
theorem dX12_office_80 : decode cX12_office 80 = .ok (.getfield 177, 3) := by decide +kernel
theorem dX12_office_83 : decode cX12_office 83 = .ok (.if_icmp .ge 27, 3) := by decide +kernel
theorem dX12_office_86 : decode cX12_office 86 = .ok (.iload_n 1, 1) := by decide +kernel
theorem dX12_office_87 : decode cX12_office 87 = .ok (.iload_n 3, 1) := by decide +kernel
theorem dX12_office_88 : decode cX12_office 88 = .ok (.invokestatic 200, 3) := by decide +kernel
theorem dX12_office_91 : decode cX12_office 91 = .ok (.ifCond .eq 13, 3) := by decide +kernel
theorem dX12_office_94 : decode cX12_office 94 = .ok (.aload_n 0, 1) := by decide +kernel
theorem dX12_office_95 : decode cX12_office 95 = .ok (.getfield 16, 3) := by decide +kernel
theorem dX12_office_98 : decode cX12_office 98 = .ok (.iload_n 3, 1) := by decide +kernel
theorem dX12_office_99 : decode cX12_office 99 = .ok (.aload_n 0, 1) := by decide +kernel
theorem dX12_office_100 : decode cX12_office 100 = .ok (.getfield 189, 3) := by decide +kernel
theorem dX12_office_103 : decode cX12_office 103 = .ok (.iastore, 1) := by decide +kernel
theorem dX12_office_104 : decode cX12_office 104 = .ok (.iinc 3 1, 3) := by decide +kernel
theorem dX12_office_107 : decode cX12_office 107 = .ok (.goto (-29), 3) := by decide +kernel
theorem dX12_office_110 : decode cX12_office 110 = .ok (.aload_n 0, 1) := by decide +kernel
theorem dX12_office_111 : decode cX12_office 111 = .ok (.getfield 9, 3) := by decide +kernel
theorem dX12_office_114 : decode cX12_office 114 = .ok (.aload_n 0, 1) := by decide +kernel
theorem dX12_office_115 : decode cX12_office 115 = .ok (.getfield 189, 3) := by decide +kernel
theorem dX12_office_118 : decode cX12_office 118 = .ok (.iload_n 1, 1) := by decide +kernel
theorem dX12_office_119 : decode cX12_office 119 = .ok (.iastore, 1) := by decide +kernel
theorem dX12_office_120 : decode cX12_office 120 = .ok (.aload_n 0, 1) := by decide +kernel
theorem dX12_office_121 : decode cX12_office 121 = .ok (.getfield 13, 3) := by decide +kernel
theorem dX12_office_124 : decode cX12_office 124 = .ok (.aload_n 0, 1) := by decide +kernel
theorem dX12_office_125 : decode cX12_office 125 = .ok (.getfield 189, 3) := by decide +kernel
theorem dX12_office_128 : decode cX12_office 128 = .ok (.iload_n 2, 1) := by decide +kernel
theorem dX12_office_129 : decode cX12_office 129 = .ok (.iastore, 1) := by decide +kernel
theorem dX12_office_130 : decode cX12_office 130 = .ok (.aload_n 0, 1) := by decide +kernel
theorem dX12_office_131 : decode cX12_office 131 = .ok (.dup, 1) := by decide +kernel
theorem dX12_office_132 : decode cX12_office 132 = .ok (.getfield 189, 3) := by decide +kernel
theorem dX12_office_135 : decode cX12_office 135 = .ok (.iconst 1, 1) := by decide +kernel
theorem dX12_office_136 : decode cX12_office 136 = .ok (.iadd, 1) := by decide +kernel
theorem dX12_office_137 : decode cX12_office 137 = .ok (.putfield 189, 3) := by decide +kernel
theorem dX12_office_140 : decode cX12_office 140 = .ok (.aload_n 0, 1) := by decide +kernel
theorem dX12_office_141 : decode cX12_office 141 = .ok (.getfield 189, 3) := by decide +kernel
theorem dX12_office_144 : decode cX12_office 144 = .ok (.iconst 1, 1) := by decide +kernel
theorem dX12_office_145 : decode cX12_office 145 = .ok (.isub, 1) := by decide +kernel
theorem dX12_office_146 : decode cX12_office 146 = .ok (.ireturn, 1) := by decide +kernel
theorem dX12_strap_0 : decode cX12_strap 0 = .ok (.aload_n 0, 1) := by decide +kernel
theorem dX12_strap_1 : decode cX12_strap 1 = .ok (.iconst 0, 1) := by decide +kernel
theorem dX12_strap_2 : decode cX12_strap 2 = .ok (.putfield 180, 3) := by decide +kernel
theorem dX12_strap_5 : decode cX12_strap 5 = .ok (.aload_n 0, 1) := by decide +kernel
theorem dX12_strap_6 : decode cX12_strap 6 = .ok (.getfield 204, 3) := by decide +kernel
theorem dX12_strap_9 : decode cX12_strap 9 = .ok (.bipush 10, 2) := by decide +kernel
theorem dX12_strap_11 : decode cX12_strap 11 = .ok (.if_icmp .eq 27, 3) := by decide +kernel
theorem dX12_strap_14 : decode cX12_strap 14 = .ok (.aload_n 0, 1) := by decide +kernel
theorem dX12_strap_15 : decode cX12_strap 15 = .ok (.iload_n 1, 1) := by decide +kernel
theorem dX12_strap_16 : decode cX12_strap 16 = .ok (.invokevirtual 192, 3) := by decide +kernel
theorem dX12_strap_19 : decode cX12_strap 19 = .ok (.ifCond .eq 19, 3) := by decide +kernel
theorem dX12_strap_22 : decode cX12_strap 22 = .ok (.iload_n 1, 1) := by decide +kernel
theorem dX12_strap_23 : decode cX12_strap 23 = .ok (.ifCond .eq 15, 3) := by decide +kernel
theorem dX12_strap_26 : decode cX12_strap 26 = .ok (.iload_n 2, 1) := by decide +kernel
theorem dX12_strap_27 : decode cX12_strap 27 = .ok (.iconst 0, 1) := by decide +kernel
theorem dX12_strap_28 : decode cX12_strap 28 = .ok (.iload_n 1, 1) := by decide +kernel
theorem dX12_strap_29 : decode cX12_strap 29 = .ok (.invokestatic 183, 3) := by decide +kernel
theorem dX12_strap_32 : decode cX12_strap 32 = .ok (.invokestatic 196, 3) := by decide +kernel
theorem dX12_strap_35 : decode cX12_strap 35 = .ok (.ifCond .ne 5, 3) := by decide +kernel
theorem dX12_strap_38 : decode cX12_strap 38 = .ok (.iconst (-1), 1) := by decide +kernel
theorem dX12_strap_39 : decode cX12_strap 39 = .ok (.ireturn, 1) := by decide +kernel
theorem dX12_strap_40 : decode cX12_strap 40 = .ok (.aload_n 0, 1) := by decide +kernel
theorem dX12_strap_41 : decode cX12_strap 41 = .ok (.getfield 19, 3) := by decide +kernel
theorem dX12_strap_44 : decode cX12_strap 44 = .ok (.aload_n 0, 1) := by decide +kernel
theorem dX12_strap_45 : decode cX12_strap 45 = .ok (.getfield 204, 3) := by decide +kernel
theorem dX12_strap_48 : decode cX12_strap 48 = .ok (.iload_n 1, 1) := by decide +kernel
theorem dX12_strap_49 : decode cX12_strap 49 = .ok (.iastore, 1) := by decide +kernel
theorem dX12_strap_50 : decode cX12_strap 50 = .ok (.aload_n 0, 1) := by decide +kernel
theorem dX12_strap_51 : decode cX12_strap 51 = .ok (.getfield 22, 3) := by decide +kernel
theorem dX12_strap_54 : decode cX12_strap 54 = .ok (.aload_n 0, 1) := by decide +kernel
theorem dX12_strap_55 : decode cX12_strap 55 = .ok (.getfield 204, 3) := by decide +kernel
theorem dX12_strap_58 : decode cX12_strap 58 = .ok (.iload_n 2, 1) := by decide +kernel
theorem dX12_strap_59 : decode cX12_strap 59 = .ok (.iastore, 1) := by decide +kernel
theorem dX12_strap_60 : decode cX12_strap 60 = .ok (.aload_n 0, 1) := by decide +kernel
theorem dX12_strap_61 : decode cX12_strap 61 = .ok (.dup, 1) := by decide +kernel
theorem dX12_strap_62 : decode cX12_strap 62 = .ok (.getfield 204, 3) := by decide +kernel
theorem dX12_strap_65 : decode cX12_strap 65 = .ok (.iconst 1, 1) := by decide +kernel
theorem dX12_strap_66 : decode cX12_strap 66 = .ok (.iadd, 1) := by decide +kernel
theorem dX12_strap_67 : decode cX12_strap 67 = .ok (.putfield 204, 3) := by decide +kernel
theorem dX12_strap_70 : decode cX12_strap 70 = .ok (.aload_n 0, 1) := by decide +kernel
theorem dX12_strap_71 : decode cX12_strap 71 = .ok (.getfield 204, 3) := by decide +kernel
theorem dX12_strap_74 : decode cX12_strap 74 = .ok (.iconst 1, 1) := by decide +kernel
theorem dX12_strap_75 : decode cX12_strap 75 = .ok (.isub, 1) := by decide +kernel
theorem dX12_strap_76 : decode cX12_strap 76 = .ok (.ireturn, 1) := by decide +kernel
theorem dX12_unstrap_0 : decode cX12_unstrap 0 = .ok (.aload_n 0, 1) := by decide +kernel
theorem dX12_unstrap_1 : decode cX12_unstrap 1 = .ok (.iconst 0, 1) := by decide +kernel
theorem dX12_unstrap_2 : decode cX12_unstrap 2 = .ok (.putfield 180, 3) := by decide +kernel
theorem dX12_unstrap_5 : decode cX12_unstrap 5 = .ok (.aload_n 0, 1) := by decide +kernel
theorem dX12_unstrap_6 : decode cX12_unstrap 6 = .ok (.getfield 204, 3) := by decide +kernel
theorem dX12_unstrap_9 : decode cX12_unstrap 9 = .ok (.ifCond .ne 5, 3) := by decide +kernel
theorem dX12_unstrap_12 : decode cX12_unstrap 12 = .ok (.iconst (-1), 1) := by decide +kernel
theorem dX12_unstrap_13 : decode cX12_unstrap 13 = .ok (.ireturn, 1) := by decide +kernel
theorem dX12_unstrap_14 : decode cX12_unstrap 14 = .ok (.aload_n 0, 1) := by decide +kernel
theorem dX12_unstrap_15 : decode cX12_unstrap 15 = .ok (.dup, 1) := by decide +kernel
theorem dX12_unstrap_16 : decode cX12_unstrap 16 = .ok (.getfield 204, 3) := by decide +kernel
theorem dX12_unstrap_19 : decode cX12_unstrap 19 = .ok (.iconst 1, 1) := by decide +kernel
theorem dX12_unstrap_20 : decode cX12_unstrap 20 = .ok (.isub, 1) := by decide +kernel
theorem dX12_unstrap_21 : decode cX12_unstrap 21 = .ok (.putfield 204, 3) := by decide +kernel
theorem dX12_unstrap_24 : decode cX12_unstrap 24 = .ok (.aload_n 0, 1) := by decide +kernel
theorem dX12_unstrap_25 : decode cX12_unstrap 25 = .ok (.getfield 204, 3) := by decide +kernel
theorem dX12_unstrap_28 : decode cX12_unstrap 28 = .ok (.ireturn, 1) := by decide +kernel
theorem dX12_against_0 : decode cX12_against 0 = .ok (.iconst 0, 1) := by decide +kernel
theorem dX12_against_1 : decode cX12_against 1 = .ok (.istore_n 2, 1) := by decide +kernel
theorem dX12_against_2 : decode cX12_against 2 = .ok (.iconst 0, 1) := by decide +kernel
theorem dX12_against_3 : decode cX12_against 3 = .ok (.istore_n 3, 1) := by decide +kernel
theorem dX12_against_4 : decode cX12_against 4 = .ok (.iload_n 3, 1) := by decide +kernel
theorem dX12_against_5 : decode cX12_against 5 = .ok (.aload_n 0, 1) := by decide +kernel
theorem dX12_against_6 : decode cX12_against 6 = .ok (.getfield 204, 3) := by decide +kernel
theorem dX12_against_9 : decode cX12_against 9 = .ok (.if_icmp .ge 39, 3) := by decide +kernel
theorem dX12_against_12 : decode cX12_against 12 = .ok (.iload_n 2, 1) := by decide +kernel
theorem dX12_against_13 : decode cX12_against 13 = .ok (.iload_n 1, 1) := by decide +kernel
theorem dX12_against_14 : decode cX12_against 14 = .ok (.aload_n 0, 1) := by decide +kernel
theorem dX12_against_15 : decode cX12_against 15 = .ok (.getfield 19, 3) := by decide +kernel
theorem dX12_against_18 : decode cX12_against 18 = .ok (.iload_n 3, 1) := by decide +kernel
theorem dX12_against_19 : decode cX12_against 19 = .ok (.iaload, 1) := by decide +kernel
theorem dX12_against_20 : decode cX12_against 20 = .ok (.iand, 1) := by decide +kernel
theorem dX12_against_21 : decode cX12_against 21 = .ok (.invokestatic 183, 3) := by decide +kernel
theorem dX12_against_24 : decode cX12_against 24 = .ok (.aload_n 0, 1) := by decide +kernel
theorem dX12_against_25 : decode cX12_against 25 = .ok (.getfield 22, 3) := by decide +kernel
theorem dX12_against_28 : decode cX12_against 28 = .ok (.iload_n 3, 1) := by decide +kernel
theorem dX12_against_29 : decode cX12_against 29 = .ok (.iaload, 1) := by decide +kernel
theorem dX12_against_30 : decode cX12_against 30 = .ok (.if_icmp .le 9, 3) := by decide +kernel
theorem dX12_against_33 : decode cX12_against 33 = .ok (.iconst 1, 1) := by decide +kernel
theorem dX12_against_34 : decode cX12_against 34 = .ok (.iload_n 3, 1) := by decide +kernel
theorem dX12_against_35 : decode cX12_against 35 = .ok (.ishl, 1) := by decide +kernel
theorem dX12_against_36 : decode cX12_against 36 = .ok (.goto 4, 3) := by decide +kernel
theorem dX12_against_39 : decode cX12_against 39 = .ok (.iconst 0, 1) := by decide +kernel
theorem dX12_against_40 : decode cX12_against 40 = .ok (.ior, 1) := by decide +kernel
theorem dX12_against_41 : decode cX12_against 41 = .ok (.istore_n 2, 1) := by decide +kernel
theorem dX12_against_42 : decode cX12_against 42 = .ok (.iinc 3 1, 3) := by decide +kernel
theorem dX12_against_45 : decode cX12_against 45 = .ok (.goto (-41), 3) := by decide +kernel
theorem dX12_against_48 : decode cX12_against 48 = .ok (.iload_n 2, 1) := by decide +kernel
theorem dX12_against_49 : decode cX12_against 49 = .ok (.ireturn, 1) := by decide +kernel
theorem dX12_isLawful_0 : decode cX12_isLawful 0 = .ok (.iconst 0, 1) := by decide +kernel
theorem dX12_isLawful_1 : decode cX12_isLawful 1 = .ok (.istore_n 2, 1) := by decide +kernel
theorem dX12_isLawful_2 : decode cX12_isLawful 2 = .ok (.iload_n 2, 1) := by decide +kernel
theorem dX12_isLawful_3 : decode cX12_isLawful 3 = .ok (.aload_n 0, 1) := by decide +kernel
theorem dX12_isLawful_4 : decode cX12_isLawful 4 = .ok (.getfield 189, 3) := by decide +kernel
theorem dX12_isLawful_7 : decode cX12_isLawful 7 = .ok (.if_icmp .ge 31, 3) := by decide +kernel
theorem dX12_isLawful_10 : decode cX12_isLawful 10 = .ok (.iload_n 1, 1) := by decide +kernel
theorem dX12_isLawful_11 : decode cX12_isLawful 11 = .ok (.aload_n 0, 1) := by decide +kernel
theorem dX12_isLawful_12 : decode cX12_isLawful 12 = .ok (.getfield 9, 3) := by decide +kernel
theorem dX12_isLawful_15 : decode cX12_isLawful 15 = .ok (.iload_n 2, 1) := by decide +kernel
theorem dX12_isLawful_16 : decode cX12_isLawful 16 = .ok (.iaload, 1) := by decide +kernel
theorem dX12_isLawful_17 : decode cX12_isLawful 17 = .ok (.iand, 1) := by decide +kernel
theorem dX12_isLawful_18 : decode cX12_isLawful 18 = .ok (.invokestatic 183, 3) := by decide +kernel
theorem dX12_isLawful_21 : decode cX12_isLawful 21 = .ok (.aload_n 0, 1) := by decide +kernel
theorem dX12_isLawful_22 : decode cX12_isLawful 22 = .ok (.getfield 13, 3) := by decide +kernel
theorem dX12_isLawful_25 : decode cX12_isLawful 25 = .ok (.iload_n 2, 1) := by decide +kernel
theorem dX12_isLawful_26 : decode cX12_isLawful 26 = .ok (.iaload, 1) := by decide +kernel
theorem dX12_isLawful_27 : decode cX12_isLawful 27 = .ok (.if_icmp .le 5, 3) := by decide +kernel
theorem dX12_isLawful_30 : decode cX12_isLawful 30 = .ok (.iconst 0, 1) := by decide +kernel
theorem dX12_isLawful_31 : decode cX12_isLawful 31 = .ok (.ireturn, 1) := by decide +kernel
theorem dX12_isLawful_32 : decode cX12_isLawful 32 = .ok (.iinc 2 1, 3) := by decide +kernel
theorem dX12_isLawful_35 : decode cX12_isLawful 35 = .ok (.goto (-33), 3) := by decide +kernel
theorem dX12_isLawful_38 : decode cX12_isLawful 38 = .ok (.iconst 1, 1) := by decide +kernel
theorem dX12_isLawful_39 : decode cX12_isLawful 39 = .ok (.ireturn, 1) := by decide +kernel
theorem dX12_may_0 : decode cX12_may 0 = .ok (.aload_n 0, 1) := by decide +kernel
theorem dX12_may_1 : decode cX12_may 1 = .ok (.iconst 0, 1) := by decide +kernel
theorem dX12_may_2 : decode cX12_may 2 = .ok (.putfield 180, 3) := by decide +kernel
theorem dX12_may_5 : decode cX12_may 5 = .ok (.aload_n 0, 1) := by decide +kernel
theorem dX12_may_6 : decode cX12_may 6 = .ok (.iload_n 1, 1) := by decide +kernel
theorem dX12_may_7 : decode cX12_may 7 = .ok (.invokevirtual 192, 3) := by decide +kernel
theorem dX12_may_10 : decode cX12_may 10 = .ok (.ifCond .eq 12, 3) := by decide +kernel
theorem dX12_may_13 : decode cX12_may 13 = .ok (.iload_n 2, 1) := by decide +kernel
theorem dX12_may_14 : decode cX12_may 14 = .ok (.iconst 0, 1) := by decide +kernel
theorem dX12_may_15 : decode cX12_may 15 = .ok (.iconst 1, 1) := by decide +kernel
theorem dX12_may_16 : decode cX12_may 16 = .ok (.invokestatic 196, 3) := by decide +kernel
theorem dX12_may_19 : decode cX12_may 19 = .ok (.ifCond .ne 5, 3) := by decide +kernel
theorem dX12_may_22 : decode cX12_may 22 = .ok (.iconst (-1), 1) := by decide +kernel
theorem dX12_may_23 : decode cX12_may 23 = .ok (.ireturn, 1) := by decide +kernel
theorem dX12_may_24 : decode cX12_may 24 = .ok (.iload_n 2, 1) := by decide +kernel
theorem dX12_may_25 : decode cX12_may 25 = .ok (.ifCond .ne 14, 3) := by decide +kernel
theorem dX12_may_28 : decode cX12_may 28 = .ok (.aload_n 0, 1) := by decide +kernel
theorem dX12_may_29 : decode cX12_may 29 = .ok (.iload_n 1, 1) := by decide +kernel
theorem dX12_may_30 : decode cX12_may 30 = .ok (.invokevirtual 207, 3) := by decide +kernel
theorem dX12_may_33 : decode cX12_may 33 = .ok (.ifCond .ne 18, 3) := by decide +kernel
theorem dX12_may_36 : decode cX12_may 36 = .ok (.goto 11, 3) := by decide +kernel
theorem dX12_may_39 : decode cX12_may 39 = .ok (.aload_n 0, 1) := by decide +kernel
theorem dX12_may_40 : decode cX12_may 40 = .ok (.iload_n 1, 1) := by decide +kernel
theorem dX12_may_41 : decode cX12_may 41 = .ok (.invokevirtual 210, 3) := by decide +kernel
theorem dX12_may_44 : decode cX12_may 44 = .ok (.ifCond .eq 7, 3) := by decide +kernel
theorem dX12_may_47 : decode cX12_may 47 = .ok (.iconst 1, 1) := by decide +kernel
theorem dX12_may_48 : decode cX12_may 48 = .ok (.goto 4, 3) := by decide +kernel
theorem dX12_may_51 : decode cX12_may 51 = .ok (.iconst 0, 1) := by decide +kernel
theorem dX12_may_52 : decode cX12_may 52 = .ok (.ireturn, 1) := by decide +kernel
theorem dX12_proof_0 : decode cX12_proof 0 = .ok (.aload_n 0, 1) := by decide +kernel
theorem dX12_proof_1 : decode cX12_proof 1 = .ok (.iconst 0, 1) := by decide +kernel
theorem dX12_proof_2 : decode cX12_proof 2 = .ok (.putfield 180, 3) := by decide +kernel
theorem dX12_proof_5 : decode cX12_proof 5 = .ok (.iload_n 1, 1) := by decide +kernel
theorem dX12_proof_6 : decode cX12_proof 6 = .ok (.iconst 0, 1) := by decide +kernel
theorem dX12_proof_7 : decode cX12_proof 7 = .ok (.iconst 1, 1) := by decide +kernel
theorem dX12_proof_8 : decode cX12_proof 8 = .ok (.invokestatic 196, 3) := by decide +kernel
theorem dX12_proof_11 : decode cX12_proof 11 = .ok (.ifCond .ne 5, 3) := by decide +kernel
theorem dX12_proof_14 : decode cX12_proof 14 = .ok (.iconst (-1), 1) := by decide +kernel
theorem dX12_proof_15 : decode cX12_proof 15 = .ok (.ireturn, 1) := by decide +kernel
theorem dX12_proof_16 : decode cX12_proof 16 = .ok (.iconst 0, 1) := by decide +kernel
theorem dX12_proof_17 : decode cX12_proof 17 = .ok (.istore_n 2, 1) := by decide +kernel
theorem dX12_proof_18 : decode cX12_proof 18 = .ok (.iload_n 2, 1) := by decide +kernel
theorem dX12_proof_19 : decode cX12_proof 19 = .ok (.iconst 1, 1) := by decide +kernel
theorem dX12_proof_20 : decode cX12_proof 20 = .ok (.aload_n 0, 1) := by decide +kernel
theorem dX12_proof_21 : decode cX12_proof 21 = .ok (.getfield 177, 3) := by decide +kernel
theorem dX12_proof_24 : decode cX12_proof 24 = .ok (.ishl, 1) := by decide +kernel
theorem dX12_proof_25 : decode cX12_proof 25 = .ok (.if_icmp .ge 47, 3) := by decide +kernel
theorem dX12_proof_28 : decode cX12_proof 28 = .ok (.aload_n 0, 1) := by decide +kernel
theorem dX12_proof_29 : decode cX12_proof 29 = .ok (.iload_n 2, 1) := by decide +kernel
theorem dX12_proof_30 : decode cX12_proof 30 = .ok (.invokevirtual 207, 3) := by decide +kernel
theorem dX12_proof_33 : decode cX12_proof 33 = .ok (.ifCond .ne 7, 3) := by decide +kernel
theorem dX12_proof_36 : decode cX12_proof 36 = .ok (.iconst 1, 1) := by decide +kernel
theorem dX12_proof_37 : decode cX12_proof 37 = .ok (.goto 4, 3) := by decide +kernel
theorem dX12_proof_40 : decode cX12_proof 40 = .ok (.iconst 0, 1) := by decide +kernel
theorem dX12_proof_41 : decode cX12_proof 41 = .ok (.istore_n 3, 1) := by decide +kernel
theorem dX12_proof_42 : decode cX12_proof 42 = .ok (.iload_n 3, 1) := by decide +kernel
theorem dX12_proof_43 : decode cX12_proof 43 = .ok (.aload_n 0, 1) := by decide +kernel
theorem dX12_proof_44 : decode cX12_proof 44 = .ok (.iload_n 2, 1) := by decide +kernel
theorem dX12_proof_45 : decode cX12_proof 45 = .ok (.invokevirtual 210, 3) := by decide +kernel
theorem dX12_proof_48 : decode cX12_proof 48 = .ok (.if_icmp .eq 18, 3) := by decide +kernel
theorem dX12_proof_51 : decode cX12_proof 51 = .ok (.iload_n 3, 1) := by decide +kernel
theorem dX12_proof_52 : decode cX12_proof 52 = .ok (.iload_n 1, 1) := by decide +kernel
theorem dX12_proof_53 : decode cX12_proof 53 = .ok (.ifCond .ne 7, 3) := by decide +kernel
theorem dX12_proof_56 : decode cX12_proof 56 = .ok (.iconst 1, 1) := by decide +kernel
theorem dX12_proof_57 : decode cX12_proof 57 = .ok (.goto 4, 3) := by decide +kernel
theorem dX12_proof_60 : decode cX12_proof 60 = .ok (.iconst 0, 1) := by decide +kernel
theorem dX12_proof_61 : decode cX12_proof 61 = .ok (.if_icmp .ne 5, 3) := by decide +kernel
theorem dX12_proof_64 : decode cX12_proof 64 = .ok (.iload_n 2, 1) := by decide +kernel
theorem dX12_proof_65 : decode cX12_proof 65 = .ok (.ireturn, 1) := by decide +kernel
theorem dX12_proof_66 : decode cX12_proof 66 = .ok (.iinc 2 1, 3) := by decide +kernel
theorem dX12_proof_69 : decode cX12_proof 69 = .ok (.goto (-51), 3) := by decide +kernel
theorem dX12_proof_72 : decode cX12_proof 72 = .ok (.iconst (-1), 1) := by decide +kernel
theorem dX12_proof_73 : decode cX12_proof 73 = .ok (.ireturn, 1) := by decide +kernel
theorem dX12_rows_0 : decode cX12_rows 0 = .ok (.aload_n 0, 1) := by decide +kernel
theorem dX12_rows_1 : decode cX12_rows 1 = .ok (.iconst 0, 1) := by decide +kernel
theorem dX12_rows_2 : decode cX12_rows 2 = .ok (.putfield 180, 3) := by decide +kernel
theorem dX12_rows_5 : decode cX12_rows 5 = .ok (.iconst 0, 1) := by decide +kernel
theorem dX12_rows_6 : decode cX12_rows 6 = .ok (.istore_n 1, 1) := by decide +kernel
theorem dX12_rows_7 : decode cX12_rows 7 = .ok (.iconst 0, 1) := by decide +kernel
theorem dX12_rows_8 : decode cX12_rows 8 = .ok (.istore_n 2, 1) := by decide +kernel
theorem dX12_rows_9 : decode cX12_rows 9 = .ok (.iload_n 2, 1) := by decide +kernel
theorem dX12_rows_10 : decode cX12_rows 10 = .ok (.iconst 1, 1) := by decide +kernel
theorem dX12_rows_11 : decode cX12_rows 11 = .ok (.aload_n 0, 1) := by decide +kernel
theorem dX12_rows_12 : decode cX12_rows 12 = .ok (.getfield 177, 3) := by decide +kernel
theorem dX12_rows_15 : decode cX12_rows 15 = .ok (.ishl, 1) := by decide +kernel
theorem dX12_rows_16 : decode cX12_rows 16 = .ok (.if_icmp .ge 25, 3) := by decide +kernel
theorem dX12_rows_19 : decode cX12_rows 19 = .ok (.iload_n 1, 1) := by decide +kernel
theorem dX12_rows_20 : decode cX12_rows 20 = .ok (.aload_n 0, 1) := by decide +kernel
theorem dX12_rows_21 : decode cX12_rows 21 = .ok (.iload_n 2, 1) := by decide +kernel
theorem dX12_rows_22 : decode cX12_rows 22 = .ok (.invokevirtual 207, 3) := by decide +kernel
theorem dX12_rows_25 : decode cX12_rows 25 = .ok (.ifCond .ne 7, 3) := by decide +kernel
theorem dX12_rows_28 : decode cX12_rows 28 = .ok (.iconst 1, 1) := by decide +kernel
theorem dX12_rows_29 : decode cX12_rows 29 = .ok (.goto 4, 3) := by decide +kernel
theorem dX12_rows_32 : decode cX12_rows 32 = .ok (.iconst 0, 1) := by decide +kernel
theorem dX12_rows_33 : decode cX12_rows 33 = .ok (.iadd, 1) := by decide +kernel
theorem dX12_rows_34 : decode cX12_rows 34 = .ok (.istore_n 1, 1) := by decide +kernel
theorem dX12_rows_35 : decode cX12_rows 35 = .ok (.iinc 2 1, 3) := by decide +kernel
theorem dX12_rows_38 : decode cX12_rows 38 = .ok (.goto (-29), 3) := by decide +kernel
theorem dX12_rows_41 : decode cX12_rows 41 = .ok (.iload_n 1, 1) := by decide +kernel
theorem dX12_rows_42 : decode cX12_rows 42 = .ok (.ireturn, 1) := by decide +kernel
theorem dX12_isEnough_0 : decode cX12_isEnough 0 = .ok (.iconst 1, 1) := by decide +kernel
theorem dX12_isEnough_1 : decode cX12_isEnough 1 = .ok (.istore_n 2, 1) := by decide +kernel
theorem dX12_isEnough_2 : decode cX12_isEnough 2 = .ok (.iload_n 2, 1) := by decide +kernel
theorem dX12_isEnough_3 : decode cX12_isEnough 3 = .ok (.iconst 1, 1) := by decide +kernel
theorem dX12_isEnough_4 : decode cX12_isEnough 4 = .ok (.aload_n 0, 1) := by decide +kernel
theorem dX12_isEnough_5 : decode cX12_isEnough 5 = .ok (.getfield 204, 3) := by decide +kernel
theorem dX12_isEnough_8 : decode cX12_isEnough 8 = .ok (.ishl, 1) := by decide +kernel
theorem dX12_isEnough_9 : decode cX12_isEnough 9 = .ok (.if_icmp .ge 26, 3) := by decide +kernel
theorem dX12_isEnough_12 : decode cX12_isEnough 12 = .ok (.aload_n 0, 1) := by decide +kernel
theorem dX12_isEnough_13 : decode cX12_isEnough 13 = .ok (.getfield 25, 3) := by decide +kernel
theorem dX12_isEnough_16 : decode cX12_isEnough 16 = .ok (.iload_n 2, 1) := by decide +kernel
theorem dX12_isEnough_17 : decode cX12_isEnough 17 = .ok (.baload, 1) := by decide +kernel
theorem dX12_isEnough_18 : decode cX12_isEnough 18 = .ok (.ifCond .eq 11, 3) := by decide +kernel
theorem dX12_isEnough_21 : decode cX12_isEnough 21 = .ok (.iload_n 2, 1) := by decide +kernel
theorem dX12_isEnough_22 : decode cX12_isEnough 22 = .ok (.iload_n 1, 1) := by decide +kernel
theorem dX12_isEnough_23 : decode cX12_isEnough 23 = .ok (.iand, 1) := by decide +kernel
theorem dX12_isEnough_24 : decode cX12_isEnough 24 = .ok (.ifCond .ne 5, 3) := by decide +kernel
theorem dX12_isEnough_27 : decode cX12_isEnough 27 = .ok (.iconst 0, 1) := by decide +kernel
theorem dX12_isEnough_28 : decode cX12_isEnough 28 = .ok (.ireturn, 1) := by decide +kernel
theorem dX12_isEnough_29 : decode cX12_isEnough 29 = .ok (.iinc 2 1, 3) := by decide +kernel
theorem dX12_isEnough_32 : decode cX12_isEnough 32 = .ok (.goto (-30), 3) := by decide +kernel
theorem dX12_isEnough_35 : decode cX12_isEnough 35 = .ok (.iconst 1, 1) := by decide +kernel
theorem dX12_isEnough_36 : decode cX12_isEnough 36 = .ok (.ireturn, 1) := by decide +kernel
theorem dX12_need_0 : decode cX12_need 0 = .ok (.aload_n 0, 1) := by decide +kernel
theorem dX12_need_1 : decode cX12_need 1 = .ok (.iconst 0, 1) := by decide +kernel
theorem dX12_need_2 : decode cX12_need 2 = .ok (.putfield 180, 3) := by decide +kernel
theorem dX12_need_5 : decode cX12_need 5 = .ok (.iconst 0, 1) := by decide +kernel
theorem dX12_need_6 : decode cX12_need 6 = .ok (.istore_n 1, 1) := by decide +kernel
theorem dX12_need_7 : decode cX12_need 7 = .ok (.iload_n 1, 1) := by decide +kernel
theorem dX12_need_8 : decode cX12_need 8 = .ok (.sipush 1024, 3) := by decide +kernel
theorem dX12_need_11 : decode cX12_need 11 = .ok (.if_icmp .ge 16, 3) := by decide +kernel
theorem dX12_need_14 : decode cX12_need 14 = .ok (.aload_n 0, 1) := by decide +kernel
theorem dX12_need_15 : decode cX12_need 15 = .ok (.getfield 25, 3) := by decide +kernel
theorem dX12_need_18 : decode cX12_need 18 = .ok (.iload_n 1, 1) := by decide +kernel
theorem dX12_need_19 : decode cX12_need 19 = .ok (.iconst 0, 1) := by decide +kernel
theorem dX12_need_20 : decode cX12_need 20 = .ok (.bastore, 1) := by decide +kernel
theorem dX12_need_21 : decode cX12_need 21 = .ok (.iinc 1 1, 3) := by decide +kernel
theorem dX12_need_24 : decode cX12_need 24 = .ok (.goto (-17), 3) := by decide +kernel
theorem dX12_need_27 : decode cX12_need 27 = .ok (.iconst 0, 1) := by decide +kernel
theorem dX12_need_28 : decode cX12_need 28 = .ok (.istore_n 1, 1) := by decide +kernel
theorem dX12_need_29 : decode cX12_need 29 = .ok (.iload_n 1, 1) := by decide +kernel
theorem dX12_need_30 : decode cX12_need 30 = .ok (.iconst 1, 1) := by decide +kernel
theorem dX12_need_31 : decode cX12_need 31 = .ok (.aload_n 0, 1) := by decide +kernel
theorem dX12_need_32 : decode cX12_need 32 = .ok (.getfield 177, 3) := by decide +kernel
theorem dX12_need_35 : decode cX12_need 35 = .ok (.ishl, 1) := by decide +kernel
theorem dX12_need_36 : decode cX12_need 36 = .ok (.if_icmp .ge 20, 3) := by decide +kernel
theorem dX12_need_39 : decode cX12_need 39 = .ok (.aload_n 0, 1) := by decide +kernel
theorem dX12_need_40 : decode cX12_need 40 = .ok (.getfield 25, 3) := by decide +kernel
theorem dX12_need_43 : decode cX12_need 43 = .ok (.aload_n 0, 1) := by decide +kernel
theorem dX12_need_44 : decode cX12_need 44 = .ok (.iload_n 1, 1) := by decide +kernel
theorem dX12_need_45 : decode cX12_need 45 = .ok (.invokevirtual 207, 3) := by decide +kernel
theorem dX12_need_48 : decode cX12_need 48 = .ok (.iconst 1, 1) := by decide +kernel
theorem dX12_need_49 : decode cX12_need 49 = .ok (.bastore, 1) := by decide +kernel
theorem dX12_need_50 : decode cX12_need 50 = .ok (.iinc 1 1, 3) := by decide +kernel
theorem dX12_need_53 : decode cX12_need 53 = .ok (.goto (-24), 3) := by decide +kernel
theorem dX12_need_56 : decode cX12_need 56 = .ok (.iconst (-1), 1) := by decide +kernel
theorem dX12_need_57 : decode cX12_need 57 = .ok (.istore_n 1, 1) := by decide +kernel
theorem dX12_need_58 : decode cX12_need 58 = .ok (.iconst 0, 1) := by decide +kernel
theorem dX12_need_59 : decode cX12_need 59 = .ok (.istore_n 2, 1) := by decide +kernel
theorem dX12_need_60 : decode cX12_need 60 = .ok (.iload_n 2, 1) := by decide +kernel
theorem dX12_need_61 : decode cX12_need 61 = .ok (.iconst 1, 1) := by decide +kernel
theorem dX12_need_62 : decode cX12_need 62 = .ok (.aload_n 0, 1) := by decide +kernel
theorem dX12_need_63 : decode cX12_need 63 = .ok (.getfield 204, 3) := by decide +kernel
theorem dX12_need_66 : decode cX12_need 66 = .ok (.ishl, 1) := by decide +kernel
theorem dX12_need_67 : decode cX12_need 67 = .ok (.if_icmp .ge 32, 3) := by decide +kernel
theorem dX12_need_70 : decode cX12_need 70 = .ok (.iload_n 1, 1) := by decide +kernel
theorem dX12_need_71 : decode cX12_need 71 = .ok (.iconst (-1), 1) := by decide +kernel
theorem dX12_need_72 : decode cX12_need 72 = .ok (.if_icmp .eq 11, 3) := by decide +kernel
theorem dX12_need_75 : decode cX12_need 75 = .ok (.iload_n 2, 1) := by decide +kernel
theorem dX12_need_76 : decode cX12_need 76 = .ok (.iload_n 1, 1) := by decide +kernel
theorem dX12_need_77 : decode cX12_need 77 = .ok (.invokestatic 213, 3) := by decide +kernel
theorem dX12_need_80 : decode cX12_need 80 = .ok (.ifCond .eq 13, 3) := by decide +kernel
theorem dX12_need_83 : decode cX12_need 83 = .ok (.aload_n 0, 1) := by decide +kernel
theorem dX12_need_84 : decode cX12_need 84 = .ok (.iload_n 2, 1) := by decide +kernel
theorem dX12_need_85 : decode cX12_need 85 = .ok (.invokevirtual 216, 3) := by decide +kernel
theorem dX12_need_88 : decode cX12_need 88 = .ok (.ifCond .eq 5, 3) := by decide +kernel
theorem dX12_need_91 : decode cX12_need 91 = .ok (.iload_n 2, 1) := by decide +kernel
theorem dX12_need_92 : decode cX12_need 92 = .ok (.istore_n 1, 1) := by decide +kernel
theorem dX12_need_93 : decode cX12_need 93 = .ok (.iinc 2 1, 3) := by decide +kernel
theorem dX12_need_96 : decode cX12_need 96 = .ok (.goto (-36), 3) := by decide +kernel
theorem dX12_need_99 : decode cX12_need 99 = .ok (.iload_n 1, 1) := by decide +kernel
theorem dX12_need_100 : decode cX12_need 100 = .ok (.ireturn, 1) := by decide +kernel
theorem dX12_orders_0 : decode cX12_orders 0 = .ok (.aload_n 0, 1) := by decide +kernel
theorem dX12_orders_1 : decode cX12_orders 1 = .ok (.iconst 0, 1) := by decide +kernel
theorem dX12_orders_2 : decode cX12_orders 2 = .ok (.putfield 180, 3) := by decide +kernel
theorem dX12_orders_5 : decode cX12_orders 5 = .ok (.aload_n 0, 1) := by decide +kernel
theorem dX12_orders_6 : decode cX12_orders 6 = .ok (.iload_n 1, 1) := by decide +kernel
theorem dX12_orders_7 : decode cX12_orders 7 = .ok (.invokevirtual 192, 3) := by decide +kernel
theorem dX12_orders_10 : decode cX12_orders 10 = .ok (.ifCond .eq 12, 3) := by decide +kernel
theorem dX12_orders_13 : decode cX12_orders 13 = .ok (.iload_n 1, 1) := by decide +kernel
theorem dX12_orders_14 : decode cX12_orders 14 = .ok (.invokestatic 183, 3) := by decide +kernel
theorem dX12_orders_17 : decode cX12_orders 17 = .ok (.bipush 10, 2) := by decide +kernel
theorem dX12_orders_19 : decode cX12_orders 19 = .ok (.if_icmp .le 5, 3) := by decide +kernel
theorem dX12_orders_22 : decode cX12_orders 22 = .ok (.iconst (-1), 1) := by decide +kernel
theorem dX12_orders_23 : decode cX12_orders 23 = .ok (.ireturn, 1) := by decide +kernel
theorem dX12_orders_24 : decode cX12_orders 24 = .ok (.aload_n 0, 1) := by decide +kernel
theorem dX12_orders_25 : decode cX12_orders 25 = .ok (.iload_n 1, 1) := by decide +kernel
theorem dX12_orders_26 : decode cX12_orders 26 = .ok (.invokevirtual 207, 3) := by decide +kernel
theorem dX12_orders_29 : decode cX12_orders 29 = .ok (.ifCond .eq 5, 3) := by decide +kernel
theorem dX12_orders_32 : decode cX12_orders 32 = .ok (.iconst 0, 1) := by decide +kernel
theorem dX12_orders_33 : decode cX12_orders 33 = .ok (.ireturn, 1) := by decide +kernel
theorem dX12_orders_34 : decode cX12_orders 34 = .ok (.iconst 1, 1) := by decide +kernel
theorem dX12_orders_35 : decode cX12_orders 35 = .ok (.istore_n 2, 1) := by decide +kernel
theorem dX12_orders_36 : decode cX12_orders 36 = .ok (.iconst 2, 1) := by decide +kernel
theorem dX12_orders_37 : decode cX12_orders 37 = .ok (.istore_n 3, 1) := by decide +kernel
theorem dX12_orders_38 : decode cX12_orders 38 = .ok (.iload_n 3, 1) := by decide +kernel
theorem dX12_orders_39 : decode cX12_orders 39 = .ok (.iload_n 1, 1) := by decide +kernel
theorem dX12_orders_40 : decode cX12_orders 40 = .ok (.invokestatic 183, 3) := by decide +kernel
theorem dX12_orders_43 : decode cX12_orders 43 = .ok (.if_icmp .gt 13, 3) := by decide +kernel
theorem dX12_orders_46 : decode cX12_orders 46 = .ok (.iload_n 2, 1) := by decide +kernel
theorem dX12_orders_47 : decode cX12_orders 47 = .ok (.iload_n 3, 1) := by decide +kernel
theorem dX12_orders_48 : decode cX12_orders 48 = .ok (.imul, 1) := by decide +kernel
theorem dX12_orders_49 : decode cX12_orders 49 = .ok (.istore_n 2, 1) := by decide +kernel
theorem dX12_orders_50 : decode cX12_orders 50 = .ok (.iinc 3 1, 3) := by decide +kernel
theorem dX12_orders_53 : decode cX12_orders 53 = .ok (.goto (-15), 3) := by decide +kernel
theorem dX12_orders_56 : decode cX12_orders 56 = .ok (.iload_n 2, 1) := by decide +kernel
theorem dX12_orders_57 : decode cX12_orders 57 = .ok (.ireturn, 1) := by decide +kernel
theorem dX12_isAmong_0 : decode cX12_isAmong 0 = .ok (.iconst 0, 1) := by decide +kernel
theorem dX12_isAmong_1 : decode cX12_isAmong 1 = .ok (.istore_n 2, 1) := by decide +kernel
theorem dX12_isAmong_2 : decode cX12_isAmong 2 = .ok (.iload_n 2, 1) := by decide +kernel
theorem dX12_isAmong_3 : decode cX12_isAmong 3 = .ok (.aload_n 0, 1) := by decide +kernel
theorem dX12_isAmong_4 : decode cX12_isAmong 4 = .ok (.invokevirtual 219, 3) := by decide +kernel
theorem dX12_isAmong_7 : decode cX12_isAmong 7 = .ok (.if_icmp .ge 20, 3) := by decide +kernel
theorem dX12_isAmong_10 : decode cX12_isAmong 10 = .ok (.aload_n 0, 1) := by decide +kernel
theorem dX12_isAmong_11 : decode cX12_isAmong 11 = .ok (.iload_n 2, 1) := by decide +kernel
theorem dX12_isAmong_12 : decode cX12_isAmong 12 = .ok (.invokevirtual 225, 3) := by decide +kernel
theorem dX12_isAmong_15 : decode cX12_isAmong 15 = .ok (.iload_n 1, 1) := by decide +kernel
theorem dX12_isAmong_16 : decode cX12_isAmong 16 = .ok (.if_icmp .ne 5, 3) := by decide +kernel
theorem dX12_isAmong_19 : decode cX12_isAmong 19 = .ok (.iconst 1, 1) := by decide +kernel
theorem dX12_isAmong_20 : decode cX12_isAmong 20 = .ok (.ireturn, 1) := by decide +kernel
theorem dX12_isAmong_21 : decode cX12_isAmong 21 = .ok (.iinc 2 1, 3) := by decide +kernel
theorem dX12_isAmong_24 : decode cX12_isAmong 24 = .ok (.goto (-22), 3) := by decide +kernel
theorem dX12_isAmong_27 : decode cX12_isAmong 27 = .ok (.iconst 0, 1) := by decide +kernel
theorem dX12_isAmong_28 : decode cX12_isAmong 28 = .ok (.ireturn, 1) := by decide +kernel
theorem dX12_bytesIn_0 : decode cX12_bytesIn 0 = .ok (.iconst 0, 1) := by decide +kernel
theorem dX12_bytesIn_1 : decode cX12_bytesIn 1 = .ok (.istore_n 1, 1) := by decide +kernel
theorem dX12_bytesIn_2 : decode cX12_bytesIn 2 = .ok (.bipush 24, 2) := by decide +kernel
theorem dX12_bytesIn_4 : decode cX12_bytesIn 4 = .ok (.istore_n 2, 1) := by decide +kernel
theorem dX12_bytesIn_5 : decode cX12_bytesIn 5 = .ok (.iload_n 2, 1) := by decide +kernel
theorem dX12_bytesIn_6 : decode cX12_bytesIn 6 = .ok (.ifCond .lt 27, 3) := by decide +kernel
theorem dX12_bytesIn_9 : decode cX12_bytesIn 9 = .ok (.iload_n 1, 1) := by decide +kernel
theorem dX12_bytesIn_10 : decode cX12_bytesIn 10 = .ok (.iload_n 0, 1) := by decide +kernel
theorem dX12_bytesIn_11 : decode cX12_bytesIn 11 = .ok (.iload_n 2, 1) := by decide +kernel
theorem dX12_bytesIn_12 : decode cX12_bytesIn 12 = .ok (.ishr, 1) := by decide +kernel
theorem dX12_bytesIn_13 : decode cX12_bytesIn 13 = .ok (.sipush 255, 3) := by decide +kernel
theorem dX12_bytesIn_16 : decode cX12_bytesIn 16 = .ok (.iand, 1) := by decide +kernel
theorem dX12_bytesIn_17 : decode cX12_bytesIn 17 = .ok (.ifCond .eq 7, 3) := by decide +kernel
theorem dX12_bytesIn_20 : decode cX12_bytesIn 20 = .ok (.iconst 1, 1) := by decide +kernel
theorem dX12_bytesIn_21 : decode cX12_bytesIn 21 = .ok (.goto 4, 3) := by decide +kernel
theorem dX12_bytesIn_24 : decode cX12_bytesIn 24 = .ok (.iconst 0, 1) := by decide +kernel
theorem dX12_bytesIn_25 : decode cX12_bytesIn 25 = .ok (.iadd, 1) := by decide +kernel
theorem dX12_bytesIn_26 : decode cX12_bytesIn 26 = .ok (.istore_n 1, 1) := by decide +kernel
theorem dX12_bytesIn_27 : decode cX12_bytesIn 27 = .ok (.iinc 2 (-8), 3) := by decide +kernel
theorem dX12_bytesIn_30 : decode cX12_bytesIn 30 = .ok (.goto (-25), 3) := by decide +kernel
theorem dX12_bytesIn_33 : decode cX12_bytesIn 33 = .ok (.iload_n 1, 1) := by decide +kernel
theorem dX12_bytesIn_34 : decode cX12_bytesIn 34 = .ok (.ireturn, 1) := by decide +kernel
theorem dX12_put_0 : decode cX12_put 0 = .ok (.bipush 24, 2) := by decide +kernel
theorem dX12_put_2 : decode cX12_put 2 = .ok (.istore_n 2, 1) := by decide +kernel
theorem dX12_put_3 : decode cX12_put 3 = .ok (.iload_n 2, 1) := by decide +kernel
theorem dX12_put_4 : decode cX12_put 4 = .ok (.ifCond .lt 45, 3) := by decide +kernel
theorem dX12_put_7 : decode cX12_put 7 = .ok (.iload_n 1, 1) := by decide +kernel
theorem dX12_put_8 : decode cX12_put 8 = .ok (.iload_n 2, 1) := by decide +kernel
theorem dX12_put_9 : decode cX12_put 9 = .ok (.ishr, 1) := by decide +kernel
theorem dX12_put_10 : decode cX12_put 10 = .ok (.sipush 255, 3) := by decide +kernel
theorem dX12_put_13 : decode cX12_put 13 = .ok (.iand, 1) := by decide +kernel
theorem dX12_put_14 : decode cX12_put 14 = .ok (.ifCond .ne 6, 3) := by decide +kernel
theorem dX12_put_17 : decode cX12_put 17 = .ok (.goto 26, 3) := by decide +kernel
theorem dX12_put_20 : decode cX12_put 20 = .ok (.aload_n 0, 1) := by decide +kernel
theorem dX12_put_21 : decode cX12_put 21 = .ok (.getfield 29, 3) := by decide +kernel
theorem dX12_put_24 : decode cX12_put 24 = .ok (.aload_n 0, 1) := by decide +kernel
theorem dX12_put_25 : decode cX12_put 25 = .ok (.getfield 229, 3) := by decide +kernel
theorem dX12_put_28 : decode cX12_put 28 = .ok (.iload_n 1, 1) := by decide +kernel
theorem dX12_put_29 : decode cX12_put 29 = .ok (.iload_n 2, 1) := by decide +kernel
theorem dX12_put_30 : decode cX12_put 30 = .ok (.ishr, 1) := by decide +kernel
theorem dX12_put_31 : decode cX12_put 31 = .ok (.i2b, 1) := by decide +kernel
theorem dX12_put_32 : decode cX12_put 32 = .ok (.bastore, 1) := by decide +kernel
theorem dX12_put_33 : decode cX12_put 33 = .ok (.aload_n 0, 1) := by decide +kernel
theorem dX12_put_34 : decode cX12_put 34 = .ok (.dup, 1) := by decide +kernel
theorem dX12_put_35 : decode cX12_put 35 = .ok (.getfield 229, 3) := by decide +kernel
theorem dX12_put_38 : decode cX12_put 38 = .ok (.iconst 1, 1) := by decide +kernel
theorem dX12_put_39 : decode cX12_put 39 = .ok (.iadd, 1) := by decide +kernel
theorem dX12_put_40 : decode cX12_put 40 = .ok (.putfield 229, 3) := by decide +kernel
theorem dX12_put_43 : decode cX12_put 43 = .ok (.iinc 2 (-8), 3) := by decide +kernel
theorem dX12_put_46 : decode cX12_put 46 = .ok (.goto (-43), 3) := by decide +kernel
theorem dX12_put_49 : decode cX12_put 49 = .ok (.return_, 1) := by decide +kernel
theorem dX12_feed_0 : decode cX12_feed 0 = .ok (.aload_n 0, 1) := by decide +kernel
theorem dX12_feed_1 : decode cX12_feed 1 = .ok (.iconst 0, 1) := by decide +kernel
theorem dX12_feed_2 : decode cX12_feed 2 = .ok (.putfield 180, 3) := by decide +kernel
theorem dX12_feed_5 : decode cX12_feed 5 = .ok (.aload_n 0, 1) := by decide +kernel
theorem dX12_feed_6 : decode cX12_feed 6 = .ok (.getfield 229, 3) := by decide +kernel
theorem dX12_feed_9 : decode cX12_feed 9 = .ok (.iload_n 1, 1) := by decide +kernel
theorem dX12_feed_10 : decode cX12_feed 10 = .ok (.invokestatic 231, 3) := by decide +kernel
theorem dX12_feed_13 : decode cX12_feed 13 = .ok (.iadd, 1) := by decide +kernel
theorem dX12_feed_14 : decode cX12_feed 14 = .ok (.iload_n 2, 1) := by decide +kernel
theorem dX12_feed_15 : decode cX12_feed 15 = .ok (.invokestatic 231, 3) := by decide +kernel
theorem dX12_feed_18 : decode cX12_feed 18 = .ok (.iadd, 1) := by decide +kernel
theorem dX12_feed_19 : decode cX12_feed 19 = .ok (.iload_n 3, 1) := by decide +kernel
theorem dX12_feed_20 : decode cX12_feed 20 = .ok (.invokestatic 231, 3) := by decide +kernel
theorem dX12_feed_23 : decode cX12_feed 23 = .ok (.iadd, 1) := by decide +kernel
theorem dX12_feed_24 : decode cX12_feed 24 = .ok (.iload 4, 2) := by decide +kernel
theorem dX12_feed_26 : decode cX12_feed 26 = .ok (.invokestatic 231, 3) := by decide +kernel
theorem dX12_feed_29 : decode cX12_feed 29 = .ok (.iadd, 1) := by decide +kernel
theorem dX12_feed_30 : decode cX12_feed 30 = .ok (.iload 5, 2) := by decide +kernel
theorem dX12_feed_32 : decode cX12_feed 32 = .ok (.invokestatic 231, 3) := by decide +kernel
theorem dX12_feed_35 : decode cX12_feed 35 = .ok (.iadd, 1) := by decide +kernel
theorem dX12_feed_36 : decode cX12_feed 36 = .ok (.bipush 120, 2) := by decide +kernel
theorem dX12_feed_38 : decode cX12_feed 38 = .ok (.if_icmp .le 5, 3) := by decide +kernel
theorem dX12_feed_41 : decode cX12_feed 41 = .ok (.iconst (-1), 1) := by decide +kernel
theorem dX12_feed_42 : decode cX12_feed 42 = .ok (.ireturn, 1) := by decide +kernel
theorem dX12_feed_43 : decode cX12_feed 43 = .ok (.aload_n 0, 1) := by decide +kernel
theorem dX12_feed_44 : decode cX12_feed 44 = .ok (.iload_n 1, 1) := by decide +kernel
theorem dX12_feed_45 : decode cX12_feed 45 = .ok (.invokevirtual 234, 3) := by decide +kernel
theorem dX12_feed_48 : decode cX12_feed 48 = .ok (.aload_n 0, 1) := by decide +kernel
theorem dX12_feed_49 : decode cX12_feed 49 = .ok (.iload_n 2, 1) := by decide +kernel
theorem dX12_feed_50 : decode cX12_feed 50 = .ok (.invokevirtual 234, 3) := by decide +kernel
theorem dX12_feed_53 : decode cX12_feed 53 = .ok (.aload_n 0, 1) := by decide +kernel
theorem dX12_feed_54 : decode cX12_feed 54 = .ok (.iload_n 3, 1) := by decide +kernel
theorem dX12_feed_55 : decode cX12_feed 55 = .ok (.invokevirtual 234, 3) := by decide +kernel
theorem dX12_feed_58 : decode cX12_feed 58 = .ok (.aload_n 0, 1) := by decide +kernel
theorem dX12_feed_59 : decode cX12_feed 59 = .ok (.iload 4, 2) := by decide +kernel
theorem dX12_feed_61 : decode cX12_feed 61 = .ok (.invokevirtual 234, 3) := by decide +kernel
theorem dX12_feed_64 : decode cX12_feed 64 = .ok (.aload_n 0, 1) := by decide +kernel
theorem dX12_feed_65 : decode cX12_feed 65 = .ok (.iload 5, 2) := by decide +kernel
theorem dX12_feed_67 : decode cX12_feed 67 = .ok (.invokevirtual 234, 3) := by decide +kernel
theorem dX12_feed_70 : decode cX12_feed 70 = .ok (.aload_n 0, 1) := by decide +kernel
theorem dX12_feed_71 : decode cX12_feed 71 = .ok (.getfield 229, 3) := by decide +kernel
theorem dX12_feed_74 : decode cX12_feed 74 = .ok (.ireturn, 1) := by decide +kernel
theorem dX12_end_0 : decode cX12_end 0 = .ok (.aload_n 0, 1) := by decide +kernel
theorem dX12_end_1 : decode cX12_end 1 = .ok (.iconst 0, 1) := by decide +kernel
theorem dX12_end_2 : decode cX12_end 2 = .ok (.putfield 180, 3) := by decide +kernel
theorem dX12_end_5 : decode cX12_end 5 = .ok (.iload_n 1, 1) := by decide +kernel
theorem dX12_end_6 : decode cX12_end 6 = .ok (.ifCond .lt 11, 3) := by decide +kernel
theorem dX12_end_9 : decode cX12_end 9 = .ok (.iload_n 1, 1) := by decide +kernel
theorem dX12_end_10 : decode cX12_end 10 = .ok (.aload_n 0, 1) := by decide +kernel
theorem dX12_end_11 : decode cX12_end 11 = .ok (.getfield 229, 3) := by decide +kernel
theorem dX12_end_14 : decode cX12_end 14 = .ok (.if_icmp .le 5, 3) := by decide +kernel
theorem dX12_end_17 : decode cX12_end 17 = .ok (.iconst 0, 1) := by decide +kernel
theorem dX12_end_18 : decode cX12_end 18 = .ok (.ireturn, 1) := by decide +kernel
theorem dX12_end_19 : decode cX12_end 19 = .ok (.aload_n 0, 1) := by decide +kernel
theorem dX12_end_20 : decode cX12_end 20 = .ok (.iload_n 1, 1) := by decide +kernel
theorem dX12_end_21 : decode cX12_end 21 = .ok (.putfield 229, 3) := by decide +kernel
theorem dX12_end_24 : decode cX12_end 24 = .ok (.iconst 1, 1) := by decide +kernel
theorem dX12_end_25 : decode cX12_end 25 = .ok (.ireturn, 1) := by decide +kernel
theorem dX12_look_0 : decode cX12_look 0 = .ok (.aload_n 0, 1) := by decide +kernel
theorem dX12_look_1 : decode cX12_look 1 = .ok (.getfield 238, 3) := by decide +kernel
theorem dX12_look_4 : decode cX12_look 4 = .ok (.aload_n 0, 1) := by decide +kernel
theorem dX12_look_5 : decode cX12_look 5 = .ok (.getfield 241, 3) := by decide +kernel
theorem dX12_look_8 : decode cX12_look 8 = .ok (.if_icmp .ge 35, 3) := by decide +kernel
theorem dX12_look_11 : decode cX12_look 11 = .ok (.aload_n 0, 1) := by decide +kernel
theorem dX12_look_12 : decode cX12_look 12 = .ok (.getfield 42, 3) := by decide +kernel
theorem dX12_look_15 : decode cX12_look 15 = .ok (.aload_n 0, 1) := by decide +kernel
theorem dX12_look_16 : decode cX12_look 16 = .ok (.getfield 244, 3) := by decide +kernel
theorem dX12_look_19 : decode cX12_look 19 = .ok (.aload_n 0, 1) := by decide +kernel
theorem dX12_look_20 : decode cX12_look 20 = .ok (.getfield 238, 3) := by decide +kernel
theorem dX12_look_23 : decode cX12_look 23 = .ok (.iadd, 1) := by decide +kernel
theorem dX12_look_24 : decode cX12_look 24 = .ok (.baload, 1) := by decide +kernel
theorem dX12_look_25 : decode cX12_look 25 = .ok (.bipush 32, 2) := by decide +kernel
theorem dX12_look_27 : decode cX12_look 27 = .ok (.if_icmp .ne 16, 3) := by decide +kernel
theorem dX12_look_30 : decode cX12_look 30 = .ok (.aload_n 0, 1) := by decide +kernel
theorem dX12_look_31 : decode cX12_look 31 = .ok (.dup, 1) := by decide +kernel
theorem dX12_look_32 : decode cX12_look 32 = .ok (.getfield 238, 3) := by decide +kernel
theorem dX12_look_35 : decode cX12_look 35 = .ok (.iconst 1, 1) := by decide +kernel
theorem dX12_look_36 : decode cX12_look 36 = .ok (.iadd, 1) := by decide +kernel
theorem dX12_look_37 : decode cX12_look 37 = .ok (.putfield 238, 3) := by decide +kernel
theorem dX12_look_40 : decode cX12_look 40 = .ok (.goto (-40), 3) := by decide +kernel
theorem dX12_look_43 : decode cX12_look 43 = .ok (.aload_n 0, 1) := by decide +kernel
theorem dX12_look_44 : decode cX12_look 44 = .ok (.getfield 238, 3) := by decide +kernel
theorem dX12_look_47 : decode cX12_look 47 = .ok (.aload_n 0, 1) := by decide +kernel
theorem dX12_look_48 : decode cX12_look 48 = .ok (.getfield 241, 3) := by decide +kernel
theorem dX12_look_51 : decode cX12_look 51 = .ok (.if_icmp .ge 24, 3) := by decide +kernel
theorem dX12_look_54 : decode cX12_look 54 = .ok (.aload_n 0, 1) := by decide +kernel
theorem dX12_look_55 : decode cX12_look 55 = .ok (.getfield 42, 3) := by decide +kernel
theorem dX12_look_58 : decode cX12_look 58 = .ok (.aload_n 0, 1) := by decide +kernel
theorem dX12_look_59 : decode cX12_look 59 = .ok (.getfield 244, 3) := by decide +kernel
theorem dX12_look_62 : decode cX12_look 62 = .ok (.aload_n 0, 1) := by decide +kernel
theorem dX12_look_63 : decode cX12_look 63 = .ok (.getfield 238, 3) := by decide +kernel
theorem dX12_look_66 : decode cX12_look 66 = .ok (.iadd, 1) := by decide +kernel
theorem dX12_look_67 : decode cX12_look 67 = .ok (.baload, 1) := by decide +kernel
theorem dX12_look_68 : decode cX12_look 68 = .ok (.sipush 255, 3) := by decide +kernel
theorem dX12_look_71 : decode cX12_look 71 = .ok (.iand, 1) := by decide +kernel
theorem dX12_look_72 : decode cX12_look 72 = .ok (.goto 4, 3) := by decide +kernel
theorem dX12_look_75 : decode cX12_look 75 = .ok (.iconst (-1), 1) := by decide +kernel
theorem dX12_look_76 : decode cX12_look 76 = .ok (.ireturn, 1) := by decide +kernel
theorem dX12_fails_0 : decode cX12_fails 0 = .ok (.aload_n 0, 1) := by decide +kernel
theorem dX12_fails_1 : decode cX12_fails 1 = .ok (.getfield 247, 3) := by decide +kernel
theorem dX12_fails_4 : decode cX12_fails 4 = .ok (.iconst (-1), 1) := by decide +kernel
theorem dX12_fails_5 : decode cX12_fails 5 = .ok (.if_icmp .ne 11, 3) := by decide +kernel
theorem dX12_fails_8 : decode cX12_fails 8 = .ok (.aload_n 0, 1) := by decide +kernel
theorem dX12_fails_9 : decode cX12_fails 9 = .ok (.aload_n 0, 1) := by decide +kernel
theorem dX12_fails_10 : decode cX12_fails 10 = .ok (.getfield 238, 3) := by decide +kernel
theorem dX12_fails_13 : decode cX12_fails 13 = .ok (.putfield 247, 3) := by decide +kernel
theorem dX12_fails_16 : decode cX12_fails 16 = .ok (.iconst 0, 1) := by decide +kernel
theorem dX12_fails_17 : decode cX12_fails 17 = .ok (.ireturn, 1) := by decide +kernel
theorem dX12_goesIn_0 : decode cX12_goesIn 0 = .ok (.aload_n 0, 1) := by decide +kernel
theorem dX12_goesIn_1 : decode cX12_goesIn 1 = .ok (.getfield 250, 3) := by decide +kernel
theorem dX12_goesIn_4 : decode cX12_goesIn 4 = .ok (.bipush 6, 2) := by decide +kernel
theorem dX12_goesIn_6 : decode cX12_goesIn 6 = .ok (.if_icmp .ne 8, 3) := by decide +kernel
theorem dX12_goesIn_9 : decode cX12_goesIn 9 = .ok (.aload_n 0, 1) := by decide +kernel
theorem dX12_goesIn_10 : decode cX12_goesIn 10 = .ok (.invokevirtual 253, 3) := by decide +kernel
theorem dX12_goesIn_13 : decode cX12_goesIn 13 = .ok (.ireturn, 1) := by decide +kernel
theorem dX12_goesIn_14 : decode cX12_goesIn 14 = .ok (.aload_n 0, 1) := by decide +kernel
theorem dX12_goesIn_15 : decode cX12_goesIn 15 = .ok (.dup, 1) := by decide +kernel
theorem dX12_goesIn_16 : decode cX12_goesIn 16 = .ok (.getfield 250, 3) := by decide +kernel
theorem dX12_goesIn_19 : decode cX12_goesIn 19 = .ok (.iconst 1, 1) := by decide +kernel
theorem dX12_goesIn_20 : decode cX12_goesIn 20 = .ok (.iadd, 1) := by decide +kernel
theorem dX12_goesIn_21 : decode cX12_goesIn 21 = .ok (.putfield 250, 3) := by decide +kernel
theorem dX12_goesIn_24 : decode cX12_goesIn 24 = .ok (.aload_n 0, 1) := by decide +kernel
theorem dX12_goesIn_25 : decode cX12_goesIn 25 = .ok (.dup, 1) := by decide +kernel
theorem dX12_goesIn_26 : decode cX12_goesIn 26 = .ok (.getfield 238, 3) := by decide +kernel
theorem dX12_goesIn_29 : decode cX12_goesIn 29 = .ok (.iconst 1, 1) := by decide +kernel
theorem dX12_goesIn_30 : decode cX12_goesIn 30 = .ok (.iadd, 1) := by decide +kernel
theorem dX12_goesIn_31 : decode cX12_goesIn 31 = .ok (.putfield 238, 3) := by decide +kernel
theorem dX12_goesIn_34 : decode cX12_goesIn 34 = .ok (.iconst 1, 1) := by decide +kernel
theorem dX12_goesIn_35 : decode cX12_goesIn 35 = .ok (.ireturn, 1) := by decide +kernel
theorem dX12_takes_0 : decode cX12_takes 0 = .ok (.aload_n 0, 1) := by decide +kernel
theorem dX12_takes_1 : decode cX12_takes 1 = .ok (.getfield 247, 3) := by decide +kernel
theorem dX12_takes_4 : decode cX12_takes 4 = .ok (.iconst (-1), 1) := by decide +kernel
theorem dX12_takes_5 : decode cX12_takes 5 = .ok (.if_icmp .ne 11, 3) := by decide +kernel
theorem dX12_takes_8 : decode cX12_takes 8 = .ok (.aload_n 0, 1) := by decide +kernel
theorem dX12_takes_9 : decode cX12_takes 9 = .ok (.invokevirtual 257, 3) := by decide +kernel
theorem dX12_takes_12 : decode cX12_takes 12 = .ok (.iload_n 1, 1) := by decide +kernel
theorem dX12_takes_13 : decode cX12_takes 13 = .ok (.if_icmp .eq 8, 3) := by decide +kernel
theorem dX12_takes_16 : decode cX12_takes 16 = .ok (.aload_n 0, 1) := by decide +kernel
theorem dX12_takes_17 : decode cX12_takes 17 = .ok (.invokevirtual 253, 3) := by decide +kernel
theorem dX12_takes_20 : decode cX12_takes 20 = .ok (.ireturn, 1) := by decide +kernel
theorem dX12_takes_21 : decode cX12_takes 21 = .ok (.aload_n 0, 1) := by decide +kernel
theorem dX12_takes_22 : decode cX12_takes 22 = .ok (.dup, 1) := by decide +kernel
theorem dX12_takes_23 : decode cX12_takes 23 = .ok (.getfield 238, 3) := by decide +kernel
theorem dX12_takes_26 : decode cX12_takes 26 = .ok (.iconst 1, 1) := by decide +kernel
theorem dX12_takes_27 : decode cX12_takes 27 = .ok (.iadd, 1) := by decide +kernel
theorem dX12_takes_28 : decode cX12_takes 28 = .ok (.putfield 238, 3) := by decide +kernel
theorem dX12_takes_31 : decode cX12_takes 31 = .ok (.iconst 1, 1) := by decide +kernel
theorem dX12_takes_32 : decode cX12_takes 32 = .ok (.ireturn, 1) := by decide +kernel
theorem dX12_isDigit_0 : decode cX12_isDigit 0 = .ok (.aload_n 0, 1) := by decide +kernel
theorem dX12_isDigit_1 : decode cX12_isDigit 1 = .ok (.getfield 238, 3) := by decide +kernel
theorem dX12_isDigit_4 : decode cX12_isDigit 4 = .ok (.aload_n 0, 1) := by decide +kernel
theorem dX12_isDigit_5 : decode cX12_isDigit 5 = .ok (.getfield 241, 3) := by decide +kernel
theorem dX12_isDigit_8 : decode cX12_isDigit 8 = .ok (.if_icmp .ge 45, 3) := by decide +kernel
theorem dX12_isDigit_11 : decode cX12_isDigit 11 = .ok (.aload_n 0, 1) := by decide +kernel
theorem dX12_isDigit_12 : decode cX12_isDigit 12 = .ok (.getfield 42, 3) := by decide +kernel
theorem dX12_isDigit_15 : decode cX12_isDigit 15 = .ok (.aload_n 0, 1) := by decide +kernel
theorem dX12_isDigit_16 : decode cX12_isDigit 16 = .ok (.getfield 244, 3) := by decide +kernel
theorem dX12_isDigit_19 : decode cX12_isDigit 19 = .ok (.aload_n 0, 1) := by decide +kernel
theorem dX12_isDigit_20 : decode cX12_isDigit 20 = .ok (.getfield 238, 3) := by decide +kernel
theorem dX12_isDigit_23 : decode cX12_isDigit 23 = .ok (.iadd, 1) := by decide +kernel
theorem dX12_isDigit_24 : decode cX12_isDigit 24 = .ok (.baload, 1) := by decide +kernel
theorem dX12_isDigit_25 : decode cX12_isDigit 25 = .ok (.bipush 48, 2) := by decide +kernel
theorem dX12_isDigit_27 : decode cX12_isDigit 27 = .ok (.if_icmp .lt 26, 3) := by decide +kernel
theorem dX12_isDigit_30 : decode cX12_isDigit 30 = .ok (.aload_n 0, 1) := by decide +kernel
theorem dX12_isDigit_31 : decode cX12_isDigit 31 = .ok (.getfield 42, 3) := by decide +kernel
theorem dX12_isDigit_34 : decode cX12_isDigit 34 = .ok (.aload_n 0, 1) := by decide +kernel
theorem dX12_isDigit_35 : decode cX12_isDigit 35 = .ok (.getfield 244, 3) := by decide +kernel
theorem dX12_isDigit_38 : decode cX12_isDigit 38 = .ok (.aload_n 0, 1) := by decide +kernel
theorem dX12_isDigit_39 : decode cX12_isDigit 39 = .ok (.getfield 238, 3) := by decide +kernel
theorem dX12_isDigit_42 : decode cX12_isDigit 42 = .ok (.iadd, 1) := by decide +kernel
theorem dX12_isDigit_43 : decode cX12_isDigit 43 = .ok (.baload, 1) := by decide +kernel
theorem dX12_isDigit_44 : decode cX12_isDigit 44 = .ok (.bipush 57, 2) := by decide +kernel
theorem dX12_isDigit_46 : decode cX12_isDigit 46 = .ok (.if_icmp .gt 7, 3) := by decide +kernel
theorem dX12_isDigit_49 : decode cX12_isDigit 49 = .ok (.iconst 1, 1) := by decide +kernel
theorem dX12_isDigit_50 : decode cX12_isDigit 50 = .ok (.goto 4, 3) := by decide +kernel
theorem dX12_isDigit_53 : decode cX12_isDigit 53 = .ok (.iconst 0, 1) := by decide +kernel
theorem dX12_isDigit_54 : decode cX12_isDigit 54 = .ok (.ireturn, 1) := by decide +kernel
theorem dX12_within_0 : decode cX12_within 0 = .ok (.ldc2_w 260, 3) := by decide +kernel
theorem dX12_within_3 : decode cX12_within 3 = .ok (.ldc2_w 262, 3) := by decide +kernel
theorem dX12_within_6 : decode cX12_within 6 = .ok (.lload_n 0, 1) := by decide +kernel
theorem dX12_within_7 : decode cX12_within 7 = .ok (.invokestatic 264, 3) := by decide +kernel
theorem dX12_within_10 : decode cX12_within 10 = .ok (.invokestatic 267, 3) := by decide +kernel
theorem dX12_within_13 : decode cX12_within 13 = .ok (.l2i, 1) := by decide +kernel
theorem dX12_within_14 : decode cX12_within 14 = .ok (.ireturn, 1) := by decide +kernel
theorem dX12_atom_0 : decode cX12_atom 0 = .ok (.aload_n 0, 1) := by decide +kernel
theorem dX12_atom_1 : decode cX12_atom 1 = .ok (.invokevirtual 257, 3) := by decide +kernel
theorem dX12_atom_4 : decode cX12_atom 4 = .ok (.istore_n 1, 1) := by decide +kernel
theorem dX12_atom_5 : decode cX12_atom 5 = .ok (.ldc 55, 2) := by decide +kernel
theorem dX12_atom_7 : decode cX12_atom 7 = .ok (.iload_n 1, 1) := by decide +kernel
theorem dX12_atom_8 : decode cX12_atom 8 = .ok (.invokestatic 269, 3) := by decide +kernel
theorem dX12_atom_11 : decode cX12_atom 11 = .ok (.ifCond .eq 20, 3) := by decide +kernel
theorem dX12_atom_14 : decode cX12_atom 14 = .ok (.aload_n 0, 1) := by decide +kernel
theorem dX12_atom_15 : decode cX12_atom 15 = .ok (.dup, 1) := by decide +kernel
theorem dX12_atom_16 : decode cX12_atom 16 = .ok (.getfield 238, 3) := by decide +kernel
theorem dX12_atom_19 : decode cX12_atom 19 = .ok (.iconst 1, 1) := by decide +kernel
theorem dX12_atom_20 : decode cX12_atom 20 = .ok (.iadd, 1) := by decide +kernel
theorem dX12_atom_21 : decode cX12_atom 21 = .ok (.putfield 238, 3) := by decide +kernel
theorem dX12_atom_24 : decode cX12_atom 24 = .ok (.aload_n 0, 1) := by decide +kernel
theorem dX12_atom_25 : decode cX12_atom 25 = .ok (.getfield 39, 3) := by decide +kernel
theorem dX12_atom_28 : decode cX12_atom 28 = .ok (.iload_n 1, 1) := by decide +kernel
theorem dX12_atom_29 : decode cX12_atom 29 = .ok (.iaload, 1) := by decide +kernel
theorem dX12_atom_30 : decode cX12_atom 30 = .ok (.ireturn, 1) := by decide +kernel
theorem dX12_atom_31 : decode cX12_atom 31 = .ok (.iload_n 1, 1) := by decide +kernel
theorem dX12_atom_32 : decode cX12_atom 32 = .ok (.bipush 91, 2) := by decide +kernel
theorem dX12_atom_34 : decode cX12_atom 34 = .ok (.if_icmp .ne 40, 3) := by decide +kernel
theorem dX12_atom_37 : decode cX12_atom 37 = .ok (.aload_n 0, 1) := by decide +kernel
theorem dX12_atom_38 : decode cX12_atom 38 = .ok (.invokevirtual 273, 3) := by decide +kernel
theorem dX12_atom_41 : decode cX12_atom 41 = .ok (.ifCond .ne 5, 3) := by decide +kernel
theorem dX12_atom_44 : decode cX12_atom 44 = .ok (.iconst 0, 1) := by decide +kernel
theorem dX12_atom_45 : decode cX12_atom 45 = .ok (.ireturn, 1) := by decide +kernel
theorem dX12_atom_46 : decode cX12_atom 46 = .ok (.aload_n 0, 1) := by decide +kernel
theorem dX12_atom_47 : decode cX12_atom 47 = .ok (.invokevirtual 276, 3) := by decide +kernel
theorem dX12_atom_50 : decode cX12_atom 50 = .ok (.istore_n 2, 1) := by decide +kernel
theorem dX12_atom_51 : decode cX12_atom 51 = .ok (.aload_n 0, 1) := by decide +kernel
theorem dX12_atom_52 : decode cX12_atom 52 = .ok (.bipush 93, 2) := by decide +kernel
theorem dX12_atom_54 : decode cX12_atom 54 = .ok (.invokevirtual 279, 3) := by decide +kernel
theorem dX12_atom_57 : decode cX12_atom 57 = .ok (.ifCond .ne 5, 3) := by decide +kernel
theorem dX12_atom_60 : decode cX12_atom 60 = .ok (.iconst 0, 1) := by decide +kernel
theorem dX12_atom_61 : decode cX12_atom 61 = .ok (.ireturn, 1) := by decide +kernel
theorem dX12_atom_62 : decode cX12_atom 62 = .ok (.aload_n 0, 1) := by decide +kernel
theorem dX12_atom_63 : decode cX12_atom 63 = .ok (.dup, 1) := by decide +kernel
theorem dX12_atom_64 : decode cX12_atom 64 = .ok (.getfield 250, 3) := by decide +kernel
theorem dX12_atom_67 : decode cX12_atom 67 = .ok (.iconst 1, 1) := by decide +kernel
theorem dX12_atom_68 : decode cX12_atom 68 = .ok (.isub, 1) := by decide +kernel
theorem dX12_atom_69 : decode cX12_atom 69 = .ok (.putfield 250, 3) := by decide +kernel
theorem dX12_atom_72 : decode cX12_atom 72 = .ok (.iload_n 2, 1) := by decide +kernel
theorem dX12_atom_73 : decode cX12_atom 73 = .ok (.ireturn, 1) := by decide +kernel
theorem dX12_atom_74 : decode cX12_atom 74 = .ok (.aload_n 0, 1) := by decide +kernel
theorem dX12_atom_75 : decode cX12_atom 75 = .ok (.invokevirtual 282, 3) := by decide +kernel
theorem dX12_atom_78 : decode cX12_atom 78 = .ok (.ifCond .ne 8, 3) := by decide +kernel
theorem dX12_atom_81 : decode cX12_atom 81 = .ok (.aload_n 0, 1) := by decide +kernel
theorem dX12_atom_82 : decode cX12_atom 82 = .ok (.invokevirtual 253, 3) := by decide +kernel
theorem dX12_atom_85 : decode cX12_atom 85 = .ok (.pop, 1) := by decide +kernel
theorem dX12_atom_86 : decode cX12_atom 86 = .ok (.iconst 0, 1) := by decide +kernel
theorem dX12_atom_87 : decode cX12_atom 87 = .ok (.istore_n 2, 1) := by decide +kernel
theorem dX12_atom_88 : decode cX12_atom 88 = .ok (.iconst 0, 1) := by decide +kernel
theorem dX12_atom_89 : decode cX12_atom 89 = .ok (.istore_n 3, 1) := by decide +kernel
theorem dX12_atom_90 : decode cX12_atom 90 = .ok (.aload_n 0, 1) := by decide +kernel
theorem dX12_atom_91 : decode cX12_atom 91 = .ok (.invokevirtual 282, 3) := by decide +kernel
theorem dX12_atom_94 : decode cX12_atom 94 = .ok (.ifCond .eq 62, 3) := by decide +kernel
theorem dX12_atom_97 : decode cX12_atom 97 = .ok (.aload_n 0, 1) := by decide +kernel
theorem dX12_atom_98 : decode cX12_atom 98 = .ok (.getfield 247, 3) := by decide +kernel
theorem dX12_atom_101 : decode cX12_atom 101 = .ok (.iconst (-1), 1) := by decide +kernel
theorem dX12_atom_102 : decode cX12_atom 102 = .ok (.if_icmp .ne 54, 3) := by decide +kernel
theorem dX12_atom_105 : decode cX12_atom 105 = .ok (.iload_n 3, 1) := by decide +kernel
theorem dX12_atom_106 : decode cX12_atom 106 = .ok (.iconst 4, 1) := by decide +kernel
theorem dX12_atom_107 : decode cX12_atom 107 = .ok (.if_icmp .ne 10, 3) := by decide +kernel
theorem dX12_atom_110 : decode cX12_atom 110 = .ok (.aload_n 0, 1) := by decide +kernel
theorem dX12_atom_111 : decode cX12_atom 111 = .ok (.invokevirtual 253, 3) := by decide +kernel
theorem dX12_atom_114 : decode cX12_atom 114 = .ok (.pop, 1) := by decide +kernel
theorem dX12_atom_115 : decode cX12_atom 115 = .ok (.iconst 0, 1) := by decide +kernel
theorem dX12_atom_116 : decode cX12_atom 116 = .ok (.ireturn, 1) := by decide +kernel
theorem dX12_atom_117 : decode cX12_atom 117 = .ok (.bipush 10, 2) := by decide +kernel
theorem dX12_atom_119 : decode cX12_atom 119 = .ok (.iload_n 2, 1) := by decide +kernel
theorem dX12_atom_120 : decode cX12_atom 120 = .ok (.imul, 1) := by decide +kernel
theorem dX12_atom_121 : decode cX12_atom 121 = .ok (.aload_n 0, 1) := by decide +kernel
theorem dX12_atom_122 : decode cX12_atom 122 = .ok (.getfield 42, 3) := by decide +kernel
theorem dX12_atom_125 : decode cX12_atom 125 = .ok (.aload_n 0, 1) := by decide +kernel
theorem dX12_atom_126 : decode cX12_atom 126 = .ok (.getfield 244, 3) := by decide +kernel
theorem dX12_atom_129 : decode cX12_atom 129 = .ok (.aload_n 0, 1) := by decide +kernel
theorem dX12_atom_130 : decode cX12_atom 130 = .ok (.getfield 238, 3) := by decide +kernel
theorem dX12_atom_133 : decode cX12_atom 133 = .ok (.iadd, 1) := by decide +kernel
theorem dX12_atom_134 : decode cX12_atom 134 = .ok (.baload, 1) := by decide +kernel
theorem dX12_atom_135 : decode cX12_atom 135 = .ok (.iadd, 1) := by decide +kernel
theorem dX12_atom_136 : decode cX12_atom 136 = .ok (.bipush 48, 2) := by decide +kernel
theorem dX12_atom_138 : decode cX12_atom 138 = .ok (.isub, 1) := by decide +kernel
theorem dX12_atom_139 : decode cX12_atom 139 = .ok (.istore_n 2, 1) := by decide +kernel
theorem dX12_atom_140 : decode cX12_atom 140 = .ok (.aload_n 0, 1) := by decide +kernel
theorem dX12_atom_141 : decode cX12_atom 141 = .ok (.dup, 1) := by decide +kernel
theorem dX12_atom_142 : decode cX12_atom 142 = .ok (.getfield 238, 3) := by decide +kernel
theorem dX12_atom_145 : decode cX12_atom 145 = .ok (.iconst 1, 1) := by decide +kernel
theorem dX12_atom_146 : decode cX12_atom 146 = .ok (.iadd, 1) := by decide +kernel
theorem dX12_atom_147 : decode cX12_atom 147 = .ok (.putfield 238, 3) := by decide +kernel
theorem dX12_atom_150 : decode cX12_atom 150 = .ok (.iinc 3 1, 3) := by decide +kernel
theorem dX12_atom_153 : decode cX12_atom 153 = .ok (.goto (-63), 3) := by decide +kernel
theorem dX12_atom_156 : decode cX12_atom 156 = .ok (.iload_n 2, 1) := by decide +kernel
theorem dX12_atom_157 : decode cX12_atom 157 = .ok (.ireturn, 1) := by decide +kernel
theorem dX12_term_0 : decode cX12_term 0 = .ok (.aload_n 0, 1) := by decide +kernel
theorem dX12_term_1 : decode cX12_term 1 = .ok (.invokevirtual 285, 3) := by decide +kernel
theorem dX12_term_4 : decode cX12_term 4 = .ok (.istore_n 1, 1) := by decide +kernel
theorem dX12_term_5 : decode cX12_term 5 = .ok (.aload_n 0, 1) := by decide +kernel
theorem dX12_term_6 : decode cX12_term 6 = .ok (.getfield 247, 3) := by decide +kernel
theorem dX12_term_9 : decode cX12_term 9 = .ok (.iconst (-1), 1) := by decide +kernel
theorem dX12_term_10 : decode cX12_term 10 = .ok (.if_icmp .ne 84, 3) := by decide +kernel
theorem dX12_term_13 : decode cX12_term 13 = .ok (.aload_n 0, 1) := by decide +kernel
theorem dX12_term_14 : decode cX12_term 14 = .ok (.invokevirtual 257, 3) := by decide +kernel
theorem dX12_term_17 : decode cX12_term 17 = .ok (.bipush 42, 2) := by decide +kernel
theorem dX12_term_19 : decode cX12_term 19 = .ok (.if_icmp .eq 12, 3) := by decide +kernel
theorem dX12_term_22 : decode cX12_term 22 = .ok (.aload_n 0, 1) := by decide +kernel
theorem dX12_term_23 : decode cX12_term 23 = .ok (.invokevirtual 257, 3) := by decide +kernel
theorem dX12_term_26 : decode cX12_term 26 = .ok (.bipush 47, 2) := by decide +kernel
theorem dX12_term_28 : decode cX12_term 28 = .ok (.if_icmp .ne 66, 3) := by decide +kernel
theorem dX12_term_31 : decode cX12_term 31 = .ok (.aload_n 0, 1) := by decide +kernel
theorem dX12_term_32 : decode cX12_term 32 = .ok (.invokevirtual 257, 3) := by decide +kernel
theorem dX12_term_35 : decode cX12_term 35 = .ok (.bipush 42, 2) := by decide +kernel
theorem dX12_term_37 : decode cX12_term 37 = .ok (.if_icmp .ne 7, 3) := by decide +kernel
theorem dX12_term_40 : decode cX12_term 40 = .ok (.iconst 1, 1) := by decide +kernel
theorem dX12_term_41 : decode cX12_term 41 = .ok (.goto 4, 3) := by decide +kernel
theorem dX12_term_44 : decode cX12_term 44 = .ok (.iconst 0, 1) := by decide +kernel
theorem dX12_term_45 : decode cX12_term 45 = .ok (.istore_n 2, 1) := by decide +kernel
theorem dX12_term_46 : decode cX12_term 46 = .ok (.aload_n 0, 1) := by decide +kernel
theorem dX12_term_47 : decode cX12_term 47 = .ok (.dup, 1) := by decide +kernel
theorem dX12_term_48 : decode cX12_term 48 = .ok (.getfield 238, 3) := by decide +kernel
theorem dX12_term_51 : decode cX12_term 51 = .ok (.iconst 1, 1) := by decide +kernel
theorem dX12_term_52 : decode cX12_term 52 = .ok (.iadd, 1) := by decide +kernel
theorem dX12_term_53 : decode cX12_term 53 = .ok (.putfield 238, 3) := by decide +kernel
theorem dX12_term_56 : decode cX12_term 56 = .ok (.aload_n 0, 1) := by decide +kernel
theorem dX12_term_57 : decode cX12_term 57 = .ok (.invokevirtual 285, 3) := by decide +kernel
theorem dX12_term_60 : decode cX12_term 60 = .ok (.i2l, 1) := by decide +kernel
theorem dX12_term_61 : decode cX12_term 61 = .ok (.lstore_n 3, 1) := by decide +kernel
theorem dX12_term_62 : decode cX12_term 62 = .ok (.iload_n 2, 1) := by decide +kernel
theorem dX12_term_63 : decode cX12_term 63 = .ok (.ifCond .eq 10, 3) := by decide +kernel
theorem dX12_term_66 : decode cX12_term 66 = .ok (.iload_n 1, 1) := by decide +kernel
theorem dX12_term_67 : decode cX12_term 67 = .ok (.i2l, 1) := by decide +kernel
theorem dX12_term_68 : decode cX12_term 68 = .ok (.lload_n 3, 1) := by decide +kernel
theorem dX12_term_69 : decode cX12_term 69 = .ok (.lmul, 1) := by decide +kernel
theorem dX12_term_70 : decode cX12_term 70 = .ok (.goto 17, 3) := by decide +kernel
theorem dX12_term_73 : decode cX12_term 73 = .ok (.lload_n 3, 1) := by decide +kernel
theorem dX12_term_74 : decode cX12_term 74 = .ok (.lconst 0, 1) := by decide +kernel
theorem dX12_term_75 : decode cX12_term 75 = .ok (.lcmp, 1) := by decide +kernel
theorem dX12_term_76 : decode cX12_term 76 = .ok (.ifCond .ne 7, 3) := by decide +kernel
theorem dX12_term_79 : decode cX12_term 79 = .ok (.lconst 0, 1) := by decide +kernel
theorem dX12_term_80 : decode cX12_term 80 = .ok (.goto 7, 3) := by decide +kernel
theorem dX12_term_83 : decode cX12_term 83 = .ok (.iload_n 1, 1) := by decide +kernel
theorem dX12_term_84 : decode cX12_term 84 = .ok (.i2l, 1) := by decide +kernel
theorem dX12_term_85 : decode cX12_term 85 = .ok (.lload_n 3, 1) := by decide +kernel
theorem dX12_term_86 : decode cX12_term 86 = .ok (.ldiv, 1) := by decide +kernel
theorem dX12_term_87 : decode cX12_term 87 = .ok (.invokestatic 288, 3) := by decide +kernel
theorem dX12_term_90 : decode cX12_term 90 = .ok (.istore_n 1, 1) := by decide +kernel
theorem dX12_term_91 : decode cX12_term 91 = .ok (.goto (-86), 3) := by decide +kernel
theorem dX12_term_94 : decode cX12_term 94 = .ok (.iload_n 1, 1) := by decide +kernel
theorem dX12_term_95 : decode cX12_term 95 = .ok (.ireturn, 1) := by decide +kernel
theorem dX12_sum_0 : decode cX12_sum 0 = .ok (.aload_n 0, 1) := by decide +kernel
theorem dX12_sum_1 : decode cX12_sum 1 = .ok (.invokevirtual 292, 3) := by decide +kernel
theorem dX12_sum_4 : decode cX12_sum 4 = .ok (.istore_n 1, 1) := by decide +kernel
theorem dX12_sum_5 : decode cX12_sum 5 = .ok (.aload_n 0, 1) := by decide +kernel
theorem dX12_sum_6 : decode cX12_sum 6 = .ok (.getfield 247, 3) := by decide +kernel
theorem dX12_sum_9 : decode cX12_sum 9 = .ok (.iconst (-1), 1) := by decide +kernel
theorem dX12_sum_10 : decode cX12_sum 10 = .ok (.if_icmp .ne 74, 3) := by decide +kernel
theorem dX12_sum_13 : decode cX12_sum 13 = .ok (.aload_n 0, 1) := by decide +kernel
theorem dX12_sum_14 : decode cX12_sum 14 = .ok (.invokevirtual 257, 3) := by decide +kernel
theorem dX12_sum_17 : decode cX12_sum 17 = .ok (.bipush 43, 2) := by decide +kernel
theorem dX12_sum_19 : decode cX12_sum 19 = .ok (.if_icmp .eq 12, 3) := by decide +kernel
theorem dX12_sum_22 : decode cX12_sum 22 = .ok (.aload_n 0, 1) := by decide +kernel
theorem dX12_sum_23 : decode cX12_sum 23 = .ok (.invokevirtual 257, 3) := by decide +kernel
theorem dX12_sum_26 : decode cX12_sum 26 = .ok (.bipush 45, 2) := by decide +kernel
theorem dX12_sum_28 : decode cX12_sum 28 = .ok (.if_icmp .ne 56, 3) := by decide +kernel
theorem dX12_sum_31 : decode cX12_sum 31 = .ok (.aload_n 0, 1) := by decide +kernel
theorem dX12_sum_32 : decode cX12_sum 32 = .ok (.invokevirtual 257, 3) := by decide +kernel
theorem dX12_sum_35 : decode cX12_sum 35 = .ok (.bipush 43, 2) := by decide +kernel
theorem dX12_sum_37 : decode cX12_sum 37 = .ok (.if_icmp .ne 7, 3) := by decide +kernel
theorem dX12_sum_40 : decode cX12_sum 40 = .ok (.iconst 1, 1) := by decide +kernel
theorem dX12_sum_41 : decode cX12_sum 41 = .ok (.goto 4, 3) := by decide +kernel
theorem dX12_sum_44 : decode cX12_sum 44 = .ok (.iconst 0, 1) := by decide +kernel
theorem dX12_sum_45 : decode cX12_sum 45 = .ok (.istore_n 2, 1) := by decide +kernel
theorem dX12_sum_46 : decode cX12_sum 46 = .ok (.aload_n 0, 1) := by decide +kernel
theorem dX12_sum_47 : decode cX12_sum 47 = .ok (.dup, 1) := by decide +kernel
theorem dX12_sum_48 : decode cX12_sum 48 = .ok (.getfield 238, 3) := by decide +kernel
theorem dX12_sum_51 : decode cX12_sum 51 = .ok (.iconst 1, 1) := by decide +kernel
theorem dX12_sum_52 : decode cX12_sum 52 = .ok (.iadd, 1) := by decide +kernel
theorem dX12_sum_53 : decode cX12_sum 53 = .ok (.putfield 238, 3) := by decide +kernel
theorem dX12_sum_56 : decode cX12_sum 56 = .ok (.aload_n 0, 1) := by decide +kernel
theorem dX12_sum_57 : decode cX12_sum 57 = .ok (.invokevirtual 292, 3) := by decide +kernel
theorem dX12_sum_60 : decode cX12_sum 60 = .ok (.i2l, 1) := by decide +kernel
theorem dX12_sum_61 : decode cX12_sum 61 = .ok (.lstore_n 3, 1) := by decide +kernel
theorem dX12_sum_62 : decode cX12_sum 62 = .ok (.iload_n 2, 1) := by decide +kernel
theorem dX12_sum_63 : decode cX12_sum 63 = .ok (.ifCond .eq 10, 3) := by decide +kernel
theorem dX12_sum_66 : decode cX12_sum 66 = .ok (.iload_n 1, 1) := by decide +kernel
theorem dX12_sum_67 : decode cX12_sum 67 = .ok (.i2l, 1) := by decide +kernel
theorem dX12_sum_68 : decode cX12_sum 68 = .ok (.lload_n 3, 1) := by decide +kernel
theorem dX12_sum_69 : decode cX12_sum 69 = .ok (.ladd, 1) := by decide +kernel
theorem dX12_sum_70 : decode cX12_sum 70 = .ok (.goto 7, 3) := by decide +kernel
theorem dX12_sum_73 : decode cX12_sum 73 = .ok (.iload_n 1, 1) := by decide +kernel
theorem dX12_sum_74 : decode cX12_sum 74 = .ok (.i2l, 1) := by decide +kernel
theorem dX12_sum_75 : decode cX12_sum 75 = .ok (.lload_n 3, 1) := by decide +kernel
theorem dX12_sum_76 : decode cX12_sum 76 = .ok (.lsub, 1) := by decide +kernel
theorem dX12_sum_77 : decode cX12_sum 77 = .ok (.invokestatic 288, 3) := by decide +kernel
theorem dX12_sum_80 : decode cX12_sum 80 = .ok (.istore_n 1, 1) := by decide +kernel
theorem dX12_sum_81 : decode cX12_sum 81 = .ok (.goto (-76), 3) := by decide +kernel
theorem dX12_sum_84 : decode cX12_sum 84 = .ok (.iload_n 1, 1) := by decide +kernel
theorem dX12_sum_85 : decode cX12_sum 85 = .ok (.ireturn, 1) := by decide +kernel
theorem dX12_isSign_0 : decode cX12_isSign 0 = .ok (.iload_n 0, 1) := by decide +kernel
theorem dX12_isSign_1 : decode cX12_isSign 1 = .ok (.bipush 61, 2) := by decide +kernel
theorem dX12_isSign_3 : decode cX12_isSign 3 = .ok (.if_icmp .eq 15, 3) := by decide +kernel
theorem dX12_isSign_6 : decode cX12_isSign 6 = .ok (.iload_n 0, 1) := by decide +kernel
theorem dX12_isSign_7 : decode cX12_isSign 7 = .ok (.bipush 60, 2) := by decide +kernel
theorem dX12_isSign_9 : decode cX12_isSign 9 = .ok (.if_icmp .eq 9, 3) := by decide +kernel
theorem dX12_isSign_12 : decode cX12_isSign 12 = .ok (.iload_n 0, 1) := by decide +kernel
theorem dX12_isSign_13 : decode cX12_isSign 13 = .ok (.bipush 62, 2) := by decide +kernel
theorem dX12_isSign_15 : decode cX12_isSign 15 = .ok (.if_icmp .ne 7, 3) := by decide +kernel
theorem dX12_isSign_18 : decode cX12_isSign 18 = .ok (.iconst 1, 1) := by decide +kernel
theorem dX12_isSign_19 : decode cX12_isSign 19 = .ok (.goto 4, 3) := by decide +kernel
theorem dX12_isSign_22 : decode cX12_isSign 22 = .ok (.iconst 0, 1) := by decide +kernel
theorem dX12_isSign_23 : decode cX12_isSign 23 = .ok (.ireturn, 1) := by decide +kernel
theorem dX12_compares_0 : decode cX12_compares 0 = .ok (.iload_n 1, 1) := by decide +kernel
theorem dX12_compares_1 : decode cX12_compares 1 = .ok (.ifCond .eq 7, 3) := by decide +kernel
theorem dX12_compares_4 : decode cX12_compares 4 = .ok (.iload_n 2, 1) := by decide +kernel
theorem dX12_compares_5 : decode cX12_compares 5 = .ok (.goto 7, 3) := by decide +kernel
theorem dX12_compares_8 : decode cX12_compares 8 = .ok (.aload_n 0, 1) := by decide +kernel
theorem dX12_compares_9 : decode cX12_compares 9 = .ok (.invokevirtual 276, 3) := by decide +kernel
theorem dX12_compares_12 : decode cX12_compares 12 = .ok (.istore_n 3, 1) := by decide +kernel
theorem dX12_compares_13 : decode cX12_compares 13 = .ok (.aload_n 0, 1) := by decide +kernel
theorem dX12_compares_14 : decode cX12_compares 14 = .ok (.getfield 247, 3) := by decide +kernel
theorem dX12_compares_17 : decode cX12_compares 17 = .ok (.iconst (-1), 1) := by decide +kernel
theorem dX12_compares_18 : decode cX12_compares 18 = .ok (.if_icmp .eq 5, 3) := by decide +kernel
theorem dX12_compares_21 : decode cX12_compares 21 = .ok (.iconst 0, 1) := by decide +kernel
theorem dX12_compares_22 : decode cX12_compares 22 = .ok (.ireturn, 1) := by decide +kernel
theorem dX12_compares_23 : decode cX12_compares 23 = .ok (.aload_n 0, 1) := by decide +kernel
theorem dX12_compares_24 : decode cX12_compares 24 = .ok (.invokevirtual 257, 3) := by decide +kernel
theorem dX12_compares_27 : decode cX12_compares 27 = .ok (.istore 4, 2) := by decide +kernel
theorem dX12_compares_29 : decode cX12_compares 29 = .ok (.iload 4, 2) := by decide +kernel
theorem dX12_compares_31 : decode cX12_compares 31 = .ok (.invokestatic 295, 3) := by decide +kernel
theorem dX12_compares_34 : decode cX12_compares 34 = .ok (.ifCond .ne 8, 3) := by decide +kernel
theorem dX12_compares_37 : decode cX12_compares 37 = .ok (.aload_n 0, 1) := by decide +kernel
theorem dX12_compares_38 : decode cX12_compares 38 = .ok (.invokevirtual 253, 3) := by decide +kernel
theorem dX12_compares_41 : decode cX12_compares 41 = .ok (.ireturn, 1) := by decide +kernel
theorem dX12_compares_42 : decode cX12_compares 42 = .ok (.aload_n 0, 1) := by decide +kernel
theorem dX12_compares_43 : decode cX12_compares 43 = .ok (.dup, 1) := by decide +kernel
theorem dX12_compares_44 : decode cX12_compares 44 = .ok (.getfield 238, 3) := by decide +kernel
theorem dX12_compares_47 : decode cX12_compares 47 = .ok (.iconst 1, 1) := by decide +kernel
theorem dX12_compares_48 : decode cX12_compares 48 = .ok (.iadd, 1) := by decide +kernel
theorem dX12_compares_49 : decode cX12_compares 49 = .ok (.putfield 238, 3) := by decide +kernel
theorem dX12_compares_52 : decode cX12_compares 52 = .ok (.aload_n 0, 1) := by decide +kernel
theorem dX12_compares_53 : decode cX12_compares 53 = .ok (.invokevirtual 276, 3) := by decide +kernel
theorem dX12_compares_56 : decode cX12_compares 56 = .ok (.istore 5, 2) := by decide +kernel
theorem dX12_compares_58 : decode cX12_compares 58 = .ok (.iload 4, 2) := by decide +kernel
theorem dX12_compares_60 : decode cX12_compares 60 = .ok (.bipush 61, 2) := by decide +kernel
theorem dX12_compares_62 : decode cX12_compares 62 = .ok (.if_icmp .ne 17, 3) := by decide +kernel
theorem dX12_compares_65 : decode cX12_compares 65 = .ok (.iload_n 3, 1) := by decide +kernel
theorem dX12_compares_66 : decode cX12_compares 66 = .ok (.iload 5, 2) := by decide +kernel
theorem dX12_compares_68 : decode cX12_compares 68 = .ok (.if_icmp .ne 7, 3) := by decide +kernel
theorem dX12_compares_71 : decode cX12_compares 71 = .ok (.iconst 1, 1) := by decide +kernel
theorem dX12_compares_72 : decode cX12_compares 72 = .ok (.goto 39, 3) := by decide +kernel
theorem dX12_compares_75 : decode cX12_compares 75 = .ok (.iconst 0, 1) := by decide +kernel
theorem dX12_compares_76 : decode cX12_compares 76 = .ok (.goto 35, 3) := by decide +kernel
theorem dX12_compares_79 : decode cX12_compares 79 = .ok (.iload 4, 2) := by decide +kernel
theorem dX12_compares_81 : decode cX12_compares 81 = .ok (.bipush 60, 2) := by decide +kernel
theorem dX12_compares_83 : decode cX12_compares 83 = .ok (.if_icmp .ne 17, 3) := by decide +kernel
theorem dX12_compares_86 : decode cX12_compares 86 = .ok (.iload_n 3, 1) := by decide +kernel
theorem dX12_compares_87 : decode cX12_compares 87 = .ok (.iload 5, 2) := by decide +kernel
theorem dX12_compares_89 : decode cX12_compares 89 = .ok (.if_icmp .ge 7, 3) := by decide +kernel
theorem dX12_compares_92 : decode cX12_compares 92 = .ok (.iconst 1, 1) := by decide +kernel
theorem dX12_compares_93 : decode cX12_compares 93 = .ok (.goto 18, 3) := by decide +kernel
theorem dX12_compares_96 : decode cX12_compares 96 = .ok (.iconst 0, 1) := by decide +kernel
theorem dX12_compares_97 : decode cX12_compares 97 = .ok (.goto 14, 3) := by decide +kernel
theorem dX12_compares_100 : decode cX12_compares 100 = .ok (.iload_n 3, 1) := by decide +kernel
theorem dX12_compares_101 : decode cX12_compares 101 = .ok (.iload 5, 2) := by decide +kernel
theorem dX12_compares_103 : decode cX12_compares 103 = .ok (.if_icmp .le 7, 3) := by decide +kernel
theorem dX12_compares_106 : decode cX12_compares 106 = .ok (.iconst 1, 1) := by decide +kernel
theorem dX12_compares_107 : decode cX12_compares 107 = .ok (.goto 4, 3) := by decide +kernel
theorem dX12_compares_110 : decode cX12_compares 110 = .ok (.iconst 0, 1) := by decide +kernel
theorem dX12_compares_111 : decode cX12_compares 111 = .ok (.ireturn, 1) := by decide +kernel
theorem dX12_unit_0 : decode cX12_unit 0 = .ok (.aload_n 0, 1) := by decide +kernel
theorem dX12_unit_1 : decode cX12_unit 1 = .ok (.invokevirtual 257, 3) := by decide +kernel
theorem dX12_unit_4 : decode cX12_unit 4 = .ok (.istore_n 1, 1) := by decide +kernel
theorem dX12_unit_5 : decode cX12_unit 5 = .ok (.iload_n 1, 1) := by decide +kernel
theorem dX12_unit_6 : decode cX12_unit 6 = .ok (.bipush 33, 2) := by decide +kernel
theorem dX12_unit_8 : decode cX12_unit 8 = .ok (.if_icmp .ne 37, 3) := by decide +kernel
theorem dX12_unit_11 : decode cX12_unit 11 = .ok (.aload_n 0, 1) := by decide +kernel
theorem dX12_unit_12 : decode cX12_unit 12 = .ok (.invokevirtual 273, 3) := by decide +kernel
theorem dX12_unit_15 : decode cX12_unit 15 = .ok (.ifCond .ne 5, 3) := by decide +kernel
theorem dX12_unit_18 : decode cX12_unit 18 = .ok (.iconst 0, 1) := by decide +kernel
theorem dX12_unit_19 : decode cX12_unit 19 = .ok (.ireturn, 1) := by decide +kernel
theorem dX12_unit_20 : decode cX12_unit 20 = .ok (.aload_n 0, 1) := by decide +kernel
theorem dX12_unit_21 : decode cX12_unit 21 = .ok (.invokevirtual 298, 3) := by decide +kernel
theorem dX12_unit_24 : decode cX12_unit 24 = .ok (.istore_n 2, 1) := by decide +kernel
theorem dX12_unit_25 : decode cX12_unit 25 = .ok (.aload_n 0, 1) := by decide +kernel
theorem dX12_unit_26 : decode cX12_unit 26 = .ok (.dup, 1) := by decide +kernel
theorem dX12_unit_27 : decode cX12_unit 27 = .ok (.getfield 250, 3) := by decide +kernel
theorem dX12_unit_30 : decode cX12_unit 30 = .ok (.iconst 1, 1) := by decide +kernel
theorem dX12_unit_31 : decode cX12_unit 31 = .ok (.isub, 1) := by decide +kernel
theorem dX12_unit_32 : decode cX12_unit 32 = .ok (.putfield 250, 3) := by decide +kernel
theorem dX12_unit_35 : decode cX12_unit 35 = .ok (.iload_n 2, 1) := by decide +kernel
theorem dX12_unit_36 : decode cX12_unit 36 = .ok (.ifCond .ne 7, 3) := by decide +kernel
theorem dX12_unit_39 : decode cX12_unit 39 = .ok (.iconst 1, 1) := by decide +kernel
theorem dX12_unit_40 : decode cX12_unit 40 = .ok (.goto 4, 3) := by decide +kernel
theorem dX12_unit_43 : decode cX12_unit 43 = .ok (.iconst 0, 1) := by decide +kernel
theorem dX12_unit_44 : decode cX12_unit 44 = .ok (.ireturn, 1) := by decide +kernel
theorem dX12_unit_45 : decode cX12_unit 45 = .ok (.iload_n 1, 1) := by decide +kernel
theorem dX12_unit_46 : decode cX12_unit 46 = .ok (.bipush 40, 2) := by decide +kernel
theorem dX12_unit_48 : decode cX12_unit 48 = .ok (.if_icmp .ne 42, 3) := by decide +kernel
theorem dX12_unit_51 : decode cX12_unit 51 = .ok (.aload_n 0, 1) := by decide +kernel
theorem dX12_unit_52 : decode cX12_unit 52 = .ok (.invokevirtual 273, 3) := by decide +kernel
theorem dX12_unit_55 : decode cX12_unit 55 = .ok (.ifCond .ne 5, 3) := by decide +kernel
theorem dX12_unit_58 : decode cX12_unit 58 = .ok (.iconst 0, 1) := by decide +kernel
theorem dX12_unit_59 : decode cX12_unit 59 = .ok (.ireturn, 1) := by decide +kernel
theorem dX12_unit_60 : decode cX12_unit 60 = .ok (.aload_n 0, 1) := by decide +kernel
theorem dX12_unit_61 : decode cX12_unit 61 = .ok (.iconst 0, 1) := by decide +kernel
theorem dX12_unit_62 : decode cX12_unit 62 = .ok (.iconst 0, 1) := by decide +kernel
theorem dX12_unit_63 : decode cX12_unit 63 = .ok (.invokevirtual 301, 3) := by decide +kernel
theorem dX12_unit_66 : decode cX12_unit 66 = .ok (.istore_n 2, 1) := by decide +kernel
theorem dX12_unit_67 : decode cX12_unit 67 = .ok (.aload_n 0, 1) := by decide +kernel
theorem dX12_unit_68 : decode cX12_unit 68 = .ok (.bipush 41, 2) := by decide +kernel
theorem dX12_unit_70 : decode cX12_unit 70 = .ok (.invokevirtual 279, 3) := by decide +kernel
theorem dX12_unit_73 : decode cX12_unit 73 = .ok (.ifCond .ne 5, 3) := by decide +kernel
theorem dX12_unit_76 : decode cX12_unit 76 = .ok (.iconst 0, 1) := by decide +kernel
theorem dX12_unit_77 : decode cX12_unit 77 = .ok (.ireturn, 1) := by decide +kernel
theorem dX12_unit_78 : decode cX12_unit 78 = .ok (.aload_n 0, 1) := by decide +kernel
theorem dX12_unit_79 : decode cX12_unit 79 = .ok (.dup, 1) := by decide +kernel
theorem dX12_unit_80 : decode cX12_unit 80 = .ok (.getfield 250, 3) := by decide +kernel
theorem dX12_unit_83 : decode cX12_unit 83 = .ok (.iconst 1, 1) := by decide +kernel
theorem dX12_unit_84 : decode cX12_unit 84 = .ok (.isub, 1) := by decide +kernel
theorem dX12_unit_85 : decode cX12_unit 85 = .ok (.putfield 250, 3) := by decide +kernel
theorem dX12_unit_88 : decode cX12_unit 88 = .ok (.iload_n 2, 1) := by decide +kernel
theorem dX12_unit_89 : decode cX12_unit 89 = .ok (.ireturn, 1) := by decide +kernel
theorem dX12_unit_90 : decode cX12_unit 90 = .ok (.aload_n 0, 1) := by decide +kernel
theorem dX12_unit_91 : decode cX12_unit 91 = .ok (.iconst 0, 1) := by decide +kernel
theorem dX12_unit_92 : decode cX12_unit 92 = .ok (.iconst 0, 1) := by decide +kernel
theorem dX12_unit_93 : decode cX12_unit 93 = .ok (.invokevirtual 305, 3) := by decide +kernel
theorem dX12_unit_96 : decode cX12_unit 96 = .ok (.ireturn, 1) := by decide +kernel
theorem dX12_part_0 : decode cX12_part 0 = .ok (.iload_n 1, 1) := by decide +kernel
theorem dX12_part_1 : decode cX12_part 1 = .ok (.ifCond .eq 12, 3) := by decide +kernel
theorem dX12_part_4 : decode cX12_part 4 = .ok (.aload_n 0, 1) := by decide +kernel
theorem dX12_part_5 : decode cX12_part 5 = .ok (.iconst 1, 1) := by decide +kernel
theorem dX12_part_6 : decode cX12_part 6 = .ok (.iload_n 2, 1) := by decide +kernel
theorem dX12_part_7 : decode cX12_part 7 = .ok (.invokevirtual 305, 3) := by decide +kernel
theorem dX12_part_10 : decode cX12_part 10 = .ok (.goto 7, 3) := by decide +kernel
theorem dX12_part_13 : decode cX12_part 13 = .ok (.aload_n 0, 1) := by decide +kernel
theorem dX12_part_14 : decode cX12_part 14 = .ok (.invokevirtual 298, 3) := by decide +kernel
theorem dX12_part_17 : decode cX12_part 17 = .ok (.istore_n 3, 1) := by decide +kernel
theorem dX12_part_18 : decode cX12_part 18 = .ok (.aload_n 0, 1) := by decide +kernel
theorem dX12_part_19 : decode cX12_part 19 = .ok (.getfield 247, 3) := by decide +kernel
theorem dX12_part_22 : decode cX12_part 22 = .ok (.iconst (-1), 1) := by decide +kernel
theorem dX12_part_23 : decode cX12_part 23 = .ok (.if_icmp .ne 46, 3) := by decide +kernel
theorem dX12_part_26 : decode cX12_part 26 = .ok (.aload_n 0, 1) := by decide +kernel
theorem dX12_part_27 : decode cX12_part 27 = .ok (.invokevirtual 257, 3) := by decide +kernel
theorem dX12_part_30 : decode cX12_part 30 = .ok (.bipush 38, 2) := by decide +kernel
theorem dX12_part_32 : decode cX12_part 32 = .ok (.if_icmp .ne 37, 3) := by decide +kernel
theorem dX12_part_35 : decode cX12_part 35 = .ok (.aload_n 0, 1) := by decide +kernel
theorem dX12_part_36 : decode cX12_part 36 = .ok (.dup, 1) := by decide +kernel
theorem dX12_part_37 : decode cX12_part 37 = .ok (.getfield 238, 3) := by decide +kernel
theorem dX12_part_40 : decode cX12_part 40 = .ok (.iconst 1, 1) := by decide +kernel
theorem dX12_part_41 : decode cX12_part 41 = .ok (.iadd, 1) := by decide +kernel
theorem dX12_part_42 : decode cX12_part 42 = .ok (.putfield 238, 3) := by decide +kernel
theorem dX12_part_45 : decode cX12_part 45 = .ok (.aload_n 0, 1) := by decide +kernel
theorem dX12_part_46 : decode cX12_part 46 = .ok (.invokevirtual 298, 3) := by decide +kernel
theorem dX12_part_49 : decode cX12_part 49 = .ok (.istore 4, 2) := by decide +kernel
theorem dX12_part_51 : decode cX12_part 51 = .ok (.iload_n 3, 1) := by decide +kernel
theorem dX12_part_52 : decode cX12_part 52 = .ok (.ifCond .eq 12, 3) := by decide +kernel
theorem dX12_part_55 : decode cX12_part 55 = .ok (.iload 4, 2) := by decide +kernel
theorem dX12_part_57 : decode cX12_part 57 = .ok (.ifCond .eq 7, 3) := by decide +kernel
theorem dX12_part_60 : decode cX12_part 60 = .ok (.iconst 1, 1) := by decide +kernel
theorem dX12_part_61 : decode cX12_part 61 = .ok (.goto 4, 3) := by decide +kernel
theorem dX12_part_64 : decode cX12_part 64 = .ok (.iconst 0, 1) := by decide +kernel
theorem dX12_part_65 : decode cX12_part 65 = .ok (.istore_n 3, 1) := by decide +kernel
theorem dX12_part_66 : decode cX12_part 66 = .ok (.goto (-48), 3) := by decide +kernel
theorem dX12_part_69 : decode cX12_part 69 = .ok (.iload_n 3, 1) := by decide +kernel
theorem dX12_part_70 : decode cX12_part 70 = .ok (.ireturn, 1) := by decide +kernel
theorem dX12_condition_0 : decode cX12_condition 0 = .ok (.aload_n 0, 1) := by decide +kernel
theorem dX12_condition_1 : decode cX12_condition 1 = .ok (.iload_n 1, 1) := by decide +kernel
theorem dX12_condition_2 : decode cX12_condition 2 = .ok (.iload_n 2, 1) := by decide +kernel
theorem dX12_condition_3 : decode cX12_condition 3 = .ok (.invokevirtual 308, 3) := by decide +kernel
theorem dX12_condition_6 : decode cX12_condition 6 = .ok (.istore_n 3, 1) := by decide +kernel
theorem dX12_condition_7 : decode cX12_condition 7 = .ok (.aload_n 0, 1) := by decide +kernel
theorem dX12_condition_8 : decode cX12_condition 8 = .ok (.getfield 247, 3) := by decide +kernel
theorem dX12_condition_11 : decode cX12_condition 11 = .ok (.iconst (-1), 1) := by decide +kernel
theorem dX12_condition_12 : decode cX12_condition 12 = .ok (.if_icmp .ne 48, 3) := by decide +kernel
theorem dX12_condition_15 : decode cX12_condition 15 = .ok (.aload_n 0, 1) := by decide +kernel
theorem dX12_condition_16 : decode cX12_condition 16 = .ok (.invokevirtual 257, 3) := by decide +kernel
theorem dX12_condition_19 : decode cX12_condition 19 = .ok (.bipush 124, 2) := by decide +kernel
theorem dX12_condition_21 : decode cX12_condition 21 = .ok (.if_icmp .ne 39, 3) := by decide +kernel
theorem dX12_condition_24 : decode cX12_condition 24 = .ok (.aload_n 0, 1) := by decide +kernel
theorem dX12_condition_25 : decode cX12_condition 25 = .ok (.dup, 1) := by decide +kernel
theorem dX12_condition_26 : decode cX12_condition 26 = .ok (.getfield 238, 3) := by decide +kernel
theorem dX12_condition_29 : decode cX12_condition 29 = .ok (.iconst 1, 1) := by decide +kernel
theorem dX12_condition_30 : decode cX12_condition 30 = .ok (.iadd, 1) := by decide +kernel
theorem dX12_condition_31 : decode cX12_condition 31 = .ok (.putfield 238, 3) := by decide +kernel
theorem dX12_condition_34 : decode cX12_condition 34 = .ok (.aload_n 0, 1) := by decide +kernel
theorem dX12_condition_35 : decode cX12_condition 35 = .ok (.iconst 0, 1) := by decide +kernel
theorem dX12_condition_36 : decode cX12_condition 36 = .ok (.iconst 0, 1) := by decide +kernel
theorem dX12_condition_37 : decode cX12_condition 37 = .ok (.invokevirtual 308, 3) := by decide +kernel
theorem dX12_condition_40 : decode cX12_condition 40 = .ok (.istore 4, 2) := by decide +kernel
theorem dX12_condition_42 : decode cX12_condition 42 = .ok (.iload_n 3, 1) := by decide +kernel
theorem dX12_condition_43 : decode cX12_condition 43 = .ok (.ifCond .ne 8, 3) := by decide +kernel
theorem dX12_condition_46 : decode cX12_condition 46 = .ok (.iload 4, 2) := by decide +kernel
theorem dX12_condition_48 : decode cX12_condition 48 = .ok (.ifCond .eq 7, 3) := by decide +kernel
theorem dX12_condition_51 : decode cX12_condition 51 = .ok (.iconst 1, 1) := by decide +kernel
theorem dX12_condition_52 : decode cX12_condition 52 = .ok (.goto 4, 3) := by decide +kernel
theorem dX12_condition_55 : decode cX12_condition 55 = .ok (.iconst 0, 1) := by decide +kernel
theorem dX12_condition_56 : decode cX12_condition 56 = .ok (.istore_n 3, 1) := by decide +kernel
theorem dX12_condition_57 : decode cX12_condition 57 = .ok (.goto (-50), 3) := by decide +kernel
theorem dX12_condition_60 : decode cX12_condition 60 = .ok (.iload_n 3, 1) := by decide +kernel
theorem dX12_condition_61 : decode cX12_condition 61 = .ok (.ireturn, 1) := by decide +kernel
theorem dX12_clause_0 : decode cX12_clause 0 = .ok (.aload_n 0, 1) := by decide +kernel
theorem dX12_clause_1 : decode cX12_clause 1 = .ok (.invokevirtual 257, 3) := by decide +kernel
theorem dX12_clause_4 : decode cX12_clause 4 = .ok (.istore_n 1, 1) := by decide +kernel
theorem dX12_clause_5 : decode cX12_clause 5 = .ok (.ldc 49, 2) := by decide +kernel
theorem dX12_clause_7 : decode cX12_clause 7 = .ok (.iload_n 1, 1) := by decide +kernel
theorem dX12_clause_8 : decode cX12_clause 8 = .ok (.invokestatic 269, 3) := by decide +kernel
theorem dX12_clause_11 : decode cX12_clause 11 = .ok (.ifCond .ne 9, 3) := by decide +kernel
theorem dX12_clause_14 : decode cX12_clause 14 = .ok (.aload_n 0, 1) := by decide +kernel
theorem dX12_clause_15 : decode cX12_clause 15 = .ok (.invokevirtual 253, 3) := by decide +kernel
theorem dX12_clause_18 : decode cX12_clause 18 = .ok (.pop, 1) := by decide +kernel
theorem dX12_clause_19 : decode cX12_clause 19 = .ok (.return_, 1) := by decide +kernel
theorem dX12_clause_20 : decode cX12_clause 20 = .ok (.aload_n 0, 1) := by decide +kernel
theorem dX12_clause_21 : decode cX12_clause 21 = .ok (.dup, 1) := by decide +kernel
theorem dX12_clause_22 : decode cX12_clause 22 = .ok (.getfield 238, 3) := by decide +kernel
theorem dX12_clause_25 : decode cX12_clause 25 = .ok (.iconst 1, 1) := by decide +kernel
theorem dX12_clause_26 : decode cX12_clause 26 = .ok (.iadd, 1) := by decide +kernel
theorem dX12_clause_27 : decode cX12_clause 27 = .ok (.putfield 238, 3) := by decide +kernel
theorem dX12_clause_30 : decode cX12_clause 30 = .ok (.aload_n 0, 1) := by decide +kernel
theorem dX12_clause_31 : decode cX12_clause 31 = .ok (.bipush 58, 2) := by decide +kernel
theorem dX12_clause_33 : decode cX12_clause 33 = .ok (.invokevirtual 279, 3) := by decide +kernel
theorem dX12_clause_36 : decode cX12_clause 36 = .ok (.ifCond .ne 4, 3) := by decide +kernel
theorem dX12_clause_39 : decode cX12_clause 39 = .ok (.return_, 1) := by decide +kernel
theorem dX12_clause_40 : decode cX12_clause 40 = .ok (.iconst 1, 1) := by decide +kernel
theorem dX12_clause_41 : decode cX12_clause 41 = .ok (.istore_n 2, 1) := by decide +kernel
theorem dX12_clause_42 : decode cX12_clause 42 = .ok (.iconst 0, 1) := by decide +kernel
theorem dX12_clause_43 : decode cX12_clause 43 = .ok (.istore_n 3, 1) := by decide +kernel
theorem dX12_clause_44 : decode cX12_clause 44 = .ok (.aload_n 0, 1) := by decide +kernel
theorem dX12_clause_45 : decode cX12_clause 45 = .ok (.invokevirtual 257, 3) := by decide +kernel
theorem dX12_clause_48 : decode cX12_clause 48 = .ok (.istore 4, 2) := by decide +kernel
theorem dX12_clause_50 : decode cX12_clause 50 = .ok (.iload 4, 2) := by decide +kernel
theorem dX12_clause_52 : decode cX12_clause 52 = .ok (.bipush 33, 2) := by decide +kernel
theorem dX12_clause_54 : decode cX12_clause 54 = .ok (.if_icmp .eq 10, 3) := by decide +kernel
theorem dX12_clause_57 : decode cX12_clause 57 = .ok (.iload 4, 2) := by decide +kernel
theorem dX12_clause_59 : decode cX12_clause 59 = .ok (.bipush 40, 2) := by decide +kernel
theorem dX12_clause_61 : decode cX12_clause 61 = .ok (.if_icmp .ne 28, 3) := by decide +kernel
theorem dX12_clause_64 : decode cX12_clause 64 = .ok (.aload_n 0, 1) := by decide +kernel
theorem dX12_clause_65 : decode cX12_clause 65 = .ok (.iconst 0, 1) := by decide +kernel
theorem dX12_clause_66 : decode cX12_clause 66 = .ok (.iconst 0, 1) := by decide +kernel
theorem dX12_clause_67 : decode cX12_clause 67 = .ok (.invokevirtual 301, 3) := by decide +kernel
theorem dX12_clause_70 : decode cX12_clause 70 = .ok (.istore_n 2, 1) := by decide +kernel
theorem dX12_clause_71 : decode cX12_clause 71 = .ok (.aload_n 0, 1) := by decide +kernel
theorem dX12_clause_72 : decode cX12_clause 72 = .ok (.bipush 63, 2) := by decide +kernel
theorem dX12_clause_74 : decode cX12_clause 74 = .ok (.invokevirtual 279, 3) := by decide +kernel
theorem dX12_clause_77 : decode cX12_clause 77 = .ok (.ifCond .ne 4, 3) := by decide +kernel
theorem dX12_clause_80 : decode cX12_clause 80 = .ok (.return_, 1) := by decide +kernel
theorem dX12_clause_81 : decode cX12_clause 81 = .ok (.aload_n 0, 1) := by decide +kernel
theorem dX12_clause_82 : decode cX12_clause 82 = .ok (.invokevirtual 276, 3) := by decide +kernel
theorem dX12_clause_85 : decode cX12_clause 85 = .ok (.istore_n 3, 1) := by decide +kernel
theorem dX12_clause_86 : decode cX12_clause 86 = .ok (.goto 48, 3) := by decide +kernel
theorem dX12_clause_89 : decode cX12_clause 89 = .ok (.aload_n 0, 1) := by decide +kernel
theorem dX12_clause_90 : decode cX12_clause 90 = .ok (.invokevirtual 276, 3) := by decide +kernel
theorem dX12_clause_93 : decode cX12_clause 93 = .ok (.istore_n 3, 1) := by decide +kernel
theorem dX12_clause_94 : decode cX12_clause 94 = .ok (.aload_n 0, 1) := by decide +kernel
theorem dX12_clause_95 : decode cX12_clause 95 = .ok (.getfield 247, 3) := by decide +kernel
theorem dX12_clause_98 : decode cX12_clause 98 = .ok (.iconst (-1), 1) := by decide +kernel
theorem dX12_clause_99 : decode cX12_clause 99 = .ok (.if_icmp .ne 35, 3) := by decide +kernel
theorem dX12_clause_102 : decode cX12_clause 102 = .ok (.aload_n 0, 1) := by decide +kernel
theorem dX12_clause_103 : decode cX12_clause 103 = .ok (.invokevirtual 257, 3) := by decide +kernel
theorem dX12_clause_106 : decode cX12_clause 106 = .ok (.invokestatic 295, 3) := by decide +kernel
theorem dX12_clause_109 : decode cX12_clause 109 = .ok (.ifCond .eq 25, 3) := by decide +kernel
theorem dX12_clause_112 : decode cX12_clause 112 = .ok (.aload_n 0, 1) := by decide +kernel
theorem dX12_clause_113 : decode cX12_clause 113 = .ok (.iconst 1, 1) := by decide +kernel
theorem dX12_clause_114 : decode cX12_clause 114 = .ok (.iload_n 3, 1) := by decide +kernel
theorem dX12_clause_115 : decode cX12_clause 115 = .ok (.invokevirtual 301, 3) := by decide +kernel
theorem dX12_clause_118 : decode cX12_clause 118 = .ok (.istore_n 2, 1) := by decide +kernel
theorem dX12_clause_119 : decode cX12_clause 119 = .ok (.aload_n 0, 1) := by decide +kernel
theorem dX12_clause_120 : decode cX12_clause 120 = .ok (.bipush 63, 2) := by decide +kernel
theorem dX12_clause_122 : decode cX12_clause 122 = .ok (.invokevirtual 279, 3) := by decide +kernel
theorem dX12_clause_125 : decode cX12_clause 125 = .ok (.ifCond .ne 4, 3) := by decide +kernel
theorem dX12_clause_128 : decode cX12_clause 128 = .ok (.return_, 1) := by decide +kernel
theorem dX12_clause_129 : decode cX12_clause 129 = .ok (.aload_n 0, 1) := by decide +kernel
theorem dX12_clause_130 : decode cX12_clause 130 = .ok (.invokevirtual 276, 3) := by decide +kernel
theorem dX12_clause_133 : decode cX12_clause 133 = .ok (.istore_n 3, 1) := by decide +kernel
theorem dX12_clause_134 : decode cX12_clause 134 = .ok (.aload_n 0, 1) := by decide +kernel
theorem dX12_clause_135 : decode cX12_clause 135 = .ok (.getfield 247, 3) := by decide +kernel
theorem dX12_clause_138 : decode cX12_clause 138 = .ok (.iconst (-1), 1) := by decide +kernel
theorem dX12_clause_139 : decode cX12_clause 139 = .ok (.if_icmp .ne 22, 3) := by decide +kernel
theorem dX12_clause_142 : decode cX12_clause 142 = .ok (.aload_n 0, 1) := by decide +kernel
theorem dX12_clause_143 : decode cX12_clause 143 = .ok (.getfield 311, 3) := by decide +kernel
theorem dX12_clause_146 : decode cX12_clause 146 = .ok (.ifCond .ne 15, 3) := by decide +kernel
theorem dX12_clause_149 : decode cX12_clause 149 = .ok (.iload_n 1, 1) := by decide +kernel
theorem dX12_clause_150 : decode cX12_clause 150 = .ok (.aload_n 0, 1) := by decide +kernel
theorem dX12_clause_151 : decode cX12_clause 151 = .ok (.getfield 315, 3) := by decide +kernel
theorem dX12_clause_154 : decode cX12_clause 154 = .ok (.if_icmp .ne 7, 3) := by decide +kernel
theorem dX12_clause_157 : decode cX12_clause 157 = .ok (.iload_n 2, 1) := by decide +kernel
theorem dX12_clause_158 : decode cX12_clause 158 = .ok (.ifCond .ne 4, 3) := by decide +kernel
theorem dX12_clause_161 : decode cX12_clause 161 = .ok (.return_, 1) := by decide +kernel
theorem dX12_clause_162 : decode cX12_clause 162 = .ok (.aload_n 0, 1) := by decide +kernel
theorem dX12_clause_163 : decode cX12_clause 163 = .ok (.iconst 1, 1) := by decide +kernel
theorem dX12_clause_164 : decode cX12_clause 164 = .ok (.putfield 311, 3) := by decide +kernel
theorem dX12_clause_167 : decode cX12_clause 167 = .ok (.aload_n 0, 1) := by decide +kernel
theorem dX12_clause_168 : decode cX12_clause 168 = .ok (.iload_n 3, 1) := by decide +kernel
theorem dX12_clause_169 : decode cX12_clause 169 = .ok (.putfield 318, 3) := by decide +kernel
theorem dX12_clause_172 : decode cX12_clause 172 = .ok (.return_, 1) := by decide +kernel
theorem dX12_goThrough_0 : decode cX12_goThrough 0 = .ok (.aload_n 0, 1) := by decide +kernel
theorem dX12_goThrough_1 : decode cX12_goThrough 1 = .ok (.aload_n 1, 1) := by decide +kernel
theorem dX12_goThrough_2 : decode cX12_goThrough 2 = .ok (.putfield 42, 3) := by decide +kernel
theorem dX12_goThrough_5 : decode cX12_goThrough 5 = .ok (.aload_n 0, 1) := by decide +kernel
theorem dX12_goThrough_6 : decode cX12_goThrough 6 = .ok (.iload_n 2, 1) := by decide +kernel
theorem dX12_goThrough_7 : decode cX12_goThrough 7 = .ok (.putfield 244, 3) := by decide +kernel
theorem dX12_goThrough_10 : decode cX12_goThrough 10 = .ok (.aload_n 0, 1) := by decide +kernel
theorem dX12_goThrough_11 : decode cX12_goThrough 11 = .ok (.iload_n 3, 1) := by decide +kernel
theorem dX12_goThrough_12 : decode cX12_goThrough 12 = .ok (.putfield 241, 3) := by decide +kernel
theorem dX12_goThrough_15 : decode cX12_goThrough 15 = .ok (.aload_n 0, 1) := by decide +kernel
theorem dX12_goThrough_16 : decode cX12_goThrough 16 = .ok (.bipush 121, 2) := by decide +kernel
theorem dX12_goThrough_18 : decode cX12_goThrough 18 = .ok (.putfield 315, 3) := by decide +kernel
theorem dX12_goThrough_21 : decode cX12_goThrough 21 = .ok (.aload_n 0, 1) := by decide +kernel
theorem dX12_goThrough_22 : decode cX12_goThrough 22 = .ok (.iconst 0, 1) := by decide +kernel
theorem dX12_goThrough_23 : decode cX12_goThrough 23 = .ok (.putfield 238, 3) := by decide +kernel
theorem dX12_goThrough_26 : decode cX12_goThrough 26 = .ok (.aload_n 0, 1) := by decide +kernel
theorem dX12_goThrough_27 : decode cX12_goThrough 27 = .ok (.iconst (-1), 1) := by decide +kernel
theorem dX12_goThrough_28 : decode cX12_goThrough 28 = .ok (.putfield 247, 3) := by decide +kernel
theorem dX12_goThrough_31 : decode cX12_goThrough 31 = .ok (.aload_n 0, 1) := by decide +kernel
theorem dX12_goThrough_32 : decode cX12_goThrough 32 = .ok (.iconst 0, 1) := by decide +kernel
theorem dX12_goThrough_33 : decode cX12_goThrough 33 = .ok (.putfield 250, 3) := by decide +kernel
theorem dX12_goThrough_36 : decode cX12_goThrough 36 = .ok (.aload_n 0, 1) := by decide +kernel
theorem dX12_goThrough_37 : decode cX12_goThrough 37 = .ok (.iconst 0, 1) := by decide +kernel
theorem dX12_goThrough_38 : decode cX12_goThrough 38 = .ok (.putfield 311, 3) := by decide +kernel
theorem dX12_goThrough_41 : decode cX12_goThrough 41 = .ok (.aload_n 0, 1) := by decide +kernel
theorem dX12_goThrough_42 : decode cX12_goThrough 42 = .ok (.iconst 0, 1) := by decide +kernel
theorem dX12_goThrough_43 : decode cX12_goThrough 43 = .ok (.putfield 318, 3) := by decide +kernel
theorem dX12_goThrough_46 : decode cX12_goThrough 46 = .ok (.aload_n 0, 1) := by decide +kernel
theorem dX12_goThrough_47 : decode cX12_goThrough 47 = .ok (.invokevirtual 321, 3) := by decide +kernel
theorem dX12_goThrough_50 : decode cX12_goThrough 50 = .ok (.aload_n 0, 1) := by decide +kernel
theorem dX12_goThrough_51 : decode cX12_goThrough 51 = .ok (.getfield 247, 3) := by decide +kernel
theorem dX12_goThrough_54 : decode cX12_goThrough 54 = .ok (.iconst (-1), 1) := by decide +kernel
theorem dX12_goThrough_55 : decode cX12_goThrough 55 = .ok (.if_icmp .ne 29, 3) := by decide +kernel
theorem dX12_goThrough_58 : decode cX12_goThrough 58 = .ok (.aload_n 0, 1) := by decide +kernel
theorem dX12_goThrough_59 : decode cX12_goThrough 59 = .ok (.invokevirtual 257, 3) := by decide +kernel
theorem dX12_goThrough_62 : decode cX12_goThrough 62 = .ok (.bipush 59, 2) := by decide +kernel
theorem dX12_goThrough_64 : decode cX12_goThrough 64 = .ok (.if_icmp .ne 20, 3) := by decide +kernel
theorem dX12_goThrough_67 : decode cX12_goThrough 67 = .ok (.aload_n 0, 1) := by decide +kernel
theorem dX12_goThrough_68 : decode cX12_goThrough 68 = .ok (.dup, 1) := by decide +kernel
theorem dX12_goThrough_69 : decode cX12_goThrough 69 = .ok (.getfield 238, 3) := by decide +kernel
theorem dX12_goThrough_72 : decode cX12_goThrough 72 = .ok (.iconst 1, 1) := by decide +kernel
theorem dX12_goThrough_73 : decode cX12_goThrough 73 = .ok (.iadd, 1) := by decide +kernel
theorem dX12_goThrough_74 : decode cX12_goThrough 74 = .ok (.putfield 238, 3) := by decide +kernel
theorem dX12_goThrough_77 : decode cX12_goThrough 77 = .ok (.aload_n 0, 1) := by decide +kernel
theorem dX12_goThrough_78 : decode cX12_goThrough 78 = .ok (.invokevirtual 321, 3) := by decide +kernel
theorem dX12_goThrough_81 : decode cX12_goThrough 81 = .ok (.goto (-31), 3) := by decide +kernel
theorem dX12_goThrough_84 : decode cX12_goThrough 84 = .ok (.aload_n 0, 1) := by decide +kernel
theorem dX12_goThrough_85 : decode cX12_goThrough 85 = .ok (.getfield 247, 3) := by decide +kernel
theorem dX12_goThrough_88 : decode cX12_goThrough 88 = .ok (.iconst (-1), 1) := by decide +kernel
theorem dX12_goThrough_89 : decode cX12_goThrough 89 = .ok (.if_icmp .ne 16, 3) := by decide +kernel
theorem dX12_goThrough_92 : decode cX12_goThrough 92 = .ok (.aload_n 0, 1) := by decide +kernel
theorem dX12_goThrough_93 : decode cX12_goThrough 93 = .ok (.invokevirtual 257, 3) := by decide +kernel
theorem dX12_goThrough_96 : decode cX12_goThrough 96 = .ok (.iconst (-1), 1) := by decide +kernel
theorem dX12_goThrough_97 : decode cX12_goThrough 97 = .ok (.if_icmp .eq 8, 3) := by decide +kernel
theorem dX12_goThrough_100 : decode cX12_goThrough 100 = .ok (.aload_n 0, 1) := by decide +kernel
theorem dX12_goThrough_101 : decode cX12_goThrough 101 = .ok (.invokevirtual 253, 3) := by decide +kernel
theorem dX12_goThrough_104 : decode cX12_goThrough 104 = .ok (.pop, 1) := by decide +kernel
theorem dX12_goThrough_105 : decode cX12_goThrough 105 = .ok (.return_, 1) := by decide +kernel
theorem dX12_fault_0 : decode cX12_fault 0 = .ok (.aload_n 0, 1) := by decide +kernel
theorem dX12_fault_1 : decode cX12_fault 1 = .ok (.iconst 0, 1) := by decide +kernel
theorem dX12_fault_2 : decode cX12_fault 2 = .ok (.putfield 180, 3) := by decide +kernel
theorem dX12_fault_5 : decode cX12_fault 5 = .ok (.aload_n 0, 1) := by decide +kernel
theorem dX12_fault_6 : decode cX12_fault 6 = .ok (.aload_n 0, 1) := by decide +kernel
theorem dX12_fault_7 : decode cX12_fault 7 = .ok (.getfield 29, 3) := by decide +kernel
theorem dX12_fault_10 : decode cX12_fault 10 = .ok (.iconst 0, 1) := by decide +kernel
theorem dX12_fault_11 : decode cX12_fault 11 = .ok (.aload_n 0, 1) := by decide +kernel
theorem dX12_fault_12 : decode cX12_fault 12 = .ok (.getfield 229, 3) := by decide +kernel
theorem dX12_fault_15 : decode cX12_fault 15 = .ok (.invokevirtual 324, 3) := by decide +kernel
theorem dX12_fault_18 : decode cX12_fault 18 = .ok (.aload_n 0, 1) := by decide +kernel
theorem dX12_fault_19 : decode cX12_fault 19 = .ok (.getfield 247, 3) := by decide +kernel
theorem dX12_fault_22 : decode cX12_fault 22 = .ok (.ireturn, 1) := by decide +kernel
theorem dX12_law_0 : decode cX12_law 0 = .ok (.aload_n 0, 1) := by decide +kernel
theorem dX12_law_1 : decode cX12_law 1 = .ok (.iconst 0, 1) := by decide +kernel
theorem dX12_law_2 : decode cX12_law 2 = .ok (.putfield 180, 3) := by decide +kernel
theorem dX12_law_5 : decode cX12_law 5 = .ok (.aload_n 0, 1) := by decide +kernel
theorem dX12_law_6 : decode cX12_law 6 = .ok (.getfield 328, 3) := by decide +kernel
theorem dX12_law_9 : decode cX12_law 9 = .ok (.iconst 4, 1) := by decide +kernel
theorem dX12_law_10 : decode cX12_law 10 = .ok (.if_icmp .ne 5, 3) := by decide +kernel
theorem dX12_law_13 : decode cX12_law 13 = .ok (.iconst (-1), 1) := by decide +kernel
theorem dX12_law_14 : decode cX12_law 14 = .ok (.ireturn, 1) := by decide +kernel
theorem dX12_law_15 : decode cX12_law 15 = .ok (.aload_n 0, 1) := by decide +kernel
theorem dX12_law_16 : decode cX12_law 16 = .ok (.aload_n 0, 1) := by decide +kernel
theorem dX12_law_17 : decode cX12_law 17 = .ok (.getfield 29, 3) := by decide +kernel
theorem dX12_law_20 : decode cX12_law 20 = .ok (.iconst 0, 1) := by decide +kernel
theorem dX12_law_21 : decode cX12_law 21 = .ok (.aload_n 0, 1) := by decide +kernel
theorem dX12_law_22 : decode cX12_law 22 = .ok (.getfield 229, 3) := by decide +kernel
theorem dX12_law_25 : decode cX12_law 25 = .ok (.invokevirtual 324, 3) := by decide +kernel
theorem dX12_law_28 : decode cX12_law 28 = .ok (.aload_n 0, 1) := by decide +kernel
theorem dX12_law_29 : decode cX12_law 29 = .ok (.getfield 247, 3) := by decide +kernel
theorem dX12_law_32 : decode cX12_law 32 = .ok (.iconst (-1), 1) := by decide +kernel
theorem dX12_law_33 : decode cX12_law 33 = .ok (.if_icmp .eq 5, 3) := by decide +kernel
theorem dX12_law_36 : decode cX12_law 36 = .ok (.iconst (-1), 1) := by decide +kernel
theorem dX12_law_37 : decode cX12_law 37 = .ok (.ireturn, 1) := by decide +kernel
theorem dX12_law_38 : decode cX12_law 38 = .ok (.iconst 0, 1) := by decide +kernel
theorem dX12_law_39 : decode cX12_law 39 = .ok (.istore_n 1, 1) := by decide +kernel
theorem dX12_law_40 : decode cX12_law 40 = .ok (.iload_n 1, 1) := by decide +kernel
theorem dX12_law_41 : decode cX12_law 41 = .ok (.aload_n 0, 1) := by decide +kernel
theorem dX12_law_42 : decode cX12_law 42 = .ok (.getfield 229, 3) := by decide +kernel
theorem dX12_law_45 : decode cX12_law 45 = .ok (.if_icmp .ge 29, 3) := by decide +kernel
theorem dX12_law_48 : decode cX12_law 48 = .ok (.aload_n 0, 1) := by decide +kernel
theorem dX12_law_49 : decode cX12_law 49 = .ok (.getfield 33, 3) := by decide +kernel
theorem dX12_law_52 : decode cX12_law 52 = .ok (.bipush 120, 2) := by decide +kernel
theorem dX12_law_54 : decode cX12_law 54 = .ok (.aload_n 0, 1) := by decide +kernel
theorem dX12_law_55 : decode cX12_law 55 = .ok (.getfield 328, 3) := by decide +kernel
theorem dX12_law_58 : decode cX12_law 58 = .ok (.imul, 1) := by decide +kernel
theorem dX12_law_59 : decode cX12_law 59 = .ok (.iload_n 1, 1) := by decide +kernel
theorem dX12_law_60 : decode cX12_law 60 = .ok (.iadd, 1) := by decide +kernel
theorem dX12_law_61 : decode cX12_law 61 = .ok (.aload_n 0, 1) := by decide +kernel
theorem dX12_law_62 : decode cX12_law 62 = .ok (.getfield 29, 3) := by decide +kernel
theorem dX12_law_65 : decode cX12_law 65 = .ok (.iload_n 1, 1) := by decide +kernel
theorem dX12_law_66 : decode cX12_law 66 = .ok (.baload, 1) := by decide +kernel
theorem dX12_law_67 : decode cX12_law 67 = .ok (.bastore, 1) := by decide +kernel
theorem dX12_law_68 : decode cX12_law 68 = .ok (.iinc 1 1, 3) := by decide +kernel
theorem dX12_law_71 : decode cX12_law 71 = .ok (.goto (-31), 3) := by decide +kernel
theorem dX12_law_74 : decode cX12_law 74 = .ok (.aload_n 0, 1) := by decide +kernel
theorem dX12_law_75 : decode cX12_law 75 = .ok (.getfield 36, 3) := by decide +kernel
theorem dX12_law_78 : decode cX12_law 78 = .ok (.aload_n 0, 1) := by decide +kernel
theorem dX12_law_79 : decode cX12_law 79 = .ok (.getfield 328, 3) := by decide +kernel
theorem dX12_law_82 : decode cX12_law 82 = .ok (.aload_n 0, 1) := by decide +kernel
theorem dX12_law_83 : decode cX12_law 83 = .ok (.getfield 229, 3) := by decide +kernel
theorem dX12_law_86 : decode cX12_law 86 = .ok (.iastore, 1) := by decide +kernel
theorem dX12_law_87 : decode cX12_law 87 = .ok (.aload_n 0, 1) := by decide +kernel
theorem dX12_law_88 : decode cX12_law 88 = .ok (.iconst 0, 1) := by decide +kernel
theorem dX12_law_89 : decode cX12_law 89 = .ok (.putfield 229, 3) := by decide +kernel
theorem dX12_law_92 : decode cX12_law 92 = .ok (.aload_n 0, 1) := by decide +kernel
theorem dX12_law_93 : decode cX12_law 93 = .ok (.dup, 1) := by decide +kernel
theorem dX12_law_94 : decode cX12_law 94 = .ok (.getfield 328, 3) := by decide +kernel
theorem dX12_law_97 : decode cX12_law 97 = .ok (.iconst 1, 1) := by decide +kernel
theorem dX12_law_98 : decode cX12_law 98 = .ok (.iadd, 1) := by decide +kernel
theorem dX12_law_99 : decode cX12_law 99 = .ok (.putfield 328, 3) := by decide +kernel
theorem dX12_law_102 : decode cX12_law 102 = .ok (.aload_n 0, 1) := by decide +kernel
theorem dX12_law_103 : decode cX12_law 103 = .ok (.getfield 328, 3) := by decide +kernel
theorem dX12_law_106 : decode cX12_law 106 = .ok (.iconst 1, 1) := by decide +kernel
theorem dX12_law_107 : decode cX12_law 107 = .ok (.isub, 1) := by decide +kernel
theorem dX12_law_108 : decode cX12_law 108 = .ok (.ireturn, 1) := by decide +kernel
theorem dX12_use_0 : decode cX12_use 0 = .ok (.aload_n 0, 1) := by decide +kernel
theorem dX12_use_1 : decode cX12_use 1 = .ok (.iconst 0, 1) := by decide +kernel
theorem dX12_use_2 : decode cX12_use 2 = .ok (.putfield 180, 3) := by decide +kernel
theorem dX12_use_5 : decode cX12_use 5 = .ok (.iload_n 1, 1) := by decide +kernel
theorem dX12_use_6 : decode cX12_use 6 = .ok (.iconst (-1), 1) := by decide +kernel
theorem dX12_use_7 : decode cX12_use 7 = .ok (.if_icmp .eq 19, 3) := by decide +kernel
theorem dX12_use_10 : decode cX12_use 10 = .ok (.iload_n 1, 1) := by decide +kernel
theorem dX12_use_11 : decode cX12_use 11 = .ok (.iconst 0, 1) := by decide +kernel
theorem dX12_use_12 : decode cX12_use 12 = .ok (.aload_n 0, 1) := by decide +kernel
theorem dX12_use_13 : decode cX12_use 13 = .ok (.getfield 328, 3) := by decide +kernel
theorem dX12_use_16 : decode cX12_use 16 = .ok (.iconst 1, 1) := by decide +kernel
theorem dX12_use_17 : decode cX12_use 17 = .ok (.isub, 1) := by decide +kernel
theorem dX12_use_18 : decode cX12_use 18 = .ok (.invokestatic 196, 3) := by decide +kernel
theorem dX12_use_21 : decode cX12_use 21 = .ok (.ifCond .ne 5, 3) := by decide +kernel
theorem dX12_use_24 : decode cX12_use 24 = .ok (.iconst 0, 1) := by decide +kernel
theorem dX12_use_25 : decode cX12_use 25 = .ok (.ireturn, 1) := by decide +kernel
theorem dX12_use_26 : decode cX12_use 26 = .ok (.aload_n 0, 1) := by decide +kernel
theorem dX12_use_27 : decode cX12_use 27 = .ok (.iload_n 1, 1) := by decide +kernel
theorem dX12_use_28 : decode cX12_use 28 = .ok (.putfield 45, 3) := by decide +kernel
theorem dX12_use_31 : decode cX12_use 31 = .ok (.iconst 1, 1) := by decide +kernel
theorem dX12_use_32 : decode cX12_use 32 = .ok (.ireturn, 1) := by decide +kernel
theorem dX12_isMachine_0 : decode cX12_isMachine 0 = .ok (.iload_n 1, 1) := by decide +kernel
theorem dX12_isMachine_1 : decode cX12_isMachine 1 = .ok (.ifCond .lt 15, 3) := by decide +kernel
theorem dX12_isMachine_4 : decode cX12_isMachine 4 = .ok (.iload_n 1, 1) := by decide +kernel
theorem dX12_isMachine_5 : decode cX12_isMachine 5 = .ok (.aload_n 0, 1) := by decide +kernel
theorem dX12_isMachine_6 : decode cX12_isMachine 6 = .ok (.getfield 331, 3) := by decide +kernel
theorem dX12_isMachine_9 : decode cX12_isMachine 9 = .ok (.if_icmp .ge 7, 3) := by decide +kernel
theorem dX12_isMachine_12 : decode cX12_isMachine 12 = .ok (.iconst 1, 1) := by decide +kernel
theorem dX12_isMachine_13 : decode cX12_isMachine 13 = .ok (.goto 4, 3) := by decide +kernel
theorem dX12_isMachine_16 : decode cX12_isMachine 16 = .ok (.iconst 0, 1) := by decide +kernel
theorem dX12_isMachine_17 : decode cX12_isMachine 17 = .ok (.ireturn, 1) := by decide +kernel
theorem dX12_isNumber_0 : decode cX12_isNumber 0 = .ok (.iload_n 0, 1) := by decide +kernel
theorem dX12_isNumber_1 : decode cX12_isNumber 1 = .ok (.iconst 0, 1) := by decide +kernel
theorem dX12_isNumber_2 : decode cX12_isNumber 2 = .ok (.sipush 999, 3) := by decide +kernel
theorem dX12_isNumber_5 : decode cX12_isNumber 5 = .ok (.invokestatic 196, 3) := by decide +kernel
theorem dX12_isNumber_8 : decode cX12_isNumber 8 = .ok (.ireturn, 1) := by decide +kernel
theorem dX12_machine_0 : decode cX12_machine 0 = .ok (.aload_n 0, 1) := by decide +kernel
theorem dX12_machine_1 : decode cX12_machine 1 = .ok (.iconst 0, 1) := by decide +kernel
theorem dX12_machine_2 : decode cX12_machine 2 = .ok (.putfield 180, 3) := by decide +kernel
theorem dX12_machine_5 : decode cX12_machine 5 = .ok (.aload_n 0, 1) := by decide +kernel
theorem dX12_machine_6 : decode cX12_machine 6 = .ok (.getfield 331, 3) := by decide +kernel
theorem dX12_machine_9 : decode cX12_machine 9 = .ok (.bipush 6, 2) := by decide +kernel
theorem dX12_machine_11 : decode cX12_machine 11 = .ok (.if_icmp .eq 40, 3) := by decide +kernel
theorem dX12_machine_14 : decode cX12_machine 14 = .ok (.iload_n 1, 1) := by decide +kernel
theorem dX12_machine_15 : decode cX12_machine 15 = .ok (.invokestatic 334, 3) := by decide +kernel
theorem dX12_machine_18 : decode cX12_machine 18 = .ok (.ifCond .eq 33, 3) := by decide +kernel
theorem dX12_machine_21 : decode cX12_machine 21 = .ok (.iload_n 2, 1) := by decide +kernel
theorem dX12_machine_22 : decode cX12_machine 22 = .ok (.invokestatic 334, 3) := by decide +kernel
theorem dX12_machine_25 : decode cX12_machine 25 = .ok (.ifCond .eq 26, 3) := by decide +kernel
theorem dX12_machine_28 : decode cX12_machine 28 = .ok (.iload_n 3, 1) := by decide +kernel
theorem dX12_machine_29 : decode cX12_machine 29 = .ok (.invokestatic 334, 3) := by decide +kernel
theorem dX12_machine_32 : decode cX12_machine 32 = .ok (.ifCond .eq 19, 3) := by decide +kernel
theorem dX12_machine_35 : decode cX12_machine 35 = .ok (.iload 4, 2) := by decide +kernel
theorem dX12_machine_37 : decode cX12_machine 37 = .ok (.invokestatic 334, 3) := by decide +kernel
theorem dX12_machine_40 : decode cX12_machine 40 = .ok (.ifCond .eq 11, 3) := by decide +kernel
theorem dX12_machine_43 : decode cX12_machine 43 = .ok (.iload 5, 2) := by decide +kernel
theorem dX12_machine_45 : decode cX12_machine 45 = .ok (.invokestatic 334, 3) := by decide +kernel
theorem dX12_machine_48 : decode cX12_machine 48 = .ok (.ifCond .ne 5, 3) := by decide +kernel
theorem dX12_machine_51 : decode cX12_machine 51 = .ok (.iconst (-1), 1) := by decide +kernel
theorem dX12_machine_52 : decode cX12_machine 52 = .ok (.ireturn, 1) := by decide +kernel
theorem dX12_machine_53 : decode cX12_machine 53 = .ok (.aload_n 0, 1) := by decide +kernel
theorem dX12_machine_54 : decode cX12_machine 54 = .ok (.getfield 60, 3) := by decide +kernel
theorem dX12_machine_57 : decode cX12_machine 57 = .ok (.iconst 5, 1) := by decide +kernel
theorem dX12_machine_58 : decode cX12_machine 58 = .ok (.aload_n 0, 1) := by decide +kernel
theorem dX12_machine_59 : decode cX12_machine 59 = .ok (.getfield 331, 3) := by decide +kernel
theorem dX12_machine_62 : decode cX12_machine 62 = .ok (.imul, 1) := by decide +kernel
theorem dX12_machine_63 : decode cX12_machine 63 = .ok (.iload_n 1, 1) := by decide +kernel
theorem dX12_machine_64 : decode cX12_machine 64 = .ok (.iastore, 1) := by decide +kernel
theorem dX12_machine_65 : decode cX12_machine 65 = .ok (.aload_n 0, 1) := by decide +kernel
theorem dX12_machine_66 : decode cX12_machine 66 = .ok (.getfield 60, 3) := by decide +kernel
theorem dX12_machine_69 : decode cX12_machine 69 = .ok (.iconst 5, 1) := by decide +kernel
theorem dX12_machine_70 : decode cX12_machine 70 = .ok (.aload_n 0, 1) := by decide +kernel
theorem dX12_machine_71 : decode cX12_machine 71 = .ok (.getfield 331, 3) := by decide +kernel
theorem dX12_machine_74 : decode cX12_machine 74 = .ok (.imul, 1) := by decide +kernel
theorem dX12_machine_75 : decode cX12_machine 75 = .ok (.iconst 1, 1) := by decide +kernel
theorem dX12_machine_76 : decode cX12_machine 76 = .ok (.iadd, 1) := by decide +kernel
theorem dX12_machine_77 : decode cX12_machine 77 = .ok (.iload_n 2, 1) := by decide +kernel
theorem dX12_machine_78 : decode cX12_machine 78 = .ok (.iastore, 1) := by decide +kernel
theorem dX12_machine_79 : decode cX12_machine 79 = .ok (.aload_n 0, 1) := by decide +kernel
theorem dX12_machine_80 : decode cX12_machine 80 = .ok (.getfield 60, 3) := by decide +kernel
theorem dX12_machine_83 : decode cX12_machine 83 = .ok (.iconst 5, 1) := by decide +kernel
theorem dX12_machine_84 : decode cX12_machine 84 = .ok (.aload_n 0, 1) := by decide +kernel
theorem dX12_machine_85 : decode cX12_machine 85 = .ok (.getfield 331, 3) := by decide +kernel
theorem dX12_machine_88 : decode cX12_machine 88 = .ok (.imul, 1) := by decide +kernel
theorem dX12_machine_89 : decode cX12_machine 89 = .ok (.iconst 2, 1) := by decide +kernel
theorem dX12_machine_90 : decode cX12_machine 90 = .ok (.iadd, 1) := by decide +kernel
theorem dX12_machine_91 : decode cX12_machine 91 = .ok (.iload_n 3, 1) := by decide +kernel
theorem dX12_machine_92 : decode cX12_machine 92 = .ok (.iastore, 1) := by decide +kernel
theorem dX12_machine_93 : decode cX12_machine 93 = .ok (.aload_n 0, 1) := by decide +kernel
theorem dX12_machine_94 : decode cX12_machine 94 = .ok (.getfield 60, 3) := by decide +kernel
theorem dX12_machine_97 : decode cX12_machine 97 = .ok (.iconst 5, 1) := by decide +kernel
theorem dX12_machine_98 : decode cX12_machine 98 = .ok (.aload_n 0, 1) := by decide +kernel
theorem dX12_machine_99 : decode cX12_machine 99 = .ok (.getfield 331, 3) := by decide +kernel
theorem dX12_machine_102 : decode cX12_machine 102 = .ok (.imul, 1) := by decide +kernel
theorem dX12_machine_103 : decode cX12_machine 103 = .ok (.iconst 3, 1) := by decide +kernel
theorem dX12_machine_104 : decode cX12_machine 104 = .ok (.iadd, 1) := by decide +kernel
theorem dX12_machine_105 : decode cX12_machine 105 = .ok (.iload 4, 2) := by decide +kernel
theorem dX12_machine_107 : decode cX12_machine 107 = .ok (.iastore, 1) := by decide +kernel
theorem dX12_machine_108 : decode cX12_machine 108 = .ok (.aload_n 0, 1) := by decide +kernel
theorem dX12_machine_109 : decode cX12_machine 109 = .ok (.getfield 60, 3) := by decide +kernel
theorem dX12_machine_112 : decode cX12_machine 112 = .ok (.iconst 5, 1) := by decide +kernel
theorem dX12_machine_113 : decode cX12_machine 113 = .ok (.aload_n 0, 1) := by decide +kernel
theorem dX12_machine_114 : decode cX12_machine 114 = .ok (.getfield 331, 3) := by decide +kernel
theorem dX12_machine_117 : decode cX12_machine 117 = .ok (.imul, 1) := by decide +kernel
theorem dX12_machine_118 : decode cX12_machine 118 = .ok (.iconst 4, 1) := by decide +kernel
theorem dX12_machine_119 : decode cX12_machine 119 = .ok (.iadd, 1) := by decide +kernel
theorem dX12_machine_120 : decode cX12_machine 120 = .ok (.iload 5, 2) := by decide +kernel
theorem dX12_machine_122 : decode cX12_machine 122 = .ok (.iastore, 1) := by decide +kernel
theorem dX12_machine_123 : decode cX12_machine 123 = .ok (.aload_n 0, 1) := by decide +kernel
theorem dX12_machine_124 : decode cX12_machine 124 = .ok (.dup, 1) := by decide +kernel
theorem dX12_machine_125 : decode cX12_machine 125 = .ok (.getfield 331, 3) := by decide +kernel
theorem dX12_machine_128 : decode cX12_machine 128 = .ok (.iconst 1, 1) := by decide +kernel
theorem dX12_machine_129 : decode cX12_machine 129 = .ok (.iadd, 1) := by decide +kernel
theorem dX12_machine_130 : decode cX12_machine 130 = .ok (.putfield 331, 3) := by decide +kernel
theorem dX12_machine_133 : decode cX12_machine 133 = .ok (.aload_n 0, 1) := by decide +kernel
theorem dX12_machine_134 : decode cX12_machine 134 = .ok (.getfield 331, 3) := by decide +kernel
theorem dX12_machine_137 : decode cX12_machine 137 = .ok (.iconst 1, 1) := by decide +kernel
theorem dX12_machine_138 : decode cX12_machine 138 = .ok (.isub, 1) := by decide +kernel
theorem dX12_machine_139 : decode cX12_machine 139 = .ok (.ireturn, 1) := by decide +kernel
theorem dX12_votersBy_0 : decode cX12_votersBy 0 = .ok (.iload_n 2, 1) := by decide +kernel
theorem dX12_votersBy_1 : decode cX12_votersBy 1 = .ok (.iconst (-1), 1) := by decide +kernel
theorem dX12_votersBy_2 : decode cX12_votersBy 2 = .ok (.if_icmp .ne 12, 3) := by decide +kernel
theorem dX12_votersBy_5 : decode cX12_votersBy 5 = .ok (.aload_n 0, 1) := by decide +kernel
theorem dX12_votersBy_6 : decode cX12_votersBy 6 = .ok (.getfield 60, 3) := by decide +kernel
theorem dX12_votersBy_9 : decode cX12_votersBy 9 = .ok (.iconst 5, 1) := by decide +kernel
theorem dX12_votersBy_10 : decode cX12_votersBy 10 = .ok (.iload_n 1, 1) := by decide +kernel
theorem dX12_votersBy_11 : decode cX12_votersBy 11 = .ok (.imul, 1) := by decide +kernel
theorem dX12_votersBy_12 : decode cX12_votersBy 12 = .ok (.iaload, 1) := by decide +kernel
theorem dX12_votersBy_13 : decode cX12_votersBy 13 = .ok (.ireturn, 1) := by decide +kernel
theorem dX12_votersBy_14 : decode cX12_votersBy 14 = .ok (.iconst 0, 1) := by decide +kernel
theorem dX12_votersBy_15 : decode cX12_votersBy 15 = .ok (.istore_n 3, 1) := by decide +kernel
theorem dX12_votersBy_16 : decode cX12_votersBy 16 = .ok (.iload_n 3, 1) := by decide +kernel
theorem dX12_votersBy_17 : decode cX12_votersBy 17 = .ok (.iconst 5, 1) := by decide +kernel
theorem dX12_votersBy_18 : decode cX12_votersBy 18 = .ok (.if_icmp .ge 30, 3) := by decide +kernel
theorem dX12_votersBy_21 : decode cX12_votersBy 21 = .ok (.aload_n 0, 1) := by decide +kernel
theorem dX12_votersBy_22 : decode cX12_votersBy 22 = .ok (.getfield 39, 3) := by decide +kernel
theorem dX12_votersBy_25 : decode cX12_votersBy 25 = .ok (.ldc 55, 2) := by decide +kernel
theorem dX12_votersBy_27 : decode cX12_votersBy 27 = .ok (.iload_n 3, 1) := by decide +kernel
theorem dX12_votersBy_28 : decode cX12_votersBy 28 = .ok (.invokevirtual 225, 3) := by decide +kernel
theorem dX12_votersBy_31 : decode cX12_votersBy 31 = .ok (.aload_n 0, 1) := by decide +kernel
theorem dX12_votersBy_32 : decode cX12_votersBy 32 = .ok (.getfield 60, 3) := by decide +kernel
theorem dX12_votersBy_35 : decode cX12_votersBy 35 = .ok (.iconst 5, 1) := by decide +kernel
theorem dX12_votersBy_36 : decode cX12_votersBy 36 = .ok (.iload_n 1, 1) := by decide +kernel
theorem dX12_votersBy_37 : decode cX12_votersBy 37 = .ok (.imul, 1) := by decide +kernel
theorem dX12_votersBy_38 : decode cX12_votersBy 38 = .ok (.iload_n 3, 1) := by decide +kernel
theorem dX12_votersBy_39 : decode cX12_votersBy 39 = .ok (.iadd, 1) := by decide +kernel
theorem dX12_votersBy_40 : decode cX12_votersBy 40 = .ok (.iaload, 1) := by decide +kernel
theorem dX12_votersBy_41 : decode cX12_votersBy 41 = .ok (.iastore, 1) := by decide +kernel
theorem dX12_votersBy_42 : decode cX12_votersBy 42 = .ok (.iinc 3 1, 3) := by decide +kernel
theorem dX12_votersBy_45 : decode cX12_votersBy 45 = .ok (.goto (-29), 3) := by decide +kernel
theorem dX12_votersBy_48 : decode cX12_votersBy 48 = .ok (.aload_n 0, 1) := by decide +kernel
theorem dX12_votersBy_49 : decode cX12_votersBy 49 = .ok (.aload_n 0, 1) := by decide +kernel
theorem dX12_votersBy_50 : decode cX12_votersBy 50 = .ok (.getfield 33, 3) := by decide +kernel
theorem dX12_votersBy_53 : decode cX12_votersBy 53 = .ok (.bipush 120, 2) := by decide +kernel
theorem dX12_votersBy_55 : decode cX12_votersBy 55 = .ok (.iload_n 2, 1) := by decide +kernel
theorem dX12_votersBy_56 : decode cX12_votersBy 56 = .ok (.imul, 1) := by decide +kernel
theorem dX12_votersBy_57 : decode cX12_votersBy 57 = .ok (.aload_n 0, 1) := by decide +kernel
theorem dX12_votersBy_58 : decode cX12_votersBy 58 = .ok (.getfield 36, 3) := by decide +kernel
theorem dX12_votersBy_61 : decode cX12_votersBy 61 = .ok (.iload_n 2, 1) := by decide +kernel
theorem dX12_votersBy_62 : decode cX12_votersBy 62 = .ok (.iaload, 1) := by decide +kernel
theorem dX12_votersBy_63 : decode cX12_votersBy 63 = .ok (.invokevirtual 324, 3) := by decide +kernel
theorem dX12_votersBy_66 : decode cX12_votersBy 66 = .ok (.iconst 0, 1) := by decide +kernel
theorem dX12_votersBy_67 : decode cX12_votersBy 67 = .ok (.sipush 999, 3) := by decide +kernel
theorem dX12_votersBy_70 : decode cX12_votersBy 70 = .ok (.aload_n 0, 1) := by decide +kernel
theorem dX12_votersBy_71 : decode cX12_votersBy 71 = .ok (.getfield 318, 3) := by decide +kernel
theorem dX12_votersBy_74 : decode cX12_votersBy 74 = .ok (.invokestatic 168, 3) := by decide +kernel
theorem dX12_votersBy_77 : decode cX12_votersBy 77 = .ok (.invokestatic 174, 3) := by decide +kernel
theorem dX12_votersBy_80 : decode cX12_votersBy 80 = .ok (.ireturn, 1) := by decide +kernel
theorem dX12_voters_0 : decode cX12_voters 0 = .ok (.aload_n 0, 1) := by decide +kernel
theorem dX12_voters_1 : decode cX12_voters 1 = .ok (.iconst 0, 1) := by decide +kernel
theorem dX12_voters_2 : decode cX12_voters 2 = .ok (.putfield 180, 3) := by decide +kernel
theorem dX12_voters_5 : decode cX12_voters 5 = .ok (.aload_n 0, 1) := by decide +kernel
theorem dX12_voters_6 : decode cX12_voters 6 = .ok (.iload_n 1, 1) := by decide +kernel
theorem dX12_voters_7 : decode cX12_voters 7 = .ok (.invokevirtual 337, 3) := by decide +kernel
theorem dX12_voters_10 : decode cX12_voters 10 = .ok (.ifCond .eq 15, 3) := by decide +kernel
theorem dX12_voters_13 : decode cX12_voters 13 = .ok (.aload_n 0, 1) := by decide +kernel
theorem dX12_voters_14 : decode cX12_voters 14 = .ok (.iload_n 1, 1) := by decide +kernel
theorem dX12_voters_15 : decode cX12_voters 15 = .ok (.aload_n 0, 1) := by decide +kernel
theorem dX12_voters_16 : decode cX12_voters 16 = .ok (.getfield 45, 3) := by decide +kernel
theorem dX12_voters_19 : decode cX12_voters 19 = .ok (.invokevirtual 340, 3) := by decide +kernel
theorem dX12_voters_22 : decode cX12_voters 22 = .ok (.goto 4, 3) := by decide +kernel
theorem dX12_voters_25 : decode cX12_voters 25 = .ok (.iconst (-1), 1) := by decide +kernel
theorem dX12_voters_26 : decode cX12_voters 26 = .ok (.ireturn, 1) := by decide +kernel
theorem dX12_agree_0 : decode cX12_agree 0 = .ok (.aload_n 0, 1) := by decide +kernel
theorem dX12_agree_1 : decode cX12_agree 1 = .ok (.iconst 0, 1) := by decide +kernel
theorem dX12_agree_2 : decode cX12_agree 2 = .ok (.putfield 180, 3) := by decide +kernel
theorem dX12_agree_5 : decode cX12_agree 5 = .ok (.aload_n 0, 1) := by decide +kernel
theorem dX12_agree_6 : decode cX12_agree 6 = .ok (.iload_n 1, 1) := by decide +kernel
theorem dX12_agree_7 : decode cX12_agree 7 = .ok (.invokevirtual 337, 3) := by decide +kernel
theorem dX12_agree_10 : decode cX12_agree 10 = .ok (.ifCond .ne 5, 3) := by decide +kernel
theorem dX12_agree_13 : decode cX12_agree 13 = .ok (.iconst (-1), 1) := by decide +kernel
theorem dX12_agree_14 : decode cX12_agree 14 = .ok (.ireturn, 1) := by decide +kernel
theorem dX12_agree_15 : decode cX12_agree 15 = .ok (.iconst 0, 1) := by decide +kernel
theorem dX12_agree_16 : decode cX12_agree 16 = .ok (.istore_n 2, 1) := by decide +kernel
theorem dX12_agree_17 : decode cX12_agree 17 = .ok (.iconst 0, 1) := by decide +kernel
theorem dX12_agree_18 : decode cX12_agree 18 = .ok (.istore_n 3, 1) := by decide +kernel
theorem dX12_agree_19 : decode cX12_agree 19 = .ok (.iload_n 3, 1) := by decide +kernel
theorem dX12_agree_20 : decode cX12_agree 20 = .ok (.aload_n 0, 1) := by decide +kernel
theorem dX12_agree_21 : decode cX12_agree 21 = .ok (.getfield 328, 3) := by decide +kernel
theorem dX12_agree_24 : decode cX12_agree 24 = .ok (.if_icmp .ge 38, 3) := by decide +kernel
theorem dX12_agree_27 : decode cX12_agree 27 = .ok (.iload_n 2, 1) := by decide +kernel
theorem dX12_agree_28 : decode cX12_agree 28 = .ok (.aload_n 0, 1) := by decide +kernel
theorem dX12_agree_29 : decode cX12_agree 29 = .ok (.iload_n 1, 1) := by decide +kernel
theorem dX12_agree_30 : decode cX12_agree 30 = .ok (.iload_n 3, 1) := by decide +kernel
theorem dX12_agree_31 : decode cX12_agree 31 = .ok (.invokevirtual 340, 3) := by decide +kernel
theorem dX12_agree_34 : decode cX12_agree 34 = .ok (.aload_n 0, 1) := by decide +kernel
theorem dX12_agree_35 : decode cX12_agree 35 = .ok (.getfield 60, 3) := by decide +kernel
theorem dX12_agree_38 : decode cX12_agree 38 = .ok (.iconst 5, 1) := by decide +kernel
theorem dX12_agree_39 : decode cX12_agree 39 = .ok (.iload_n 1, 1) := by decide +kernel
theorem dX12_agree_40 : decode cX12_agree 40 = .ok (.imul, 1) := by decide +kernel
theorem dX12_agree_41 : decode cX12_agree 41 = .ok (.iconst 4, 1) := by decide +kernel
theorem dX12_agree_42 : decode cX12_agree 42 = .ok (.iadd, 1) := by decide +kernel
theorem dX12_agree_43 : decode cX12_agree 43 = .ok (.iaload, 1) := by decide +kernel
theorem dX12_agree_44 : decode cX12_agree 44 = .ok (.if_icmp .ne 9, 3) := by decide +kernel
theorem dX12_agree_47 : decode cX12_agree 47 = .ok (.iconst 1, 1) := by decide +kernel
theorem dX12_agree_48 : decode cX12_agree 48 = .ok (.iload_n 3, 1) := by decide +kernel
theorem dX12_agree_49 : decode cX12_agree 49 = .ok (.ishl, 1) := by decide +kernel
theorem dX12_agree_50 : decode cX12_agree 50 = .ok (.goto 4, 3) := by decide +kernel
theorem dX12_agree_53 : decode cX12_agree 53 = .ok (.iconst 0, 1) := by decide +kernel
theorem dX12_agree_54 : decode cX12_agree 54 = .ok (.ior, 1) := by decide +kernel
theorem dX12_agree_55 : decode cX12_agree 55 = .ok (.istore_n 2, 1) := by decide +kernel
theorem dX12_agree_56 : decode cX12_agree 56 = .ok (.iinc 3 1, 3) := by decide +kernel
theorem dX12_agree_59 : decode cX12_agree 59 = .ok (.goto (-40), 3) := by decide +kernel
theorem dX12_agree_62 : decode cX12_agree 62 = .ok (.iload_n 2, 1) := by decide +kernel
theorem dX12_agree_63 : decode cX12_agree 63 = .ok (.ireturn, 1) := by decide +kernel
theorem dX12_isLever_0 : decode cX12_isLever 0 = .ok (.iload_n 1, 1) := by decide +kernel
theorem dX12_isLever_1 : decode cX12_isLever 1 = .ok (.ifCond .lt 15, 3) := by decide +kernel
theorem dX12_isLever_4 : decode cX12_isLever 4 = .ok (.iload_n 1, 1) := by decide +kernel
theorem dX12_isLever_5 : decode cX12_isLever 5 = .ok (.aload_n 0, 1) := by decide +kernel
theorem dX12_isLever_6 : decode cX12_isLever 6 = .ok (.getfield 177, 3) := by decide +kernel
theorem dX12_isLever_9 : decode cX12_isLever 9 = .ok (.if_icmp .ge 7, 3) := by decide +kernel
theorem dX12_isLever_12 : decode cX12_isLever 12 = .ok (.iconst 1, 1) := by decide +kernel
theorem dX12_isLever_13 : decode cX12_isLever 13 = .ok (.goto 4, 3) := by decide +kernel
theorem dX12_isLever_16 : decode cX12_isLever 16 = .ok (.iconst 0, 1) := by decide +kernel
theorem dX12_isLever_17 : decode cX12_isLever 17 = .ok (.ireturn, 1) := by decide +kernel
theorem dX12_show_0 : decode cX12_show 0 = .ok (.aload_n 0, 1) := by decide +kernel
theorem dX12_show_1 : decode cX12_show 1 = .ok (.iconst 0, 1) := by decide +kernel
theorem dX12_show_2 : decode cX12_show 2 = .ok (.putfield 180, 3) := by decide +kernel
theorem dX12_show_5 : decode cX12_show 5 = .ok (.aload_n 0, 1) := by decide +kernel
theorem dX12_show_6 : decode cX12_show 6 = .ok (.iload_n 1, 1) := by decide +kernel
theorem dX12_show_7 : decode cX12_show 7 = .ok (.invokevirtual 337, 3) := by decide +kernel
theorem dX12_show_10 : decode cX12_show 10 = .ok (.ifCond .eq 18, 3) := by decide +kernel
theorem dX12_show_13 : decode cX12_show 13 = .ok (.aload_n 0, 1) := by decide +kernel
theorem dX12_show_14 : decode cX12_show 14 = .ok (.iload_n 2, 1) := by decide +kernel
theorem dX12_show_15 : decode cX12_show 15 = .ok (.invokevirtual 343, 3) := by decide +kernel
theorem dX12_show_18 : decode cX12_show 18 = .ok (.ifCond .eq 10, 3) := by decide +kernel
theorem dX12_show_21 : decode cX12_show 21 = .ok (.iload_n 3, 1) := by decide +kernel
theorem dX12_show_22 : decode cX12_show 22 = .ok (.invokestatic 334, 3) := by decide +kernel
theorem dX12_show_25 : decode cX12_show 25 = .ok (.ifCond .ne 5, 3) := by decide +kernel
theorem dX12_show_28 : decode cX12_show 28 = .ok (.iconst 0, 1) := by decide +kernel
theorem dX12_show_29 : decode cX12_show 29 = .ok (.ireturn, 1) := by decide +kernel
theorem dX12_show_30 : decode cX12_show 30 = .ok (.aload_n 0, 1) := by decide +kernel
theorem dX12_show_31 : decode cX12_show 31 = .ok (.getfield 63, 3) := by decide +kernel
theorem dX12_show_34 : decode cX12_show 34 = .ok (.bipush 16, 2) := by decide +kernel
theorem dX12_show_36 : decode cX12_show 36 = .ok (.iload_n 1, 1) := by decide +kernel
theorem dX12_show_37 : decode cX12_show 37 = .ok (.imul, 1) := by decide +kernel
theorem dX12_show_38 : decode cX12_show 38 = .ok (.iload_n 2, 1) := by decide +kernel
theorem dX12_show_39 : decode cX12_show 39 = .ok (.iadd, 1) := by decide +kernel
theorem dX12_show_40 : decode cX12_show 40 = .ok (.iload_n 3, 1) := by decide +kernel
theorem dX12_show_41 : decode cX12_show 41 = .ok (.iastore, 1) := by decide +kernel
theorem dX12_show_42 : decode cX12_show 42 = .ok (.iconst 1, 1) := by decide +kernel
theorem dX12_show_43 : decode cX12_show 43 = .ok (.ireturn, 1) := by decide +kernel
theorem dX12_trouble_0 : decode cX12_trouble 0 = .ok (.aload_n 0, 1) := by decide +kernel
theorem dX12_trouble_1 : decode cX12_trouble 1 = .ok (.iconst 0, 1) := by decide +kernel
theorem dX12_trouble_2 : decode cX12_trouble 2 = .ok (.putfield 180, 3) := by decide +kernel
theorem dX12_trouble_5 : decode cX12_trouble 5 = .ok (.aload_n 0, 1) := by decide +kernel
theorem dX12_trouble_6 : decode cX12_trouble 6 = .ok (.iload_n 1, 1) := by decide +kernel
theorem dX12_trouble_7 : decode cX12_trouble 7 = .ok (.invokevirtual 337, 3) := by decide +kernel
theorem dX12_trouble_10 : decode cX12_trouble 10 = .ok (.ifCond .eq 23, 3) := by decide +kernel
theorem dX12_trouble_13 : decode cX12_trouble 13 = .ok (.aload_n 0, 1) := by decide +kernel
theorem dX12_trouble_14 : decode cX12_trouble 14 = .ok (.getfield 72, 3) := by decide +kernel
theorem dX12_trouble_17 : decode cX12_trouble 17 = .ok (.iload_n 1, 1) := by decide +kernel
theorem dX12_trouble_18 : decode cX12_trouble 18 = .ok (.iaload, 1) := by decide +kernel
theorem dX12_trouble_19 : decode cX12_trouble 19 = .ok (.bipush 8, 2) := by decide +kernel
theorem dX12_trouble_21 : decode cX12_trouble 21 = .ok (.if_icmp .eq 12, 3) := by decide +kernel
theorem dX12_trouble_24 : decode cX12_trouble 24 = .ok (.iload_n 2, 1) := by decide +kernel
theorem dX12_trouble_25 : decode cX12_trouble 25 = .ok (.iconst 0, 1) := by decide +kernel
theorem dX12_trouble_26 : decode cX12_trouble 26 = .ok (.iconst 4, 1) := by decide +kernel
theorem dX12_trouble_27 : decode cX12_trouble 27 = .ok (.invokestatic 196, 3) := by decide +kernel
theorem dX12_trouble_30 : decode cX12_trouble 30 = .ok (.ifCond .ne 5, 3) := by decide +kernel
theorem dX12_trouble_33 : decode cX12_trouble 33 = .ok (.iconst (-1), 1) := by decide +kernel
theorem dX12_trouble_34 : decode cX12_trouble 34 = .ok (.ireturn, 1) := by decide +kernel
theorem dX12_trouble_35 : decode cX12_trouble 35 = .ok (.iload_n 2, 1) := by decide +kernel
theorem dX12_trouble_36 : decode cX12_trouble 36 = .ok (.iconst 4, 1) := by decide +kernel
theorem dX12_trouble_37 : decode cX12_trouble 37 = .ok (.if_icmp .ne 17, 3) := by decide +kernel
theorem dX12_trouble_40 : decode cX12_trouble 40 = .ok (.iload_n 3, 1) := by decide +kernel
theorem dX12_trouble_41 : decode cX12_trouble 41 = .ok (.iconst 0, 1) := by decide +kernel
theorem dX12_trouble_42 : decode cX12_trouble 42 = .ok (.aload_n 0, 1) := by decide +kernel
theorem dX12_trouble_43 : decode cX12_trouble 43 = .ok (.getfield 189, 3) := by decide +kernel
theorem dX12_trouble_46 : decode cX12_trouble 46 = .ok (.iconst 1, 1) := by decide +kernel
theorem dX12_trouble_47 : decode cX12_trouble 47 = .ok (.isub, 1) := by decide +kernel
theorem dX12_trouble_48 : decode cX12_trouble 48 = .ok (.invokestatic 196, 3) := by decide +kernel
theorem dX12_trouble_51 : decode cX12_trouble 51 = .ok (.goto 73, 3) := by decide +kernel
theorem dX12_trouble_54 : decode cX12_trouble 54 = .ok (.aload_n 0, 1) := by decide +kernel
theorem dX12_trouble_55 : decode cX12_trouble 55 = .ok (.iload_n 3, 1) := by decide +kernel
theorem dX12_trouble_56 : decode cX12_trouble 56 = .ok (.invokevirtual 343, 3) := by decide +kernel
theorem dX12_trouble_59 : decode cX12_trouble 59 = .ok (.ifCond .eq 64, 3) := by decide +kernel
theorem dX12_trouble_62 : decode cX12_trouble 62 = .ok (.iload_n 2, 1) := by decide +kernel
theorem dX12_trouble_63 : decode cX12_trouble 63 = .ok (.ifCond .ne 16, 3) := by decide +kernel
theorem dX12_trouble_66 : decode cX12_trouble 66 = .ok (.iload 4, 2) := by decide +kernel
theorem dX12_trouble_68 : decode cX12_trouble 68 = .ok (.iconst 0, 1) := by decide +kernel
theorem dX12_trouble_69 : decode cX12_trouble 69 = .ok (.iconst 1, 1) := by decide +kernel
theorem dX12_trouble_70 : decode cX12_trouble 70 = .ok (.invokestatic 196, 3) := by decide +kernel
theorem dX12_trouble_73 : decode cX12_trouble 73 = .ok (.ifCond .eq 50, 3) := by decide +kernel
theorem dX12_trouble_76 : decode cX12_trouble 76 = .ok (.goto 43, 3) := by decide +kernel
theorem dX12_trouble_79 : decode cX12_trouble 79 = .ok (.iload_n 2, 1) := by decide +kernel
theorem dX12_trouble_80 : decode cX12_trouble 80 = .ok (.iconst 1, 1) := by decide +kernel
theorem dX12_trouble_81 : decode cX12_trouble 81 = .ok (.if_icmp .ne 21, 3) := by decide +kernel
theorem dX12_trouble_84 : decode cX12_trouble 84 = .ok (.aload_n 0, 1) := by decide +kernel
theorem dX12_trouble_85 : decode cX12_trouble 85 = .ok (.iload 4, 2) := by decide +kernel
theorem dX12_trouble_87 : decode cX12_trouble 87 = .ok (.invokevirtual 343, 3) := by decide +kernel
theorem dX12_trouble_90 : decode cX12_trouble 90 = .ok (.ifCond .eq 33, 3) := by decide +kernel
theorem dX12_trouble_93 : decode cX12_trouble 93 = .ok (.iload_n 3, 1) := by decide +kernel
theorem dX12_trouble_94 : decode cX12_trouble 94 = .ok (.iload 4, 2) := by decide +kernel
theorem dX12_trouble_96 : decode cX12_trouble 96 = .ok (.if_icmp .eq 27, 3) := by decide +kernel
theorem dX12_trouble_99 : decode cX12_trouble 99 = .ok (.goto 20, 3) := by decide +kernel
theorem dX12_trouble_102 : decode cX12_trouble 102 = .ok (.iload_n 2, 1) := by decide +kernel
theorem dX12_trouble_103 : decode cX12_trouble 103 = .ok (.iconst 2, 1) := by decide +kernel
theorem dX12_trouble_104 : decode cX12_trouble 104 = .ok (.if_icmp .eq 15, 3) := by decide +kernel
theorem dX12_trouble_107 : decode cX12_trouble 107 = .ok (.iload 4, 2) := by decide +kernel
theorem dX12_trouble_109 : decode cX12_trouble 109 = .ok (.iconst 1, 1) := by decide +kernel
theorem dX12_trouble_110 : decode cX12_trouble 110 = .ok (.sipush 999, 3) := by decide +kernel
theorem dX12_trouble_113 : decode cX12_trouble 113 = .ok (.invokestatic 196, 3) := by decide +kernel
theorem dX12_trouble_116 : decode cX12_trouble 116 = .ok (.ifCond .eq 7, 3) := by decide +kernel
theorem dX12_trouble_119 : decode cX12_trouble 119 = .ok (.iconst 1, 1) := by decide +kernel
theorem dX12_trouble_120 : decode cX12_trouble 120 = .ok (.goto 4, 3) := by decide +kernel
theorem dX12_trouble_123 : decode cX12_trouble 123 = .ok (.iconst 0, 1) := by decide +kernel
theorem dX12_trouble_124 : decode cX12_trouble 124 = .ok (.istore 5, 2) := by decide +kernel
theorem dX12_trouble_126 : decode cX12_trouble 126 = .ok (.iload 5, 2) := by decide +kernel
theorem dX12_trouble_128 : decode cX12_trouble 128 = .ok (.ifCond .ne 5, 3) := by decide +kernel
theorem dX12_trouble_131 : decode cX12_trouble 131 = .ok (.iconst (-1), 1) := by decide +kernel
theorem dX12_trouble_132 : decode cX12_trouble 132 = .ok (.ireturn, 1) := by decide +kernel
theorem dX12_trouble_133 : decode cX12_trouble 133 = .ok (.bipush 8, 2) := by decide +kernel
theorem dX12_trouble_135 : decode cX12_trouble 135 = .ok (.iload_n 1, 1) := by decide +kernel
theorem dX12_trouble_136 : decode cX12_trouble 136 = .ok (.imul, 1) := by decide +kernel
theorem dX12_trouble_137 : decode cX12_trouble 137 = .ok (.aload_n 0, 1) := by decide +kernel
theorem dX12_trouble_138 : decode cX12_trouble 138 = .ok (.getfield 72, 3) := by decide +kernel
theorem dX12_trouble_141 : decode cX12_trouble 141 = .ok (.iload_n 1, 1) := by decide +kernel
theorem dX12_trouble_142 : decode cX12_trouble 142 = .ok (.iaload, 1) := by decide +kernel
theorem dX12_trouble_143 : decode cX12_trouble 143 = .ok (.iadd, 1) := by decide +kernel
theorem dX12_trouble_144 : decode cX12_trouble 144 = .ok (.istore 6, 2) := by decide +kernel
theorem dX12_trouble_146 : decode cX12_trouble 146 = .ok (.aload_n 0, 1) := by decide +kernel
theorem dX12_trouble_147 : decode cX12_trouble 147 = .ok (.getfield 75, 3) := by decide +kernel
theorem dX12_trouble_150 : decode cX12_trouble 150 = .ok (.iload 6, 2) := by decide +kernel
theorem dX12_trouble_152 : decode cX12_trouble 152 = .ok (.iload_n 2, 1) := by decide +kernel
theorem dX12_trouble_153 : decode cX12_trouble 153 = .ok (.iastore, 1) := by decide +kernel
theorem dX12_trouble_154 : decode cX12_trouble 154 = .ok (.aload_n 0, 1) := by decide +kernel
theorem dX12_trouble_155 : decode cX12_trouble 155 = .ok (.getfield 78, 3) := by decide +kernel
theorem dX12_trouble_158 : decode cX12_trouble 158 = .ok (.iload 6, 2) := by decide +kernel
theorem dX12_trouble_160 : decode cX12_trouble 160 = .ok (.iload_n 3, 1) := by decide +kernel
theorem dX12_trouble_161 : decode cX12_trouble 161 = .ok (.iastore, 1) := by decide +kernel
theorem dX12_trouble_162 : decode cX12_trouble 162 = .ok (.aload_n 0, 1) := by decide +kernel
theorem dX12_trouble_163 : decode cX12_trouble 163 = .ok (.getfield 81, 3) := by decide +kernel
theorem dX12_trouble_166 : decode cX12_trouble 166 = .ok (.iload 6, 2) := by decide +kernel
theorem dX12_trouble_168 : decode cX12_trouble 168 = .ok (.iload 4, 2) := by decide +kernel
theorem dX12_trouble_170 : decode cX12_trouble 170 = .ok (.iastore, 1) := by decide +kernel
theorem dX12_trouble_171 : decode cX12_trouble 171 = .ok (.aload_n 0, 1) := by decide +kernel
theorem dX12_trouble_172 : decode cX12_trouble 172 = .ok (.getfield 72, 3) := by decide +kernel
theorem dX12_trouble_175 : decode cX12_trouble 175 = .ok (.iload_n 1, 1) := by decide +kernel
theorem dX12_trouble_176 : decode cX12_trouble 176 = .ok (.dup2, 1) := by decide +kernel
theorem dX12_trouble_177 : decode cX12_trouble 177 = .ok (.iaload, 1) := by decide +kernel
theorem dX12_trouble_178 : decode cX12_trouble 178 = .ok (.iconst 1, 1) := by decide +kernel
theorem dX12_trouble_179 : decode cX12_trouble 179 = .ok (.iadd, 1) := by decide +kernel
theorem dX12_trouble_180 : decode cX12_trouble 180 = .ok (.iastore, 1) := by decide +kernel
theorem dX12_trouble_181 : decode cX12_trouble 181 = .ok (.aload_n 0, 1) := by decide +kernel
theorem dX12_trouble_182 : decode cX12_trouble 182 = .ok (.getfield 72, 3) := by decide +kernel
theorem dX12_trouble_185 : decode cX12_trouble 185 = .ok (.iload_n 1, 1) := by decide +kernel
theorem dX12_trouble_186 : decode cX12_trouble 186 = .ok (.iaload, 1) := by decide +kernel
theorem dX12_trouble_187 : decode cX12_trouble 187 = .ok (.iconst 1, 1) := by decide +kernel
theorem dX12_trouble_188 : decode cX12_trouble 188 = .ok (.isub, 1) := by decide +kernel
theorem dX12_trouble_189 : decode cX12_trouble 189 = .ok (.ireturn, 1) := by decide +kernel
theorem dX12_lay_0 : decode cX12_lay 0 = .ok (.aload_n 0, 1) := by decide +kernel
theorem dX12_lay_1 : decode cX12_lay 1 = .ok (.iload_n 1, 1) := by decide +kernel
theorem dX12_lay_2 : decode cX12_lay 2 = .ok (.putfield 346, 3) := by decide +kernel
theorem dX12_lay_5 : decode cX12_lay 5 = .ok (.aload_n 0, 1) := by decide +kernel
theorem dX12_lay_6 : decode cX12_lay 6 = .ok (.iconst 0, 1) := by decide +kernel
theorem dX12_lay_7 : decode cX12_lay 7 = .ok (.putfield 349, 3) := by decide +kernel
theorem dX12_lay_10 : decode cX12_lay 10 = .ok (.iconst 0, 1) := by decide +kernel
theorem dX12_lay_11 : decode cX12_lay 11 = .ok (.istore_n 3, 1) := by decide +kernel
theorem dX12_lay_12 : decode cX12_lay 12 = .ok (.iload_n 3, 1) := by decide +kernel
theorem dX12_lay_13 : decode cX12_lay 13 = .ok (.bipush 16, 2) := by decide +kernel
theorem dX12_lay_15 : decode cX12_lay 15 = .ok (.if_icmp .ge 39, 3) := by decide +kernel
theorem dX12_lay_18 : decode cX12_lay 18 = .ok (.aload_n 0, 1) := by decide +kernel
theorem dX12_lay_19 : decode cX12_lay 19 = .ok (.getfield 84, 3) := by decide +kernel
theorem dX12_lay_22 : decode cX12_lay 22 = .ok (.iload_n 3, 1) := by decide +kernel
theorem dX12_lay_23 : decode cX12_lay 23 = .ok (.iload_n 3, 1) := by decide +kernel
theorem dX12_lay_24 : decode cX12_lay 24 = .ok (.iastore, 1) := by decide +kernel
theorem dX12_lay_25 : decode cX12_lay 25 = .ok (.aload_n 0, 1) := by decide +kernel
theorem dX12_lay_26 : decode cX12_lay 26 = .ok (.getfield 87, 3) := by decide +kernel
theorem dX12_lay_29 : decode cX12_lay 29 = .ok (.iload_n 3, 1) := by decide +kernel
theorem dX12_lay_30 : decode cX12_lay 30 = .ok (.iconst 0, 1) := by decide +kernel
theorem dX12_lay_31 : decode cX12_lay 31 = .ok (.iastore, 1) := by decide +kernel
theorem dX12_lay_32 : decode cX12_lay 32 = .ok (.aload_n 0, 1) := by decide +kernel
theorem dX12_lay_33 : decode cX12_lay 33 = .ok (.getfield 90, 3) := by decide +kernel
theorem dX12_lay_36 : decode cX12_lay 36 = .ok (.iload_n 3, 1) := by decide +kernel
theorem dX12_lay_37 : decode cX12_lay 37 = .ok (.sipush 1000, 3) := by decide +kernel
theorem dX12_lay_40 : decode cX12_lay 40 = .ok (.iastore, 1) := by decide +kernel
theorem dX12_lay_41 : decode cX12_lay 41 = .ok (.aload_n 0, 1) := by decide +kernel
theorem dX12_lay_42 : decode cX12_lay 42 = .ok (.getfield 96, 3) := by decide +kernel
theorem dX12_lay_45 : decode cX12_lay 45 = .ok (.iload_n 3, 1) := by decide +kernel
theorem dX12_lay_46 : decode cX12_lay 46 = .ok (.iconst 0, 1) := by decide +kernel
theorem dX12_lay_47 : decode cX12_lay 47 = .ok (.bastore, 1) := by decide +kernel
theorem dX12_lay_48 : decode cX12_lay 48 = .ok (.iinc 3 1, 3) := by decide +kernel
theorem dX12_lay_51 : decode cX12_lay 51 = .ok (.goto (-39), 3) := by decide +kernel
theorem dX12_lay_54 : decode cX12_lay 54 = .ok (.iconst 0, 1) := by decide +kernel
theorem dX12_lay_55 : decode cX12_lay 55 = .ok (.istore_n 3, 1) := by decide +kernel
theorem dX12_lay_56 : decode cX12_lay 56 = .ok (.iload_n 3, 1) := by decide +kernel
theorem dX12_lay_57 : decode cX12_lay 57 = .ok (.aload_n 0, 1) := by decide +kernel
theorem dX12_lay_58 : decode cX12_lay 58 = .ok (.getfield 72, 3) := by decide +kernel
theorem dX12_lay_61 : decode cX12_lay 61 = .ok (.iload_n 1, 1) := by decide +kernel
theorem dX12_lay_62 : decode cX12_lay 62 = .ok (.iaload, 1) := by decide +kernel
theorem dX12_lay_63 : decode cX12_lay 63 = .ok (.if_icmp .ge 190, 3) := by decide +kernel
theorem dX12_lay_66 : decode cX12_lay 66 = .ok (.iload_n 2, 1) := by decide +kernel
theorem dX12_lay_67 : decode cX12_lay 67 = .ok (.iload_n 3, 1) := by decide +kernel
theorem dX12_lay_68 : decode cX12_lay 68 = .ok (.invokestatic 200, 3) := by decide +kernel
theorem dX12_lay_71 : decode cX12_lay 71 = .ok (.ifCond .ne 6, 3) := by decide +kernel
theorem dX12_lay_74 : decode cX12_lay 74 = .ok (.goto 173, 3) := by decide +kernel
theorem dX12_lay_77 : decode cX12_lay 77 = .ok (.aload_n 0, 1) := by decide +kernel
theorem dX12_lay_78 : decode cX12_lay 78 = .ok (.getfield 78, 3) := by decide +kernel
theorem dX12_lay_81 : decode cX12_lay 81 = .ok (.bipush 8, 2) := by decide +kernel
theorem dX12_lay_83 : decode cX12_lay 83 = .ok (.iload_n 1, 1) := by decide +kernel
theorem dX12_lay_84 : decode cX12_lay 84 = .ok (.imul, 1) := by decide +kernel
theorem dX12_lay_85 : decode cX12_lay 85 = .ok (.iload_n 3, 1) := by decide +kernel
theorem dX12_lay_86 : decode cX12_lay 86 = .ok (.iadd, 1) := by decide +kernel
theorem dX12_lay_87 : decode cX12_lay 87 = .ok (.iaload, 1) := by decide +kernel
theorem dX12_lay_88 : decode cX12_lay 88 = .ok (.istore 4, 2) := by decide +kernel
theorem dX12_lay_90 : decode cX12_lay 90 = .ok (.aload_n 0, 1) := by decide +kernel
theorem dX12_lay_91 : decode cX12_lay 91 = .ok (.getfield 81, 3) := by decide +kernel
theorem dX12_lay_94 : decode cX12_lay 94 = .ok (.bipush 8, 2) := by decide +kernel
theorem dX12_lay_96 : decode cX12_lay 96 = .ok (.iload_n 1, 1) := by decide +kernel
theorem dX12_lay_97 : decode cX12_lay 97 = .ok (.imul, 1) := by decide +kernel
theorem dX12_lay_98 : decode cX12_lay 98 = .ok (.iload_n 3, 1) := by decide +kernel
theorem dX12_lay_99 : decode cX12_lay 99 = .ok (.iadd, 1) := by decide +kernel
theorem dX12_lay_100 : decode cX12_lay 100 = .ok (.iaload, 1) := by decide +kernel
theorem dX12_lay_101 : decode cX12_lay 101 = .ok (.istore 5, 2) := by decide +kernel
theorem dX12_lay_103 : decode cX12_lay 103 = .ok (.aload_n 0, 1) := by decide +kernel
theorem dX12_lay_104 : decode cX12_lay 104 = .ok (.getfield 75, 3) := by decide +kernel
theorem dX12_lay_107 : decode cX12_lay 107 = .ok (.bipush 8, 2) := by decide +kernel
theorem dX12_lay_109 : decode cX12_lay 109 = .ok (.iload_n 1, 1) := by decide +kernel
theorem dX12_lay_110 : decode cX12_lay 110 = .ok (.imul, 1) := by decide +kernel
theorem dX12_lay_111 : decode cX12_lay 111 = .ok (.iload_n 3, 1) := by decide +kernel
theorem dX12_lay_112 : decode cX12_lay 112 = .ok (.iadd, 1) := by decide +kernel
theorem dX12_lay_113 : decode cX12_lay 113 = .ok (.iaload, 1) := by decide +kernel
theorem dX12_lay_114 : decode cX12_lay 114 = .ok (.tableswitch 120 0 3 #[30, 62, 97, 108], 30) := by decide +kernel
theorem dX12_lay_144 : decode cX12_lay 144 = .ok (.aload_n 0, 1) := by decide +kernel
theorem dX12_lay_145 : decode cX12_lay 145 = .ok (.getfield 90, 3) := by decide +kernel
theorem dX12_lay_148 : decode cX12_lay 148 = .ok (.iload 4, 2) := by decide +kernel
theorem dX12_lay_150 : decode cX12_lay 150 = .ok (.aload_n 0, 1) := by decide +kernel
theorem dX12_lay_151 : decode cX12_lay 151 = .ok (.getfield 90, 3) := by decide +kernel
theorem dX12_lay_154 : decode cX12_lay 154 = .ok (.iload 4, 2) := by decide +kernel
theorem dX12_lay_156 : decode cX12_lay 156 = .ok (.iaload, 1) := by decide +kernel
theorem dX12_lay_157 : decode cX12_lay 157 = .ok (.iload 5, 2) := by decide +kernel
theorem dX12_lay_159 : decode cX12_lay 159 = .ok (.ifCond .ne 8, 3) := by decide +kernel
theorem dX12_lay_162 : decode cX12_lay 162 = .ok (.bipush 10, 2) := by decide +kernel
theorem dX12_lay_164 : decode cX12_lay 164 = .ok (.goto 5, 3) := by decide +kernel
theorem dX12_lay_167 : decode cX12_lay 167 = .ok (.bipush 100, 2) := by decide +kernel
theorem dX12_lay_169 : decode cX12_lay 169 = .ok (.invokestatic 168, 3) := by decide +kernel
theorem dX12_lay_172 : decode cX12_lay 172 = .ok (.iastore, 1) := by decide +kernel
theorem dX12_lay_173 : decode cX12_lay 173 = .ok (.goto 74, 3) := by decide +kernel
theorem dX12_lay_176 : decode cX12_lay 176 = .ok (.aload_n 0, 1) := by decide +kernel
theorem dX12_lay_177 : decode cX12_lay 177 = .ok (.getfield 84, 3) := by decide +kernel
theorem dX12_lay_180 : decode cX12_lay 180 = .ok (.iload 4, 2) := by decide +kernel
theorem dX12_lay_182 : decode cX12_lay 182 = .ok (.iaload, 1) := by decide +kernel
theorem dX12_lay_183 : decode cX12_lay 183 = .ok (.istore 6, 2) := by decide +kernel
theorem dX12_lay_185 : decode cX12_lay 185 = .ok (.aload_n 0, 1) := by decide +kernel
theorem dX12_lay_186 : decode cX12_lay 186 = .ok (.getfield 84, 3) := by decide +kernel
theorem dX12_lay_189 : decode cX12_lay 189 = .ok (.iload 4, 2) := by decide +kernel
theorem dX12_lay_191 : decode cX12_lay 191 = .ok (.aload_n 0, 1) := by decide +kernel
theorem dX12_lay_192 : decode cX12_lay 192 = .ok (.getfield 84, 3) := by decide +kernel
theorem dX12_lay_195 : decode cX12_lay 195 = .ok (.iload 5, 2) := by decide +kernel
theorem dX12_lay_197 : decode cX12_lay 197 = .ok (.iaload, 1) := by decide +kernel
theorem dX12_lay_198 : decode cX12_lay 198 = .ok (.iastore, 1) := by decide +kernel
theorem dX12_lay_199 : decode cX12_lay 199 = .ok (.aload_n 0, 1) := by decide +kernel
theorem dX12_lay_200 : decode cX12_lay 200 = .ok (.getfield 84, 3) := by decide +kernel
theorem dX12_lay_203 : decode cX12_lay 203 = .ok (.iload 5, 2) := by decide +kernel
theorem dX12_lay_205 : decode cX12_lay 205 = .ok (.iload 6, 2) := by decide +kernel
theorem dX12_lay_207 : decode cX12_lay 207 = .ok (.iastore, 1) := by decide +kernel
theorem dX12_lay_208 : decode cX12_lay 208 = .ok (.goto 39, 3) := by decide +kernel
theorem dX12_lay_211 : decode cX12_lay 211 = .ok (.aload_n 0, 1) := by decide +kernel
theorem dX12_lay_212 : decode cX12_lay 212 = .ok (.getfield 96, 3) := by decide +kernel
theorem dX12_lay_215 : decode cX12_lay 215 = .ok (.iload 4, 2) := by decide +kernel
theorem dX12_lay_217 : decode cX12_lay 217 = .ok (.iconst 1, 1) := by decide +kernel
theorem dX12_lay_218 : decode cX12_lay 218 = .ok (.bastore, 1) := by decide +kernel
theorem dX12_lay_219 : decode cX12_lay 219 = .ok (.goto 28, 3) := by decide +kernel
theorem dX12_lay_222 : decode cX12_lay 222 = .ok (.aload_n 0, 1) := by decide +kernel
theorem dX12_lay_223 : decode cX12_lay 223 = .ok (.getfield 87, 3) := by decide +kernel
theorem dX12_lay_226 : decode cX12_lay 226 = .ok (.iload 4, 2) := by decide +kernel
theorem dX12_lay_228 : decode cX12_lay 228 = .ok (.iload 5, 2) := by decide +kernel
theorem dX12_lay_230 : decode cX12_lay 230 = .ok (.iastore, 1) := by decide +kernel
theorem dX12_lay_231 : decode cX12_lay 231 = .ok (.goto 16, 3) := by decide +kernel
theorem dX12_lay_234 : decode cX12_lay 234 = .ok (.aload_n 0, 1) := by decide +kernel
theorem dX12_lay_235 : decode cX12_lay 235 = .ok (.dup, 1) := by decide +kernel
theorem dX12_lay_236 : decode cX12_lay 236 = .ok (.getfield 349, 3) := by decide +kernel
theorem dX12_lay_239 : decode cX12_lay 239 = .ok (.iconst 1, 1) := by decide +kernel
theorem dX12_lay_240 : decode cX12_lay 240 = .ok (.iload 4, 2) := by decide +kernel
theorem dX12_lay_242 : decode cX12_lay 242 = .ok (.ishl, 1) := by decide +kernel
theorem dX12_lay_243 : decode cX12_lay 243 = .ok (.ior, 1) := by decide +kernel
theorem dX12_lay_244 : decode cX12_lay 244 = .ok (.putfield 349, 3) := by decide +kernel
theorem dX12_lay_247 : decode cX12_lay 247 = .ok (.iinc 3 1, 3) := by decide +kernel
theorem dX12_lay_250 : decode cX12_lay 250 = .ok (.goto (-194), 3) := by decide +kernel
theorem dX12_lay_253 : decode cX12_lay 253 = .ok (.return_, 1) := by decide +kernel
theorem dX12_shown_0 : decode cX12_shown 0 = .ok (.aload_n 0, 1) := by decide +kernel
theorem dX12_shown_1 : decode cX12_shown 1 = .ok (.getfield 87, 3) := by decide +kernel
theorem dX12_shown_4 : decode cX12_shown 4 = .ok (.iload_n 1, 1) := by decide +kernel
theorem dX12_shown_5 : decode cX12_shown 5 = .ok (.iaload, 1) := by decide +kernel
theorem dX12_shown_6 : decode cX12_shown 6 = .ok (.aload_n 0, 1) := by decide +kernel
theorem dX12_shown_7 : decode cX12_shown 7 = .ok (.getfield 96, 3) := by decide +kernel
theorem dX12_shown_10 : decode cX12_shown 10 = .ok (.iload_n 1, 1) := by decide +kernel
theorem dX12_shown_11 : decode cX12_shown 11 = .ok (.baload, 1) := by decide +kernel
theorem dX12_shown_12 : decode cX12_shown 12 = .ok (.ifCond .eq 7, 3) := by decide +kernel
theorem dX12_shown_15 : decode cX12_shown 15 = .ok (.iconst 0, 1) := by decide +kernel
theorem dX12_shown_16 : decode cX12_shown 16 = .ok (.goto 4, 3) := by decide +kernel
theorem dX12_shown_19 : decode cX12_shown 19 = .ok (.iload_n 2, 1) := by decide +kernel
theorem dX12_shown_20 : decode cX12_shown 20 = .ok (.iadd, 1) := by decide +kernel
theorem dX12_shown_21 : decode cX12_shown 21 = .ok (.sipush 1000, 3) := by decide +kernel
theorem dX12_shown_24 : decode cX12_shown 24 = .ok (.irem, 1) := by decide +kernel
theorem dX12_shown_25 : decode cX12_shown 25 = .ok (.aload_n 0, 1) := by decide +kernel
theorem dX12_shown_26 : decode cX12_shown 26 = .ok (.getfield 90, 3) := by decide +kernel
theorem dX12_shown_29 : decode cX12_shown 29 = .ok (.iload_n 1, 1) := by decide +kernel
theorem dX12_shown_30 : decode cX12_shown 30 = .ok (.iaload, 1) := by decide +kernel
theorem dX12_shown_31 : decode cX12_shown 31 = .ok (.irem, 1) := by decide +kernel
theorem dX12_shown_32 : decode cX12_shown 32 = .ok (.ireturn, 1) := by decide +kernel
theorem dX12_isTold_0 : decode cX12_isTold 0 = .ok (.aload_n 0, 1) := by decide +kernel
theorem dX12_isTold_1 : decode cX12_isTold 1 = .ok (.getfield 84, 3) := by decide +kernel
theorem dX12_isTold_4 : decode cX12_isTold 4 = .ok (.iload_n 1, 1) := by decide +kernel
theorem dX12_isTold_5 : decode cX12_isTold 5 = .ok (.iaload, 1) := by decide +kernel
theorem dX12_isTold_6 : decode cX12_isTold 6 = .ok (.istore_n 3, 1) := by decide +kernel
theorem dX12_isTold_7 : decode cX12_isTold 7 = .ok (.aload_n 0, 1) := by decide +kernel
theorem dX12_isTold_8 : decode cX12_isTold 8 = .ok (.iload_n 3, 1) := by decide +kernel
theorem dX12_isTold_9 : decode cX12_isTold 9 = .ok (.iload_n 2, 1) := by decide +kernel
theorem dX12_isTold_10 : decode cX12_isTold 10 = .ok (.invokevirtual 352, 3) := by decide +kernel
theorem dX12_isTold_13 : decode cX12_isTold 13 = .ok (.aload_n 0, 1) := by decide +kernel
theorem dX12_isTold_14 : decode cX12_isTold 14 = .ok (.getfield 63, 3) := by decide +kernel
theorem dX12_isTold_17 : decode cX12_isTold 17 = .ok (.bipush 16, 2) := by decide +kernel
theorem dX12_isTold_19 : decode cX12_isTold 19 = .ok (.aload_n 0, 1) := by decide +kernel
theorem dX12_isTold_20 : decode cX12_isTold 20 = .ok (.getfield 346, 3) := by decide +kernel
theorem dX12_isTold_23 : decode cX12_isTold 23 = .ok (.imul, 1) := by decide +kernel
theorem dX12_isTold_24 : decode cX12_isTold 24 = .ok (.iload_n 3, 1) := by decide +kernel
theorem dX12_isTold_25 : decode cX12_isTold 25 = .ok (.iadd, 1) := by decide +kernel
theorem dX12_isTold_26 : decode cX12_isTold 26 = .ok (.iaload, 1) := by decide +kernel
theorem dX12_isTold_27 : decode cX12_isTold 27 = .ok (.if_icmp .ne 7, 3) := by decide +kernel
theorem dX12_isTold_30 : decode cX12_isTold 30 = .ok (.iconst 1, 1) := by decide +kernel
theorem dX12_isTold_31 : decode cX12_isTold 31 = .ok (.goto 4, 3) := by decide +kernel
theorem dX12_isTold_34 : decode cX12_isTold 34 = .ok (.iconst 0, 1) := by decide +kernel
theorem dX12_isTold_35 : decode cX12_isTold 35 = .ok (.ireturn, 1) := by decide +kernel
theorem dX12_greatest_0 : decode cX12_greatest 0 = .ok (.iload_n 2, 1) := by decide +kernel
theorem dX12_greatest_1 : decode cX12_greatest 1 = .ok (.aload_n 0, 1) := by decide +kernel
theorem dX12_greatest_2 : decode cX12_greatest 2 = .ok (.getfield 355, 3) := by decide +kernel
theorem dX12_greatest_5 : decode cX12_greatest 5 = .ok (.invokestatic 168, 3) := by decide +kernel
theorem dX12_greatest_8 : decode cX12_greatest 8 = .ok (.istore_n 3, 1) := by decide +kernel
theorem dX12_greatest_9 : decode cX12_greatest 9 = .ok (.iload_n 3, 1) := by decide +kernel
theorem dX12_greatest_10 : decode cX12_greatest 10 = .ok (.ifCond .lt 18, 3) := by decide +kernel
theorem dX12_greatest_13 : decode cX12_greatest 13 = .ok (.aload_n 0, 1) := by decide +kernel
theorem dX12_greatest_14 : decode cX12_greatest 14 = .ok (.iload_n 1, 1) := by decide +kernel
theorem dX12_greatest_15 : decode cX12_greatest 15 = .ok (.iload_n 3, 1) := by decide +kernel
theorem dX12_greatest_16 : decode cX12_greatest 16 = .ok (.invokevirtual 358, 3) := by decide +kernel
theorem dX12_greatest_19 : decode cX12_greatest 19 = .ok (.ifCond .ne 9, 3) := by decide +kernel
theorem dX12_greatest_22 : decode cX12_greatest 22 = .ok (.iinc 3 (-1), 3) := by decide +kernel
theorem dX12_greatest_25 : decode cX12_greatest 25 = .ok (.goto (-16), 3) := by decide +kernel
theorem dX12_greatest_28 : decode cX12_greatest 28 = .ok (.iload_n 3, 1) := by decide +kernel
theorem dX12_greatest_29 : decode cX12_greatest 29 = .ok (.ireturn, 1) := by decide +kernel
theorem dX12_sumOfLeast_0 : decode cX12_sumOfLeast 0 = .ok (.iconst 0, 1) := by decide +kernel
theorem dX12_sumOfLeast_1 : decode cX12_sumOfLeast 1 = .ok (.istore_n 2, 1) := by decide +kernel
theorem dX12_sumOfLeast_2 : decode cX12_sumOfLeast 2 = .ok (.iconst 0, 1) := by decide +kernel
theorem dX12_sumOfLeast_3 : decode cX12_sumOfLeast 3 = .ok (.istore_n 3, 1) := by decide +kernel
theorem dX12_sumOfLeast_4 : decode cX12_sumOfLeast 4 = .ok (.iload_n 3, 1) := by decide +kernel
theorem dX12_sumOfLeast_5 : decode cX12_sumOfLeast 5 = .ok (.aload_n 0, 1) := by decide +kernel
theorem dX12_sumOfLeast_6 : decode cX12_sumOfLeast 6 = .ok (.getfield 177, 3) := by decide +kernel
theorem dX12_sumOfLeast_9 : decode cX12_sumOfLeast 9 = .ok (.if_icmp .ge 32, 3) := by decide +kernel
theorem dX12_sumOfLeast_12 : decode cX12_sumOfLeast 12 = .ok (.iload_n 2, 1) := by decide +kernel
theorem dX12_sumOfLeast_13 : decode cX12_sumOfLeast 13 = .ok (.aload_n 0, 1) := by decide +kernel
theorem dX12_sumOfLeast_14 : decode cX12_sumOfLeast 14 = .ok (.getfield 16, 3) := by decide +kernel
theorem dX12_sumOfLeast_17 : decode cX12_sumOfLeast 17 = .ok (.iload_n 3, 1) := by decide +kernel
theorem dX12_sumOfLeast_18 : decode cX12_sumOfLeast 18 = .ok (.iaload, 1) := by decide +kernel
theorem dX12_sumOfLeast_19 : decode cX12_sumOfLeast 19 = .ok (.iload_n 1, 1) := by decide +kernel
theorem dX12_sumOfLeast_20 : decode cX12_sumOfLeast 20 = .ok (.if_icmp .ne 12, 3) := by decide +kernel
theorem dX12_sumOfLeast_23 : decode cX12_sumOfLeast 23 = .ok (.aload_n 0, 1) := by decide +kernel
theorem dX12_sumOfLeast_24 : decode cX12_sumOfLeast 24 = .ok (.getfield 93, 3) := by decide +kernel
theorem dX12_sumOfLeast_27 : decode cX12_sumOfLeast 27 = .ok (.iload_n 3, 1) := by decide +kernel
theorem dX12_sumOfLeast_28 : decode cX12_sumOfLeast 28 = .ok (.iaload, 1) := by decide +kernel
theorem dX12_sumOfLeast_29 : decode cX12_sumOfLeast 29 = .ok (.goto 4, 3) := by decide +kernel
theorem dX12_sumOfLeast_32 : decode cX12_sumOfLeast 32 = .ok (.iconst 0, 1) := by decide +kernel
theorem dX12_sumOfLeast_33 : decode cX12_sumOfLeast 33 = .ok (.iadd, 1) := by decide +kernel
theorem dX12_sumOfLeast_34 : decode cX12_sumOfLeast 34 = .ok (.istore_n 2, 1) := by decide +kernel
theorem dX12_sumOfLeast_35 : decode cX12_sumOfLeast 35 = .ok (.iinc 3 1, 3) := by decide +kernel
theorem dX12_sumOfLeast_38 : decode cX12_sumOfLeast 38 = .ok (.goto (-34), 3) := by decide +kernel
theorem dX12_sumOfLeast_41 : decode cX12_sumOfLeast 41 = .ok (.iload_n 2, 1) := by decide +kernel
theorem dX12_sumOfLeast_42 : decode cX12_sumOfLeast 42 = .ok (.ireturn, 1) := by decide +kernel
theorem dX12_boundOf_0 : decode cX12_boundOf 0 = .ok (.aload_n 0, 1) := by decide +kernel
theorem dX12_boundOf_1 : decode cX12_boundOf 1 = .ok (.getfield 349, 3) := by decide +kernel
theorem dX12_boundOf_4 : decode cX12_boundOf 4 = .ok (.iload_n 1, 1) := by decide +kernel
theorem dX12_boundOf_5 : decode cX12_boundOf 5 = .ok (.invokestatic 200, 3) := by decide +kernel
theorem dX12_boundOf_8 : decode cX12_boundOf 8 = .ok (.ifCond .eq 9, 3) := by decide +kernel
theorem dX12_boundOf_11 : decode cX12_boundOf 11 = .ok (.ldc_w 361, 3) := by decide +kernel
theorem dX12_boundOf_14 : decode cX12_boundOf 14 = .ok (.goto 14, 3) := by decide +kernel
theorem dX12_boundOf_17 : decode cX12_boundOf 17 = .ok (.aload_n 0, 1) := by decide +kernel
theorem dX12_boundOf_18 : decode cX12_boundOf 18 = .ok (.getfield 13, 3) := by decide +kernel
theorem dX12_boundOf_21 : decode cX12_boundOf 21 = .ok (.iload_n 1, 1) := by decide +kernel
theorem dX12_boundOf_22 : decode cX12_boundOf 22 = .ok (.iaload, 1) := by decide +kernel
theorem dX12_boundOf_23 : decode cX12_boundOf 23 = .ok (.aload_n 0, 1) := by decide +kernel
theorem dX12_boundOf_24 : decode cX12_boundOf 24 = .ok (.getfield 355, 3) := by decide +kernel
theorem dX12_boundOf_27 : decode cX12_boundOf 27 = .ok (.imul, 1) := by decide +kernel
theorem dX12_boundOf_28 : decode cX12_boundOf 28 = .ok (.ireturn, 1) := by decide +kernel
theorem dX12_fits_0 : decode cX12_fits 0 = .ok (.aload_n 0, 1) := by decide +kernel
theorem dX12_fits_1 : decode cX12_fits 1 = .ok (.iload_n 1, 1) := by decide +kernel
theorem dX12_fits_2 : decode cX12_fits 2 = .ok (.iload_n 2, 1) := by decide +kernel
theorem dX12_fits_3 : decode cX12_fits 3 = .ok (.invokevirtual 362, 3) := by decide +kernel
theorem dX12_fits_6 : decode cX12_fits 6 = .ok (.aload_n 0, 1) := by decide +kernel
theorem dX12_fits_7 : decode cX12_fits 7 = .ok (.aload_n 0, 1) := by decide +kernel
theorem dX12_fits_8 : decode cX12_fits 8 = .ok (.iload_n 1, 1) := by decide +kernel
theorem dX12_fits_9 : decode cX12_fits 9 = .ok (.aload_n 0, 1) := by decide +kernel
theorem dX12_fits_10 : decode cX12_fits 10 = .ok (.getfield 45, 3) := by decide +kernel
theorem dX12_fits_13 : decode cX12_fits 13 = .ok (.invokevirtual 340, 3) := by decide +kernel
theorem dX12_fits_16 : decode cX12_fits 16 = .ok (.putfield 355, 3) := by decide +kernel
theorem dX12_fits_19 : decode cX12_fits 19 = .ok (.iconst 0, 1) := by decide +kernel
theorem dX12_fits_20 : decode cX12_fits 20 = .ok (.istore_n 3, 1) := by decide +kernel
theorem dX12_fits_21 : decode cX12_fits 21 = .ok (.iload_n 3, 1) := by decide +kernel
theorem dX12_fits_22 : decode cX12_fits 22 = .ok (.aload_n 0, 1) := by decide +kernel
theorem dX12_fits_23 : decode cX12_fits 23 = .ok (.getfield 177, 3) := by decide +kernel
theorem dX12_fits_26 : decode cX12_fits 26 = .ok (.if_icmp .ge 84, 3) := by decide +kernel
theorem dX12_fits_29 : decode cX12_fits 29 = .ok (.aload_n 0, 1) := by decide +kernel
theorem dX12_fits_30 : decode cX12_fits 30 = .ok (.getfield 16, 3) := by decide +kernel
theorem dX12_fits_33 : decode cX12_fits 33 = .ok (.iload_n 3, 1) := by decide +kernel
theorem dX12_fits_34 : decode cX12_fits 34 = .ok (.iaload, 1) := by decide +kernel
theorem dX12_fits_35 : decode cX12_fits 35 = .ok (.iconst (-1), 1) := by decide +kernel
theorem dX12_fits_36 : decode cX12_fits 36 = .ok (.if_icmp .ne 6, 3) := by decide +kernel
theorem dX12_fits_39 : decode cX12_fits 39 = .ok (.goto 65, 3) := by decide +kernel
theorem dX12_fits_42 : decode cX12_fits 42 = .ok (.aload_n 0, 1) := by decide +kernel
theorem dX12_fits_43 : decode cX12_fits 43 = .ok (.getfield 93, 3) := by decide +kernel
theorem dX12_fits_46 : decode cX12_fits 46 = .ok (.iload_n 3, 1) := by decide +kernel
theorem dX12_fits_47 : decode cX12_fits 47 = .ok (.iconst 0, 1) := by decide +kernel
theorem dX12_fits_48 : decode cX12_fits 48 = .ok (.iastore, 1) := by decide +kernel
theorem dX12_fits_49 : decode cX12_fits 49 = .ok (.aload_n 0, 1) := by decide +kernel
theorem dX12_fits_50 : decode cX12_fits 50 = .ok (.getfield 93, 3) := by decide +kernel
theorem dX12_fits_53 : decode cX12_fits 53 = .ok (.iload_n 3, 1) := by decide +kernel
theorem dX12_fits_54 : decode cX12_fits 54 = .ok (.iaload, 1) := by decide +kernel
theorem dX12_fits_55 : decode cX12_fits 55 = .ok (.aload_n 0, 1) := by decide +kernel
theorem dX12_fits_56 : decode cX12_fits 56 = .ok (.getfield 355, 3) := by decide +kernel
theorem dX12_fits_59 : decode cX12_fits 59 = .ok (.if_icmp .gt 30, 3) := by decide +kernel
theorem dX12_fits_62 : decode cX12_fits 62 = .ok (.aload_n 0, 1) := by decide +kernel
theorem dX12_fits_63 : decode cX12_fits 63 = .ok (.iload_n 3, 1) := by decide +kernel
theorem dX12_fits_64 : decode cX12_fits 64 = .ok (.aload_n 0, 1) := by decide +kernel
theorem dX12_fits_65 : decode cX12_fits 65 = .ok (.getfield 93, 3) := by decide +kernel
theorem dX12_fits_68 : decode cX12_fits 68 = .ok (.iload_n 3, 1) := by decide +kernel
theorem dX12_fits_69 : decode cX12_fits 69 = .ok (.iaload, 1) := by decide +kernel
theorem dX12_fits_70 : decode cX12_fits 70 = .ok (.invokevirtual 358, 3) := by decide +kernel
theorem dX12_fits_73 : decode cX12_fits 73 = .ok (.ifCond .ne 16, 3) := by decide +kernel
theorem dX12_fits_76 : decode cX12_fits 76 = .ok (.aload_n 0, 1) := by decide +kernel
theorem dX12_fits_77 : decode cX12_fits 77 = .ok (.getfield 93, 3) := by decide +kernel
theorem dX12_fits_80 : decode cX12_fits 80 = .ok (.iload_n 3, 1) := by decide +kernel
theorem dX12_fits_81 : decode cX12_fits 81 = .ok (.dup2, 1) := by decide +kernel
theorem dX12_fits_82 : decode cX12_fits 82 = .ok (.iaload, 1) := by decide +kernel
theorem dX12_fits_83 : decode cX12_fits 83 = .ok (.iconst 1, 1) := by decide +kernel
theorem dX12_fits_84 : decode cX12_fits 84 = .ok (.iadd, 1) := by decide +kernel
theorem dX12_fits_85 : decode cX12_fits 85 = .ok (.iastore, 1) := by decide +kernel
theorem dX12_fits_86 : decode cX12_fits 86 = .ok (.goto (-37), 3) := by decide +kernel
theorem dX12_fits_89 : decode cX12_fits 89 = .ok (.aload_n 0, 1) := by decide +kernel
theorem dX12_fits_90 : decode cX12_fits 90 = .ok (.getfield 93, 3) := by decide +kernel
theorem dX12_fits_93 : decode cX12_fits 93 = .ok (.iload_n 3, 1) := by decide +kernel
theorem dX12_fits_94 : decode cX12_fits 94 = .ok (.iaload, 1) := by decide +kernel
theorem dX12_fits_95 : decode cX12_fits 95 = .ok (.aload_n 0, 1) := by decide +kernel
theorem dX12_fits_96 : decode cX12_fits 96 = .ok (.getfield 355, 3) := by decide +kernel
theorem dX12_fits_99 : decode cX12_fits 99 = .ok (.if_icmp .le 5, 3) := by decide +kernel
theorem dX12_fits_102 : decode cX12_fits 102 = .ok (.iconst 0, 1) := by decide +kernel
theorem dX12_fits_103 : decode cX12_fits 103 = .ok (.ireturn, 1) := by decide +kernel
theorem dX12_fits_104 : decode cX12_fits 104 = .ok (.iinc 3 1, 3) := by decide +kernel
theorem dX12_fits_107 : decode cX12_fits 107 = .ok (.goto (-86), 3) := by decide +kernel
theorem dX12_fits_110 : decode cX12_fits 110 = .ok (.iconst 0, 1) := by decide +kernel
theorem dX12_fits_111 : decode cX12_fits 111 = .ok (.istore_n 3, 1) := by decide +kernel
theorem dX12_fits_112 : decode cX12_fits 112 = .ok (.iload_n 3, 1) := by decide +kernel
theorem dX12_fits_113 : decode cX12_fits 113 = .ok (.aload_n 0, 1) := by decide +kernel
theorem dX12_fits_114 : decode cX12_fits 114 = .ok (.getfield 189, 3) := by decide +kernel
theorem dX12_fits_117 : decode cX12_fits 117 = .ok (.if_icmp .ge 24, 3) := by decide +kernel
theorem dX12_fits_120 : decode cX12_fits 120 = .ok (.aload_n 0, 1) := by decide +kernel
theorem dX12_fits_121 : decode cX12_fits 121 = .ok (.iload_n 3, 1) := by decide +kernel
theorem dX12_fits_122 : decode cX12_fits 122 = .ok (.invokevirtual 366, 3) := by decide +kernel
theorem dX12_fits_125 : decode cX12_fits 125 = .ok (.aload_n 0, 1) := by decide +kernel
theorem dX12_fits_126 : decode cX12_fits 126 = .ok (.iload_n 3, 1) := by decide +kernel
theorem dX12_fits_127 : decode cX12_fits 127 = .ok (.invokevirtual 369, 3) := by decide +kernel
theorem dX12_fits_130 : decode cX12_fits 130 = .ok (.if_icmp .le 5, 3) := by decide +kernel
theorem dX12_fits_133 : decode cX12_fits 133 = .ok (.iconst 0, 1) := by decide +kernel
theorem dX12_fits_134 : decode cX12_fits 134 = .ok (.ireturn, 1) := by decide +kernel
theorem dX12_fits_135 : decode cX12_fits 135 = .ok (.iinc 3 1, 3) := by decide +kernel
theorem dX12_fits_138 : decode cX12_fits 138 = .ok (.goto (-26), 3) := by decide +kernel
theorem dX12_fits_141 : decode cX12_fits 141 = .ok (.iconst 1, 1) := by decide +kernel
theorem dX12_fits_142 : decode cX12_fits 142 = .ok (.ireturn, 1) := by decide +kernel
theorem dX12_fitting_0 : decode cX12_fitting 0 = .ok (.aload_n 0, 1) := by decide +kernel
theorem dX12_fitting_1 : decode cX12_fitting 1 = .ok (.iconst 0, 1) := by decide +kernel
theorem dX12_fitting_2 : decode cX12_fitting 2 = .ok (.putfield 180, 3) := by decide +kernel
theorem dX12_fitting_5 : decode cX12_fitting 5 = .ok (.aload_n 0, 1) := by decide +kernel
theorem dX12_fitting_6 : decode cX12_fitting 6 = .ok (.iload_n 1, 1) := by decide +kernel
theorem dX12_fitting_7 : decode cX12_fitting 7 = .ok (.invokevirtual 337, 3) := by decide +kernel
theorem dX12_fitting_10 : decode cX12_fitting 10 = .ok (.ifCond .ne 5, 3) := by decide +kernel
theorem dX12_fitting_13 : decode cX12_fitting 13 = .ok (.iconst (-1), 1) := by decide +kernel
theorem dX12_fitting_14 : decode cX12_fitting 14 = .ok (.ireturn, 1) := by decide +kernel
theorem dX12_fitting_15 : decode cX12_fitting 15 = .ok (.iconst 0, 1) := by decide +kernel
theorem dX12_fitting_16 : decode cX12_fitting 16 = .ok (.istore_n 3, 1) := by decide +kernel
theorem dX12_fitting_17 : decode cX12_fitting 17 = .ok (.iconst 0, 1) := by decide +kernel
theorem dX12_fitting_18 : decode cX12_fitting 18 = .ok (.istore 4, 2) := by decide +kernel
theorem dX12_fitting_20 : decode cX12_fitting 20 = .ok (.iload 4, 2) := by decide +kernel
theorem dX12_fitting_22 : decode cX12_fitting 22 = .ok (.iconst 1, 1) := by decide +kernel
theorem dX12_fitting_23 : decode cX12_fitting 23 = .ok (.aload_n 0, 1) := by decide +kernel
theorem dX12_fitting_24 : decode cX12_fitting 24 = .ok (.getfield 72, 3) := by decide +kernel
theorem dX12_fitting_27 : decode cX12_fitting 27 = .ok (.iload_n 1, 1) := by decide +kernel
theorem dX12_fitting_28 : decode cX12_fitting 28 = .ok (.iaload, 1) := by decide +kernel
theorem dX12_fitting_29 : decode cX12_fitting 29 = .ok (.ishl, 1) := by decide +kernel
theorem dX12_fitting_30 : decode cX12_fitting 30 = .ok (.if_icmp .ge 33, 3) := by decide +kernel
theorem dX12_fitting_33 : decode cX12_fitting 33 = .ok (.aload_n 0, 1) := by decide +kernel
theorem dX12_fitting_34 : decode cX12_fitting 34 = .ok (.iload_n 1, 1) := by decide +kernel
theorem dX12_fitting_35 : decode cX12_fitting 35 = .ok (.iload 4, 2) := by decide +kernel
theorem dX12_fitting_37 : decode cX12_fitting 37 = .ok (.invokevirtual 372, 3) := by decide +kernel
theorem dX12_fitting_40 : decode cX12_fitting 40 = .ok (.ifCond .ne 6, 3) := by decide +kernel
theorem dX12_fitting_43 : decode cX12_fitting 43 = .ok (.goto 14, 3) := by decide +kernel
theorem dX12_fitting_46 : decode cX12_fitting 46 = .ok (.iload_n 3, 1) := by decide +kernel
theorem dX12_fitting_47 : decode cX12_fitting 47 = .ok (.iload_n 2, 1) := by decide +kernel
theorem dX12_fitting_48 : decode cX12_fitting 48 = .ok (.if_icmp .ne 6, 3) := by decide +kernel
theorem dX12_fitting_51 : decode cX12_fitting 51 = .ok (.iload 4, 2) := by decide +kernel
theorem dX12_fitting_53 : decode cX12_fitting 53 = .ok (.ireturn, 1) := by decide +kernel
theorem dX12_fitting_54 : decode cX12_fitting 54 = .ok (.iinc 3 1, 3) := by decide +kernel
theorem dX12_fitting_57 : decode cX12_fitting 57 = .ok (.iinc 4 1, 3) := by decide +kernel
theorem dX12_fitting_60 : decode cX12_fitting 60 = .ok (.goto (-40), 3) := by decide +kernel
theorem dX12_fitting_63 : decode cX12_fitting 63 = .ok (.iload_n 2, 1) := by decide +kernel
theorem dX12_fitting_64 : decode cX12_fitting 64 = .ok (.iconst (-1), 1) := by decide +kernel
theorem dX12_fitting_65 : decode cX12_fitting 65 = .ok (.if_icmp .ne 7, 3) := by decide +kernel
theorem dX12_fitting_68 : decode cX12_fitting 68 = .ok (.iload_n 3, 1) := by decide +kernel
theorem dX12_fitting_69 : decode cX12_fitting 69 = .ok (.goto 4, 3) := by decide +kernel
theorem dX12_fitting_72 : decode cX12_fitting 72 = .ok (.iconst (-1), 1) := by decide +kernel
theorem dX12_fitting_73 : decode cX12_fitting 73 = .ok (.ireturn, 1) := by decide +kernel
theorem dX12_fewestOf_0 : decode cX12_fewestOf 0 = .ok (.iconst (-1), 1) := by decide +kernel
theorem dX12_fewestOf_1 : decode cX12_fewestOf 1 = .ok (.istore_n 2, 1) := by decide +kernel
theorem dX12_fewestOf_2 : decode cX12_fewestOf 2 = .ok (.iconst 0, 1) := by decide +kernel
theorem dX12_fewestOf_3 : decode cX12_fewestOf 3 = .ok (.istore_n 3, 1) := by decide +kernel
theorem dX12_fewestOf_4 : decode cX12_fewestOf 4 = .ok (.iload_n 3, 1) := by decide +kernel
theorem dX12_fewestOf_5 : decode cX12_fewestOf 5 = .ok (.iconst 1, 1) := by decide +kernel
theorem dX12_fewestOf_6 : decode cX12_fewestOf 6 = .ok (.aload_n 0, 1) := by decide +kernel
theorem dX12_fewestOf_7 : decode cX12_fewestOf 7 = .ok (.getfield 72, 3) := by decide +kernel
theorem dX12_fewestOf_10 : decode cX12_fewestOf 10 = .ok (.iload_n 1, 1) := by decide +kernel
theorem dX12_fewestOf_11 : decode cX12_fewestOf 11 = .ok (.iaload, 1) := by decide +kernel
theorem dX12_fewestOf_12 : decode cX12_fewestOf 12 = .ok (.ishl, 1) := by decide +kernel
theorem dX12_fewestOf_13 : decode cX12_fewestOf 13 = .ok (.if_icmp .ge 33, 3) := by decide +kernel
theorem dX12_fewestOf_16 : decode cX12_fewestOf 16 = .ok (.iload_n 2, 1) := by decide +kernel
theorem dX12_fewestOf_17 : decode cX12_fewestOf 17 = .ok (.iconst (-1), 1) := by decide +kernel
theorem dX12_fewestOf_18 : decode cX12_fewestOf 18 = .ok (.if_icmp .eq 11, 3) := by decide +kernel
theorem dX12_fewestOf_21 : decode cX12_fewestOf 21 = .ok (.iload_n 3, 1) := by decide +kernel
theorem dX12_fewestOf_22 : decode cX12_fewestOf 22 = .ok (.iload_n 2, 1) := by decide +kernel
theorem dX12_fewestOf_23 : decode cX12_fewestOf 23 = .ok (.invokestatic 213, 3) := by decide +kernel
theorem dX12_fewestOf_26 : decode cX12_fewestOf 26 = .ok (.ifCond .eq 14, 3) := by decide +kernel
theorem dX12_fewestOf_29 : decode cX12_fewestOf 29 = .ok (.aload_n 0, 1) := by decide +kernel
theorem dX12_fewestOf_30 : decode cX12_fewestOf 30 = .ok (.iload_n 1, 1) := by decide +kernel
theorem dX12_fewestOf_31 : decode cX12_fewestOf 31 = .ok (.iload_n 3, 1) := by decide +kernel
theorem dX12_fewestOf_32 : decode cX12_fewestOf 32 = .ok (.invokevirtual 372, 3) := by decide +kernel
theorem dX12_fewestOf_35 : decode cX12_fewestOf 35 = .ok (.ifCond .eq 5, 3) := by decide +kernel
theorem dX12_fewestOf_38 : decode cX12_fewestOf 38 = .ok (.iload_n 3, 1) := by decide +kernel
theorem dX12_fewestOf_39 : decode cX12_fewestOf 39 = .ok (.istore_n 2, 1) := by decide +kernel
theorem dX12_fewestOf_40 : decode cX12_fewestOf 40 = .ok (.iinc 3 1, 3) := by decide +kernel
theorem dX12_fewestOf_43 : decode cX12_fewestOf 43 = .ok (.goto (-39), 3) := by decide +kernel
theorem dX12_fewestOf_46 : decode cX12_fewestOf 46 = .ok (.iload_n 2, 1) := by decide +kernel
theorem dX12_fewestOf_47 : decode cX12_fewestOf 47 = .ok (.ireturn, 1) := by decide +kernel
theorem dX12_sets_0 : decode cX12_sets 0 = .ok (.aload_n 0, 1) := by decide +kernel
theorem dX12_sets_1 : decode cX12_sets 1 = .ok (.iconst 0, 1) := by decide +kernel
theorem dX12_sets_2 : decode cX12_sets 2 = .ok (.putfield 180, 3) := by decide +kernel
theorem dX12_sets_5 : decode cX12_sets 5 = .ok (.aload_n 0, 1) := by decide +kernel
theorem dX12_sets_6 : decode cX12_sets 6 = .ok (.iload_n 1, 1) := by decide +kernel
theorem dX12_sets_7 : decode cX12_sets 7 = .ok (.invokevirtual 337, 3) := by decide +kernel
theorem dX12_sets_10 : decode cX12_sets 10 = .ok (.ifCond .eq 12, 3) := by decide +kernel
theorem dX12_sets_13 : decode cX12_sets 13 = .ok (.iload_n 2, 1) := by decide +kernel
theorem dX12_sets_14 : decode cX12_sets 14 = .ok (.iconst 0, 1) := by decide +kernel
theorem dX12_sets_15 : decode cX12_sets 15 = .ok (.iconst 2, 1) := by decide +kernel
theorem dX12_sets_16 : decode cX12_sets 16 = .ok (.invokestatic 196, 3) := by decide +kernel
theorem dX12_sets_19 : decode cX12_sets 19 = .ok (.ifCond .ne 5, 3) := by decide +kernel
theorem dX12_sets_22 : decode cX12_sets 22 = .ok (.iconst (-1), 1) := by decide +kernel
theorem dX12_sets_23 : decode cX12_sets 23 = .ok (.ireturn, 1) := by decide +kernel
theorem dX12_sets_24 : decode cX12_sets 24 = .ok (.iload_n 2, 1) := by decide +kernel
theorem dX12_sets_25 : decode cX12_sets 25 = .ok (.ifCond .ne 9, 3) := by decide +kernel
theorem dX12_sets_28 : decode cX12_sets 28 = .ok (.aload_n 0, 1) := by decide +kernel
theorem dX12_sets_29 : decode cX12_sets 29 = .ok (.iload_n 1, 1) := by decide +kernel
theorem dX12_sets_30 : decode cX12_sets 30 = .ok (.invokevirtual 375, 3) := by decide +kernel
theorem dX12_sets_33 : decode cX12_sets 33 = .ok (.ireturn, 1) := by decide +kernel
theorem dX12_sets_34 : decode cX12_sets 34 = .ok (.iconst 1, 1) := by decide +kernel
theorem dX12_sets_35 : decode cX12_sets 35 = .ok (.aload_n 0, 1) := by decide +kernel
theorem dX12_sets_36 : decode cX12_sets 36 = .ok (.getfield 72, 3) := by decide +kernel
theorem dX12_sets_39 : decode cX12_sets 39 = .ok (.iload_n 1, 1) := by decide +kernel
theorem dX12_sets_40 : decode cX12_sets 40 = .ok (.iaload, 1) := by decide +kernel
theorem dX12_sets_41 : decode cX12_sets 41 = .ok (.ishl, 1) := by decide +kernel
theorem dX12_sets_42 : decode cX12_sets 42 = .ok (.iconst 1, 1) := by decide +kernel
theorem dX12_sets_43 : decode cX12_sets 43 = .ok (.isub, 1) := by decide +kernel
theorem dX12_sets_44 : decode cX12_sets 44 = .ok (.istore_n 3, 1) := by decide +kernel
theorem dX12_sets_45 : decode cX12_sets 45 = .ok (.iconst 0, 1) := by decide +kernel
theorem dX12_sets_46 : decode cX12_sets 46 = .ok (.istore 4, 2) := by decide +kernel
theorem dX12_sets_48 : decode cX12_sets 48 = .ok (.iconst 0, 1) := by decide +kernel
theorem dX12_sets_49 : decode cX12_sets 49 = .ok (.istore 5, 2) := by decide +kernel
theorem dX12_sets_51 : decode cX12_sets 51 = .ok (.iconst 0, 1) := by decide +kernel
theorem dX12_sets_52 : decode cX12_sets 52 = .ok (.istore 6, 2) := by decide +kernel
theorem dX12_sets_54 : decode cX12_sets 54 = .ok (.iload 6, 2) := by decide +kernel
theorem dX12_sets_56 : decode cX12_sets 56 = .ok (.iconst 1, 1) := by decide +kernel
theorem dX12_sets_57 : decode cX12_sets 57 = .ok (.aload_n 0, 1) := by decide +kernel
theorem dX12_sets_58 : decode cX12_sets 58 = .ok (.getfield 72, 3) := by decide +kernel
theorem dX12_sets_61 : decode cX12_sets 61 = .ok (.iload_n 1, 1) := by decide +kernel
theorem dX12_sets_62 : decode cX12_sets 62 = .ok (.iaload, 1) := by decide +kernel
theorem dX12_sets_63 : decode cX12_sets 63 = .ok (.ishl, 1) := by decide +kernel
theorem dX12_sets_64 : decode cX12_sets 64 = .ok (.if_icmp .ge 37, 3) := by decide +kernel
theorem dX12_sets_67 : decode cX12_sets 67 = .ok (.aload_n 0, 1) := by decide +kernel
theorem dX12_sets_68 : decode cX12_sets 68 = .ok (.iload_n 1, 1) := by decide +kernel
theorem dX12_sets_69 : decode cX12_sets 69 = .ok (.iload 6, 2) := by decide +kernel
theorem dX12_sets_71 : decode cX12_sets 71 = .ok (.invokevirtual 372, 3) := by decide +kernel
theorem dX12_sets_74 : decode cX12_sets 74 = .ok (.ifCond .ne 6, 3) := by decide +kernel
theorem dX12_sets_77 : decode cX12_sets 77 = .ok (.goto 18, 3) := by decide +kernel
theorem dX12_sets_80 : decode cX12_sets 80 = .ok (.iconst 1, 1) := by decide +kernel
theorem dX12_sets_81 : decode cX12_sets 81 = .ok (.istore 5, 2) := by decide +kernel
theorem dX12_sets_83 : decode cX12_sets 83 = .ok (.iload_n 3, 1) := by decide +kernel
theorem dX12_sets_84 : decode cX12_sets 84 = .ok (.iload 6, 2) := by decide +kernel
theorem dX12_sets_86 : decode cX12_sets 86 = .ok (.iand, 1) := by decide +kernel
theorem dX12_sets_87 : decode cX12_sets 87 = .ok (.istore_n 3, 1) := by decide +kernel
theorem dX12_sets_88 : decode cX12_sets 88 = .ok (.iload 4, 2) := by decide +kernel
theorem dX12_sets_90 : decode cX12_sets 90 = .ok (.iload 6, 2) := by decide +kernel
theorem dX12_sets_92 : decode cX12_sets 92 = .ok (.ior, 1) := by decide +kernel
theorem dX12_sets_93 : decode cX12_sets 93 = .ok (.istore 4, 2) := by decide +kernel
theorem dX12_sets_95 : decode cX12_sets 95 = .ok (.iinc 6 1, 3) := by decide +kernel
theorem dX12_sets_98 : decode cX12_sets 98 = .ok (.goto (-44), 3) := by decide +kernel
theorem dX12_sets_101 : decode cX12_sets 101 = .ok (.iload 5, 2) := by decide +kernel
theorem dX12_sets_103 : decode cX12_sets 103 = .ok (.ifCond .ne 7, 3) := by decide +kernel
theorem dX12_sets_106 : decode cX12_sets 106 = .ok (.iconst (-1), 1) := by decide +kernel
theorem dX12_sets_107 : decode cX12_sets 107 = .ok (.goto 14, 3) := by decide +kernel
theorem dX12_sets_110 : decode cX12_sets 110 = .ok (.iload_n 2, 1) := by decide +kernel
theorem dX12_sets_111 : decode cX12_sets 111 = .ok (.iconst 1, 1) := by decide +kernel
theorem dX12_sets_112 : decode cX12_sets 112 = .ok (.if_icmp .ne 7, 3) := by decide +kernel
theorem dX12_sets_115 : decode cX12_sets 115 = .ok (.iload_n 3, 1) := by decide +kernel
theorem dX12_sets_116 : decode cX12_sets 116 = .ok (.goto 5, 3) := by decide +kernel
theorem dX12_sets_119 : decode cX12_sets 119 = .ok (.iload 4, 2) := by decide +kernel
theorem dX12_sets_121 : decode cX12_sets 121 = .ok (.ireturn, 1) := by decide +kernel
theorem dX12_counts_0 : decode cX12_counts 0 = .ok (.aload_n 0, 1) := by decide +kernel
theorem dX12_counts_1 : decode cX12_counts 1 = .ok (.getfield 66, 3) := by decide +kernel
theorem dX12_counts_4 : decode cX12_counts 4 = .ok (.iload_n 1, 1) := by decide +kernel
theorem dX12_counts_5 : decode cX12_counts 5 = .ok (.iaload, 1) := by decide +kernel
theorem dX12_counts_6 : decode cX12_counts 6 = .ok (.iconst (-1), 1) := by decide +kernel
theorem dX12_counts_7 : decode cX12_counts 7 = .ok (.if_icmp .eq 13, 3) := by decide +kernel
theorem dX12_counts_10 : decode cX12_counts 10 = .ok (.aload_n 0, 1) := by decide +kernel
theorem dX12_counts_11 : decode cX12_counts 11 = .ok (.getfield 66, 3) := by decide +kernel
theorem dX12_counts_14 : decode cX12_counts 14 = .ok (.iload_n 1, 1) := by decide +kernel
theorem dX12_counts_15 : decode cX12_counts 15 = .ok (.iaload, 1) := by decide +kernel
theorem dX12_counts_16 : decode cX12_counts 16 = .ok (.iload_n 2, 1) := by decide +kernel
theorem dX12_counts_17 : decode cX12_counts 17 = .ok (.if_icmp .ne 16, 3) := by decide +kernel
theorem dX12_counts_20 : decode cX12_counts 20 = .ok (.aload_n 0, 1) := by decide +kernel
theorem dX12_counts_21 : decode cX12_counts 21 = .ok (.iload_n 1, 1) := by decide +kernel
theorem dX12_counts_22 : decode cX12_counts 22 = .ok (.iload_n 2, 1) := by decide +kernel
theorem dX12_counts_23 : decode cX12_counts 23 = .ok (.invokevirtual 372, 3) := by decide +kernel
theorem dX12_counts_26 : decode cX12_counts 26 = .ok (.ifCond .eq 7, 3) := by decide +kernel
theorem dX12_counts_29 : decode cX12_counts 29 = .ok (.iconst 1, 1) := by decide +kernel
theorem dX12_counts_30 : decode cX12_counts 30 = .ok (.goto 4, 3) := by decide +kernel
theorem dX12_counts_33 : decode cX12_counts 33 = .ok (.iconst 0, 1) := by decide +kernel
theorem dX12_counts_34 : decode cX12_counts 34 = .ok (.ireturn, 1) := by decide +kernel
theorem dX12_spanOf_0 : decode cX12_spanOf 0 = .ok (.iconst (-1), 1) := by decide +kernel
theorem dX12_spanOf_1 : decode cX12_spanOf 1 = .ok (.istore 4, 2) := by decide +kernel
theorem dX12_spanOf_3 : decode cX12_spanOf 3 = .ok (.iconst (-1), 1) := by decide +kernel
theorem dX12_spanOf_4 : decode cX12_spanOf 4 = .ok (.istore 5, 2) := by decide +kernel
theorem dX12_spanOf_6 : decode cX12_spanOf 6 = .ok (.iconst 0, 1) := by decide +kernel
theorem dX12_spanOf_7 : decode cX12_spanOf 7 = .ok (.istore 6, 2) := by decide +kernel
theorem dX12_spanOf_9 : decode cX12_spanOf 9 = .ok (.iload 6, 2) := by decide +kernel
theorem dX12_spanOf_11 : decode cX12_spanOf 11 = .ok (.iconst 1, 1) := by decide +kernel
theorem dX12_spanOf_12 : decode cX12_spanOf 12 = .ok (.aload_n 0, 1) := by decide +kernel
theorem dX12_spanOf_13 : decode cX12_spanOf 13 = .ok (.getfield 72, 3) := by decide +kernel
theorem dX12_spanOf_16 : decode cX12_spanOf 16 = .ok (.iload_n 1, 1) := by decide +kernel
theorem dX12_spanOf_17 : decode cX12_spanOf 17 = .ok (.iaload, 1) := by decide +kernel
theorem dX12_spanOf_18 : decode cX12_spanOf 18 = .ok (.ishl, 1) := by decide +kernel
theorem dX12_spanOf_19 : decode cX12_spanOf 19 = .ok (.if_icmp .ge 94, 3) := by decide +kernel
theorem dX12_spanOf_22 : decode cX12_spanOf 22 = .ok (.aload_n 0, 1) := by decide +kernel
theorem dX12_spanOf_23 : decode cX12_spanOf 23 = .ok (.iload_n 1, 1) := by decide +kernel
theorem dX12_spanOf_24 : decode cX12_spanOf 24 = .ok (.iload 6, 2) := by decide +kernel
theorem dX12_spanOf_26 : decode cX12_spanOf 26 = .ok (.invokevirtual 378, 3) := by decide +kernel
theorem dX12_spanOf_29 : decode cX12_spanOf 29 = .ok (.ifCond .ne 6, 3) := by decide +kernel
theorem dX12_spanOf_32 : decode cX12_spanOf 32 = .ok (.goto 75, 3) := by decide +kernel
theorem dX12_spanOf_35 : decode cX12_spanOf 35 = .ok (.aload_n 0, 1) := by decide +kernel
theorem dX12_spanOf_36 : decode cX12_spanOf 36 = .ok (.getfield 16, 3) := by decide +kernel
theorem dX12_spanOf_39 : decode cX12_spanOf 39 = .ok (.iload_n 2, 1) := by decide +kernel
theorem dX12_spanOf_40 : decode cX12_spanOf 40 = .ok (.iaload, 1) := by decide +kernel
theorem dX12_spanOf_41 : decode cX12_spanOf 41 = .ok (.istore 7, 2) := by decide +kernel
theorem dX12_spanOf_43 : decode cX12_spanOf 43 = .ok (.aload_n 0, 1) := by decide +kernel
theorem dX12_spanOf_44 : decode cX12_spanOf 44 = .ok (.iload_n 2, 1) := by decide +kernel
theorem dX12_spanOf_45 : decode cX12_spanOf 45 = .ok (.aload_n 0, 1) := by decide +kernel
theorem dX12_spanOf_46 : decode cX12_spanOf 46 = .ok (.iload 7, 2) := by decide +kernel
theorem dX12_spanOf_48 : decode cX12_spanOf 48 = .ok (.invokevirtual 369, 3) := by decide +kernel
theorem dX12_spanOf_51 : decode cX12_spanOf 51 = .ok (.aload_n 0, 1) := by decide +kernel
theorem dX12_spanOf_52 : decode cX12_spanOf 52 = .ok (.iload 7, 2) := by decide +kernel
theorem dX12_spanOf_54 : decode cX12_spanOf 54 = .ok (.invokevirtual 366, 3) := by decide +kernel
theorem dX12_spanOf_57 : decode cX12_spanOf 57 = .ok (.isub, 1) := by decide +kernel
theorem dX12_spanOf_58 : decode cX12_spanOf 58 = .ok (.aload_n 0, 1) := by decide +kernel
theorem dX12_spanOf_59 : decode cX12_spanOf 59 = .ok (.getfield 93, 3) := by decide +kernel
theorem dX12_spanOf_62 : decode cX12_spanOf 62 = .ok (.iload_n 2, 1) := by decide +kernel
theorem dX12_spanOf_63 : decode cX12_spanOf 63 = .ok (.iaload, 1) := by decide +kernel
theorem dX12_spanOf_64 : decode cX12_spanOf 64 = .ok (.iadd, 1) := by decide +kernel
theorem dX12_spanOf_65 : decode cX12_spanOf 65 = .ok (.invokevirtual 381, 3) := by decide +kernel
theorem dX12_spanOf_68 : decode cX12_spanOf 68 = .ok (.istore 8, 2) := by decide +kernel
theorem dX12_spanOf_70 : decode cX12_spanOf 70 = .ok (.iload 4, 2) := by decide +kernel
theorem dX12_spanOf_72 : decode cX12_spanOf 72 = .ok (.iconst (-1), 1) := by decide +kernel
theorem dX12_spanOf_73 : decode cX12_spanOf 73 = .ok (.if_icmp .ne 12, 3) := by decide +kernel
theorem dX12_spanOf_76 : decode cX12_spanOf 76 = .ok (.aload_n 0, 1) := by decide +kernel
theorem dX12_spanOf_77 : decode cX12_spanOf 77 = .ok (.getfield 93, 3) := by decide +kernel
theorem dX12_spanOf_80 : decode cX12_spanOf 80 = .ok (.iload_n 2, 1) := by decide +kernel
theorem dX12_spanOf_81 : decode cX12_spanOf 81 = .ok (.iaload, 1) := by decide +kernel
theorem dX12_spanOf_82 : decode cX12_spanOf 82 = .ok (.goto 14, 3) := by decide +kernel
theorem dX12_spanOf_85 : decode cX12_spanOf 85 = .ok (.iload 4, 2) := by decide +kernel
theorem dX12_spanOf_87 : decode cX12_spanOf 87 = .ok (.aload_n 0, 1) := by decide +kernel
theorem dX12_spanOf_88 : decode cX12_spanOf 88 = .ok (.getfield 93, 3) := by decide +kernel
theorem dX12_spanOf_91 : decode cX12_spanOf 91 = .ok (.iload_n 2, 1) := by decide +kernel
theorem dX12_spanOf_92 : decode cX12_spanOf 92 = .ok (.iaload, 1) := by decide +kernel
theorem dX12_spanOf_93 : decode cX12_spanOf 93 = .ok (.invokestatic 168, 3) := by decide +kernel
theorem dX12_spanOf_96 : decode cX12_spanOf 96 = .ok (.istore 4, 2) := by decide +kernel
theorem dX12_spanOf_98 : decode cX12_spanOf 98 = .ok (.iload 5, 2) := by decide +kernel
theorem dX12_spanOf_100 : decode cX12_spanOf 100 = .ok (.iload 8, 2) := by decide +kernel
theorem dX12_spanOf_102 : decode cX12_spanOf 102 = .ok (.invokestatic 174, 3) := by decide +kernel
theorem dX12_spanOf_105 : decode cX12_spanOf 105 = .ok (.istore 5, 2) := by decide +kernel
theorem dX12_spanOf_107 : decode cX12_spanOf 107 = .ok (.iinc 6 1, 3) := by decide +kernel
theorem dX12_spanOf_110 : decode cX12_spanOf 110 = .ok (.goto (-101), 3) := by decide +kernel
theorem dX12_spanOf_113 : decode cX12_spanOf 113 = .ok (.iload_n 3, 1) := by decide +kernel
theorem dX12_spanOf_114 : decode cX12_spanOf 114 = .ok (.ifCond .ne 8, 3) := by decide +kernel
theorem dX12_spanOf_117 : decode cX12_spanOf 117 = .ok (.iload 4, 2) := by decide +kernel
theorem dX12_spanOf_119 : decode cX12_spanOf 119 = .ok (.goto 5, 3) := by decide +kernel
theorem dX12_spanOf_122 : decode cX12_spanOf 122 = .ok (.iload 5, 2) := by decide +kernel
theorem dX12_spanOf_124 : decode cX12_spanOf 124 = .ok (.ireturn, 1) := by decide +kernel
theorem dX12_isOfOffice_0 : decode cX12_isOfOffice 0 = .ok (.aload_n 0, 1) := by decide +kernel
theorem dX12_isOfOffice_1 : decode cX12_isOfOffice 1 = .ok (.iload_n 1, 1) := by decide +kernel
theorem dX12_isOfOffice_2 : decode cX12_isOfOffice 2 = .ok (.invokevirtual 343, 3) := by decide +kernel
theorem dX12_isOfOffice_5 : decode cX12_isOfOffice 5 = .ok (.ifCond .eq 17, 3) := by decide +kernel
theorem dX12_isOfOffice_8 : decode cX12_isOfOffice 8 = .ok (.aload_n 0, 1) := by decide +kernel
theorem dX12_isOfOffice_9 : decode cX12_isOfOffice 9 = .ok (.getfield 16, 3) := by decide +kernel
theorem dX12_isOfOffice_12 : decode cX12_isOfOffice 12 = .ok (.iload_n 1, 1) := by decide +kernel
theorem dX12_isOfOffice_13 : decode cX12_isOfOffice 13 = .ok (.iaload, 1) := by decide +kernel
theorem dX12_isOfOffice_14 : decode cX12_isOfOffice 14 = .ok (.iconst (-1), 1) := by decide +kernel
theorem dX12_isOfOffice_15 : decode cX12_isOfOffice 15 = .ok (.if_icmp .eq 7, 3) := by decide +kernel
theorem dX12_isOfOffice_18 : decode cX12_isOfOffice 18 = .ok (.iconst 1, 1) := by decide +kernel
theorem dX12_isOfOffice_19 : decode cX12_isOfOffice 19 = .ok (.goto 4, 3) := by decide +kernel
theorem dX12_isOfOffice_22 : decode cX12_isOfOffice 22 = .ok (.iconst 0, 1) := by decide +kernel
theorem dX12_isOfOffice_23 : decode cX12_isOfOffice 23 = .ok (.ireturn, 1) := by decide +kernel
theorem dX12_span_0 : decode cX12_span 0 = .ok (.aload_n 0, 1) := by decide +kernel
theorem dX12_span_1 : decode cX12_span 1 = .ok (.iconst 0, 1) := by decide +kernel
theorem dX12_span_2 : decode cX12_span 2 = .ok (.putfield 180, 3) := by decide +kernel
theorem dX12_span_5 : decode cX12_span 5 = .ok (.aload_n 0, 1) := by decide +kernel
theorem dX12_span_6 : decode cX12_span 6 = .ok (.iload_n 1, 1) := by decide +kernel
theorem dX12_span_7 : decode cX12_span 7 = .ok (.invokevirtual 337, 3) := by decide +kernel
theorem dX12_span_10 : decode cX12_span 10 = .ok (.ifCond .eq 30, 3) := by decide +kernel
theorem dX12_span_13 : decode cX12_span 13 = .ok (.aload_n 0, 1) := by decide +kernel
theorem dX12_span_14 : decode cX12_span 14 = .ok (.iload_n 2, 1) := by decide +kernel
theorem dX12_span_15 : decode cX12_span 15 = .ok (.invokevirtual 384, 3) := by decide +kernel
theorem dX12_span_18 : decode cX12_span 18 = .ok (.ifCond .eq 22, 3) := by decide +kernel
theorem dX12_span_21 : decode cX12_span 21 = .ok (.iload_n 3, 1) := by decide +kernel
theorem dX12_span_22 : decode cX12_span 22 = .ok (.iconst 0, 1) := by decide +kernel
theorem dX12_span_23 : decode cX12_span 23 = .ok (.iconst 1, 1) := by decide +kernel
theorem dX12_span_24 : decode cX12_span 24 = .ok (.invokestatic 196, 3) := by decide +kernel
theorem dX12_span_27 : decode cX12_span 27 = .ok (.ifCond .eq 13, 3) := by decide +kernel
theorem dX12_span_30 : decode cX12_span 30 = .ok (.aload_n 0, 1) := by decide +kernel
theorem dX12_span_31 : decode cX12_span 31 = .ok (.iload_n 1, 1) := by decide +kernel
theorem dX12_span_32 : decode cX12_span 32 = .ok (.iload_n 2, 1) := by decide +kernel
theorem dX12_span_33 : decode cX12_span 33 = .ok (.iload_n 3, 1) := by decide +kernel
theorem dX12_span_34 : decode cX12_span 34 = .ok (.invokevirtual 387, 3) := by decide +kernel
theorem dX12_span_37 : decode cX12_span 37 = .ok (.goto 4, 3) := by decide +kernel
theorem dX12_span_40 : decode cX12_span 40 = .ok (.iconst (-1), 1) := by decide +kernel
theorem dX12_span_41 : decode cX12_span 41 = .ok (.ireturn, 1) := by decide +kernel
theorem dX12_open_0 : decode cX12_open 0 = .ok (.aload_n 0, 1) := by decide +kernel
theorem dX12_open_1 : decode cX12_open 1 = .ok (.iconst 0, 1) := by decide +kernel
theorem dX12_open_2 : decode cX12_open 2 = .ok (.putfield 180, 3) := by decide +kernel
theorem dX12_open_5 : decode cX12_open 5 = .ok (.aload_n 0, 1) := by decide +kernel
theorem dX12_open_6 : decode cX12_open 6 = .ok (.iload_n 1, 1) := by decide +kernel
theorem dX12_open_7 : decode cX12_open 7 = .ok (.invokevirtual 337, 3) := by decide +kernel
theorem dX12_open_10 : decode cX12_open 10 = .ok (.ifCond .ne 5, 3) := by decide +kernel
theorem dX12_open_13 : decode cX12_open 13 = .ok (.iconst 0, 1) := by decide +kernel
theorem dX12_open_14 : decode cX12_open 14 = .ok (.ireturn, 1) := by decide +kernel
theorem dX12_open_15 : decode cX12_open 15 = .ok (.iload_n 2, 1) := by decide +kernel
theorem dX12_open_16 : decode cX12_open 16 = .ok (.iconst (-1), 1) := by decide +kernel
theorem dX12_open_17 : decode cX12_open 17 = .ok (.if_icmp .eq 32, 3) := by decide +kernel
theorem dX12_open_20 : decode cX12_open 20 = .ok (.iload_n 2, 1) := by decide +kernel
theorem dX12_open_21 : decode cX12_open 21 = .ok (.iconst 0, 1) := by decide +kernel
theorem dX12_open_22 : decode cX12_open 22 = .ok (.iconst 1, 1) := by decide +kernel
theorem dX12_open_23 : decode cX12_open 23 = .ok (.aload_n 0, 1) := by decide +kernel
theorem dX12_open_24 : decode cX12_open 24 = .ok (.getfield 72, 3) := by decide +kernel
theorem dX12_open_27 : decode cX12_open 27 = .ok (.iload_n 1, 1) := by decide +kernel
theorem dX12_open_28 : decode cX12_open 28 = .ok (.iaload, 1) := by decide +kernel
theorem dX12_open_29 : decode cX12_open 29 = .ok (.ishl, 1) := by decide +kernel
theorem dX12_open_30 : decode cX12_open 30 = .ok (.iconst 1, 1) := by decide +kernel
theorem dX12_open_31 : decode cX12_open 31 = .ok (.isub, 1) := by decide +kernel
theorem dX12_open_32 : decode cX12_open 32 = .ok (.invokestatic 196, 3) := by decide +kernel
theorem dX12_open_35 : decode cX12_open 35 = .ok (.ifCond .eq 12, 3) := by decide +kernel
theorem dX12_open_38 : decode cX12_open 38 = .ok (.aload_n 0, 1) := by decide +kernel
theorem dX12_open_39 : decode cX12_open 39 = .ok (.iload_n 1, 1) := by decide +kernel
theorem dX12_open_40 : decode cX12_open 40 = .ok (.iload_n 2, 1) := by decide +kernel
theorem dX12_open_41 : decode cX12_open 41 = .ok (.invokevirtual 372, 3) := by decide +kernel
theorem dX12_open_44 : decode cX12_open 44 = .ok (.ifCond .ne 5, 3) := by decide +kernel
theorem dX12_open_47 : decode cX12_open 47 = .ok (.iconst 0, 1) := by decide +kernel
theorem dX12_open_48 : decode cX12_open 48 = .ok (.ireturn, 1) := by decide +kernel
theorem dX12_open_49 : decode cX12_open 49 = .ok (.aload_n 0, 1) := by decide +kernel
theorem dX12_open_50 : decode cX12_open 50 = .ok (.getfield 66, 3) := by decide +kernel
theorem dX12_open_53 : decode cX12_open 53 = .ok (.iload_n 1, 1) := by decide +kernel
theorem dX12_open_54 : decode cX12_open 54 = .ok (.iload_n 2, 1) := by decide +kernel
theorem dX12_open_55 : decode cX12_open 55 = .ok (.iastore, 1) := by decide +kernel
theorem dX12_open_56 : decode cX12_open 56 = .ok (.iconst 1, 1) := by decide +kernel
theorem dX12_open_57 : decode cX12_open 57 = .ok (.ireturn, 1) := by decide +kernel
theorem dX12_total_0 : decode cX12_total 0 = .ok (.aload_n 0, 1) := by decide +kernel
theorem dX12_total_1 : decode cX12_total 1 = .ok (.iconst 0, 1) := by decide +kernel
theorem dX12_total_2 : decode cX12_total 2 = .ok (.putfield 180, 3) := by decide +kernel
theorem dX12_total_5 : decode cX12_total 5 = .ok (.aload_n 0, 1) := by decide +kernel
theorem dX12_total_6 : decode cX12_total 6 = .ok (.iload_n 1, 1) := by decide +kernel
theorem dX12_total_7 : decode cX12_total 7 = .ok (.invokevirtual 384, 3) := by decide +kernel
theorem dX12_total_10 : decode cX12_total 10 = .ok (.ifCond .eq 12, 3) := by decide +kernel
theorem dX12_total_13 : decode cX12_total 13 = .ok (.iload_n 2, 1) := by decide +kernel
theorem dX12_total_14 : decode cX12_total 14 = .ok (.iconst 0, 1) := by decide +kernel
theorem dX12_total_15 : decode cX12_total 15 = .ok (.iconst 1, 1) := by decide +kernel
theorem dX12_total_16 : decode cX12_total 16 = .ok (.invokestatic 196, 3) := by decide +kernel
theorem dX12_total_19 : decode cX12_total 19 = .ok (.ifCond .ne 5, 3) := by decide +kernel
theorem dX12_total_22 : decode cX12_total 22 = .ok (.iconst (-1), 1) := by decide +kernel
theorem dX12_total_23 : decode cX12_total 23 = .ok (.ireturn, 1) := by decide +kernel
theorem dX12_total_24 : decode cX12_total 24 = .ok (.iconst 0, 1) := by decide +kernel
theorem dX12_total_25 : decode cX12_total 25 = .ok (.istore_n 3, 1) := by decide +kernel
theorem dX12_total_26 : decode cX12_total 26 = .ok (.iconst 0, 1) := by decide +kernel
theorem dX12_total_27 : decode cX12_total 27 = .ok (.istore 4, 2) := by decide +kernel
theorem dX12_total_29 : decode cX12_total 29 = .ok (.iload 4, 2) := by decide +kernel
theorem dX12_total_31 : decode cX12_total 31 = .ok (.aload_n 0, 1) := by decide +kernel
theorem dX12_total_32 : decode cX12_total 32 = .ok (.getfield 331, 3) := by decide +kernel
theorem dX12_total_35 : decode cX12_total 35 = .ok (.if_icmp .ge 32, 3) := by decide +kernel
theorem dX12_total_38 : decode cX12_total 38 = .ok (.aload_n 0, 1) := by decide +kernel
theorem dX12_total_39 : decode cX12_total 39 = .ok (.iload 4, 2) := by decide +kernel
theorem dX12_total_41 : decode cX12_total 41 = .ok (.iload_n 1, 1) := by decide +kernel
theorem dX12_total_42 : decode cX12_total 42 = .ok (.iload_n 2, 1) := by decide +kernel
theorem dX12_total_43 : decode cX12_total 43 = .ok (.invokevirtual 387, 3) := by decide +kernel
theorem dX12_total_46 : decode cX12_total 46 = .ok (.istore 5, 2) := by decide +kernel
theorem dX12_total_48 : decode cX12_total 48 = .ok (.iload 5, 2) := by decide +kernel
theorem dX12_total_50 : decode cX12_total 50 = .ok (.iconst (-1), 1) := by decide +kernel
theorem dX12_total_51 : decode cX12_total 51 = .ok (.if_icmp .ne 5, 3) := by decide +kernel
