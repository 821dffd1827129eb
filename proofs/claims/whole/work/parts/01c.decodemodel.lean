theorem dX9_init_0 : decode cX9_init 0 = .ok (.aload_n 0, 1) := by decide +kernel
theorem dX9_init_1 : decode cX9_init 1 = .ok (.invokespecial 1, 3) := by decide +kernel
theorem dX9_init_4 : decode cX9_init 4 = .ok (.aload_n 0, 1) := by decide +kernel
theorem dX9_init_5 : decode cX9_init 5 = .ok (.iconst 3, 1) := by decide +kernel
theorem dX9_init_6 : decode cX9_init 6 = .ok (.newarray .int, 2) := by decide +kernel
theorem dX9_init_8 : decode cX9_init 8 = .ok (.putfield 7, 3) := by decide +kernel
theorem dX9_init_11 : decode cX9_init 11 = .ok (.aload_n 0, 1) := by decide +kernel
theorem dX9_init_12 : decode cX9_init 12 = .ok (.bipush 60, 2) := by decide +kernel
theorem dX9_init_14 : decode cX9_init 14 = .ok (.newarray .float, 2) := by decide +kernel
theorem dX9_init_16 : decode cX9_init 16 = .ok (.putfield 13, 3) := by decide +kernel
theorem dX9_init_19 : decode cX9_init 19 = .ok (.aload_n 0, 1) := by decide +kernel
theorem dX9_init_20 : decode cX9_init 20 = .ok (.bipush 60, 2) := by decide +kernel
theorem dX9_init_22 : decode cX9_init 22 = .ok (.newarray .boolean, 2) := by decide +kernel
theorem dX9_init_24 : decode cX9_init 24 = .ok (.putfield 17, 3) := by decide +kernel
theorem dX9_init_27 : decode cX9_init 27 = .ok (.aload_n 0, 1) := by decide +kernel
theorem dX9_init_28 : decode cX9_init 28 = .ok (.bipush 12, 2) := by decide +kernel
theorem dX9_init_30 : decode cX9_init 30 = .ok (.newarray .int, 2) := by decide +kernel
theorem dX9_init_32 : decode cX9_init 32 = .ok (.putfield 21, 3) := by decide +kernel
theorem dX9_init_35 : decode cX9_init 35 = .ok (.aload_n 0, 1) := by decide +kernel
theorem dX9_init_36 : decode cX9_init 36 = .ok (.bipush 12, 2) := by decide +kernel
theorem dX9_init_38 : decode cX9_init 38 = .ok (.newarray .int, 2) := by decide +kernel
theorem dX9_init_40 : decode cX9_init 40 = .ok (.putfield 24, 3) := by decide +kernel
theorem dX9_init_43 : decode cX9_init 43 = .ok (.aload_n 0, 1) := by decide +kernel
theorem dX9_init_44 : decode cX9_init 44 = .ok (.bipush 32, 2) := by decide +kernel
theorem dX9_init_46 : decode cX9_init 46 = .ok (.newarray .int, 2) := by decide +kernel
theorem dX9_init_48 : decode cX9_init 48 = .ok (.putfield 27, 3) := by decide +kernel
theorem dX9_init_51 : decode cX9_init 51 = .ok (.aload_n 0, 1) := by decide +kernel
theorem dX9_init_52 : decode cX9_init 52 = .ok (.bipush 32, 2) := by decide +kernel
theorem dX9_init_54 : decode cX9_init 54 = .ok (.newarray .int, 2) := by decide +kernel
theorem dX9_init_56 : decode cX9_init 56 = .ok (.putfield 30, 3) := by decide +kernel
theorem dX9_init_59 : decode cX9_init 59 = .ok (.aload_n 0, 1) := by decide +kernel
theorem dX9_init_60 : decode cX9_init 60 = .ok (.bipush 32, 2) := by decide +kernel
theorem dX9_init_62 : decode cX9_init 62 = .ok (.newarray .int, 2) := by decide +kernel
theorem dX9_init_64 : decode cX9_init 64 = .ok (.putfield 33, 3) := by decide +kernel
theorem dX9_init_67 : decode cX9_init 67 = .ok (.aload_n 0, 1) := by decide +kernel
theorem dX9_init_68 : decode cX9_init 68 = .ok (.bipush 20, 2) := by decide +kernel
theorem dX9_init_70 : decode cX9_init 70 = .ok (.newarray .int, 2) := by decide +kernel
theorem dX9_init_72 : decode cX9_init 72 = .ok (.putfield 36, 3) := by decide +kernel
theorem dX9_init_75 : decode cX9_init 75 = .ok (.aload_n 0, 1) := by decide +kernel
theorem dX9_init_76 : decode cX9_init 76 = .ok (.bipush 20, 2) := by decide +kernel
theorem dX9_init_78 : decode cX9_init 78 = .ok (.newarray .int, 2) := by decide +kernel
theorem dX9_init_80 : decode cX9_init 80 = .ok (.putfield 39, 3) := by decide +kernel
theorem dX9_init_83 : decode cX9_init 83 = .ok (.aload_n 0, 1) := by decide +kernel
theorem dX9_init_84 : decode cX9_init 84 = .ok (.bipush 20, 2) := by decide +kernel
theorem dX9_init_86 : decode cX9_init 86 = .ok (.newarray .int, 2) := by decide +kernel
theorem dX9_init_88 : decode cX9_init 88 = .ok (.putfield 42, 3) := by decide +kernel
theorem dX9_init_91 : decode cX9_init 91 = .ok (.aload_n 0, 1) := by decide +kernel
theorem dX9_init_92 : decode cX9_init 92 = .ok (.bipush 20, 2) := by decide +kernel
theorem dX9_init_94 : decode cX9_init 94 = .ok (.newarray .int, 2) := by decide +kernel
theorem dX9_init_96 : decode cX9_init 96 = .ok (.putfield 45, 3) := by decide +kernel
theorem dX9_init_99 : decode cX9_init 99 = .ok (.aload_n 0, 1) := by decide +kernel
theorem dX9_init_100 : decode cX9_init 100 = .ok (.bipush 20, 2) := by decide +kernel
theorem dX9_init_102 : decode cX9_init 102 = .ok (.newarray .int, 2) := by decide +kernel
theorem dX9_init_104 : decode cX9_init 104 = .ok (.putfield 48, 3) := by decide +kernel
theorem dX9_init_107 : decode cX9_init 107 = .ok (.aload_n 0, 1) := by decide +kernel
theorem dX9_init_108 : decode cX9_init 108 = .ok (.bipush 80, 2) := by decide +kernel
theorem dX9_init_110 : decode cX9_init 110 = .ok (.newarray .int, 2) := by decide +kernel
theorem dX9_init_112 : decode cX9_init 112 = .ok (.putfield 51, 3) := by decide +kernel
theorem dX9_init_115 : decode cX9_init 115 = .ok (.aload_n 0, 1) := by decide +kernel
theorem dX9_init_116 : decode cX9_init 116 = .ok (.iconst 3, 1) := by decide +kernel
theorem dX9_init_117 : decode cX9_init 117 = .ok (.newarray .int, 2) := by decide +kernel
theorem dX9_init_119 : decode cX9_init 119 = .ok (.putfield 54, 3) := by decide +kernel
theorem dX9_init_122 : decode cX9_init 122 = .ok (.aload_n 0, 1) := by decide +kernel
theorem dX9_init_123 : decode cX9_init 123 = .ok (.iconst 3, 1) := by decide +kernel
theorem dX9_init_124 : decode cX9_init 124 = .ok (.newarray .int, 2) := by decide +kernel
theorem dX9_init_126 : decode cX9_init 126 = .ok (.putfield 57, 3) := by decide +kernel
theorem dX9_init_129 : decode cX9_init 129 = .ok (.aload_n 0, 1) := by decide +kernel
theorem dX9_init_130 : decode cX9_init 130 = .ok (.iconst 3, 1) := by decide +kernel
theorem dX9_init_131 : decode cX9_init 131 = .ok (.newarray .int, 2) := by decide +kernel
theorem dX9_init_133 : decode cX9_init 133 = .ok (.putfield 60, 3) := by decide +kernel
theorem dX9_init_136 : decode cX9_init 136 = .ok (.aload_n 0, 1) := by decide +kernel
theorem dX9_init_137 : decode cX9_init 137 = .ok (.iconst 3, 1) := by decide +kernel
theorem dX9_init_138 : decode cX9_init 138 = .ok (.newarray .int, 2) := by decide +kernel
theorem dX9_init_140 : decode cX9_init 140 = .ok (.putfield 63, 3) := by decide +kernel
theorem dX9_init_143 : decode cX9_init 143 = .ok (.aload_n 0, 1) := by decide +kernel
theorem dX9_init_144 : decode cX9_init 144 = .ok (.bipush 10, 2) := by decide +kernel
theorem dX9_init_146 : decode cX9_init 146 = .ok (.newarray .int, 2) := by decide +kernel
theorem dX9_init_148 : decode cX9_init 148 = .ok (.putfield 66, 3) := by decide +kernel
theorem dX9_init_151 : decode cX9_init 151 = .ok (.aload_n 0, 1) := by decide +kernel
theorem dX9_init_152 : decode cX9_init 152 = .ok (.bipush 12, 2) := by decide +kernel
theorem dX9_init_154 : decode cX9_init 154 = .ok (.newarray .int, 2) := by decide +kernel
theorem dX9_init_156 : decode cX9_init 156 = .ok (.putfield 69, 3) := by decide +kernel
theorem dX9_init_159 : decode cX9_init 159 = .ok (.aload_n 0, 1) := by decide +kernel
theorem dX9_init_160 : decode cX9_init 160 = .ok (.bipush 12, 2) := by decide +kernel
theorem dX9_init_162 : decode cX9_init 162 = .ok (.newarray .int, 2) := by decide +kernel
theorem dX9_init_164 : decode cX9_init 164 = .ok (.putfield 72, 3) := by decide +kernel
theorem dX9_init_167 : decode cX9_init 167 = .ok (.aload_n 0, 1) := by decide +kernel
theorem dX9_init_168 : decode cX9_init 168 = .ok (.bipush 72, 2) := by decide +kernel
theorem dX9_init_170 : decode cX9_init 170 = .ok (.newarray .int, 2) := by decide +kernel
theorem dX9_init_172 : decode cX9_init 172 = .ok (.putfield 75, 3) := by decide +kernel
theorem dX9_init_175 : decode cX9_init 175 = .ok (.aload_n 0, 1) := by decide +kernel
theorem dX9_init_176 : decode cX9_init 176 = .ok (.bipush 72, 2) := by decide +kernel
theorem dX9_init_178 : decode cX9_init 178 = .ok (.newarray .int, 2) := by decide +kernel
theorem dX9_init_180 : decode cX9_init 180 = .ok (.putfield 78, 3) := by decide +kernel
theorem dX9_init_183 : decode cX9_init 183 = .ok (.aload_n 0, 1) := by decide +kernel
theorem dX9_init_184 : decode cX9_init 184 = .ok (.bipush 12, 2) := by decide +kernel
theorem dX9_init_186 : decode cX9_init 186 = .ok (.newarray .int, 2) := by decide +kernel
theorem dX9_init_188 : decode cX9_init 188 = .ok (.putfield 81, 3) := by decide +kernel
theorem dX9_init_191 : decode cX9_init 191 = .ok (.aload_n 0, 1) := by decide +kernel
theorem dX9_init_192 : decode cX9_init 192 = .ok (.bipush 12, 2) := by decide +kernel
theorem dX9_init_194 : decode cX9_init 194 = .ok (.newarray .boolean, 2) := by decide +kernel
theorem dX9_init_196 : decode cX9_init 196 = .ok (.putfield 84, 3) := by decide +kernel
theorem dX9_init_199 : decode cX9_init 199 = .ok (.aload_n 0, 1) := by decide +kernel
theorem dX9_init_200 : decode cX9_init 200 = .ok (.sipush 144, 3) := by decide +kernel
theorem dX9_init_203 : decode cX9_init 203 = .ok (.newarray .int, 2) := by decide +kernel
theorem dX9_init_205 : decode cX9_init 205 = .ok (.putfield 87, 3) := by decide +kernel
theorem dX9_init_208 : decode cX9_init 208 = .ok (.aload_n 0, 1) := by decide +kernel
theorem dX9_init_209 : decode cX9_init 209 = .ok (.sipush 144, 3) := by decide +kernel
theorem dX9_init_212 : decode cX9_init 212 = .ok (.newarray .int, 2) := by decide +kernel
theorem dX9_init_214 : decode cX9_init 214 = .ok (.putfield 90, 3) := by decide +kernel
theorem dX9_init_217 : decode cX9_init 217 = .ok (.aload_n 0, 1) := by decide +kernel
theorem dX9_init_218 : decode cX9_init 218 = .ok (.bipush 12, 2) := by decide +kernel
theorem dX9_init_220 : decode cX9_init 220 = .ok (.newarray .int, 2) := by decide +kernel
theorem dX9_init_222 : decode cX9_init 222 = .ok (.putfield 93, 3) := by decide +kernel
theorem dX9_init_225 : decode cX9_init 225 = .ok (.aload_n 0, 1) := by decide +kernel
theorem dX9_init_226 : decode cX9_init 226 = .ok (.bipush 12, 2) := by decide +kernel
theorem dX9_init_228 : decode cX9_init 228 = .ok (.newarray .int, 2) := by decide +kernel
theorem dX9_init_230 : decode cX9_init 230 = .ok (.putfield 96, 3) := by decide +kernel
theorem dX9_init_233 : decode cX9_init 233 = .ok (.aload_n 0, 1) := by decide +kernel
theorem dX9_init_234 : decode cX9_init 234 = .ok (.bipush 12, 2) := by decide +kernel
theorem dX9_init_236 : decode cX9_init 236 = .ok (.newarray .int, 2) := by decide +kernel
theorem dX9_init_238 : decode cX9_init 238 = .ok (.putfield 99, 3) := by decide +kernel
theorem dX9_init_241 : decode cX9_init 241 = .ok (.aload_n 0, 1) := by decide +kernel
theorem dX9_init_242 : decode cX9_init 242 = .ok (.bipush 12, 2) := by decide +kernel
theorem dX9_init_244 : decode cX9_init 244 = .ok (.newarray .int, 2) := by decide +kernel
theorem dX9_init_246 : decode cX9_init 246 = .ok (.putfield 102, 3) := by decide +kernel
theorem dX9_init_249 : decode cX9_init 249 = .ok (.aload_n 0, 1) := by decide +kernel
theorem dX9_init_250 : decode cX9_init 250 = .ok (.sipush 2002, 3) := by decide +kernel
theorem dX9_init_253 : decode cX9_init 253 = .ok (.newarray .int, 2) := by decide +kernel
theorem dX9_init_255 : decode cX9_init 255 = .ok (.putfield 105, 3) := by decide +kernel
theorem dX9_init_258 : decode cX9_init 258 = .ok (.aload_n 0, 1) := by decide +kernel
theorem dX9_init_259 : decode cX9_init 259 = .ok (.sipush 2002, 3) := by decide +kernel
theorem dX9_init_262 : decode cX9_init 262 = .ok (.newarray .int, 2) := by decide +kernel
theorem dX9_init_264 : decode cX9_init 264 = .ok (.putfield 108, 3) := by decide +kernel
theorem dX9_init_267 : decode cX9_init 267 = .ok (.aload_n 0, 1) := by decide +kernel
theorem dX9_init_268 : decode cX9_init 268 = .ok (.sipush 2002, 3) := by decide +kernel
theorem dX9_init_271 : decode cX9_init 271 = .ok (.newarray .int, 2) := by decide +kernel
theorem dX9_init_273 : decode cX9_init 273 = .ok (.putfield 111, 3) := by decide +kernel
theorem dX9_init_276 : decode cX9_init 276 = .ok (.aload_n 0, 1) := by decide +kernel
theorem dX9_init_277 : decode cX9_init 277 = .ok (.sipush 2002, 3) := by decide +kernel
theorem dX9_init_280 : decode cX9_init 280 = .ok (.newarray .int, 2) := by decide +kernel
theorem dX9_init_282 : decode cX9_init 282 = .ok (.putfield 114, 3) := by decide +kernel
theorem dX9_init_285 : decode cX9_init 285 = .ok (.aload_n 0, 1) := by decide +kernel
theorem dX9_init_286 : decode cX9_init 286 = .ok (.iconst 2, 1) := by decide +kernel
theorem dX9_init_287 : decode cX9_init 287 = .ok (.newarray .int, 2) := by decide +kernel
theorem dX9_init_289 : decode cX9_init 289 = .ok (.putfield 117, 3) := by decide +kernel
theorem dX9_init_292 : decode cX9_init 292 = .ok (.aload_n 0, 1) := by decide +kernel
theorem dX9_init_293 : decode cX9_init 293 = .ok (.iconst 2, 1) := by decide +kernel
theorem dX9_init_294 : decode cX9_init 294 = .ok (.newarray .int, 2) := by decide +kernel
theorem dX9_init_296 : decode cX9_init 296 = .ok (.putfield 120, 3) := by decide +kernel
theorem dX9_init_299 : decode cX9_init 299 = .ok (.aload_n 0, 1) := by decide +kernel
theorem dX9_init_300 : decode cX9_init 300 = .ok (.bipush 6, 2) := by decide +kernel
theorem dX9_init_302 : decode cX9_init 302 = .ok (.newarray .int, 2) := by decide +kernel
theorem dX9_init_304 : decode cX9_init 304 = .ok (.putfield 123, 3) := by decide +kernel
theorem dX9_init_307 : decode cX9_init 307 = .ok (.aload_n 0, 1) := by decide +kernel
theorem dX9_init_308 : decode cX9_init 308 = .ok (.bipush 36, 2) := by decide +kernel
theorem dX9_init_310 : decode cX9_init 310 = .ok (.newarray .int, 2) := by decide +kernel
theorem dX9_init_312 : decode cX9_init 312 = .ok (.putfield 126, 3) := by decide +kernel
theorem dX9_init_315 : decode cX9_init 315 = .ok (.aload_n 0, 1) := by decide +kernel
theorem dX9_init_316 : decode cX9_init 316 = .ok (.bipush 6, 2) := by decide +kernel
theorem dX9_init_318 : decode cX9_init 318 = .ok (.newarray .int, 2) := by decide +kernel
theorem dX9_init_320 : decode cX9_init 320 = .ok (.putfield 129, 3) := by decide +kernel
theorem dX9_init_323 : decode cX9_init 323 = .ok (.aload_n 0, 1) := by decide +kernel
theorem dX9_init_324 : decode cX9_init 324 = .ok (.bipush 6, 2) := by decide +kernel
theorem dX9_init_326 : decode cX9_init 326 = .ok (.newarray .int, 2) := by decide +kernel
theorem dX9_init_328 : decode cX9_init 328 = .ok (.putfield 132, 3) := by decide +kernel
theorem dX9_init_331 : decode cX9_init 331 = .ok (.iconst 0, 1) := by decide +kernel
theorem dX9_init_332 : decode cX9_init 332 = .ok (.istore_n 1, 1) := by decide +kernel
theorem dX9_init_333 : decode cX9_init 333 = .ok (.iload_n 1, 1) := by decide +kernel
theorem dX9_init_334 : decode cX9_init 334 = .ok (.iconst 3, 1) := by decide +kernel
theorem dX9_init_335 : decode cX9_init 335 = .ok (.if_icmp .ge 50, 3) := by decide +kernel
theorem dX9_init_338 : decode cX9_init 338 = .ok (.aload_n 0, 1) := by decide +kernel
theorem dX9_init_339 : decode cX9_init 339 = .ok (.getfield 7, 3) := by decide +kernel
theorem dX9_init_342 : decode cX9_init 342 = .ok (.iload_n 1, 1) := by decide +kernel
theorem dX9_init_343 : decode cX9_init 343 = .ok (.iconst (-1), 1) := by decide +kernel
theorem dX9_init_344 : decode cX9_init 344 = .ok (.iastore, 1) := by decide +kernel
theorem dX9_init_345 : decode cX9_init 345 = .ok (.aload_n 0, 1) := by decide +kernel
theorem dX9_init_346 : decode cX9_init 346 = .ok (.getfield 54, 3) := by decide +kernel
theorem dX9_init_349 : decode cX9_init 349 = .ok (.iload_n 1, 1) := by decide +kernel
theorem dX9_init_350 : decode cX9_init 350 = .ok (.bipush 10, 2) := by decide +kernel
theorem dX9_init_352 : decode cX9_init 352 = .ok (.iastore, 1) := by decide +kernel
theorem dX9_init_353 : decode cX9_init 353 = .ok (.aload_n 0, 1) := by decide +kernel
theorem dX9_init_354 : decode cX9_init 354 = .ok (.getfield 57, 3) := by decide +kernel
theorem dX9_init_357 : decode cX9_init 357 = .ok (.iload_n 1, 1) := by decide +kernel
theorem dX9_init_358 : decode cX9_init 358 = .ok (.sipush 1000, 3) := by decide +kernel
theorem dX9_init_361 : decode cX9_init 361 = .ok (.iastore, 1) := by decide +kernel
theorem dX9_init_362 : decode cX9_init 362 = .ok (.aload_n 0, 1) := by decide +kernel
theorem dX9_init_363 : decode cX9_init 363 = .ok (.getfield 60, 3) := by decide +kernel
theorem dX9_init_366 : decode cX9_init 366 = .ok (.iload_n 1, 1) := by decide +kernel
theorem dX9_init_367 : decode cX9_init 367 = .ok (.sipush 400, 3) := by decide +kernel
theorem dX9_init_370 : decode cX9_init 370 = .ok (.iastore, 1) := by decide +kernel
theorem dX9_init_371 : decode cX9_init 371 = .ok (.aload_n 0, 1) := by decide +kernel
theorem dX9_init_372 : decode cX9_init 372 = .ok (.getfield 63, 3) := by decide +kernel
theorem dX9_init_375 : decode cX9_init 375 = .ok (.iload_n 1, 1) := by decide +kernel
theorem dX9_init_376 : decode cX9_init 376 = .ok (.ldc 135, 2) := by decide +kernel
theorem dX9_init_378 : decode cX9_init 378 = .ok (.iastore, 1) := by decide +kernel
theorem dX9_init_379 : decode cX9_init 379 = .ok (.iinc 1 1, 3) := by decide +kernel
theorem dX9_init_382 : decode cX9_init 382 = .ok (.goto (-49), 3) := by decide +kernel
theorem dX9_init_385 : decode cX9_init 385 = .ok (.iconst 0, 1) := by decide +kernel
theorem dX9_init_386 : decode cX9_init 386 = .ok (.istore_n 1, 1) := by decide +kernel
theorem dX9_init_387 : decode cX9_init 387 = .ok (.iload_n 1, 1) := by decide +kernel
theorem dX9_init_388 : decode cX9_init 388 = .ok (.bipush 32, 2) := by decide +kernel
theorem dX9_init_390 : decode cX9_init 390 = .ok (.if_icmp .ge 26, 3) := by decide +kernel
theorem dX9_init_393 : decode cX9_init 393 = .ok (.aload_n 0, 1) := by decide +kernel
theorem dX9_init_394 : decode cX9_init 394 = .ok (.getfield 30, 3) := by decide +kernel
theorem dX9_init_397 : decode cX9_init 397 = .ok (.iload_n 1, 1) := by decide +kernel
theorem dX9_init_398 : decode cX9_init 398 = .ok (.bipush 80, 2) := by decide +kernel
theorem dX9_init_400 : decode cX9_init 400 = .ok (.iastore, 1) := by decide +kernel
theorem dX9_init_401 : decode cX9_init 401 = .ok (.aload_n 0, 1) := by decide +kernel
theorem dX9_init_402 : decode cX9_init 402 = .ok (.getfield 33, 3) := by decide +kernel
theorem dX9_init_405 : decode cX9_init 405 = .ok (.iload_n 1, 1) := by decide +kernel
theorem dX9_init_406 : decode cX9_init 406 = .ok (.sipush 1000, 3) := by decide +kernel
theorem dX9_init_409 : decode cX9_init 409 = .ok (.iastore, 1) := by decide +kernel
theorem dX9_init_410 : decode cX9_init 410 = .ok (.iinc 1 1, 3) := by decide +kernel
theorem dX9_init_413 : decode cX9_init 413 = .ok (.goto (-26), 3) := by decide +kernel
theorem dX9_init_416 : decode cX9_init 416 = .ok (.aload_n 0, 1) := by decide +kernel
theorem dX9_init_417 : decode cX9_init 417 = .ok (.getfield 66, 3) := by decide +kernel
theorem dX9_init_420 : decode cX9_init 420 = .ok (.iconst 0, 1) := by decide +kernel
theorem dX9_init_421 : decode cX9_init 421 = .ok (.sipush 1000, 3) := by decide +kernel
theorem dX9_init_424 : decode cX9_init 424 = .ok (.iastore, 1) := by decide +kernel
theorem dX9_init_425 : decode cX9_init 425 = .ok (.aload_n 0, 1) := by decide +kernel
theorem dX9_init_426 : decode cX9_init 426 = .ok (.getfield 66, 3) := by decide +kernel
theorem dX9_init_429 : decode cX9_init 429 = .ok (.iconst 1, 1) := by decide +kernel
theorem dX9_init_430 : decode cX9_init 430 = .ok (.sipush 3000, 3) := by decide +kernel
theorem dX9_init_433 : decode cX9_init 433 = .ok (.iastore, 1) := by decide +kernel
theorem dX9_init_434 : decode cX9_init 434 = .ok (.iconst 0, 1) := by decide +kernel
theorem dX9_init_435 : decode cX9_init 435 = .ok (.istore_n 1, 1) := by decide +kernel
theorem dX9_init_436 : decode cX9_init 436 = .ok (.iload_n 1, 1) := by decide +kernel
theorem dX9_init_437 : decode cX9_init 437 = .ok (.iconst 4, 1) := by decide +kernel
theorem dX9_init_438 : decode cX9_init 438 = .ok (.if_icmp .ge 30, 3) := by decide +kernel
theorem dX9_init_441 : decode cX9_init 441 = .ok (.aload_n 0, 1) := by decide +kernel
theorem dX9_init_442 : decode cX9_init 442 = .ok (.getfield 66, 3) := by decide +kernel
theorem dX9_init_445 : decode cX9_init 445 = .ok (.iconst 2, 1) := by decide +kernel
theorem dX9_init_446 : decode cX9_init 446 = .ok (.iload_n 1, 1) := by decide +kernel
theorem dX9_init_447 : decode cX9_init 447 = .ok (.iadd, 1) := by decide +kernel
theorem dX9_init_448 : decode cX9_init 448 = .ok (.sipush 20000, 3) := by decide +kernel
theorem dX9_init_451 : decode cX9_init 451 = .ok (.iastore, 1) := by decide +kernel
theorem dX9_init_452 : decode cX9_init 452 = .ok (.aload_n 0, 1) := by decide +kernel
theorem dX9_init_453 : decode cX9_init 453 = .ok (.getfield 66, 3) := by decide +kernel
theorem dX9_init_456 : decode cX9_init 456 = .ok (.bipush 6, 2) := by decide +kernel
theorem dX9_init_458 : decode cX9_init 458 = .ok (.iload_n 1, 1) := by decide +kernel
theorem dX9_init_459 : decode cX9_init 459 = .ok (.iadd, 1) := by decide +kernel
theorem dX9_init_460 : decode cX9_init 460 = .ok (.iload_n 1, 1) := by decide +kernel
theorem dX9_init_461 : decode cX9_init 461 = .ok (.iastore, 1) := by decide +kernel
theorem dX9_init_462 : decode cX9_init 462 = .ok (.iinc 1 1, 3) := by decide +kernel
theorem dX9_init_465 : decode cX9_init 465 = .ok (.goto (-29), 3) := by decide +kernel
theorem dX9_init_468 : decode cX9_init 468 = .ok (.return_, 1) := by decide +kernel
theorem dX9_in_0 : decode cX9_in 0 = .ok (.lload_n 0, 1) := by decide +kernel
theorem dX9_in_1 : decode cX9_in 1 = .ok (.lload_n 2, 1) := by decide +kernel
theorem dX9_in_2 : decode cX9_in 2 = .ok (.lcmp, 1) := by decide +kernel
theorem dX9_in_3 : decode cX9_in 3 = .ok (.ifCond .lt 14, 3) := by decide +kernel
theorem dX9_in_6 : decode cX9_in 6 = .ok (.lload_n 0, 1) := by decide +kernel
theorem dX9_in_7 : decode cX9_in 7 = .ok (.lload 4, 2) := by decide +kernel
theorem dX9_in_9 : decode cX9_in 9 = .ok (.lcmp, 1) := by decide +kernel
theorem dX9_in_10 : decode cX9_in 10 = .ok (.ifCond .gt 7, 3) := by decide +kernel
theorem dX9_in_13 : decode cX9_in 13 = .ok (.iconst 1, 1) := by decide +kernel
theorem dX9_in_14 : decode cX9_in 14 = .ok (.goto 4, 3) := by decide +kernel
theorem dX9_in_17 : decode cX9_in 17 = .ok (.iconst 0, 1) := by decide +kernel
theorem dX9_in_18 : decode cX9_in 18 = .ok (.ireturn, 1) := by decide +kernel
theorem dX9_isSheet_0 : decode cX9_isSheet 0 = .ok (.iload_n 0, 1) := by decide +kernel
theorem dX9_isSheet_1 : decode cX9_isSheet 1 = .ok (.i2l, 1) := by decide +kernel
theorem dX9_isSheet_2 : decode cX9_isSheet 2 = .ok (.lconst 0, 1) := by decide +kernel
theorem dX9_isSheet_3 : decode cX9_isSheet 3 = .ok (.ldc2_w 136, 3) := by decide +kernel
theorem dX9_isSheet_6 : decode cX9_isSheet 6 = .ok (.invokestatic 138, 3) := by decide +kernel
theorem dX9_isSheet_9 : decode cX9_isSheet 9 = .ok (.ireturn, 1) := by decide +kernel
theorem dX9_isGroup_0 : decode cX9_isGroup 0 = .ok (.iload_n 1, 1) := by decide +kernel
theorem dX9_isGroup_1 : decode cX9_isGroup 1 = .ok (.i2l, 1) := by decide +kernel
theorem dX9_isGroup_2 : decode cX9_isGroup 2 = .ok (.lconst 0, 1) := by decide +kernel
theorem dX9_isGroup_3 : decode cX9_isGroup 3 = .ok (.aload_n 0, 1) := by decide +kernel
theorem dX9_isGroup_4 : decode cX9_isGroup 4 = .ok (.getfield 142, 3) := by decide +kernel
theorem dX9_isGroup_7 : decode cX9_isGroup 7 = .ok (.iconst 1, 1) := by decide +kernel
theorem dX9_isGroup_8 : decode cX9_isGroup 8 = .ok (.isub, 1) := by decide +kernel
theorem dX9_isGroup_9 : decode cX9_isGroup 9 = .ok (.i2l, 1) := by decide +kernel
theorem dX9_isGroup_10 : decode cX9_isGroup 10 = .ok (.invokestatic 138, 3) := by decide +kernel
theorem dX9_isGroup_13 : decode cX9_isGroup 13 = .ok (.ireturn, 1) := by decide +kernel
theorem dX9_isLoad_0 : decode cX9_isLoad 0 = .ok (.iload_n 1, 1) := by decide +kernel
theorem dX9_isLoad_1 : decode cX9_isLoad 1 = .ok (.i2l, 1) := by decide +kernel
theorem dX9_isLoad_2 : decode cX9_isLoad 2 = .ok (.lconst 0, 1) := by decide +kernel
theorem dX9_isLoad_3 : decode cX9_isLoad 3 = .ok (.aload_n 0, 1) := by decide +kernel
theorem dX9_isLoad_4 : decode cX9_isLoad 4 = .ok (.getfield 146, 3) := by decide +kernel
theorem dX9_isLoad_7 : decode cX9_isLoad 7 = .ok (.iconst 1, 1) := by decide +kernel
theorem dX9_isLoad_8 : decode cX9_isLoad 8 = .ok (.isub, 1) := by decide +kernel
theorem dX9_isLoad_9 : decode cX9_isLoad 9 = .ok (.i2l, 1) := by decide +kernel
theorem dX9_isLoad_10 : decode cX9_isLoad 10 = .ok (.invokestatic 138, 3) := by decide +kernel
theorem dX9_isLoad_13 : decode cX9_isLoad 13 = .ok (.ireturn, 1) := by decide +kernel
theorem dX9_isIn_0 : decode cX9_isIn 0 = .ok (.aload_n 0, 1) := by decide +kernel
theorem dX9_isIn_1 : decode cX9_isIn 1 = .ok (.iload_n 1, 1) := by decide +kernel
theorem dX9_isIn_2 : decode cX9_isIn 2 = .ok (.invokevirtual 149, 3) := by decide +kernel
theorem dX9_isIn_5 : decode cX9_isIn 5 = .ok (.ifCond .eq 25, 3) := by decide +kernel
theorem dX9_isIn_8 : decode cX9_isIn 8 = .ok (.iload_n 2, 1) := by decide +kernel
theorem dX9_isIn_9 : decode cX9_isIn 9 = .ok (.i2l, 1) := by decide +kernel
theorem dX9_isIn_10 : decode cX9_isIn 10 = .ok (.lconst 0, 1) := by decide +kernel
theorem dX9_isIn_11 : decode cX9_isIn 11 = .ok (.aload_n 0, 1) := by decide +kernel
theorem dX9_isIn_12 : decode cX9_isIn 12 = .ok (.getfield 72, 3) := by decide +kernel
theorem dX9_isIn_15 : decode cX9_isIn 15 = .ok (.iload_n 1, 1) := by decide +kernel
theorem dX9_isIn_16 : decode cX9_isIn 16 = .ok (.iaload, 1) := by decide +kernel
theorem dX9_isIn_17 : decode cX9_isIn 17 = .ok (.iconst 1, 1) := by decide +kernel
theorem dX9_isIn_18 : decode cX9_isIn 18 = .ok (.isub, 1) := by decide +kernel
theorem dX9_isIn_19 : decode cX9_isIn 19 = .ok (.i2l, 1) := by decide +kernel
theorem dX9_isIn_20 : decode cX9_isIn 20 = .ok (.invokestatic 138, 3) := by decide +kernel
theorem dX9_isIn_23 : decode cX9_isIn 23 = .ok (.ifCond .eq 7, 3) := by decide +kernel
theorem dX9_isIn_26 : decode cX9_isIn 26 = .ok (.iconst 1, 1) := by decide +kernel
theorem dX9_isIn_27 : decode cX9_isIn 27 = .ok (.goto 4, 3) := by decide +kernel
theorem dX9_isIn_30 : decode cX9_isIn 30 = .ok (.iconst 0, 1) := by decide +kernel
theorem dX9_isIn_31 : decode cX9_isIn 31 = .ok (.ireturn, 1) := by decide +kernel
theorem dX9_sheet_0 : decode cX9_sheet 0 = .ok (.iload_n 1, 1) := by decide +kernel
theorem dX9_sheet_1 : decode cX9_sheet 1 = .ok (.invokestatic 153, 3) := by decide +kernel
theorem dX9_sheet_4 : decode cX9_sheet 4 = .ok (.ifCond .ne 5, 3) := by decide +kernel
theorem dX9_sheet_7 : decode cX9_sheet 7 = .ok (.iconst (-1), 1) := by decide +kernel
theorem dX9_sheet_8 : decode cX9_sheet 8 = .ok (.ireturn, 1) := by decide +kernel
theorem dX9_sheet_9 : decode cX9_sheet 9 = .ok (.iload_n 2, 1) := by decide +kernel
theorem dX9_sheet_10 : decode cX9_sheet 10 = .ok (.ifCond .ge 6, 3) := by decide +kernel
theorem dX9_sheet_13 : decode cX9_sheet 13 = .ok (.bipush (-4), 2) := by decide +kernel
theorem dX9_sheet_15 : decode cX9_sheet 15 = .ok (.ireturn, 1) := by decide +kernel
theorem dX9_sheet_16 : decode cX9_sheet 16 = .ok (.iload_n 2, 1) := by decide +kernel
theorem dX9_sheet_17 : decode cX9_sheet 17 = .ok (.bipush 20, 2) := by decide +kernel
theorem dX9_sheet_19 : decode cX9_sheet 19 = .ok (.if_icmp .le 5, 3) := by decide +kernel
theorem dX9_sheet_22 : decode cX9_sheet 22 = .ok (.iconst (-1), 1) := by decide +kernel
theorem dX9_sheet_23 : decode cX9_sheet 23 = .ok (.ireturn, 1) := by decide +kernel
theorem dX9_sheet_24 : decode cX9_sheet 24 = .ok (.aload_n 0, 1) := by decide +kernel
theorem dX9_sheet_25 : decode cX9_sheet 25 = .ok (.getfield 7, 3) := by decide +kernel
theorem dX9_sheet_28 : decode cX9_sheet 28 = .ok (.iload_n 1, 1) := by decide +kernel
theorem dX9_sheet_29 : decode cX9_sheet 29 = .ok (.iload_n 2, 1) := by decide +kernel
theorem dX9_sheet_30 : decode cX9_sheet 30 = .ok (.iastore, 1) := by decide +kernel
theorem dX9_sheet_31 : decode cX9_sheet 31 = .ok (.iconst 0, 1) := by decide +kernel
theorem dX9_sheet_32 : decode cX9_sheet 32 = .ok (.istore_n 3, 1) := by decide +kernel
theorem dX9_sheet_33 : decode cX9_sheet 33 = .ok (.iload_n 3, 1) := by decide +kernel
theorem dX9_sheet_34 : decode cX9_sheet 34 = .ok (.iload_n 2, 1) := by decide +kernel
theorem dX9_sheet_35 : decode cX9_sheet 35 = .ok (.if_icmp .ge 33, 3) := by decide +kernel
theorem dX9_sheet_38 : decode cX9_sheet 38 = .ok (.aload_n 0, 1) := by decide +kernel
theorem dX9_sheet_39 : decode cX9_sheet 39 = .ok (.getfield 13, 3) := by decide +kernel
theorem dX9_sheet_42 : decode cX9_sheet 42 = .ok (.bipush 20, 2) := by decide +kernel
theorem dX9_sheet_44 : decode cX9_sheet 44 = .ok (.iload_n 1, 1) := by decide +kernel
theorem dX9_sheet_45 : decode cX9_sheet 45 = .ok (.imul, 1) := by decide +kernel
theorem dX9_sheet_46 : decode cX9_sheet 46 = .ok (.iload_n 3, 1) := by decide +kernel
theorem dX9_sheet_47 : decode cX9_sheet 47 = .ok (.iadd, 1) := by decide +kernel
theorem dX9_sheet_48 : decode cX9_sheet 48 = .ok (.fconst 0, 1) := by decide +kernel
theorem dX9_sheet_49 : decode cX9_sheet 49 = .ok (.fastore, 1) := by decide +kernel
theorem dX9_sheet_50 : decode cX9_sheet 50 = .ok (.aload_n 0, 1) := by decide +kernel
theorem dX9_sheet_51 : decode cX9_sheet 51 = .ok (.getfield 17, 3) := by decide +kernel
theorem dX9_sheet_54 : decode cX9_sheet 54 = .ok (.bipush 20, 2) := by decide +kernel
theorem dX9_sheet_56 : decode cX9_sheet 56 = .ok (.iload_n 1, 1) := by decide +kernel
theorem dX9_sheet_57 : decode cX9_sheet 57 = .ok (.imul, 1) := by decide +kernel
theorem dX9_sheet_58 : decode cX9_sheet 58 = .ok (.iload_n 3, 1) := by decide +kernel
theorem dX9_sheet_59 : decode cX9_sheet 59 = .ok (.iadd, 1) := by decide +kernel
theorem dX9_sheet_60 : decode cX9_sheet 60 = .ok (.iconst 0, 1) := by decide +kernel
theorem dX9_sheet_61 : decode cX9_sheet 61 = .ok (.bastore, 1) := by decide +kernel
theorem dX9_sheet_62 : decode cX9_sheet 62 = .ok (.iinc 3 1, 3) := by decide +kernel
theorem dX9_sheet_65 : decode cX9_sheet 65 = .ok (.goto (-32), 3) := by decide +kernel
theorem dX9_sheet_68 : decode cX9_sheet 68 = .ok (.iconst 1, 1) := by decide +kernel
theorem dX9_sheet_69 : decode cX9_sheet 69 = .ok (.ireturn, 1) := by decide +kernel
theorem dX9_cell_0 : decode cX9_cell 0 = .ok (.iload_n 1, 1) := by decide +kernel
theorem dX9_cell_1 : decode cX9_cell 1 = .ok (.invokestatic 153, 3) := by decide +kernel
theorem dX9_cell_4 : decode cX9_cell 4 = .ok (.ifCond .eq 16, 3) := by decide +kernel
theorem dX9_cell_7 : decode cX9_cell 7 = .ok (.iload 4, 2) := by decide +kernel
theorem dX9_cell_9 : decode cX9_cell 9 = .ok (.i2l, 1) := by decide +kernel
theorem dX9_cell_10 : decode cX9_cell 10 = .ok (.lconst 0, 1) := by decide +kernel
theorem dX9_cell_11 : decode cX9_cell 11 = .ok (.ldc2_w 156, 3) := by decide +kernel
theorem dX9_cell_14 : decode cX9_cell 14 = .ok (.invokestatic 138, 3) := by decide +kernel
theorem dX9_cell_17 : decode cX9_cell 17 = .ok (.ifCond .ne 5, 3) := by decide +kernel
theorem dX9_cell_20 : decode cX9_cell 20 = .ok (.iconst (-1), 1) := by decide +kernel
theorem dX9_cell_21 : decode cX9_cell 21 = .ok (.ireturn, 1) := by decide +kernel
theorem dX9_cell_22 : decode cX9_cell 22 = .ok (.aload_n 0, 1) := by decide +kernel
theorem dX9_cell_23 : decode cX9_cell 23 = .ok (.getfield 7, 3) := by decide +kernel
theorem dX9_cell_26 : decode cX9_cell 26 = .ok (.iload_n 1, 1) := by decide +kernel
theorem dX9_cell_27 : decode cX9_cell 27 = .ok (.iaload, 1) := by decide +kernel
theorem dX9_cell_28 : decode cX9_cell 28 = .ok (.ifCond .ge 6, 3) := by decide +kernel
theorem dX9_cell_31 : decode cX9_cell 31 = .ok (.bipush (-3), 2) := by decide +kernel
theorem dX9_cell_33 : decode cX9_cell 33 = .ok (.ireturn, 1) := by decide +kernel
theorem dX9_cell_34 : decode cX9_cell 34 = .ok (.iload_n 2, 1) := by decide +kernel
theorem dX9_cell_35 : decode cX9_cell 35 = .ok (.i2l, 1) := by decide +kernel
theorem dX9_cell_36 : decode cX9_cell 36 = .ok (.lconst 0, 1) := by decide +kernel
theorem dX9_cell_37 : decode cX9_cell 37 = .ok (.aload_n 0, 1) := by decide +kernel
theorem dX9_cell_38 : decode cX9_cell 38 = .ok (.getfield 7, 3) := by decide +kernel
theorem dX9_cell_41 : decode cX9_cell 41 = .ok (.iload_n 1, 1) := by decide +kernel
theorem dX9_cell_42 : decode cX9_cell 42 = .ok (.iaload, 1) := by decide +kernel
theorem dX9_cell_43 : decode cX9_cell 43 = .ok (.iconst 1, 1) := by decide +kernel
theorem dX9_cell_44 : decode cX9_cell 44 = .ok (.isub, 1) := by decide +kernel
theorem dX9_cell_45 : decode cX9_cell 45 = .ok (.i2l, 1) := by decide +kernel
theorem dX9_cell_46 : decode cX9_cell 46 = .ok (.invokestatic 138, 3) := by decide +kernel
theorem dX9_cell_49 : decode cX9_cell 49 = .ok (.ifCond .ne 5, 3) := by decide +kernel
theorem dX9_cell_52 : decode cX9_cell 52 = .ok (.iconst (-1), 1) := by decide +kernel
theorem dX9_cell_53 : decode cX9_cell 53 = .ok (.ireturn, 1) := by decide +kernel
theorem dX9_cell_54 : decode cX9_cell 54 = .ok (.aload_n 0, 1) := by decide +kernel
theorem dX9_cell_55 : decode cX9_cell 55 = .ok (.getfield 13, 3) := by decide +kernel
theorem dX9_cell_58 : decode cX9_cell 58 = .ok (.bipush 20, 2) := by decide +kernel
theorem dX9_cell_60 : decode cX9_cell 60 = .ok (.iload_n 1, 1) := by decide +kernel
theorem dX9_cell_61 : decode cX9_cell 61 = .ok (.imul, 1) := by decide +kernel
theorem dX9_cell_62 : decode cX9_cell 62 = .ok (.iload_n 2, 1) := by decide +kernel
theorem dX9_cell_63 : decode cX9_cell 63 = .ok (.iadd, 1) := by decide +kernel
theorem dX9_cell_64 : decode cX9_cell 64 = .ok (.iload_n 3, 1) := by decide +kernel
theorem dX9_cell_65 : decode cX9_cell 65 = .ok (.i2f, 1) := by decide +kernel
theorem dX9_cell_66 : decode cX9_cell 66 = .ok (.iconst 1, 1) := by decide +kernel
theorem dX9_cell_67 : decode cX9_cell 67 = .ok (.iload 4, 2) := by decide +kernel
theorem dX9_cell_69 : decode cX9_cell 69 = .ok (.ishl, 1) := by decide +kernel
theorem dX9_cell_70 : decode cX9_cell 70 = .ok (.i2f, 1) := by decide +kernel
theorem dX9_cell_71 : decode cX9_cell 71 = .ok (.fdiv, 1) := by decide +kernel
theorem dX9_cell_72 : decode cX9_cell 72 = .ok (.fastore, 1) := by decide +kernel
theorem dX9_cell_73 : decode cX9_cell 73 = .ok (.aload_n 0, 1) := by decide +kernel
theorem dX9_cell_74 : decode cX9_cell 74 = .ok (.getfield 17, 3) := by decide +kernel
theorem dX9_cell_77 : decode cX9_cell 77 = .ok (.bipush 20, 2) := by decide +kernel
theorem dX9_cell_79 : decode cX9_cell 79 = .ok (.iload_n 1, 1) := by decide +kernel
theorem dX9_cell_80 : decode cX9_cell 80 = .ok (.imul, 1) := by decide +kernel
theorem dX9_cell_81 : decode cX9_cell 81 = .ok (.iload_n 2, 1) := by decide +kernel
theorem dX9_cell_82 : decode cX9_cell 82 = .ok (.iadd, 1) := by decide +kernel
theorem dX9_cell_83 : decode cX9_cell 83 = .ok (.iconst 0, 1) := by decide +kernel
theorem dX9_cell_84 : decode cX9_cell 84 = .ok (.bastore, 1) := by decide +kernel
theorem dX9_cell_85 : decode cX9_cell 85 = .ok (.iconst 1, 1) := by decide +kernel
theorem dX9_cell_86 : decode cX9_cell 86 = .ok (.ireturn, 1) := by decide +kernel
theorem dX9_gap_0 : decode cX9_gap 0 = .ok (.iload_n 1, 1) := by decide +kernel
theorem dX9_gap_1 : decode cX9_gap 1 = .ok (.invokestatic 153, 3) := by decide +kernel
theorem dX9_gap_4 : decode cX9_gap 4 = .ok (.ifCond .ne 5, 3) := by decide +kernel
theorem dX9_gap_7 : decode cX9_gap 7 = .ok (.iconst (-1), 1) := by decide +kernel
theorem dX9_gap_8 : decode cX9_gap 8 = .ok (.ireturn, 1) := by decide +kernel
theorem dX9_gap_9 : decode cX9_gap 9 = .ok (.aload_n 0, 1) := by decide +kernel
theorem dX9_gap_10 : decode cX9_gap 10 = .ok (.getfield 7, 3) := by decide +kernel
theorem dX9_gap_13 : decode cX9_gap 13 = .ok (.iload_n 1, 1) := by decide +kernel
theorem dX9_gap_14 : decode cX9_gap 14 = .ok (.iaload, 1) := by decide +kernel
theorem dX9_gap_15 : decode cX9_gap 15 = .ok (.ifCond .ge 6, 3) := by decide +kernel
theorem dX9_gap_18 : decode cX9_gap 18 = .ok (.bipush (-3), 2) := by decide +kernel
theorem dX9_gap_20 : decode cX9_gap 20 = .ok (.ireturn, 1) := by decide +kernel
theorem dX9_gap_21 : decode cX9_gap 21 = .ok (.iload_n 2, 1) := by decide +kernel
theorem dX9_gap_22 : decode cX9_gap 22 = .ok (.i2l, 1) := by decide +kernel
theorem dX9_gap_23 : decode cX9_gap 23 = .ok (.lconst 0, 1) := by decide +kernel
theorem dX9_gap_24 : decode cX9_gap 24 = .ok (.aload_n 0, 1) := by decide +kernel
theorem dX9_gap_25 : decode cX9_gap 25 = .ok (.getfield 7, 3) := by decide +kernel
theorem dX9_gap_28 : decode cX9_gap 28 = .ok (.iload_n 1, 1) := by decide +kernel
theorem dX9_gap_29 : decode cX9_gap 29 = .ok (.iaload, 1) := by decide +kernel
theorem dX9_gap_30 : decode cX9_gap 30 = .ok (.iconst 1, 1) := by decide +kernel
theorem dX9_gap_31 : decode cX9_gap 31 = .ok (.isub, 1) := by decide +kernel
theorem dX9_gap_32 : decode cX9_gap 32 = .ok (.i2l, 1) := by decide +kernel
theorem dX9_gap_33 : decode cX9_gap 33 = .ok (.invokestatic 138, 3) := by decide +kernel
theorem dX9_gap_36 : decode cX9_gap 36 = .ok (.ifCond .ne 5, 3) := by decide +kernel
theorem dX9_gap_39 : decode cX9_gap 39 = .ok (.iconst (-1), 1) := by decide +kernel
theorem dX9_gap_40 : decode cX9_gap 40 = .ok (.ireturn, 1) := by decide +kernel
theorem dX9_gap_41 : decode cX9_gap 41 = .ok (.aload_n 0, 1) := by decide +kernel
theorem dX9_gap_42 : decode cX9_gap 42 = .ok (.getfield 17, 3) := by decide +kernel
theorem dX9_gap_45 : decode cX9_gap 45 = .ok (.bipush 20, 2) := by decide +kernel
theorem dX9_gap_47 : decode cX9_gap 47 = .ok (.iload_n 1, 1) := by decide +kernel
theorem dX9_gap_48 : decode cX9_gap 48 = .ok (.imul, 1) := by decide +kernel
theorem dX9_gap_49 : decode cX9_gap 49 = .ok (.iload_n 2, 1) := by decide +kernel
theorem dX9_gap_50 : decode cX9_gap 50 = .ok (.iadd, 1) := by decide +kernel
theorem dX9_gap_51 : decode cX9_gap 51 = .ok (.iconst 1, 1) := by decide +kernel
theorem dX9_gap_52 : decode cX9_gap 52 = .ok (.bastore, 1) := by decide +kernel
theorem dX9_gap_53 : decode cX9_gap 53 = .ok (.iconst 1, 1) := by decide +kernel
theorem dX9_gap_54 : decode cX9_gap 54 = .ok (.ireturn, 1) := by decide +kernel
theorem dX9_lose_0 : decode cX9_lose 0 = .ok (.iload_n 1, 1) := by decide +kernel
theorem dX9_lose_1 : decode cX9_lose 1 = .ok (.invokestatic 153, 3) := by decide +kernel
theorem dX9_lose_4 : decode cX9_lose 4 = .ok (.ifCond .ne 5, 3) := by decide +kernel
theorem dX9_lose_7 : decode cX9_lose 7 = .ok (.iconst (-1), 1) := by decide +kernel
theorem dX9_lose_8 : decode cX9_lose 8 = .ok (.ireturn, 1) := by decide +kernel
theorem dX9_lose_9 : decode cX9_lose 9 = .ok (.aload_n 0, 1) := by decide +kernel
theorem dX9_lose_10 : decode cX9_lose 10 = .ok (.getfield 7, 3) := by decide +kernel
theorem dX9_lose_13 : decode cX9_lose 13 = .ok (.iload_n 1, 1) := by decide +kernel
theorem dX9_lose_14 : decode cX9_lose 14 = .ok (.iaload, 1) := by decide +kernel
theorem dX9_lose_15 : decode cX9_lose 15 = .ok (.ifCond .ge 6, 3) := by decide +kernel
theorem dX9_lose_18 : decode cX9_lose 18 = .ok (.bipush (-3), 2) := by decide +kernel
theorem dX9_lose_20 : decode cX9_lose 20 = .ok (.ireturn, 1) := by decide +kernel
theorem dX9_lose_21 : decode cX9_lose 21 = .ok (.aload_n 0, 1) := by decide +kernel
theorem dX9_lose_22 : decode cX9_lose 22 = .ok (.getfield 7, 3) := by decide +kernel
theorem dX9_lose_25 : decode cX9_lose 25 = .ok (.iload_n 1, 1) := by decide +kernel
theorem dX9_lose_26 : decode cX9_lose 26 = .ok (.iconst (-1), 1) := by decide +kernel
theorem dX9_lose_27 : decode cX9_lose 27 = .ok (.iastore, 1) := by decide +kernel
theorem dX9_lose_28 : decode cX9_lose 28 = .ok (.iconst 1, 1) := by decide +kernel
theorem dX9_lose_29 : decode cX9_lose 29 = .ok (.ireturn, 1) := by decide +kernel
theorem dX9_nearest_0 : decode cX9_nearest 0 = .ok (.iload_n 2, 1) := by decide +kernel
theorem dX9_nearest_1 : decode cX9_nearest 1 = .ok (.istore 4, 2) := by decide +kernel
theorem dX9_nearest_3 : decode cX9_nearest 3 = .ok (.iload 4, 2) := by decide +kernel
theorem dX9_nearest_5 : decode cX9_nearest 5 = .ok (.ifCond .lt 38, 3) := by decide +kernel
theorem dX9_nearest_8 : decode cX9_nearest 8 = .ok (.iload 4, 2) := by decide +kernel
theorem dX9_nearest_10 : decode cX9_nearest 10 = .ok (.aload_n 0, 1) := by decide +kernel
theorem dX9_nearest_11 : decode cX9_nearest 11 = .ok (.getfield 7, 3) := by decide +kernel
theorem dX9_nearest_14 : decode cX9_nearest 14 = .ok (.iload_n 1, 1) := by decide +kernel
theorem dX9_nearest_15 : decode cX9_nearest 15 = .ok (.iaload, 1) := by decide +kernel
theorem dX9_nearest_16 : decode cX9_nearest 16 = .ok (.if_icmp .ge 27, 3) := by decide +kernel
theorem dX9_nearest_19 : decode cX9_nearest 19 = .ok (.aload_n 0, 1) := by decide +kernel
theorem dX9_nearest_20 : decode cX9_nearest 20 = .ok (.getfield 17, 3) := by decide +kernel
theorem dX9_nearest_23 : decode cX9_nearest 23 = .ok (.bipush 20, 2) := by decide +kernel
theorem dX9_nearest_25 : decode cX9_nearest 25 = .ok (.iload_n 1, 1) := by decide +kernel
theorem dX9_nearest_26 : decode cX9_nearest 26 = .ok (.imul, 1) := by decide +kernel
theorem dX9_nearest_27 : decode cX9_nearest 27 = .ok (.iload 4, 2) := by decide +kernel
theorem dX9_nearest_29 : decode cX9_nearest 29 = .ok (.iadd, 1) := by decide +kernel
theorem dX9_nearest_30 : decode cX9_nearest 30 = .ok (.baload, 1) := by decide +kernel
theorem dX9_nearest_31 : decode cX9_nearest 31 = .ok (.ifCond .eq 12, 3) := by decide +kernel
theorem dX9_nearest_34 : decode cX9_nearest 34 = .ok (.iload 4, 2) := by decide +kernel
theorem dX9_nearest_36 : decode cX9_nearest 36 = .ok (.iload_n 3, 1) := by decide +kernel
theorem dX9_nearest_37 : decode cX9_nearest 37 = .ok (.iadd, 1) := by decide +kernel
theorem dX9_nearest_38 : decode cX9_nearest 38 = .ok (.istore 4, 2) := by decide +kernel
theorem dX9_nearest_40 : decode cX9_nearest 40 = .ok (.goto (-37), 3) := by decide +kernel
theorem dX9_nearest_43 : decode cX9_nearest 43 = .ok (.iload 4, 2) := by decide +kernel
theorem dX9_nearest_45 : decode cX9_nearest 45 = .ok (.ifCond .lt 19, 3) := by decide +kernel
theorem dX9_nearest_48 : decode cX9_nearest 48 = .ok (.iload 4, 2) := by decide +kernel
theorem dX9_nearest_50 : decode cX9_nearest 50 = .ok (.aload_n 0, 1) := by decide +kernel
theorem dX9_nearest_51 : decode cX9_nearest 51 = .ok (.getfield 7, 3) := by decide +kernel
theorem dX9_nearest_54 : decode cX9_nearest 54 = .ok (.iload_n 1, 1) := by decide +kernel
theorem dX9_nearest_55 : decode cX9_nearest 55 = .ok (.iaload, 1) := by decide +kernel
theorem dX9_nearest_56 : decode cX9_nearest 56 = .ok (.if_icmp .ge 8, 3) := by decide +kernel
theorem dX9_nearest_59 : decode cX9_nearest 59 = .ok (.iload 4, 2) := by decide +kernel
theorem dX9_nearest_61 : decode cX9_nearest 61 = .ok (.goto 4, 3) := by decide +kernel
theorem dX9_nearest_64 : decode cX9_nearest 64 = .ok (.iconst (-1), 1) := by decide +kernel
theorem dX9_nearest_65 : decode cX9_nearest 65 = .ok (.ireturn, 1) := by decide +kernel
theorem dX9_filled_0 : decode cX9_filled 0 = .ok (.aload_n 0, 1) := by decide +kernel
theorem dX9_filled_1 : decode cX9_filled 1 = .ok (.iload_n 1, 1) := by decide +kernel
theorem dX9_filled_2 : decode cX9_filled 2 = .ok (.iload_n 2, 1) := by decide +kernel
theorem dX9_filled_3 : decode cX9_filled 3 = .ok (.iconst (-1), 1) := by decide +kernel
theorem dX9_filled_4 : decode cX9_filled 4 = .ok (.invokevirtual 158, 3) := by decide +kernel
theorem dX9_filled_7 : decode cX9_filled 7 = .ok (.istore_n 3, 1) := by decide +kernel
theorem dX9_filled_8 : decode cX9_filled 8 = .ok (.aload_n 0, 1) := by decide +kernel
theorem dX9_filled_9 : decode cX9_filled 9 = .ok (.iload_n 1, 1) := by decide +kernel
theorem dX9_filled_10 : decode cX9_filled 10 = .ok (.iload_n 2, 1) := by decide +kernel
theorem dX9_filled_11 : decode cX9_filled 11 = .ok (.iconst 1, 1) := by decide +kernel
theorem dX9_filled_12 : decode cX9_filled 12 = .ok (.invokevirtual 158, 3) := by decide +kernel
theorem dX9_filled_15 : decode cX9_filled 15 = .ok (.istore 4, 2) := by decide +kernel
theorem dX9_filled_17 : decode cX9_filled 17 = .ok (.iload_n 3, 1) := by decide +kernel
theorem dX9_filled_18 : decode cX9_filled 18 = .ok (.ifCond .ge 10, 3) := by decide +kernel
theorem dX9_filled_21 : decode cX9_filled 21 = .ok (.iload 4, 2) := by decide +kernel
theorem dX9_filled_23 : decode cX9_filled 23 = .ok (.ifCond .ge 5, 3) := by decide +kernel
theorem dX9_filled_26 : decode cX9_filled 26 = .ok (.fconst 0, 1) := by decide +kernel
theorem dX9_filled_27 : decode cX9_filled 27 = .ok (.freturn, 1) := by decide +kernel
theorem dX9_filled_28 : decode cX9_filled 28 = .ok (.iload_n 3, 1) := by decide +kernel
theorem dX9_filled_29 : decode cX9_filled 29 = .ok (.ifCond .lt 14, 3) := by decide +kernel
theorem dX9_filled_32 : decode cX9_filled 32 = .ok (.iload 4, 2) := by decide +kernel
theorem dX9_filled_34 : decode cX9_filled 34 = .ok (.ifCond .lt 9, 3) := by decide +kernel
theorem dX9_filled_37 : decode cX9_filled 37 = .ok (.iload_n 3, 1) := by decide +kernel
theorem dX9_filled_38 : decode cX9_filled 38 = .ok (.iload 4, 2) := by decide +kernel
theorem dX9_filled_40 : decode cX9_filled 40 = .ok (.if_icmp .ne 24, 3) := by decide +kernel
theorem dX9_filled_43 : decode cX9_filled 43 = .ok (.aload_n 0, 1) := by decide +kernel
theorem dX9_filled_44 : decode cX9_filled 44 = .ok (.getfield 13, 3) := by decide +kernel
theorem dX9_filled_47 : decode cX9_filled 47 = .ok (.bipush 20, 2) := by decide +kernel
theorem dX9_filled_49 : decode cX9_filled 49 = .ok (.iload_n 1, 1) := by decide +kernel
theorem dX9_filled_50 : decode cX9_filled 50 = .ok (.imul, 1) := by decide +kernel
theorem dX9_filled_51 : decode cX9_filled 51 = .ok (.iload_n 3, 1) := by decide +kernel
theorem dX9_filled_52 : decode cX9_filled 52 = .ok (.ifCond .ge 8, 3) := by decide +kernel
theorem dX9_filled_55 : decode cX9_filled 55 = .ok (.iload 4, 2) := by decide +kernel
theorem dX9_filled_57 : decode cX9_filled 57 = .ok (.goto 4, 3) := by decide +kernel
theorem dX9_filled_60 : decode cX9_filled 60 = .ok (.iload_n 3, 1) := by decide +kernel
theorem dX9_filled_61 : decode cX9_filled 61 = .ok (.iadd, 1) := by decide +kernel
theorem dX9_filled_62 : decode cX9_filled 62 = .ok (.faload, 1) := by decide +kernel
theorem dX9_filled_63 : decode cX9_filled 63 = .ok (.freturn, 1) := by decide +kernel
theorem dX9_filled_64 : decode cX9_filled 64 = .ok (.aload_n 0, 1) := by decide +kernel
theorem dX9_filled_65 : decode cX9_filled 65 = .ok (.getfield 13, 3) := by decide +kernel
theorem dX9_filled_68 : decode cX9_filled 68 = .ok (.bipush 20, 2) := by decide +kernel
theorem dX9_filled_70 : decode cX9_filled 70 = .ok (.iload_n 1, 1) := by decide +kernel
theorem dX9_filled_71 : decode cX9_filled 71 = .ok (.imul, 1) := by decide +kernel
theorem dX9_filled_72 : decode cX9_filled 72 = .ok (.iload_n 3, 1) := by decide +kernel
theorem dX9_filled_73 : decode cX9_filled 73 = .ok (.iadd, 1) := by decide +kernel
theorem dX9_filled_74 : decode cX9_filled 74 = .ok (.faload, 1) := by decide +kernel
theorem dX9_filled_75 : decode cX9_filled 75 = .ok (.aload_n 0, 1) := by decide +kernel
theorem dX9_filled_76 : decode cX9_filled 76 = .ok (.getfield 13, 3) := by decide +kernel
theorem dX9_filled_79 : decode cX9_filled 79 = .ok (.bipush 20, 2) := by decide +kernel
theorem dX9_filled_81 : decode cX9_filled 81 = .ok (.iload_n 1, 1) := by decide +kernel
theorem dX9_filled_82 : decode cX9_filled 82 = .ok (.imul, 1) := by decide +kernel
theorem dX9_filled_83 : decode cX9_filled 83 = .ok (.iload 4, 2) := by decide +kernel
theorem dX9_filled_85 : decode cX9_filled 85 = .ok (.iadd, 1) := by decide +kernel
theorem dX9_filled_86 : decode cX9_filled 86 = .ok (.faload, 1) := by decide +kernel
theorem dX9_filled_87 : decode cX9_filled 87 = .ok (.fadd, 1) := by decide +kernel
theorem dX9_filled_88 : decode cX9_filled 88 = .ok (.fconst 2, 1) := by decide +kernel
theorem dX9_filled_89 : decode cX9_filled 89 = .ok (.fdiv, 1) := by decide +kernel
theorem dX9_filled_90 : decode cX9_filled 90 = .ok (.freturn, 1) := by decide +kernel
theorem dX9_told_0 : decode cX9_told 0 = .ok (.iload_n 1, 1) := by decide +kernel
theorem dX9_told_1 : decode cX9_told 1 = .ok (.invokestatic 153, 3) := by decide +kernel
theorem dX9_told_4 : decode cX9_told 4 = .ok (.ifCond .eq 21, 3) := by decide +kernel
theorem dX9_told_7 : decode cX9_told 7 = .ok (.iload_n 2, 1) := by decide +kernel
theorem dX9_told_8 : decode cX9_told 8 = .ok (.i2l, 1) := by decide +kernel
theorem dX9_told_9 : decode cX9_told 9 = .ok (.lconst 0, 1) := by decide +kernel
theorem dX9_told_10 : decode cX9_told 10 = .ok (.aload_n 0, 1) := by decide +kernel
theorem dX9_told_11 : decode cX9_told 11 = .ok (.getfield 7, 3) := by decide +kernel
theorem dX9_told_14 : decode cX9_told 14 = .ok (.iload_n 1, 1) := by decide +kernel
theorem dX9_told_15 : decode cX9_told 15 = .ok (.iaload, 1) := by decide +kernel
theorem dX9_told_16 : decode cX9_told 16 = .ok (.iconst 1, 1) := by decide +kernel
theorem dX9_told_17 : decode cX9_told 17 = .ok (.isub, 1) := by decide +kernel
theorem dX9_told_18 : decode cX9_told 18 = .ok (.i2l, 1) := by decide +kernel
theorem dX9_told_19 : decode cX9_told 19 = .ok (.invokestatic 138, 3) := by decide +kernel
theorem dX9_told_22 : decode cX9_told 22 = .ok (.ifCond .ne 6, 3) := by decide +kernel
theorem dX9_told_25 : decode cX9_told 25 = .ok (.ldc 164, 2) := by decide +kernel
theorem dX9_told_27 : decode cX9_told 27 = .ok (.ireturn, 1) := by decide +kernel
theorem dX9_told_28 : decode cX9_told 28 = .ok (.aload_n 0, 1) := by decide +kernel
theorem dX9_told_29 : decode cX9_told 29 = .ok (.iload_n 1, 1) := by decide +kernel
theorem dX9_told_30 : decode cX9_told 30 = .ok (.iload_n 2, 1) := by decide +kernel
theorem dX9_told_31 : decode cX9_told 31 = .ok (.invokevirtual 165, 3) := by decide +kernel
theorem dX9_told_34 : decode cX9_told 34 = .ok (.ldc 169, 2) := by decide +kernel
theorem dX9_told_36 : decode cX9_told 36 = .ok (.fmul, 1) := by decide +kernel
theorem dX9_told_37 : decode cX9_told 37 = .ok (.f2i, 1) := by decide +kernel
theorem dX9_told_38 : decode cX9_told 38 = .ok (.ireturn, 1) := by decide +kernel
theorem dX9_tenTimes_0 : decode cX9_tenTimes 0 = .ok (.iload_n 2, 1) := by decide +kernel
theorem dX9_tenTimes_1 : decode cX9_tenTimes 1 = .ok (.aload_n 0, 1) := by decide +kernel
theorem dX9_tenTimes_2 : decode cX9_tenTimes 2 = .ok (.getfield 7, 3) := by decide +kernel
theorem dX9_tenTimes_5 : decode cX9_tenTimes 5 = .ok (.iload_n 1, 1) := by decide +kernel
theorem dX9_tenTimes_6 : decode cX9_tenTimes 6 = .ok (.iaload, 1) := by decide +kernel
theorem dX9_tenTimes_7 : decode cX9_tenTimes 7 = .ok (.if_icmp .ge 7, 3) := by decide +kernel
theorem dX9_tenTimes_10 : decode cX9_tenTimes 10 = .ok (.iload_n 2, 1) := by decide +kernel
theorem dX9_tenTimes_11 : decode cX9_tenTimes 11 = .ok (.goto 11, 3) := by decide +kernel
theorem dX9_tenTimes_14 : decode cX9_tenTimes 14 = .ok (.aload_n 0, 1) := by decide +kernel
theorem dX9_tenTimes_15 : decode cX9_tenTimes 15 = .ok (.getfield 7, 3) := by decide +kernel
theorem dX9_tenTimes_18 : decode cX9_tenTimes 18 = .ok (.iload_n 1, 1) := by decide +kernel
theorem dX9_tenTimes_19 : decode cX9_tenTimes 19 = .ok (.iaload, 1) := by decide +kernel
theorem dX9_tenTimes_20 : decode cX9_tenTimes 20 = .ok (.iconst 1, 1) := by decide +kernel
theorem dX9_tenTimes_21 : decode cX9_tenTimes 21 = .ok (.isub, 1) := by decide +kernel
theorem dX9_tenTimes_22 : decode cX9_tenTimes 22 = .ok (.istore_n 3, 1) := by decide +kernel
theorem dX9_tenTimes_23 : decode cX9_tenTimes 23 = .ok (.aload_n 0, 1) := by decide +kernel
theorem dX9_tenTimes_24 : decode cX9_tenTimes 24 = .ok (.iload_n 1, 1) := by decide +kernel
theorem dX9_tenTimes_25 : decode cX9_tenTimes 25 = .ok (.iload_n 3, 1) := by decide +kernel
theorem dX9_tenTimes_26 : decode cX9_tenTimes 26 = .ok (.invokevirtual 165, 3) := by decide +kernel
theorem dX9_tenTimes_29 : decode cX9_tenTimes 29 = .ok (.ldc 170, 2) := by decide +kernel
theorem dX9_tenTimes_31 : decode cX9_tenTimes 31 = .ok (.fmul, 1) := by decide +kernel
theorem dX9_tenTimes_32 : decode cX9_tenTimes 32 = .ok (.f2i, 1) := by decide +kernel
theorem dX9_tenTimes_33 : decode cX9_tenTimes 33 = .ok (.ireturn, 1) := by decide +kernel
theorem dX9_winds_0 : decode cX9_winds 0 = .ok (.iload_n 1, 1) := by decide +kernel
theorem dX9_winds_1 : decode cX9_winds 1 = .ok (.invokestatic 153, 3) := by decide +kernel
theorem dX9_winds_4 : decode cX9_winds 4 = .ok (.ifCond .eq 10, 3) := by decide +kernel
theorem dX9_winds_7 : decode cX9_winds 7 = .ok (.iload_n 2, 1) := by decide +kernel
theorem dX9_winds_8 : decode cX9_winds 8 = .ok (.invokestatic 153, 3) := by decide +kernel
theorem dX9_winds_11 : decode cX9_winds 11 = .ok (.ifCond .ne 5, 3) := by decide +kernel
theorem dX9_winds_14 : decode cX9_winds 14 = .ok (.iconst (-1), 1) := by decide +kernel
theorem dX9_winds_15 : decode cX9_winds 15 = .ok (.ireturn, 1) := by decide +kernel
theorem dX9_winds_16 : decode cX9_winds 16 = .ok (.aload_n 0, 1) := by decide +kernel
theorem dX9_winds_17 : decode cX9_winds 17 = .ok (.getfield 7, 3) := by decide +kernel
theorem dX9_winds_20 : decode cX9_winds 20 = .ok (.iload_n 1, 1) := by decide +kernel
theorem dX9_winds_21 : decode cX9_winds 21 = .ok (.iaload, 1) := by decide +kernel
theorem dX9_winds_22 : decode cX9_winds 22 = .ok (.ifCond .lt 12, 3) := by decide +kernel
theorem dX9_winds_25 : decode cX9_winds 25 = .ok (.aload_n 0, 1) := by decide +kernel
theorem dX9_winds_26 : decode cX9_winds 26 = .ok (.getfield 7, 3) := by decide +kernel
theorem dX9_winds_29 : decode cX9_winds 29 = .ok (.iload_n 2, 1) := by decide +kernel
theorem dX9_winds_30 : decode cX9_winds 30 = .ok (.iaload, 1) := by decide +kernel
theorem dX9_winds_31 : decode cX9_winds 31 = .ok (.ifCond .ge 6, 3) := by decide +kernel
theorem dX9_winds_34 : decode cX9_winds 34 = .ok (.bipush (-3), 2) := by decide +kernel
theorem dX9_winds_36 : decode cX9_winds 36 = .ok (.ireturn, 1) := by decide +kernel
theorem dX9_winds_37 : decode cX9_winds 37 = .ok (.aload_n 0, 1) := by decide +kernel
theorem dX9_winds_38 : decode cX9_winds 38 = .ok (.getfield 7, 3) := by decide +kernel
theorem dX9_winds_41 : decode cX9_winds 41 = .ok (.iload_n 1, 1) := by decide +kernel
theorem dX9_winds_42 : decode cX9_winds 42 = .ok (.iaload, 1) := by decide +kernel
theorem dX9_winds_43 : decode cX9_winds 43 = .ok (.ifCond .le 16, 3) := by decide +kernel
theorem dX9_winds_46 : decode cX9_winds 46 = .ok (.aload_n 0, 1) := by decide +kernel
theorem dX9_winds_47 : decode cX9_winds 47 = .ok (.getfield 7, 3) := by decide +kernel
theorem dX9_winds_50 : decode cX9_winds 50 = .ok (.iload_n 2, 1) := by decide +kernel
theorem dX9_winds_51 : decode cX9_winds 51 = .ok (.iaload, 1) := by decide +kernel
theorem dX9_winds_52 : decode cX9_winds 52 = .ok (.ifCond .le 7, 3) := by decide +kernel
theorem dX9_winds_55 : decode cX9_winds 55 = .ok (.iconst 1, 1) := by decide +kernel
theorem dX9_winds_56 : decode cX9_winds 56 = .ok (.goto 4, 3) := by decide +kernel
theorem dX9_winds_59 : decode cX9_winds 59 = .ok (.iconst 0, 1) := by decide +kernel
theorem dX9_winds_60 : decode cX9_winds 60 = .ok (.istore_n 3, 1) := by decide +kernel
theorem dX9_winds_61 : decode cX9_winds 61 = .ok (.iconst 0, 1) := by decide +kernel
theorem dX9_winds_62 : decode cX9_winds 62 = .ok (.istore 4, 2) := by decide +kernel
theorem dX9_winds_64 : decode cX9_winds 64 = .ok (.iload 4, 2) := by decide +kernel
theorem dX9_winds_66 : decode cX9_winds 66 = .ok (.bipush 12, 2) := by decide +kernel
theorem dX9_winds_68 : decode cX9_winds 68 = .ok (.if_icmp .ge 59, 3) := by decide +kernel
theorem dX9_winds_71 : decode cX9_winds 71 = .ok (.iload_n 3, 1) := by decide +kernel
theorem dX9_winds_72 : decode cX9_winds 72 = .ok (.ifCond .eq 55, 3) := by decide +kernel
theorem dX9_winds_75 : decode cX9_winds 75 = .ok (.aload_n 0, 1) := by decide +kernel
theorem dX9_winds_76 : decode cX9_winds 76 = .ok (.iload_n 1, 1) := by decide +kernel
theorem dX9_winds_77 : decode cX9_winds 77 = .ok (.iload 4, 2) := by decide +kernel
theorem dX9_winds_79 : decode cX9_winds 79 = .ok (.invokevirtual 171, 3) := by decide +kernel
theorem dX9_winds_82 : decode cX9_winds 82 = .ok (.i2l, 1) := by decide +kernel
theorem dX9_winds_83 : decode cX9_winds 83 = .ok (.ldc2_w 175, 3) := by decide +kernel
theorem dX9_winds_86 : decode cX9_winds 86 = .ok (.ldc2_w 177, 3) := by decide +kernel
theorem dX9_winds_89 : decode cX9_winds 89 = .ok (.invokestatic 138, 3) := by decide +kernel
theorem dX9_winds_92 : decode cX9_winds 92 = .ok (.ifCond .eq 27, 3) := by decide +kernel
theorem dX9_winds_95 : decode cX9_winds 95 = .ok (.aload_n 0, 1) := by decide +kernel
theorem dX9_winds_96 : decode cX9_winds 96 = .ok (.iload_n 2, 1) := by decide +kernel
theorem dX9_winds_97 : decode cX9_winds 97 = .ok (.iload 4, 2) := by decide +kernel
theorem dX9_winds_99 : decode cX9_winds 99 = .ok (.invokevirtual 171, 3) := by decide +kernel
theorem dX9_winds_102 : decode cX9_winds 102 = .ok (.i2l, 1) := by decide +kernel
theorem dX9_winds_103 : decode cX9_winds 103 = .ok (.ldc2_w 175, 3) := by decide +kernel
theorem dX9_winds_106 : decode cX9_winds 106 = .ok (.ldc2_w 177, 3) := by decide +kernel
theorem dX9_winds_109 : decode cX9_winds 109 = .ok (.invokestatic 138, 3) := by decide +kernel
theorem dX9_winds_112 : decode cX9_winds 112 = .ok (.ifCond .eq 7, 3) := by decide +kernel
theorem dX9_winds_115 : decode cX9_winds 115 = .ok (.iconst 1, 1) := by decide +kernel
theorem dX9_winds_116 : decode cX9_winds 116 = .ok (.goto 4, 3) := by decide +kernel
theorem dX9_winds_119 : decode cX9_winds 119 = .ok (.iconst 0, 1) := by decide +kernel
theorem dX9_winds_120 : decode cX9_winds 120 = .ok (.istore_n 3, 1) := by decide +kernel
theorem dX9_winds_121 : decode cX9_winds 121 = .ok (.iinc 4 1, 3) := by decide +kernel
theorem dX9_winds_124 : decode cX9_winds 124 = .ok (.goto (-60), 3) := by decide +kernel
theorem dX9_winds_127 : decode cX9_winds 127 = .ok (.iload_n 3, 1) := by decide +kernel
theorem dX9_winds_128 : decode cX9_winds 128 = .ok (.ifCond .ne 5, 3) := by decide +kernel
theorem dX9_winds_131 : decode cX9_winds 131 = .ok (.iconst (-1), 1) := by decide +kernel
theorem dX9_winds_132 : decode cX9_winds 132 = .ok (.ireturn, 1) := by decide +kernel
theorem dX9_winds_133 : decode cX9_winds 133 = .ok (.iconst 0, 1) := by decide +kernel
theorem dX9_winds_134 : decode cX9_winds 134 = .ok (.istore 4, 2) := by decide +kernel
theorem dX9_winds_136 : decode cX9_winds 136 = .ok (.iload 4, 2) := by decide +kernel
theorem dX9_winds_138 : decode cX9_winds 138 = .ok (.bipush 12, 2) := by decide +kernel
theorem dX9_winds_140 : decode cX9_winds 140 = .ok (.if_icmp .ge 37, 3) := by decide +kernel
theorem dX9_winds_143 : decode cX9_winds 143 = .ok (.aload_n 0, 1) := by decide +kernel
theorem dX9_winds_144 : decode cX9_winds 144 = .ok (.getfield 21, 3) := by decide +kernel
theorem dX9_winds_147 : decode cX9_winds 147 = .ok (.iload 4, 2) := by decide +kernel
theorem dX9_winds_149 : decode cX9_winds 149 = .ok (.aload_n 0, 1) := by decide +kernel
theorem dX9_winds_150 : decode cX9_winds 150 = .ok (.iload_n 1, 1) := by decide +kernel
theorem dX9_winds_151 : decode cX9_winds 151 = .ok (.iload 4, 2) := by decide +kernel
theorem dX9_winds_153 : decode cX9_winds 153 = .ok (.invokevirtual 171, 3) := by decide +kernel
theorem dX9_winds_156 : decode cX9_winds 156 = .ok (.iastore, 1) := by decide +kernel
theorem dX9_winds_157 : decode cX9_winds 157 = .ok (.aload_n 0, 1) := by decide +kernel
theorem dX9_winds_158 : decode cX9_winds 158 = .ok (.getfield 24, 3) := by decide +kernel
theorem dX9_winds_161 : decode cX9_winds 161 = .ok (.iload 4, 2) := by decide +kernel
theorem dX9_winds_163 : decode cX9_winds 163 = .ok (.aload_n 0, 1) := by decide +kernel
theorem dX9_winds_164 : decode cX9_winds 164 = .ok (.iload_n 2, 1) := by decide +kernel
theorem dX9_winds_165 : decode cX9_winds 165 = .ok (.iload 4, 2) := by decide +kernel
theorem dX9_winds_167 : decode cX9_winds 167 = .ok (.invokevirtual 171, 3) := by decide +kernel
theorem dX9_winds_170 : decode cX9_winds 170 = .ok (.iastore, 1) := by decide +kernel
theorem dX9_winds_171 : decode cX9_winds 171 = .ok (.iinc 4 1, 3) := by decide +kernel
theorem dX9_winds_174 : decode cX9_winds 174 = .ok (.goto (-38), 3) := by decide +kernel
theorem dX9_winds_177 : decode cX9_winds 177 = .ok (.iconst 1, 1) := by decide +kernel
theorem dX9_winds_178 : decode cX9_winds 178 = .ok (.ireturn, 1) := by decide +kernel
theorem dX9_wind_0 : decode cX9_wind 0 = .ok (.iload_n 1, 1) := by decide +kernel
theorem dX9_wind_1 : decode cX9_wind 1 = .ok (.i2l, 1) := by decide +kernel
theorem dX9_wind_2 : decode cX9_wind 2 = .ok (.lconst 0, 1) := by decide +kernel
theorem dX9_wind_3 : decode cX9_wind 3 = .ok (.ldc2_w 179, 3) := by decide +kernel
theorem dX9_wind_6 : decode cX9_wind 6 = .ok (.invokestatic 138, 3) := by decide +kernel
theorem dX9_wind_9 : decode cX9_wind 9 = .ok (.ifCond .eq 31, 3) := by decide +kernel
theorem dX9_wind_12 : decode cX9_wind 12 = .ok (.iload_n 2, 1) := by decide +kernel
theorem dX9_wind_13 : decode cX9_wind 13 = .ok (.i2l, 1) := by decide +kernel
theorem dX9_wind_14 : decode cX9_wind 14 = .ok (.ldc2_w 175, 3) := by decide +kernel
theorem dX9_wind_17 : decode cX9_wind 17 = .ok (.ldc2_w 177, 3) := by decide +kernel
theorem dX9_wind_20 : decode cX9_wind 20 = .ok (.invokestatic 138, 3) := by decide +kernel
theorem dX9_wind_23 : decode cX9_wind 23 = .ok (.ifCond .eq 17, 3) := by decide +kernel
theorem dX9_wind_26 : decode cX9_wind 26 = .ok (.iload_n 3, 1) := by decide +kernel
theorem dX9_wind_27 : decode cX9_wind 27 = .ok (.i2l, 1) := by decide +kernel
theorem dX9_wind_28 : decode cX9_wind 28 = .ok (.ldc2_w 175, 3) := by decide +kernel
theorem dX9_wind_31 : decode cX9_wind 31 = .ok (.ldc2_w 177, 3) := by decide +kernel
theorem dX9_wind_34 : decode cX9_wind 34 = .ok (.invokestatic 138, 3) := by decide +kernel
theorem dX9_wind_37 : decode cX9_wind 37 = .ok (.ifCond .ne 5, 3) := by decide +kernel
theorem dX9_wind_40 : decode cX9_wind 40 = .ok (.iconst (-1), 1) := by decide +kernel
theorem dX9_wind_41 : decode cX9_wind 41 = .ok (.ireturn, 1) := by decide +kernel
theorem dX9_wind_42 : decode cX9_wind 42 = .ok (.aload_n 0, 1) := by decide +kernel
theorem dX9_wind_43 : decode cX9_wind 43 = .ok (.getfield 21, 3) := by decide +kernel
theorem dX9_wind_46 : decode cX9_wind 46 = .ok (.iload_n 1, 1) := by decide +kernel
theorem dX9_wind_47 : decode cX9_wind 47 = .ok (.iload_n 2, 1) := by decide +kernel
theorem dX9_wind_48 : decode cX9_wind 48 = .ok (.iastore, 1) := by decide +kernel
theorem dX9_wind_49 : decode cX9_wind 49 = .ok (.aload_n 0, 1) := by decide +kernel
theorem dX9_wind_50 : decode cX9_wind 50 = .ok (.getfield 24, 3) := by decide +kernel
theorem dX9_wind_53 : decode cX9_wind 53 = .ok (.iload_n 1, 1) := by decide +kernel
theorem dX9_wind_54 : decode cX9_wind 54 = .ok (.iload_n 3, 1) := by decide +kernel
theorem dX9_wind_55 : decode cX9_wind 55 = .ok (.iastore, 1) := by decide +kernel
theorem dX9_wind_56 : decode cX9_wind 56 = .ok (.iconst 1, 1) := by decide +kernel
theorem dX9_wind_57 : decode cX9_wind 57 = .ok (.ireturn, 1) := by decide +kernel
theorem dX9_blows_0 : decode cX9_blows 0 = .ok (.iload_n 1, 1) := by decide +kernel
theorem dX9_blows_1 : decode cX9_blows 1 = .ok (.i2l, 1) := by decide +kernel
theorem dX9_blows_2 : decode cX9_blows 2 = .ok (.lconst 0, 1) := by decide +kernel
theorem dX9_blows_3 : decode cX9_blows 3 = .ok (.ldc2_w 179, 3) := by decide +kernel
theorem dX9_blows_6 : decode cX9_blows 6 = .ok (.invokestatic 138, 3) := by decide +kernel
theorem dX9_blows_9 : decode cX9_blows 9 = .ok (.ifCond .eq 35, 3) := by decide +kernel
theorem dX9_blows_12 : decode cX9_blows 12 = .ok (.iload_n 2, 1) := by decide +kernel
theorem dX9_blows_13 : decode cX9_blows 13 = .ok (.i2l, 1) := by decide +kernel
theorem dX9_blows_14 : decode cX9_blows 14 = .ok (.lconst 0, 1) := by decide +kernel
theorem dX9_blows_15 : decode cX9_blows 15 = .ok (.lconst 1, 1) := by decide +kernel
theorem dX9_blows_16 : decode cX9_blows 16 = .ok (.invokestatic 138, 3) := by decide +kernel
theorem dX9_blows_19 : decode cX9_blows 19 = .ok (.ifCond .eq 25, 3) := by decide +kernel
theorem dX9_blows_22 : decode cX9_blows 22 = .ok (.iload_n 2, 1) := by decide +kernel
theorem dX9_blows_23 : decode cX9_blows 23 = .ok (.ifCond .ne 12, 3) := by decide +kernel
theorem dX9_blows_26 : decode cX9_blows 26 = .ok (.aload_n 0, 1) := by decide +kernel
theorem dX9_blows_27 : decode cX9_blows 27 = .ok (.getfield 21, 3) := by decide +kernel
theorem dX9_blows_30 : decode cX9_blows 30 = .ok (.iload_n 1, 1) := by decide +kernel
theorem dX9_blows_31 : decode cX9_blows 31 = .ok (.iaload, 1) := by decide +kernel
theorem dX9_blows_32 : decode cX9_blows 32 = .ok (.goto 15, 3) := by decide +kernel
theorem dX9_blows_35 : decode cX9_blows 35 = .ok (.aload_n 0, 1) := by decide +kernel
theorem dX9_blows_36 : decode cX9_blows 36 = .ok (.getfield 24, 3) := by decide +kernel
theorem dX9_blows_39 : decode cX9_blows 39 = .ok (.iload_n 1, 1) := by decide +kernel
theorem dX9_blows_40 : decode cX9_blows 40 = .ok (.iaload, 1) := by decide +kernel
theorem dX9_blows_41 : decode cX9_blows 41 = .ok (.goto 6, 3) := by decide +kernel
theorem dX9_blows_44 : decode cX9_blows 44 = .ok (.sipush (-1000), 3) := by decide +kernel
theorem dX9_blows_47 : decode cX9_blows 47 = .ok (.ireturn, 1) := by decide +kernel
theorem dX9_jumper_0 : decode cX9_jumper 0 = .ok (.iload_n 1, 1) := by decide +kernel
theorem dX9_jumper_1 : decode cX9_jumper 1 = .ok (.i2l, 1) := by decide +kernel
theorem dX9_jumper_2 : decode cX9_jumper 2 = .ok (.lconst 0, 1) := by decide +kernel
theorem dX9_jumper_3 : decode cX9_jumper 3 = .ok (.ldc2_w 181, 3) := by decide +kernel
theorem dX9_jumper_6 : decode cX9_jumper 6 = .ok (.invokestatic 138, 3) := by decide +kernel
theorem dX9_jumper_9 : decode cX9_jumper 9 = .ok (.ifCond .eq 42, 3) := by decide +kernel
theorem dX9_jumper_12 : decode cX9_jumper 12 = .ok (.iload_n 2, 1) := by decide +kernel
theorem dX9_jumper_13 : decode cX9_jumper 13 = .ok (.i2l, 1) := by decide +kernel
theorem dX9_jumper_14 : decode cX9_jumper 14 = .ok (.lconst 0, 1) := by decide +kernel
theorem dX9_jumper_15 : decode cX9_jumper 15 = .ok (.ldc2_w 136, 3) := by decide +kernel
theorem dX9_jumper_18 : decode cX9_jumper 18 = .ok (.invokestatic 138, 3) := by decide +kernel
theorem dX9_jumper_21 : decode cX9_jumper 21 = .ok (.ifCond .eq 30, 3) := by decide +kernel
theorem dX9_jumper_24 : decode cX9_jumper 24 = .ok (.iload_n 3, 1) := by decide +kernel
theorem dX9_jumper_25 : decode cX9_jumper 25 = .ok (.i2l, 1) := by decide +kernel
theorem dX9_jumper_26 : decode cX9_jumper 26 = .ok (.ldc2_w 183, 3) := by decide +kernel
theorem dX9_jumper_29 : decode cX9_jumper 29 = .ok (.ldc2_w 185, 3) := by decide +kernel
theorem dX9_jumper_32 : decode cX9_jumper 32 = .ok (.invokestatic 138, 3) := by decide +kernel
theorem dX9_jumper_35 : decode cX9_jumper 35 = .ok (.ifCond .eq 16, 3) := by decide +kernel
theorem dX9_jumper_38 : decode cX9_jumper 38 = .ok (.iload 4, 2) := by decide +kernel
theorem dX9_jumper_40 : decode cX9_jumper 40 = .ok (.i2l, 1) := by decide +kernel
theorem dX9_jumper_41 : decode cX9_jumper 41 = .ok (.lconst 0, 1) := by decide +kernel
theorem dX9_jumper_42 : decode cX9_jumper 42 = .ok (.ldc2_w 187, 3) := by decide +kernel
theorem dX9_jumper_45 : decode cX9_jumper 45 = .ok (.invokestatic 138, 3) := by decide +kernel
theorem dX9_jumper_48 : decode cX9_jumper 48 = .ok (.ifCond .ne 5, 3) := by decide +kernel
theorem dX9_jumper_51 : decode cX9_jumper 51 = .ok (.iconst (-1), 1) := by decide +kernel
theorem dX9_jumper_52 : decode cX9_jumper 52 = .ok (.ireturn, 1) := by decide +kernel
theorem dX9_jumper_53 : decode cX9_jumper 53 = .ok (.aload_n 0, 1) := by decide +kernel
theorem dX9_jumper_54 : decode cX9_jumper 54 = .ok (.getfield 27, 3) := by decide +kernel
theorem dX9_jumper_57 : decode cX9_jumper 57 = .ok (.iload_n 1, 1) := by decide +kernel
theorem dX9_jumper_58 : decode cX9_jumper 58 = .ok (.iload_n 2, 1) := by decide +kernel
theorem dX9_jumper_59 : decode cX9_jumper 59 = .ok (.iastore, 1) := by decide +kernel
theorem dX9_jumper_60 : decode cX9_jumper 60 = .ok (.aload_n 0, 1) := by decide +kernel
theorem dX9_jumper_61 : decode cX9_jumper 61 = .ok (.getfield 30, 3) := by decide +kernel
theorem dX9_jumper_64 : decode cX9_jumper 64 = .ok (.iload_n 1, 1) := by decide +kernel
theorem dX9_jumper_65 : decode cX9_jumper 65 = .ok (.iload_n 3, 1) := by decide +kernel
theorem dX9_jumper_66 : decode cX9_jumper 66 = .ok (.iastore, 1) := by decide +kernel
theorem dX9_jumper_67 : decode cX9_jumper 67 = .ok (.aload_n 0, 1) := by decide +kernel
theorem dX9_jumper_68 : decode cX9_jumper 68 = .ok (.getfield 33, 3) := by decide +kernel
theorem dX9_jumper_71 : decode cX9_jumper 71 = .ok (.iload_n 1, 1) := by decide +kernel
theorem dX9_jumper_72 : decode cX9_jumper 72 = .ok (.iload 4, 2) := by decide +kernel
theorem dX9_jumper_74 : decode cX9_jumper 74 = .ok (.iastore, 1) := by decide +kernel
theorem dX9_jumper_75 : decode cX9_jumper 75 = .ok (.iconst 1, 1) := by decide +kernel
theorem dX9_jumper_76 : decode cX9_jumper 76 = .ok (.ireturn, 1) := by decide +kernel
theorem dX9_group_0 : decode cX9_group 0 = .ok (.iload_n 1, 1) := by decide +kernel
theorem dX9_group_1 : decode cX9_group 1 = .ok (.i2l, 1) := by decide +kernel
theorem dX9_group_2 : decode cX9_group 2 = .ok (.lconst 0, 1) := by decide +kernel
theorem dX9_group_3 : decode cX9_group 3 = .ok (.ldc2_w 189, 3) := by decide +kernel
theorem dX9_group_6 : decode cX9_group 6 = .ok (.invokestatic 138, 3) := by decide +kernel
theorem dX9_group_9 : decode cX9_group 9 = .ok (.ifCond .eq 42, 3) := by decide +kernel
theorem dX9_group_12 : decode cX9_group 12 = .ok (.iload_n 2, 1) := by decide +kernel
theorem dX9_group_13 : decode cX9_group 13 = .ok (.i2l, 1) := by decide +kernel
theorem dX9_group_14 : decode cX9_group 14 = .ok (.ldc2_w 191, 3) := by decide +kernel
theorem dX9_group_17 : decode cX9_group 17 = .ok (.ldc2_w 193, 3) := by decide +kernel
theorem dX9_group_20 : decode cX9_group 20 = .ok (.invokestatic 138, 3) := by decide +kernel
theorem dX9_group_23 : decode cX9_group 23 = .ok (.ifCond .eq 28, 3) := by decide +kernel
theorem dX9_group_26 : decode cX9_group 26 = .ok (.iload_n 3, 1) := by decide +kernel
theorem dX9_group_27 : decode cX9_group 27 = .ok (.i2l, 1) := by decide +kernel
theorem dX9_group_28 : decode cX9_group 28 = .ok (.lconst 0, 1) := by decide +kernel
theorem dX9_group_29 : decode cX9_group 29 = .ok (.ldc2_w 195, 3) := by decide +kernel
theorem dX9_group_32 : decode cX9_group 32 = .ok (.invokestatic 138, 3) := by decide +kernel
theorem dX9_group_35 : decode cX9_group 35 = .ok (.ifCond .eq 16, 3) := by decide +kernel
theorem dX9_group_38 : decode cX9_group 38 = .ok (.iload 4, 2) := by decide +kernel
theorem dX9_group_40 : decode cX9_group 40 = .ok (.i2l, 1) := by decide +kernel
theorem dX9_group_41 : decode cX9_group 41 = .ok (.lconst 0, 1) := by decide +kernel
theorem dX9_group_42 : decode cX9_group 42 = .ok (.ldc2_w 189, 3) := by decide +kernel
theorem dX9_group_45 : decode cX9_group 45 = .ok (.invokestatic 138, 3) := by decide +kernel
theorem dX9_group_48 : decode cX9_group 48 = .ok (.ifCond .ne 5, 3) := by decide +kernel
theorem dX9_group_51 : decode cX9_group 51 = .ok (.iconst (-1), 1) := by decide +kernel
theorem dX9_group_52 : decode cX9_group 52 = .ok (.ireturn, 1) := by decide +kernel
theorem dX9_group_53 : decode cX9_group 53 = .ok (.aload_n 0, 1) := by decide +kernel
theorem dX9_group_54 : decode cX9_group 54 = .ok (.getfield 142, 3) := by decide +kernel
theorem dX9_group_57 : decode cX9_group 57 = .ok (.bipush 20, 2) := by decide +kernel
theorem dX9_group_59 : decode cX9_group 59 = .ok (.if_icmp .ne 6, 3) := by decide +kernel
theorem dX9_group_62 : decode cX9_group 62 = .ok (.bipush (-2), 2) := by decide +kernel
theorem dX9_group_64 : decode cX9_group 64 = .ok (.ireturn, 1) := by decide +kernel
theorem dX9_group_65 : decode cX9_group 65 = .ok (.aload_n 0, 1) := by decide +kernel
theorem dX9_group_66 : decode cX9_group 66 = .ok (.getfield 36, 3) := by decide +kernel
theorem dX9_group_69 : decode cX9_group 69 = .ok (.aload_n 0, 1) := by decide +kernel
theorem dX9_group_70 : decode cX9_group 70 = .ok (.getfield 142, 3) := by decide +kernel
theorem dX9_group_73 : decode cX9_group 73 = .ok (.iload_n 1, 1) := by decide +kernel
theorem dX9_group_74 : decode cX9_group 74 = .ok (.iastore, 1) := by decide +kernel
theorem dX9_group_75 : decode cX9_group 75 = .ok (.aload_n 0, 1) := by decide +kernel
theorem dX9_group_76 : decode cX9_group 76 = .ok (.getfield 39, 3) := by decide +kernel
theorem dX9_group_79 : decode cX9_group 79 = .ok (.aload_n 0, 1) := by decide +kernel
theorem dX9_group_80 : decode cX9_group 80 = .ok (.getfield 142, 3) := by decide +kernel
theorem dX9_group_83 : decode cX9_group 83 = .ok (.iload_n 2, 1) := by decide +kernel
theorem dX9_group_84 : decode cX9_group 84 = .ok (.iastore, 1) := by decide +kernel
theorem dX9_group_85 : decode cX9_group 85 = .ok (.aload_n 0, 1) := by decide +kernel
theorem dX9_group_86 : decode cX9_group 86 = .ok (.getfield 42, 3) := by decide +kernel
theorem dX9_group_89 : decode cX9_group 89 = .ok (.aload_n 0, 1) := by decide +kernel
theorem dX9_group_90 : decode cX9_group 90 = .ok (.getfield 142, 3) := by decide +kernel
theorem dX9_group_93 : decode cX9_group 93 = .ok (.iload_n 3, 1) := by decide +kernel
theorem dX9_group_94 : decode cX9_group 94 = .ok (.iastore, 1) := by decide +kernel
theorem dX9_group_95 : decode cX9_group 95 = .ok (.aload_n 0, 1) := by decide +kernel
theorem dX9_group_96 : decode cX9_group 96 = .ok (.getfield 45, 3) := by decide +kernel
theorem dX9_group_99 : decode cX9_group 99 = .ok (.aload_n 0, 1) := by decide +kernel
theorem dX9_group_100 : decode cX9_group 100 = .ok (.getfield 142, 3) := by decide +kernel
theorem dX9_group_103 : decode cX9_group 103 = .ok (.iload 4, 2) := by decide +kernel
theorem dX9_group_105 : decode cX9_group 105 = .ok (.iastore, 1) := by decide +kernel
theorem dX9_group_106 : decode cX9_group 106 = .ok (.aload_n 0, 1) := by decide +kernel
theorem dX9_group_107 : decode cX9_group 107 = .ok (.dup, 1) := by decide +kernel
theorem dX9_group_108 : decode cX9_group 108 = .ok (.getfield 142, 3) := by decide +kernel
theorem dX9_group_111 : decode cX9_group 111 = .ok (.iconst 1, 1) := by decide +kernel
theorem dX9_group_112 : decode cX9_group 112 = .ok (.iadd, 1) := by decide +kernel
theorem dX9_group_113 : decode cX9_group 113 = .ok (.putfield 142, 3) := by decide +kernel
theorem dX9_group_116 : decode cX9_group 116 = .ok (.aload_n 0, 1) := by decide +kernel
theorem dX9_group_117 : decode cX9_group 117 = .ok (.getfield 142, 3) := by decide +kernel
theorem dX9_group_120 : decode cX9_group 120 = .ok (.iconst 1, 1) := by decide +kernel
theorem dX9_group_121 : decode cX9_group 121 = .ok (.isub, 1) := by decide +kernel
theorem dX9_group_122 : decode cX9_group 122 = .ok (.ireturn, 1) := by decide +kernel
theorem dX9_isInSome_0 : decode cX9_isInSome 0 = .ok (.iconst 0, 1) := by decide +kernel
theorem dX9_isInSome_1 : decode cX9_isInSome 1 = .ok (.istore_n 3, 1) := by decide +kernel
theorem dX9_isInSome_2 : decode cX9_isInSome 2 = .ok (.iconst 0, 1) := by decide +kernel
theorem dX9_isInSome_3 : decode cX9_isInSome 3 = .ok (.istore 4, 2) := by decide +kernel
theorem dX9_isInSome_5 : decode cX9_isInSome 5 = .ok (.iload 4, 2) := by decide +kernel
theorem dX9_isInSome_7 : decode cX9_isInSome 7 = .ok (.aload_n 0, 1) := by decide +kernel
theorem dX9_isInSome_8 : decode cX9_isInSome 8 = .ok (.getfield 146, 3) := by decide +kernel
theorem dX9_isInSome_11 : decode cX9_isInSome 11 = .ok (.if_icmp .ge 68, 3) := by decide +kernel
theorem dX9_isInSome_14 : decode cX9_isInSome 14 = .ok (.iconst 0, 1) := by decide +kernel
theorem dX9_isInSome_15 : decode cX9_isInSome 15 = .ok (.istore 5, 2) := by decide +kernel
theorem dX9_isInSome_17 : decode cX9_isInSome 17 = .ok (.iload 5, 2) := by decide +kernel
theorem dX9_isInSome_19 : decode cX9_isInSome 19 = .ok (.aload_n 0, 1) := by decide +kernel
theorem dX9_isInSome_20 : decode cX9_isInSome 20 = .ok (.getfield 72, 3) := by decide +kernel
theorem dX9_isInSome_23 : decode cX9_isInSome 23 = .ok (.iload 4, 2) := by decide +kernel
theorem dX9_isInSome_25 : decode cX9_isInSome 25 = .ok (.iaload, 1) := by decide +kernel
theorem dX9_isInSome_26 : decode cX9_isInSome 26 = .ok (.if_icmp .ge 47, 3) := by decide +kernel
theorem dX9_isInSome_29 : decode cX9_isInSome 29 = .ok (.iload_n 3, 1) := by decide +kernel
theorem dX9_isInSome_30 : decode cX9_isInSome 30 = .ok (.ifCond .ne 31, 3) := by decide +kernel
theorem dX9_isInSome_33 : decode cX9_isInSome 33 = .ok (.aload_n 0, 1) := by decide +kernel
theorem dX9_isInSome_34 : decode cX9_isInSome 34 = .ok (.getfield 84, 3) := by decide +kernel
theorem dX9_isInSome_37 : decode cX9_isInSome 37 = .ok (.iload 4, 2) := by decide +kernel
theorem dX9_isInSome_39 : decode cX9_isInSome 39 = .ok (.baload, 1) := by decide +kernel
theorem dX9_isInSome_40 : decode cX9_isInSome 40 = .ok (.iload_n 2, 1) := by decide +kernel
theorem dX9_isInSome_41 : decode cX9_isInSome 41 = .ok (.if_icmp .ne 24, 3) := by decide +kernel
theorem dX9_isInSome_44 : decode cX9_isInSome 44 = .ok (.aload_n 0, 1) := by decide +kernel
theorem dX9_isInSome_45 : decode cX9_isInSome 45 = .ok (.getfield 75, 3) := by decide +kernel
theorem dX9_isInSome_48 : decode cX9_isInSome 48 = .ok (.bipush 6, 2) := by decide +kernel
theorem dX9_isInSome_50 : decode cX9_isInSome 50 = .ok (.iload 4, 2) := by decide +kernel
theorem dX9_isInSome_52 : decode cX9_isInSome 52 = .ok (.imul, 1) := by decide +kernel
theorem dX9_isInSome_53 : decode cX9_isInSome 53 = .ok (.iload 5, 2) := by decide +kernel
theorem dX9_isInSome_55 : decode cX9_isInSome 55 = .ok (.iadd, 1) := by decide +kernel
theorem dX9_isInSome_56 : decode cX9_isInSome 56 = .ok (.iaload, 1) := by decide +kernel
theorem dX9_isInSome_57 : decode cX9_isInSome 57 = .ok (.iload_n 1, 1) := by decide +kernel
theorem dX9_isInSome_58 : decode cX9_isInSome 58 = .ok (.if_icmp .ne 7, 3) := by decide +kernel
theorem dX9_isInSome_61 : decode cX9_isInSome 61 = .ok (.iconst 1, 1) := by decide +kernel
theorem dX9_isInSome_62 : decode cX9_isInSome 62 = .ok (.goto 4, 3) := by decide +kernel
theorem dX9_isInSome_65 : decode cX9_isInSome 65 = .ok (.iconst 0, 1) := by decide +kernel
theorem dX9_isInSome_66 : decode cX9_isInSome 66 = .ok (.istore_n 3, 1) := by decide +kernel
theorem dX9_isInSome_67 : decode cX9_isInSome 67 = .ok (.iinc 5 1, 3) := by decide +kernel
theorem dX9_isInSome_70 : decode cX9_isInSome 70 = .ok (.goto (-53), 3) := by decide +kernel
theorem dX9_isInSome_73 : decode cX9_isInSome 73 = .ok (.iinc 4 1, 3) := by decide +kernel
theorem dX9_isInSome_76 : decode cX9_isInSome 76 = .ok (.goto (-71), 3) := by decide +kernel
theorem dX9_isInSome_79 : decode cX9_isInSome 79 = .ok (.iload_n 3, 1) := by decide +kernel
theorem dX9_isInSome_80 : decode cX9_isInSome 80 = .ok (.ireturn, 1) := by decide +kernel
theorem dX9_hasJumper_0 : decode cX9_hasJumper 0 = .ok (.iconst 0, 1) := by decide +kernel
theorem dX9_hasJumper_1 : decode cX9_hasJumper 1 = .ok (.istore_n 3, 1) := by decide +kernel
theorem dX9_hasJumper_2 : decode cX9_hasJumper 2 = .ok (.iconst 0, 1) := by decide +kernel
theorem dX9_hasJumper_3 : decode cX9_hasJumper 3 = .ok (.istore 4, 2) := by decide +kernel
theorem dX9_hasJumper_5 : decode cX9_hasJumper 5 = .ok (.iload 4, 2) := by decide +kernel
theorem dX9_hasJumper_7 : decode cX9_hasJumper 7 = .ok (.aload_n 0, 1) := by decide +kernel
theorem dX9_hasJumper_8 : decode cX9_hasJumper 8 = .ok (.getfield 48, 3) := by decide +kernel
theorem dX9_hasJumper_11 : decode cX9_hasJumper 11 = .ok (.iload_n 1, 1) := by decide +kernel
theorem dX9_hasJumper_12 : decode cX9_hasJumper 12 = .ok (.iaload, 1) := by decide +kernel
theorem dX9_hasJumper_13 : decode cX9_hasJumper 13 = .ok (.if_icmp .ge 34, 3) := by decide +kernel
theorem dX9_hasJumper_16 : decode cX9_hasJumper 16 = .ok (.iload_n 3, 1) := by decide +kernel
theorem dX9_hasJumper_17 : decode cX9_hasJumper 17 = .ok (.ifCond .ne 18, 3) := by decide +kernel
theorem dX9_hasJumper_20 : decode cX9_hasJumper 20 = .ok (.aload_n 0, 1) := by decide +kernel
theorem dX9_hasJumper_21 : decode cX9_hasJumper 21 = .ok (.getfield 51, 3) := by decide +kernel
theorem dX9_hasJumper_24 : decode cX9_hasJumper 24 = .ok (.iconst 4, 1) := by decide +kernel
theorem dX9_hasJumper_25 : decode cX9_hasJumper 25 = .ok (.iload_n 1, 1) := by decide +kernel
theorem dX9_hasJumper_26 : decode cX9_hasJumper 26 = .ok (.imul, 1) := by decide +kernel
theorem dX9_hasJumper_27 : decode cX9_hasJumper 27 = .ok (.iload 4, 2) := by decide +kernel
theorem dX9_hasJumper_29 : decode cX9_hasJumper 29 = .ok (.iadd, 1) := by decide +kernel
theorem dX9_hasJumper_30 : decode cX9_hasJumper 30 = .ok (.iaload, 1) := by decide +kernel
theorem dX9_hasJumper_31 : decode cX9_hasJumper 31 = .ok (.iload_n 2, 1) := by decide +kernel
theorem dX9_hasJumper_32 : decode cX9_hasJumper 32 = .ok (.if_icmp .ne 7, 3) := by decide +kernel
theorem dX9_hasJumper_35 : decode cX9_hasJumper 35 = .ok (.iconst 1, 1) := by decide +kernel
theorem dX9_hasJumper_36 : decode cX9_hasJumper 36 = .ok (.goto 4, 3) := by decide +kernel
theorem dX9_hasJumper_39 : decode cX9_hasJumper 39 = .ok (.iconst 0, 1) := by decide +kernel
theorem dX9_hasJumper_40 : decode cX9_hasJumper 40 = .ok (.istore_n 3, 1) := by decide +kernel
theorem dX9_hasJumper_41 : decode cX9_hasJumper 41 = .ok (.iinc 4 1, 3) := by decide +kernel
theorem dX9_hasJumper_44 : decode cX9_hasJumper 44 = .ok (.goto (-39), 3) := by decide +kernel
theorem dX9_hasJumper_47 : decode cX9_hasJumper 47 = .ok (.iload_n 3, 1) := by decide +kernel
theorem dX9_hasJumper_48 : decode cX9_hasJumper 48 = .ok (.ireturn, 1) := by decide +kernel
theorem dX9_join_0 : decode cX9_join 0 = .ok (.aload_n 0, 1) := by decide +kernel
theorem dX9_join_1 : decode cX9_join 1 = .ok (.iload_n 1, 1) := by decide +kernel
theorem dX9_join_2 : decode cX9_join 2 = .ok (.invokevirtual 197, 3) := by decide +kernel
theorem dX9_join_5 : decode cX9_join 5 = .ok (.ifCond .eq 15, 3) := by decide +kernel
theorem dX9_join_8 : decode cX9_join 8 = .ok (.iload_n 2, 1) := by decide +kernel
theorem dX9_join_9 : decode cX9_join 9 = .ok (.i2l, 1) := by decide +kernel
theorem dX9_join_10 : decode cX9_join 10 = .ok (.lconst 0, 1) := by decide +kernel
theorem dX9_join_11 : decode cX9_join 11 = .ok (.ldc2_w 181, 3) := by decide +kernel
theorem dX9_join_14 : decode cX9_join 14 = .ok (.invokestatic 138, 3) := by decide +kernel
theorem dX9_join_17 : decode cX9_join 17 = .ok (.ifCond .ne 5, 3) := by decide +kernel
theorem dX9_join_20 : decode cX9_join 20 = .ok (.iconst (-1), 1) := by decide +kernel
theorem dX9_join_21 : decode cX9_join 21 = .ok (.ireturn, 1) := by decide +kernel
theorem dX9_join_22 : decode cX9_join 22 = .ok (.aload_n 0, 1) := by decide +kernel
theorem dX9_join_23 : decode cX9_join 23 = .ok (.iload_n 1, 1) := by decide +kernel
theorem dX9_join_24 : decode cX9_join 24 = .ok (.iconst 1, 1) := by decide +kernel
theorem dX9_join_25 : decode cX9_join 25 = .ok (.invokevirtual 200, 3) := by decide +kernel
theorem dX9_join_28 : decode cX9_join 28 = .ok (.ifCond .eq 6, 3) := by decide +kernel
theorem dX9_join_31 : decode cX9_join 31 = .ok (.bipush (-6), 2) := by decide +kernel
theorem dX9_join_33 : decode cX9_join 33 = .ok (.ireturn, 1) := by decide +kernel
theorem dX9_join_34 : decode cX9_join 34 = .ok (.aload_n 0, 1) := by decide +kernel
theorem dX9_join_35 : decode cX9_join 35 = .ok (.iload_n 1, 1) := by decide +kernel
theorem dX9_join_36 : decode cX9_join 36 = .ok (.iload_n 2, 1) := by decide +kernel
theorem dX9_join_37 : decode cX9_join 37 = .ok (.invokevirtual 204, 3) := by decide +kernel
theorem dX9_join_40 : decode cX9_join 40 = .ok (.ifCond .eq 6, 3) := by decide +kernel
theorem dX9_join_43 : decode cX9_join 43 = .ok (.bipush (-5), 2) := by decide +kernel
theorem dX9_join_45 : decode cX9_join 45 = .ok (.ireturn, 1) := by decide +kernel
theorem dX9_join_46 : decode cX9_join 46 = .ok (.aload_n 0, 1) := by decide +kernel
theorem dX9_join_47 : decode cX9_join 47 = .ok (.getfield 48, 3) := by decide +kernel
theorem dX9_join_50 : decode cX9_join 50 = .ok (.iload_n 1, 1) := by decide +kernel
theorem dX9_join_51 : decode cX9_join 51 = .ok (.iaload, 1) := by decide +kernel
theorem dX9_join_52 : decode cX9_join 52 = .ok (.iconst 4, 1) := by decide +kernel
theorem dX9_join_53 : decode cX9_join 53 = .ok (.if_icmp .ne 6, 3) := by decide +kernel
theorem dX9_join_56 : decode cX9_join 56 = .ok (.bipush (-2), 2) := by decide +kernel
theorem dX9_join_58 : decode cX9_join 58 = .ok (.ireturn, 1) := by decide +kernel
theorem dX9_join_59 : decode cX9_join 59 = .ok (.aload_n 0, 1) := by decide +kernel
theorem dX9_join_60 : decode cX9_join 60 = .ok (.getfield 51, 3) := by decide +kernel
theorem dX9_join_63 : decode cX9_join 63 = .ok (.iconst 4, 1) := by decide +kernel
theorem dX9_join_64 : decode cX9_join 64 = .ok (.iload_n 1, 1) := by decide +kernel
theorem dX9_join_65 : decode cX9_join 65 = .ok (.imul, 1) := by decide +kernel
theorem dX9_join_66 : decode cX9_join 66 = .ok (.aload_n 0, 1) := by decide +kernel
theorem dX9_join_67 : decode cX9_join 67 = .ok (.getfield 48, 3) := by decide +kernel
theorem dX9_join_70 : decode cX9_join 70 = .ok (.iload_n 1, 1) := by decide +kernel
theorem dX9_join_71 : decode cX9_join 71 = .ok (.iaload, 1) := by decide +kernel
theorem dX9_join_72 : decode cX9_join 72 = .ok (.iadd, 1) := by decide +kernel
theorem dX9_join_73 : decode cX9_join 73 = .ok (.iload_n 2, 1) := by decide +kernel
theorem dX9_join_74 : decode cX9_join 74 = .ok (.iastore, 1) := by decide +kernel
theorem dX9_join_75 : decode cX9_join 75 = .ok (.aload_n 0, 1) := by decide +kernel
theorem dX9_join_76 : decode cX9_join 76 = .ok (.getfield 48, 3) := by decide +kernel
theorem dX9_join_79 : decode cX9_join 79 = .ok (.iload_n 1, 1) := by decide +kernel
theorem dX9_join_80 : decode cX9_join 80 = .ok (.dup2, 1) := by decide +kernel
theorem dX9_join_81 : decode cX9_join 81 = .ok (.iaload, 1) := by decide +kernel
theorem dX9_join_82 : decode cX9_join 82 = .ok (.iconst 1, 1) := by decide +kernel
theorem dX9_join_83 : decode cX9_join 83 = .ok (.iadd, 1) := by decide +kernel
theorem dX9_join_84 : decode cX9_join 84 = .ok (.iastore, 1) := by decide +kernel
theorem dX9_join_85 : decode cX9_join 85 = .ok (.aload_n 0, 1) := by decide +kernel
theorem dX9_join_86 : decode cX9_join 86 = .ok (.getfield 48, 3) := by decide +kernel
theorem dX9_join_89 : decode cX9_join 89 = .ok (.iload_n 1, 1) := by decide +kernel
theorem dX9_join_90 : decode cX9_join 90 = .ok (.iaload, 1) := by decide +kernel
theorem dX9_join_91 : decode cX9_join 91 = .ok (.ireturn, 1) := by decide +kernel
theorem dX9_weightIn_0 : decode cX9_weightIn 0 = .ok (.iconst 0, 1) := by decide +kernel
theorem dX9_weightIn_1 : decode cX9_weightIn 1 = .ok (.istore_n 2, 1) := by decide +kernel
theorem dX9_weightIn_2 : decode cX9_weightIn 2 = .ok (.iconst 0, 1) := by decide +kernel
theorem dX9_weightIn_3 : decode cX9_weightIn 3 = .ok (.istore_n 3, 1) := by decide +kernel
theorem dX9_weightIn_4 : decode cX9_weightIn 4 = .ok (.iload_n 3, 1) := by decide +kernel
theorem dX9_weightIn_5 : decode cX9_weightIn 5 = .ok (.aload_n 0, 1) := by decide +kernel
theorem dX9_weightIn_6 : decode cX9_weightIn 6 = .ok (.getfield 48, 3) := by decide +kernel
theorem dX9_weightIn_9 : decode cX9_weightIn 9 = .ok (.iload_n 1, 1) := by decide +kernel
theorem dX9_weightIn_10 : decode cX9_weightIn 10 = .ok (.iaload, 1) := by decide +kernel
theorem dX9_weightIn_11 : decode cX9_weightIn 11 = .ok (.if_icmp .ge 27, 3) := by decide +kernel
theorem dX9_weightIn_14 : decode cX9_weightIn 14 = .ok (.iload_n 2, 1) := by decide +kernel
theorem dX9_weightIn_15 : decode cX9_weightIn 15 = .ok (.aload_n 0, 1) := by decide +kernel
theorem dX9_weightIn_16 : decode cX9_weightIn 16 = .ok (.getfield 30, 3) := by decide +kernel
theorem dX9_weightIn_19 : decode cX9_weightIn 19 = .ok (.aload_n 0, 1) := by decide +kernel
theorem dX9_weightIn_20 : decode cX9_weightIn 20 = .ok (.getfield 51, 3) := by decide +kernel
theorem dX9_weightIn_23 : decode cX9_weightIn 23 = .ok (.iconst 4, 1) := by decide +kernel
theorem dX9_weightIn_24 : decode cX9_weightIn 24 = .ok (.iload_n 1, 1) := by decide +kernel
theorem dX9_weightIn_25 : decode cX9_weightIn 25 = .ok (.imul, 1) := by decide +kernel
theorem dX9_weightIn_26 : decode cX9_weightIn 26 = .ok (.iload_n 3, 1) := by decide +kernel
theorem dX9_weightIn_27 : decode cX9_weightIn 27 = .ok (.iadd, 1) := by decide +kernel
theorem dX9_weightIn_28 : decode cX9_weightIn 28 = .ok (.iaload, 1) := by decide +kernel
theorem dX9_weightIn_29 : decode cX9_weightIn 29 = .ok (.iaload, 1) := by decide +kernel
theorem dX9_weightIn_30 : decode cX9_weightIn 30 = .ok (.iadd, 1) := by decide +kernel
theorem dX9_weightIn_31 : decode cX9_weightIn 31 = .ok (.istore_n 2, 1) := by decide +kernel
theorem dX9_weightIn_32 : decode cX9_weightIn 32 = .ok (.iinc 3 1, 3) := by decide +kernel
theorem dX9_weightIn_35 : decode cX9_weightIn 35 = .ok (.goto (-31), 3) := by decide +kernel
theorem dX9_weightIn_38 : decode cX9_weightIn 38 = .ok (.iload_n 2, 1) := by decide +kernel
theorem dX9_weightIn_39 : decode cX9_weightIn 39 = .ok (.ireturn, 1) := by decide +kernel
theorem dX9_of_0 : decode cX9_of 0 = .ok (.aload_n 0, 1) := by decide +kernel
theorem dX9_of_1 : decode cX9_of 1 = .ok (.iload_n 1, 1) := by decide +kernel
theorem dX9_of_2 : decode cX9_of 2 = .ok (.invokevirtual 197, 3) := by decide +kernel
theorem dX9_of_5 : decode cX9_of 5 = .ok (.ifCond .ne 5, 3) := by decide +kernel
theorem dX9_of_8 : decode cX9_of 8 = .ok (.iconst (-1), 1) := by decide +kernel
theorem dX9_of_9 : decode cX9_of 9 = .ok (.ireturn, 1) := by decide +kernel
theorem dX9_of_10 : decode cX9_of 10 = .ok (.iload_n 2, 1) := by decide +kernel
theorem dX9_of_11 : decode cX9_of 11 = .ok (.bipush 10, 2) := by decide +kernel
theorem dX9_of_13 : decode cX9_of 13 = .ok (.if_icmp .lt 34, 3) := by decide +kernel
theorem dX9_of_16 : decode cX9_of 16 = .ok (.iload_n 2, 1) := by decide +kernel
theorem dX9_of_17 : decode cX9_of 17 = .ok (.bipush 10, 2) := by decide +kernel
theorem dX9_of_19 : decode cX9_of 19 = .ok (.isub, 1) := by decide +kernel
theorem dX9_of_20 : decode cX9_of 20 = .ok (.aload_n 0, 1) := by decide +kernel
theorem dX9_of_21 : decode cX9_of 21 = .ok (.getfield 48, 3) := by decide +kernel
theorem dX9_of_24 : decode cX9_of 24 = .ok (.iload_n 1, 1) := by decide +kernel
theorem dX9_of_25 : decode cX9_of 25 = .ok (.iaload, 1) := by decide +kernel
theorem dX9_of_26 : decode cX9_of 26 = .ok (.if_icmp .ge 19, 3) := by decide +kernel
theorem dX9_of_29 : decode cX9_of 29 = .ok (.aload_n 0, 1) := by decide +kernel
theorem dX9_of_30 : decode cX9_of 30 = .ok (.getfield 51, 3) := by decide +kernel
theorem dX9_of_33 : decode cX9_of 33 = .ok (.iconst 4, 1) := by decide +kernel
theorem dX9_of_34 : decode cX9_of 34 = .ok (.iload_n 1, 1) := by decide +kernel
theorem dX9_of_35 : decode cX9_of 35 = .ok (.imul, 1) := by decide +kernel
theorem dX9_of_36 : decode cX9_of 36 = .ok (.iload_n 2, 1) := by decide +kernel
theorem dX9_of_37 : decode cX9_of 37 = .ok (.iadd, 1) := by decide +kernel
theorem dX9_of_38 : decode cX9_of 38 = .ok (.bipush 10, 2) := by decide +kernel
theorem dX9_of_40 : decode cX9_of 40 = .ok (.isub, 1) := by decide +kernel
theorem dX9_of_41 : decode cX9_of 41 = .ok (.iaload, 1) := by decide +kernel
theorem dX9_of_42 : decode cX9_of 42 = .ok (.goto 4, 3) := by decide +kernel
theorem dX9_of_45 : decode cX9_of 45 = .ok (.iconst (-1), 1) := by decide +kernel
theorem dX9_of_46 : decode cX9_of 46 = .ok (.ireturn, 1) := by decide +kernel
theorem dX9_of_47 : decode cX9_of 47 = .ok (.iload_n 2, 1) := by decide +kernel
theorem dX9_of_48 : decode cX9_of 48 = .ok (.tableswitch 81 0 5 #[40, 47, 54, 61, 68, 75], 40) := by decide +kernel
theorem dX9_of_88 : decode cX9_of 88 = .ok (.aload_n 0, 1) := by decide +kernel
theorem dX9_of_89 : decode cX9_of 89 = .ok (.getfield 36, 3) := by decide +kernel
theorem dX9_of_92 : decode cX9_of 92 = .ok (.iload_n 1, 1) := by decide +kernel
theorem dX9_of_93 : decode cX9_of 93 = .ok (.iaload, 1) := by decide +kernel
theorem dX9_of_94 : decode cX9_of 94 = .ok (.ireturn, 1) := by decide +kernel
theorem dX9_of_95 : decode cX9_of 95 = .ok (.aload_n 0, 1) := by decide +kernel
theorem dX9_of_96 : decode cX9_of 96 = .ok (.getfield 39, 3) := by decide +kernel
theorem dX9_of_99 : decode cX9_of 99 = .ok (.iload_n 1, 1) := by decide +kernel
theorem dX9_of_100 : decode cX9_of 100 = .ok (.iaload, 1) := by decide +kernel
theorem dX9_of_101 : decode cX9_of 101 = .ok (.ireturn, 1) := by decide +kernel
theorem dX9_of_102 : decode cX9_of 102 = .ok (.aload_n 0, 1) := by decide +kernel
theorem dX9_of_103 : decode cX9_of 103 = .ok (.getfield 42, 3) := by decide +kernel
theorem dX9_of_106 : decode cX9_of 106 = .ok (.iload_n 1, 1) := by decide +kernel
theorem dX9_of_107 : decode cX9_of 107 = .ok (.iaload, 1) := by decide +kernel
theorem dX9_of_108 : decode cX9_of 108 = .ok (.ireturn, 1) := by decide +kernel
theorem dX9_of_109 : decode cX9_of 109 = .ok (.aload_n 0, 1) := by decide +kernel
theorem dX9_of_110 : decode cX9_of 110 = .ok (.getfield 45, 3) := by decide +kernel
theorem dX9_of_113 : decode cX9_of 113 = .ok (.iload_n 1, 1) := by decide +kernel
theorem dX9_of_114 : decode cX9_of 114 = .ok (.iaload, 1) := by decide +kernel
theorem dX9_of_115 : decode cX9_of 115 = .ok (.ireturn, 1) := by decide +kernel
theorem dX9_of_116 : decode cX9_of 116 = .ok (.aload_n 0, 1) := by decide +kernel
theorem dX9_of_117 : decode cX9_of 117 = .ok (.getfield 48, 3) := by decide +kernel
theorem dX9_of_120 : decode cX9_of 120 = .ok (.iload_n 1, 1) := by decide +kernel
theorem dX9_of_121 : decode cX9_of 121 = .ok (.iaload, 1) := by decide +kernel
theorem dX9_of_122 : decode cX9_of 122 = .ok (.ireturn, 1) := by decide +kernel
theorem dX9_of_123 : decode cX9_of 123 = .ok (.aload_n 0, 1) := by decide +kernel
theorem dX9_of_124 : decode cX9_of 124 = .ok (.iload_n 1, 1) := by decide +kernel
theorem dX9_of_125 : decode cX9_of 125 = .ok (.invokevirtual 208, 3) := by decide +kernel
theorem dX9_of_128 : decode cX9_of 128 = .ok (.ireturn, 1) := by decide +kernel
theorem dX9_of_129 : decode cX9_of 129 = .ok (.iconst (-1), 1) := by decide +kernel
theorem dX9_of_130 : decode cX9_of 130 = .ok (.ireturn, 1) := by decide +kernel
theorem dX9_plane_0 : decode cX9_plane 0 = .ok (.iload_n 1, 1) := by decide +kernel
theorem dX9_plane_1 : decode cX9_plane 1 = .ok (.i2l, 1) := by decide +kernel
theorem dX9_plane_2 : decode cX9_plane 2 = .ok (.lconst 0, 1) := by decide +kernel
theorem dX9_plane_3 : decode cX9_plane 3 = .ok (.ldc2_w 136, 3) := by decide +kernel
theorem dX9_plane_6 : decode cX9_plane 6 = .ok (.invokestatic 138, 3) := by decide +kernel
theorem dX9_plane_9 : decode cX9_plane 9 = .ok (.ifCond .eq 59, 3) := by decide +kernel
theorem dX9_plane_12 : decode cX9_plane 12 = .ok (.iload_n 2, 1) := by decide +kernel
theorem dX9_plane_13 : decode cX9_plane 13 = .ok (.i2l, 1) := by decide +kernel
theorem dX9_plane_14 : decode cX9_plane 14 = .ok (.lconst 1, 1) := by decide +kernel
theorem dX9_plane_15 : decode cX9_plane 15 = .ok (.ldc2_w 156, 3) := by decide +kernel
theorem dX9_plane_18 : decode cX9_plane 18 = .ok (.invokestatic 138, 3) := by decide +kernel
theorem dX9_plane_21 : decode cX9_plane 21 = .ok (.ifCond .eq 47, 3) := by decide +kernel
theorem dX9_plane_24 : decode cX9_plane 24 = .ok (.iload_n 3, 1) := by decide +kernel
theorem dX9_plane_25 : decode cX9_plane 25 = .ok (.i2l, 1) := by decide +kernel
theorem dX9_plane_26 : decode cX9_plane 26 = .ok (.ldc2_w 212, 3) := by decide +kernel
theorem dX9_plane_29 : decode cX9_plane 29 = .ok (.ldc2_w 214, 3) := by decide +kernel
theorem dX9_plane_32 : decode cX9_plane 32 = .ok (.invokestatic 138, 3) := by decide +kernel
theorem dX9_plane_35 : decode cX9_plane 35 = .ok (.ifCond .eq 33, 3) := by decide +kernel
theorem dX9_plane_38 : decode cX9_plane 38 = .ok (.iload 4, 2) := by decide +kernel
theorem dX9_plane_40 : decode cX9_plane 40 = .ok (.i2l, 1) := by decide +kernel
theorem dX9_plane_41 : decode cX9_plane 41 = .ok (.ldc2_w 185, 3) := by decide +kernel
theorem dX9_plane_44 : decode cX9_plane 44 = .ok (.ldc2_w 216, 3) := by decide +kernel
theorem dX9_plane_47 : decode cX9_plane 47 = .ok (.invokestatic 138, 3) := by decide +kernel
theorem dX9_plane_50 : decode cX9_plane 50 = .ok (.ifCond .eq 18, 3) := by decide +kernel
theorem dX9_plane_53 : decode cX9_plane 53 = .ok (.iload 5, 2) := by decide +kernel
theorem dX9_plane_55 : decode cX9_plane 55 = .ok (.i2l, 1) := by decide +kernel
theorem dX9_plane_56 : decode cX9_plane 56 = .ok (.ldc2_w 193, 3) := by decide +kernel
theorem dX9_plane_59 : decode cX9_plane 59 = .ok (.ldc2_w 218, 3) := by decide +kernel
theorem dX9_plane_62 : decode cX9_plane 62 = .ok (.invokestatic 138, 3) := by decide +kernel
theorem dX9_plane_65 : decode cX9_plane 65 = .ok (.ifCond .ne 5, 3) := by decide +kernel
theorem dX9_plane_68 : decode cX9_plane 68 = .ok (.iconst (-1), 1) := by decide +kernel
theorem dX9_plane_69 : decode cX9_plane 69 = .ok (.ireturn, 1) := by decide +kernel
theorem dX9_plane_70 : decode cX9_plane 70 = .ok (.aload_n 0, 1) := by decide +kernel
theorem dX9_plane_71 : decode cX9_plane 71 = .ok (.getfield 54, 3) := by decide +kernel
theorem dX9_plane_74 : decode cX9_plane 74 = .ok (.iload_n 1, 1) := by decide +kernel
theorem dX9_plane_75 : decode cX9_plane 75 = .ok (.iload_n 2, 1) := by decide +kernel
theorem dX9_plane_76 : decode cX9_plane 76 = .ok (.iastore, 1) := by decide +kernel
theorem dX9_plane_77 : decode cX9_plane 77 = .ok (.aload_n 0, 1) := by decide +kernel
theorem dX9_plane_78 : decode cX9_plane 78 = .ok (.getfield 57, 3) := by decide +kernel
theorem dX9_plane_81 : decode cX9_plane 81 = .ok (.iload_n 1, 1) := by decide +kernel
theorem dX9_plane_82 : decode cX9_plane 82 = .ok (.iload_n 3, 1) := by decide +kernel
theorem dX9_plane_83 : decode cX9_plane 83 = .ok (.iastore, 1) := by decide +kernel
theorem dX9_plane_84 : decode cX9_plane 84 = .ok (.aload_n 0, 1) := by decide +kernel
theorem dX9_plane_85 : decode cX9_plane 85 = .ok (.getfield 60, 3) := by decide +kernel
theorem dX9_plane_88 : decode cX9_plane 88 = .ok (.iload_n 1, 1) := by decide +kernel
theorem dX9_plane_89 : decode cX9_plane 89 = .ok (.iload 4, 2) := by decide +kernel
theorem dX9_plane_91 : decode cX9_plane 91 = .ok (.iastore, 1) := by decide +kernel
theorem dX9_plane_92 : decode cX9_plane 92 = .ok (.aload_n 0, 1) := by decide +kernel
theorem dX9_plane_93 : decode cX9_plane 93 = .ok (.getfield 63, 3) := by decide +kernel
theorem dX9_plane_96 : decode cX9_plane 96 = .ok (.iload_n 1, 1) := by decide +kernel
theorem dX9_plane_97 : decode cX9_plane 97 = .ok (.iload 5, 2) := by decide +kernel
theorem dX9_plane_99 : decode cX9_plane 99 = .ok (.iastore, 1) := by decide +kernel
theorem dX9_plane_100 : decode cX9_plane 100 = .ok (.iconst 1, 1) := by decide +kernel
theorem dX9_plane_101 : decode cX9_plane 101 = .ok (.ireturn, 1) := by decide +kernel
theorem dX9_rule_0 : decode cX9_rule 0 = .ok (.iload_n 1, 1) := by decide +kernel
theorem dX9_rule_1 : decode cX9_rule 1 = .ok (.i2l, 1) := by decide +kernel
theorem dX9_rule_2 : decode cX9_rule 2 = .ok (.lconst 0, 1) := by decide +kernel
theorem dX9_rule_3 : decode cX9_rule 3 = .ok (.ldc2_w 220, 3) := by decide +kernel
theorem dX9_rule_6 : decode cX9_rule 6 = .ok (.invokestatic 138, 3) := by decide +kernel
theorem dX9_rule_9 : decode cX9_rule 9 = .ok (.ifCond .ne 5, 3) := by decide +kernel
theorem dX9_rule_12 : decode cX9_rule 12 = .ok (.iconst (-1), 1) := by decide +kernel
theorem dX9_rule_13 : decode cX9_rule 13 = .ok (.ireturn, 1) := by decide +kernel
theorem dX9_rule_14 : decode cX9_rule 14 = .ok (.iload_n 1, 1) := by decide +kernel
theorem dX9_rule_15 : decode cX9_rule 15 = .ok (.ifCond .ne 9, 3) := by decide +kernel
theorem dX9_rule_18 : decode cX9_rule 18 = .ok (.sipush 5000, 3) := by decide +kernel
theorem dX9_rule_21 : decode cX9_rule 21 = .ok (.goto 26, 3) := by decide +kernel
theorem dX9_rule_24 : decode cX9_rule 24 = .ok (.iload_n 1, 1) := by decide +kernel
theorem dX9_rule_25 : decode cX9_rule 25 = .ok (.iconst 1, 1) := by decide +kernel
theorem dX9_rule_26 : decode cX9_rule 26 = .ok (.if_icmp .ne 9, 3) := by decide +kernel
theorem dX9_rule_29 : decode cX9_rule 29 = .ok (.sipush 20000, 3) := by decide +kernel
theorem dX9_rule_32 : decode cX9_rule 32 = .ok (.goto 15, 3) := by decide +kernel
theorem dX9_rule_35 : decode cX9_rule 35 = .ok (.iload_n 1, 1) := by decide +kernel
theorem dX9_rule_36 : decode cX9_rule 36 = .ok (.bipush 6, 2) := by decide +kernel
theorem dX9_rule_38 : decode cX9_rule 38 = .ok (.if_icmp .ge 8, 3) := by decide +kernel
theorem dX9_rule_41 : decode cX9_rule 41 = .ok (.ldc 222, 2) := by decide +kernel
theorem dX9_rule_43 : decode cX9_rule 43 = .ok (.goto 4, 3) := by decide +kernel
theorem dX9_rule_46 : decode cX9_rule 46 = .ok (.iconst 3, 1) := by decide +kernel
theorem dX9_rule_47 : decode cX9_rule 47 = .ok (.istore_n 3, 1) := by decide +kernel
theorem dX9_rule_48 : decode cX9_rule 48 = .ok (.iload_n 2, 1) := by decide +kernel
theorem dX9_rule_49 : decode cX9_rule 49 = .ok (.i2l, 1) := by decide +kernel
theorem dX9_rule_50 : decode cX9_rule 50 = .ok (.lconst 0, 1) := by decide +kernel
theorem dX9_rule_51 : decode cX9_rule 51 = .ok (.iload_n 3, 1) := by decide +kernel
theorem dX9_rule_52 : decode cX9_rule 52 = .ok (.i2l, 1) := by decide +kernel
theorem dX9_rule_53 : decode cX9_rule 53 = .ok (.invokestatic 138, 3) := by decide +kernel
theorem dX9_rule_56 : decode cX9_rule 56 = .ok (.ifCond .ne 5, 3) := by decide +kernel
theorem dX9_rule_59 : decode cX9_rule 59 = .ok (.iconst (-1), 1) := by decide +kernel
theorem dX9_rule_60 : decode cX9_rule 60 = .ok (.ireturn, 1) := by decide +kernel
theorem dX9_rule_61 : decode cX9_rule 61 = .ok (.aload_n 0, 1) := by decide +kernel
theorem dX9_rule_62 : decode cX9_rule 62 = .ok (.getfield 66, 3) := by decide +kernel
theorem dX9_rule_65 : decode cX9_rule 65 = .ok (.iload_n 1, 1) := by decide +kernel
theorem dX9_rule_66 : decode cX9_rule 66 = .ok (.iaload, 1) := by decide +kernel
theorem dX9_rule_67 : decode cX9_rule 67 = .ok (.istore 4, 2) := by decide +kernel
theorem dX9_rule_69 : decode cX9_rule 69 = .ok (.aload_n 0, 1) := by decide +kernel
theorem dX9_rule_70 : decode cX9_rule 70 = .ok (.getfield 66, 3) := by decide +kernel
theorem dX9_rule_73 : decode cX9_rule 73 = .ok (.iload_n 1, 1) := by decide +kernel
theorem dX9_rule_74 : decode cX9_rule 74 = .ok (.iload_n 2, 1) := by decide +kernel
theorem dX9_rule_75 : decode cX9_rule 75 = .ok (.iastore, 1) := by decide +kernel
theorem dX9_rule_76 : decode cX9_rule 76 = .ok (.iload 4, 2) := by decide +kernel
theorem dX9_rule_78 : decode cX9_rule 78 = .ok (.ireturn, 1) := by decide +kernel
theorem dX9_load_0 : decode cX9_load 0 = .ok (.iload_n 1, 1) := by decide +kernel
theorem dX9_load_1 : decode cX9_load 1 = .ok (.i2l, 1) := by decide +kernel
theorem dX9_load_2 : decode cX9_load 2 = .ok (.lconst 0, 1) := by decide +kernel
theorem dX9_load_3 : decode cX9_load 3 = .ok (.ldc2_w 136, 3) := by decide +kernel
theorem dX9_load_6 : decode cX9_load 6 = .ok (.invokestatic 138, 3) := by decide +kernel
theorem dX9_load_9 : decode cX9_load 9 = .ok (.ifCond .ne 5, 3) := by decide +kernel
theorem dX9_load_12 : decode cX9_load 12 = .ok (.iconst (-1), 1) := by decide +kernel
theorem dX9_load_13 : decode cX9_load 13 = .ok (.ireturn, 1) := by decide +kernel
theorem dX9_load_14 : decode cX9_load 14 = .ok (.aload_n 0, 1) := by decide +kernel
theorem dX9_load_15 : decode cX9_load 15 = .ok (.getfield 146, 3) := by decide +kernel
theorem dX9_load_18 : decode cX9_load 18 = .ok (.bipush 12, 2) := by decide +kernel
theorem dX9_load_20 : decode cX9_load 20 = .ok (.if_icmp .ne 6, 3) := by decide +kernel
theorem dX9_load_23 : decode cX9_load 23 = .ok (.bipush (-2), 2) := by decide +kernel
theorem dX9_load_25 : decode cX9_load 25 = .ok (.ireturn, 1) := by decide +kernel
theorem dX9_load_26 : decode cX9_load 26 = .ok (.aload_n 0, 1) := by decide +kernel
theorem dX9_load_27 : decode cX9_load 27 = .ok (.getfield 69, 3) := by decide +kernel
theorem dX9_load_30 : decode cX9_load 30 = .ok (.aload_n 0, 1) := by decide +kernel
theorem dX9_load_31 : decode cX9_load 31 = .ok (.getfield 146, 3) := by decide +kernel
theorem dX9_load_34 : decode cX9_load 34 = .ok (.iload_n 1, 1) := by decide +kernel
theorem dX9_load_35 : decode cX9_load 35 = .ok (.iastore, 1) := by decide +kernel
theorem dX9_load_36 : decode cX9_load 36 = .ok (.aload_n 0, 1) := by decide +kernel
theorem dX9_load_37 : decode cX9_load 37 = .ok (.dup, 1) := by decide +kernel
theorem dX9_load_38 : decode cX9_load 38 = .ok (.getfield 146, 3) := by decide +kernel
theorem dX9_load_41 : decode cX9_load 41 = .ok (.iconst 1, 1) := by decide +kernel
theorem dX9_load_42 : decode cX9_load 42 = .ok (.iadd, 1) := by decide +kernel
theorem dX9_load_43 : decode cX9_load 43 = .ok (.putfield 146, 3) := by decide +kernel
theorem dX9_load_46 : decode cX9_load 46 = .ok (.aload_n 0, 1) := by decide +kernel
theorem dX9_load_47 : decode cX9_load 47 = .ok (.getfield 146, 3) := by decide +kernel
theorem dX9_load_50 : decode cX9_load 50 = .ok (.iconst 1, 1) := by decide +kernel
theorem dX9_load_51 : decode cX9_load 51 = .ok (.isub, 1) := by decide +kernel
theorem dX9_load_52 : decode cX9_load 52 = .ok (.ireturn, 1) := by decide +kernel
theorem dX9_put_0 : decode cX9_put 0 = .ok (.aload_n 0, 1) := by decide +kernel
theorem dX9_put_1 : decode cX9_put 1 = .ok (.iload_n 1, 1) := by decide +kernel
theorem dX9_put_2 : decode cX9_put 2 = .ok (.invokevirtual 149, 3) := by decide +kernel
theorem dX9_put_5 : decode cX9_put 5 = .ok (.ifCond .eq 23, 3) := by decide +kernel
theorem dX9_put_8 : decode cX9_put 8 = .ok (.aload_n 0, 1) := by decide +kernel
theorem dX9_put_9 : decode cX9_put 9 = .ok (.iload_n 2, 1) := by decide +kernel
theorem dX9_put_10 : decode cX9_put 10 = .ok (.invokevirtual 197, 3) := by decide +kernel
theorem dX9_put_13 : decode cX9_put 13 = .ok (.ifCond .eq 15, 3) := by decide +kernel
theorem dX9_put_16 : decode cX9_put 16 = .ok (.iload_n 3, 1) := by decide +kernel
theorem dX9_put_17 : decode cX9_put 17 = .ok (.i2l, 1) := by decide +kernel
theorem dX9_put_18 : decode cX9_put 18 = .ok (.lconst 1, 1) := by decide +kernel
theorem dX9_put_19 : decode cX9_put 19 = .ok (.ldc2_w 223, 3) := by decide +kernel
theorem dX9_put_22 : decode cX9_put 22 = .ok (.invokestatic 138, 3) := by decide +kernel
theorem dX9_put_25 : decode cX9_put 25 = .ok (.ifCond .ne 5, 3) := by decide +kernel
theorem dX9_put_28 : decode cX9_put 28 = .ok (.iconst (-1), 1) := by decide +kernel
theorem dX9_put_29 : decode cX9_put 29 = .ok (.ireturn, 1) := by decide +kernel
theorem dX9_put_30 : decode cX9_put 30 = .ok (.aload_n 0, 1) := by decide +kernel
theorem dX9_put_31 : decode cX9_put 31 = .ok (.getfield 84, 3) := by decide +kernel
theorem dX9_put_34 : decode cX9_put 34 = .ok (.iload_n 1, 1) := by decide +kernel
theorem dX9_put_35 : decode cX9_put 35 = .ok (.baload, 1) := by decide +kernel
theorem dX9_put_36 : decode cX9_put 36 = .ok (.ifCond .eq 6, 3) := by decide +kernel
theorem dX9_put_39 : decode cX9_put 39 = .ok (.bipush (-6), 2) := by decide +kernel
theorem dX9_put_41 : decode cX9_put 41 = .ok (.ireturn, 1) := by decide +kernel
theorem dX9_put_42 : decode cX9_put 42 = .ok (.aload_n 0, 1) := by decide +kernel
theorem dX9_put_43 : decode cX9_put 43 = .ok (.iload_n 2, 1) := by decide +kernel
theorem dX9_put_44 : decode cX9_put 44 = .ok (.iconst 0, 1) := by decide +kernel
theorem dX9_put_45 : decode cX9_put 45 = .ok (.invokevirtual 200, 3) := by decide +kernel
theorem dX9_put_48 : decode cX9_put 48 = .ok (.ifCond .eq 6, 3) := by decide +kernel
theorem dX9_put_51 : decode cX9_put 51 = .ok (.bipush (-5), 2) := by decide +kernel
theorem dX9_put_53 : decode cX9_put 53 = .ok (.ireturn, 1) := by decide +kernel
theorem dX9_put_54 : decode cX9_put 54 = .ok (.aload_n 0, 1) := by decide +kernel
theorem dX9_put_55 : decode cX9_put 55 = .ok (.getfield 72, 3) := by decide +kernel
theorem dX9_put_58 : decode cX9_put 58 = .ok (.iload_n 1, 1) := by decide +kernel
theorem dX9_put_59 : decode cX9_put 59 = .ok (.iaload, 1) := by decide +kernel
theorem dX9_put_60 : decode cX9_put 60 = .ok (.bipush 6, 2) := by decide +kernel
theorem dX9_put_62 : decode cX9_put 62 = .ok (.if_icmp .ne 6, 3) := by decide +kernel
theorem dX9_put_65 : decode cX9_put 65 = .ok (.bipush (-2), 2) := by decide +kernel
theorem dX9_put_67 : decode cX9_put 67 = .ok (.ireturn, 1) := by decide +kernel
theorem dX9_put_68 : decode cX9_put 68 = .ok (.aload_n 0, 1) := by decide +kernel
theorem dX9_put_69 : decode cX9_put 69 = .ok (.getfield 75, 3) := by decide +kernel
theorem dX9_put_72 : decode cX9_put 72 = .ok (.bipush 6, 2) := by decide +kernel
theorem dX9_put_74 : decode cX9_put 74 = .ok (.iload_n 1, 1) := by decide +kernel
theorem dX9_put_75 : decode cX9_put 75 = .ok (.imul, 1) := by decide +kernel
theorem dX9_put_76 : decode cX9_put 76 = .ok (.aload_n 0, 1) := by decide +kernel
theorem dX9_put_77 : decode cX9_put 77 = .ok (.getfield 72, 3) := by decide +kernel
theorem dX9_put_80 : decode cX9_put 80 = .ok (.iload_n 1, 1) := by decide +kernel
theorem dX9_put_81 : decode cX9_put 81 = .ok (.iaload, 1) := by decide +kernel
theorem dX9_put_82 : decode cX9_put 82 = .ok (.iadd, 1) := by decide +kernel
theorem dX9_put_83 : decode cX9_put 83 = .ok (.iload_n 2, 1) := by decide +kernel
theorem dX9_put_84 : decode cX9_put 84 = .ok (.iastore, 1) := by decide +kernel
theorem dX9_put_85 : decode cX9_put 85 = .ok (.aload_n 0, 1) := by decide +kernel
theorem dX9_put_86 : decode cX9_put 86 = .ok (.getfield 78, 3) := by decide +kernel
theorem dX9_put_89 : decode cX9_put 89 = .ok (.bipush 6, 2) := by decide +kernel
theorem dX9_put_91 : decode cX9_put 91 = .ok (.iload_n 1, 1) := by decide +kernel
theorem dX9_put_92 : decode cX9_put 92 = .ok (.imul, 1) := by decide +kernel
theorem dX9_put_93 : decode cX9_put 93 = .ok (.aload_n 0, 1) := by decide +kernel
theorem dX9_put_94 : decode cX9_put 94 = .ok (.getfield 72, 3) := by decide +kernel
theorem dX9_put_97 : decode cX9_put 97 = .ok (.iload_n 1, 1) := by decide +kernel
theorem dX9_put_98 : decode cX9_put 98 = .ok (.iaload, 1) := by decide +kernel
theorem dX9_put_99 : decode cX9_put 99 = .ok (.iadd, 1) := by decide +kernel
theorem dX9_put_100 : decode cX9_put 100 = .ok (.iload_n 3, 1) := by decide +kernel
theorem dX9_put_101 : decode cX9_put 101 = .ok (.iastore, 1) := by decide +kernel
theorem dX9_put_102 : decode cX9_put 102 = .ok (.aload_n 0, 1) := by decide +kernel
theorem dX9_put_103 : decode cX9_put 103 = .ok (.getfield 72, 3) := by decide +kernel
theorem dX9_put_106 : decode cX9_put 106 = .ok (.iload_n 1, 1) := by decide +kernel
theorem dX9_put_107 : decode cX9_put 107 = .ok (.dup2, 1) := by decide +kernel
theorem dX9_put_108 : decode cX9_put 108 = .ok (.iaload, 1) := by decide +kernel
theorem dX9_put_109 : decode cX9_put 109 = .ok (.iconst 1, 1) := by decide +kernel
theorem dX9_put_110 : decode cX9_put 110 = .ok (.iadd, 1) := by decide +kernel
theorem dX9_put_111 : decode cX9_put 111 = .ok (.iastore, 1) := by decide +kernel
theorem dX9_put_112 : decode cX9_put 112 = .ok (.aload_n 0, 1) := by decide +kernel
theorem dX9_put_113 : decode cX9_put 113 = .ok (.getfield 72, 3) := by decide +kernel
theorem dX9_put_116 : decode cX9_put 116 = .ok (.iload_n 1, 1) := by decide +kernel
theorem dX9_put_117 : decode cX9_put 117 = .ok (.iaload, 1) := by decide +kernel
theorem dX9_put_118 : decode cX9_put 118 = .ok (.ireturn, 1) := by decide +kernel
theorem dX9_out_0 : decode cX9_out 0 = .ok (.aload_n 0, 1) := by decide +kernel
theorem dX9_out_1 : decode cX9_out 1 = .ok (.iload_n 1, 1) := by decide +kernel
theorem dX9_out_2 : decode cX9_out 2 = .ok (.iload_n 2, 1) := by decide +kernel
theorem dX9_out_3 : decode cX9_out 3 = .ok (.invokevirtual 225, 3) := by decide +kernel
theorem dX9_out_6 : decode cX9_out 6 = .ok (.ifCond .ne 5, 3) := by decide +kernel
theorem dX9_out_9 : decode cX9_out 9 = .ok (.iconst (-1), 1) := by decide +kernel
theorem dX9_out_10 : decode cX9_out 10 = .ok (.ireturn, 1) := by decide +kernel
theorem dX9_out_11 : decode cX9_out 11 = .ok (.aload_n 0, 1) := by decide +kernel
theorem dX9_out_12 : decode cX9_out 12 = .ok (.getfield 84, 3) := by decide +kernel
theorem dX9_out_15 : decode cX9_out 15 = .ok (.iload_n 1, 1) := by decide +kernel
theorem dX9_out_16 : decode cX9_out 16 = .ok (.baload, 1) := by decide +kernel
theorem dX9_out_17 : decode cX9_out 17 = .ok (.ifCond .eq 6, 3) := by decide +kernel
theorem dX9_out_20 : decode cX9_out 20 = .ok (.bipush (-6), 2) := by decide +kernel
theorem dX9_out_22 : decode cX9_out 22 = .ok (.ireturn, 1) := by decide +kernel
theorem dX9_out_23 : decode cX9_out 23 = .ok (.aload_n 0, 1) := by decide +kernel
theorem dX9_out_24 : decode cX9_out 24 = .ok (.getfield 72, 3) := by decide +kernel
theorem dX9_out_27 : decode cX9_out 27 = .ok (.iload_n 1, 1) := by decide +kernel
theorem dX9_out_28 : decode cX9_out 28 = .ok (.dup2, 1) := by decide +kernel
theorem dX9_out_29 : decode cX9_out 29 = .ok (.iaload, 1) := by decide +kernel
theorem dX9_out_30 : decode cX9_out 30 = .ok (.iconst 1, 1) := by decide +kernel
theorem dX9_out_31 : decode cX9_out 31 = .ok (.isub, 1) := by decide +kernel
theorem dX9_out_32 : decode cX9_out 32 = .ok (.iastore, 1) := by decide +kernel
theorem dX9_out_33 : decode cX9_out 33 = .ok (.iload_n 2, 1) := by decide +kernel
theorem dX9_out_34 : decode cX9_out 34 = .ok (.istore_n 3, 1) := by decide +kernel
theorem dX9_out_35 : decode cX9_out 35 = .ok (.iload_n 3, 1) := by decide +kernel
theorem dX9_out_36 : decode cX9_out 36 = .ok (.aload_n 0, 1) := by decide +kernel
theorem dX9_out_37 : decode cX9_out 37 = .ok (.getfield 72, 3) := by decide +kernel
theorem dX9_out_40 : decode cX9_out 40 = .ok (.iload_n 1, 1) := by decide +kernel
theorem dX9_out_41 : decode cX9_out 41 = .ok (.iaload, 1) := by decide +kernel
theorem dX9_out_42 : decode cX9_out 42 = .ok (.if_icmp .ge 57, 3) := by decide +kernel
theorem dX9_out_45 : decode cX9_out 45 = .ok (.aload_n 0, 1) := by decide +kernel
theorem dX9_out_46 : decode cX9_out 46 = .ok (.getfield 75, 3) := by decide +kernel
theorem dX9_out_49 : decode cX9_out 49 = .ok (.bipush 6, 2) := by decide +kernel
theorem dX9_out_51 : decode cX9_out 51 = .ok (.iload_n 1, 1) := by decide +kernel
theorem dX9_out_52 : decode cX9_out 52 = .ok (.imul, 1) := by decide +kernel
theorem dX9_out_53 : decode cX9_out 53 = .ok (.iload_n 3, 1) := by decide +kernel
theorem dX9_out_54 : decode cX9_out 54 = .ok (.iadd, 1) := by decide +kernel
theorem dX9_out_55 : decode cX9_out 55 = .ok (.aload_n 0, 1) := by decide +kernel
theorem dX9_out_56 : decode cX9_out 56 = .ok (.getfield 75, 3) := by decide +kernel
theorem dX9_out_59 : decode cX9_out 59 = .ok (.bipush 6, 2) := by decide +kernel
theorem dX9_out_61 : decode cX9_out 61 = .ok (.iload_n 1, 1) := by decide +kernel
theorem dX9_out_62 : decode cX9_out 62 = .ok (.imul, 1) := by decide +kernel
theorem dX9_out_63 : decode cX9_out 63 = .ok (.iload_n 3, 1) := by decide +kernel
theorem dX9_out_64 : decode cX9_out 64 = .ok (.iadd, 1) := by decide +kernel
theorem dX9_out_65 : decode cX9_out 65 = .ok (.iconst 1, 1) := by decide +kernel
theorem dX9_out_66 : decode cX9_out 66 = .ok (.iadd, 1) := by decide +kernel
theorem dX9_out_67 : decode cX9_out 67 = .ok (.iaload, 1) := by decide +kernel
theorem dX9_out_68 : decode cX9_out 68 = .ok (.iastore, 1) := by decide +kernel
theorem dX9_out_69 : decode cX9_out 69 = .ok (.aload_n 0, 1) := by decide +kernel
theorem dX9_out_70 : decode cX9_out 70 = .ok (.getfield 78, 3) := by decide +kernel
theorem dX9_out_73 : decode cX9_out 73 = .ok (.bipush 6, 2) := by decide +kernel
theorem dX9_out_75 : decode cX9_out 75 = .ok (.iload_n 1, 1) := by decide +kernel
theorem dX9_out_76 : decode cX9_out 76 = .ok (.imul, 1) := by decide +kernel
theorem dX9_out_77 : decode cX9_out 77 = .ok (.iload_n 3, 1) := by decide +kernel
theorem dX9_out_78 : decode cX9_out 78 = .ok (.iadd, 1) := by decide +kernel
theorem dX9_out_79 : decode cX9_out 79 = .ok (.aload_n 0, 1) := by decide +kernel
theorem dX9_out_80 : decode cX9_out 80 = .ok (.getfield 78, 3) := by decide +kernel
theorem dX9_out_83 : decode cX9_out 83 = .ok (.bipush 6, 2) := by decide +kernel
theorem dX9_out_85 : decode cX9_out 85 = .ok (.iload_n 1, 1) := by decide +kernel
theorem dX9_out_86 : decode cX9_out 86 = .ok (.imul, 1) := by decide +kernel
theorem dX9_out_87 : decode cX9_out 87 = .ok (.iload_n 3, 1) := by decide +kernel
theorem dX9_out_88 : decode cX9_out 88 = .ok (.iadd, 1) := by decide +kernel
theorem dX9_out_89 : decode cX9_out 89 = .ok (.iconst 1, 1) := by decide +kernel
theorem dX9_out_90 : decode cX9_out 90 = .ok (.iadd, 1) := by decide +kernel
theorem dX9_out_91 : decode cX9_out 91 = .ok (.iaload, 1) := by decide +kernel
theorem dX9_out_92 : decode cX9_out 92 = .ok (.iastore, 1) := by decide +kernel
theorem dX9_out_93 : decode cX9_out 93 = .ok (.iinc 3 1, 3) := by decide +kernel
theorem dX9_out_96 : decode cX9_out 96 = .ok (.goto (-61), 3) := by decide +kernel
theorem dX9_out_99 : decode cX9_out 99 = .ok (.aload_n 0, 1) := by decide +kernel
theorem dX9_out_100 : decode cX9_out 100 = .ok (.getfield 72, 3) := by decide +kernel
theorem dX9_out_103 : decode cX9_out 103 = .ok (.iload_n 1, 1) := by decide +kernel
theorem dX9_out_104 : decode cX9_out 104 = .ok (.iaload, 1) := by decide +kernel
theorem dX9_out_105 : decode cX9_out 105 = .ok (.ireturn, 1) := by decide +kernel
theorem dX9_pause_0 : decode cX9_pause 0 = .ok (.aload_n 0, 1) := by decide +kernel
theorem dX9_pause_1 : decode cX9_pause 1 = .ok (.iload_n 1, 1) := by decide +kernel
theorem dX9_pause_2 : decode cX9_pause 2 = .ok (.iload_n 2, 1) := by decide +kernel
theorem dX9_pause_3 : decode cX9_pause 3 = .ok (.invokevirtual 225, 3) := by decide +kernel
theorem dX9_pause_6 : decode cX9_pause 6 = .ok (.ifCond .eq 15, 3) := by decide +kernel
theorem dX9_pause_9 : decode cX9_pause 9 = .ok (.iload_n 3, 1) := by decide +kernel
theorem dX9_pause_10 : decode cX9_pause 10 = .ok (.i2l, 1) := by decide +kernel
theorem dX9_pause_11 : decode cX9_pause 11 = .ok (.lconst 1, 1) := by decide +kernel
theorem dX9_pause_12 : decode cX9_pause 12 = .ok (.ldc2_w 223, 3) := by decide +kernel
theorem dX9_pause_15 : decode cX9_pause 15 = .ok (.invokestatic 138, 3) := by decide +kernel
theorem dX9_pause_18 : decode cX9_pause 18 = .ok (.ifCond .ne 5, 3) := by decide +kernel
theorem dX9_pause_21 : decode cX9_pause 21 = .ok (.iconst (-1), 1) := by decide +kernel
theorem dX9_pause_22 : decode cX9_pause 22 = .ok (.ireturn, 1) := by decide +kernel
theorem dX9_pause_23 : decode cX9_pause 23 = .ok (.aload_n 0, 1) := by decide +kernel
theorem dX9_pause_24 : decode cX9_pause 24 = .ok (.getfield 84, 3) := by decide +kernel
theorem dX9_pause_27 : decode cX9_pause 27 = .ok (.iload_n 1, 1) := by decide +kernel
theorem dX9_pause_28 : decode cX9_pause 28 = .ok (.baload, 1) := by decide +kernel
theorem dX9_pause_29 : decode cX9_pause 29 = .ok (.ifCond .eq 6, 3) := by decide +kernel
theorem dX9_pause_32 : decode cX9_pause 32 = .ok (.bipush (-6), 2) := by decide +kernel
theorem dX9_pause_34 : decode cX9_pause 34 = .ok (.ireturn, 1) := by decide +kernel
theorem dX9_pause_35 : decode cX9_pause 35 = .ok (.aload_n 0, 1) := by decide +kernel
theorem dX9_pause_36 : decode cX9_pause 36 = .ok (.getfield 78, 3) := by decide +kernel
theorem dX9_pause_39 : decode cX9_pause 39 = .ok (.bipush 6, 2) := by decide +kernel
theorem dX9_pause_41 : decode cX9_pause 41 = .ok (.iload_n 1, 1) := by decide +kernel
theorem dX9_pause_42 : decode cX9_pause 42 = .ok (.imul, 1) := by decide +kernel
theorem dX9_pause_43 : decode cX9_pause 43 = .ok (.iload_n 2, 1) := by decide +kernel
theorem dX9_pause_44 : decode cX9_pause 44 = .ok (.iadd, 1) := by decide +kernel
theorem dX9_pause_45 : decode cX9_pause 45 = .ok (.iload_n 3, 1) := by decide +kernel
theorem dX9_pause_46 : decode cX9_pause 46 = .ok (.iastore, 1) := by decide +kernel
theorem dX9_pause_47 : decode cX9_pause 47 = .ok (.iconst 1, 1) := by decide +kernel
theorem dX9_pause_48 : decode cX9_pause 48 = .ok (.ireturn, 1) := by decide +kernel
theorem dX9_start_0 : decode cX9_start 0 = .ok (.aload_n 0, 1) := by decide +kernel
theorem dX9_start_1 : decode cX9_start 1 = .ok (.iload_n 1, 1) := by decide +kernel
theorem dX9_start_2 : decode cX9_start 2 = .ok (.invokevirtual 149, 3) := by decide +kernel
theorem dX9_start_5 : decode cX9_start 5 = .ok (.ifCond .eq 17, 3) := by decide +kernel
theorem dX9_start_8 : decode cX9_start 8 = .ok (.iload_n 2, 1) := by decide +kernel
theorem dX9_start_9 : decode cX9_start 9 = .ok (.i2l, 1) := by decide +kernel
theorem dX9_start_10 : decode cX9_start 10 = .ok (.ldc2_w 228, 3) := by decide +kernel
theorem dX9_start_13 : decode cX9_start 13 = .ok (.ldc2_w 230, 3) := by decide +kernel
theorem dX9_start_16 : decode cX9_start 16 = .ok (.invokestatic 138, 3) := by decide +kernel
theorem dX9_start_19 : decode cX9_start 19 = .ok (.ifCond .ne 5, 3) := by decide +kernel
theorem dX9_start_22 : decode cX9_start 22 = .ok (.iconst (-1), 1) := by decide +kernel
theorem dX9_start_23 : decode cX9_start 23 = .ok (.ireturn, 1) := by decide +kernel
theorem dX9_start_24 : decode cX9_start 24 = .ok (.aload_n 0, 1) := by decide +kernel
theorem dX9_start_25 : decode cX9_start 25 = .ok (.getfield 84, 3) := by decide +kernel
theorem dX9_start_28 : decode cX9_start 28 = .ok (.iload_n 1, 1) := by decide +kernel
theorem dX9_start_29 : decode cX9_start 29 = .ok (.baload, 1) := by decide +kernel
theorem dX9_start_30 : decode cX9_start 30 = .ok (.ifCond .eq 6, 3) := by decide +kernel
theorem dX9_start_33 : decode cX9_start 33 = .ok (.bipush (-6), 2) := by decide +kernel
theorem dX9_start_35 : decode cX9_start 35 = .ok (.ireturn, 1) := by decide +kernel
theorem dX9_start_36 : decode cX9_start 36 = .ok (.aload_n 0, 1) := by decide +kernel
theorem dX9_start_37 : decode cX9_start 37 = .ok (.getfield 81, 3) := by decide +kernel
theorem dX9_start_40 : decode cX9_start 40 = .ok (.iload_n 1, 1) := by decide +kernel
theorem dX9_start_41 : decode cX9_start 41 = .ok (.iload_n 2, 1) := by decide +kernel
theorem dX9_start_42 : decode cX9_start 42 = .ok (.iastore, 1) := by decide +kernel
theorem dX9_start_43 : decode cX9_start 43 = .ok (.iconst 1, 1) := by decide +kernel
theorem dX9_start_44 : decode cX9_start 44 = .ok (.ireturn, 1) := by decide +kernel
theorem dX9_leavesAt_0 : decode cX9_leavesAt 0 = .ok (.iconst 0, 1) := by decide +kernel
theorem dX9_leavesAt_1 : decode cX9_leavesAt 1 = .ok (.istore_n 3, 1) := by decide +kernel
theorem dX9_leavesAt_2 : decode cX9_leavesAt 2 = .ok (.iconst 1, 1) := by decide +kernel
theorem dX9_leavesAt_3 : decode cX9_leavesAt 3 = .ok (.istore 4, 2) := by decide +kernel
theorem dX9_leavesAt_5 : decode cX9_leavesAt 5 = .ok (.iload 4, 2) := by decide +kernel
theorem dX9_leavesAt_7 : decode cX9_leavesAt 7 = .ok (.iload_n 2, 1) := by decide +kernel
theorem dX9_leavesAt_8 : decode cX9_leavesAt 8 = .ok (.if_icmp .gt 24, 3) := by decide +kernel
theorem dX9_leavesAt_11 : decode cX9_leavesAt 11 = .ok (.iload_n 3, 1) := by decide +kernel
theorem dX9_leavesAt_12 : decode cX9_leavesAt 12 = .ok (.aload_n 0, 1) := by decide +kernel
theorem dX9_leavesAt_13 : decode cX9_leavesAt 13 = .ok (.getfield 78, 3) := by decide +kernel
theorem dX9_leavesAt_16 : decode cX9_leavesAt 16 = .ok (.bipush 6, 2) := by decide +kernel
theorem dX9_leavesAt_18 : decode cX9_leavesAt 18 = .ok (.iload_n 1, 1) := by decide +kernel
theorem dX9_leavesAt_19 : decode cX9_leavesAt 19 = .ok (.imul, 1) := by decide +kernel
theorem dX9_leavesAt_20 : decode cX9_leavesAt 20 = .ok (.iload 4, 2) := by decide +kernel
theorem dX9_leavesAt_22 : decode cX9_leavesAt 22 = .ok (.iadd, 1) := by decide +kernel
theorem dX9_leavesAt_23 : decode cX9_leavesAt 23 = .ok (.iaload, 1) := by decide +kernel
theorem dX9_leavesAt_24 : decode cX9_leavesAt 24 = .ok (.iadd, 1) := by decide +kernel
theorem dX9_leavesAt_25 : decode cX9_leavesAt 25 = .ok (.istore_n 3, 1) := by decide +kernel
theorem dX9_leavesAt_26 : decode cX9_leavesAt 26 = .ok (.iinc 4 1, 3) := by decide +kernel
theorem dX9_leavesAt_29 : decode cX9_leavesAt 29 = .ok (.goto (-24), 3) := by decide +kernel
theorem dX9_leavesAt_32 : decode cX9_leavesAt 32 = .ok (.iload_n 3, 1) := by decide +kernel
theorem dX9_leavesAt_33 : decode cX9_leavesAt 33 = .ok (.ireturn, 1) := by decide +kernel
theorem dX9_in__0 : decode cX9_in_ 0 = .ok (.aload_n 0, 1) := by decide +kernel
theorem dX9_in__1 : decode cX9_in_ 1 = .ok (.iload_n 1, 1) := by decide +kernel
theorem dX9_in__2 : decode cX9_in_ 2 = .ok (.invokevirtual 149, 3) := by decide +kernel
theorem dX9_in__5 : decode cX9_in_ 5 = .ok (.ifCond .ne 5, 3) := by decide +kernel
theorem dX9_in__8 : decode cX9_in_ 8 = .ok (.iconst (-1), 1) := by decide +kernel
theorem dX9_in__9 : decode cX9_in_ 9 = .ok (.ireturn, 1) := by decide +kernel
theorem dX9_in__10 : decode cX9_in_ 10 = .ok (.iload_n 2, 1) := by decide +kernel
theorem dX9_in__11 : decode cX9_in_ 11 = .ok (.bipush 10, 2) := by decide +kernel
theorem dX9_in__13 : decode cX9_in_ 13 = .ok (.if_icmp .lt 75, 3) := by decide +kernel
theorem dX9_in__16 : decode cX9_in_ 16 = .ok (.iload_n 2, 1) := by decide +kernel
theorem dX9_in__17 : decode cX9_in_ 17 = .ok (.bipush 40, 2) := by decide +kernel
theorem dX9_in__19 : decode cX9_in_ 19 = .ok (.if_icmp .ge 69, 3) := by decide +kernel
theorem dX9_in__22 : decode cX9_in_ 22 = .ok (.iload_n 2, 1) := by decide +kernel
theorem dX9_in__23 : decode cX9_in_ 23 = .ok (.bipush 10, 2) := by decide +kernel
theorem dX9_in__25 : decode cX9_in_ 25 = .ok (.irem, 1) := by decide +kernel
theorem dX9_in__26 : decode cX9_in_ 26 = .ok (.istore_n 3, 1) := by decide +kernel
theorem dX9_in__27 : decode cX9_in_ 27 = .ok (.bipush 6, 2) := by decide +kernel
theorem dX9_in__29 : decode cX9_in_ 29 = .ok (.iload_n 1, 1) := by decide +kernel
theorem dX9_in__30 : decode cX9_in_ 30 = .ok (.imul, 1) := by decide +kernel
theorem dX9_in__31 : decode cX9_in_ 31 = .ok (.iload_n 3, 1) := by decide +kernel
theorem dX9_in__32 : decode cX9_in_ 32 = .ok (.iadd, 1) := by decide +kernel
theorem dX9_in__33 : decode cX9_in_ 33 = .ok (.istore 4, 2) := by decide +kernel
theorem dX9_in__35 : decode cX9_in_ 35 = .ok (.iload_n 3, 1) := by decide +kernel
theorem dX9_in__36 : decode cX9_in_ 36 = .ok (.aload_n 0, 1) := by decide +kernel
theorem dX9_in__37 : decode cX9_in_ 37 = .ok (.getfield 72, 3) := by decide +kernel
theorem dX9_in__40 : decode cX9_in_ 40 = .ok (.iload_n 1, 1) := by decide +kernel
theorem dX9_in__41 : decode cX9_in_ 41 = .ok (.iaload, 1) := by decide +kernel
theorem dX9_in__42 : decode cX9_in_ 42 = .ok (.if_icmp .lt 7, 3) := by decide +kernel
theorem dX9_in__45 : decode cX9_in_ 45 = .ok (.iconst (-1), 1) := by decide +kernel
theorem dX9_in__46 : decode cX9_in_ 46 = .ok (.goto 41, 3) := by decide +kernel
theorem dX9_in__49 : decode cX9_in_ 49 = .ok (.iload_n 2, 1) := by decide +kernel
theorem dX9_in__50 : decode cX9_in_ 50 = .ok (.bipush 20, 2) := by decide +kernel
theorem dX9_in__52 : decode cX9_in_ 52 = .ok (.if_icmp .ge 13, 3) := by decide +kernel
theorem dX9_in__55 : decode cX9_in_ 55 = .ok (.aload_n 0, 1) := by decide +kernel
theorem dX9_in__56 : decode cX9_in_ 56 = .ok (.getfield 75, 3) := by decide +kernel
theorem dX9_in__59 : decode cX9_in_ 59 = .ok (.iload 4, 2) := by decide +kernel
theorem dX9_in__61 : decode cX9_in_ 61 = .ok (.iaload, 1) := by decide +kernel
theorem dX9_in__62 : decode cX9_in_ 62 = .ok (.goto 25, 3) := by decide +kernel
theorem dX9_in__65 : decode cX9_in_ 65 = .ok (.iload_n 2, 1) := by decide +kernel
theorem dX9_in__66 : decode cX9_in_ 66 = .ok (.bipush 30, 2) := by decide +kernel
theorem dX9_in__68 : decode cX9_in_ 68 = .ok (.if_icmp .ge 13, 3) := by decide +kernel
theorem dX9_in__71 : decode cX9_in_ 71 = .ok (.aload_n 0, 1) := by decide +kernel
theorem dX9_in__72 : decode cX9_in_ 72 = .ok (.getfield 78, 3) := by decide +kernel
theorem dX9_in__75 : decode cX9_in_ 75 = .ok (.iload 4, 2) := by decide +kernel
theorem dX9_in__77 : decode cX9_in_ 77 = .ok (.iaload, 1) := by decide +kernel
theorem dX9_in__78 : decode cX9_in_ 78 = .ok (.goto 9, 3) := by decide +kernel
theorem dX9_in__81 : decode cX9_in_ 81 = .ok (.aload_n 0, 1) := by decide +kernel
theorem dX9_in__82 : decode cX9_in_ 82 = .ok (.iload_n 1, 1) := by decide +kernel
theorem dX9_in__83 : decode cX9_in_ 83 = .ok (.iload_n 3, 1) := by decide +kernel
theorem dX9_in__84 : decode cX9_in_ 84 = .ok (.invokevirtual 232, 3) := by decide +kernel
theorem dX9_in__87 : decode cX9_in_ 87 = .ok (.ireturn, 1) := by decide +kernel
theorem dX9_in__88 : decode cX9_in_ 88 = .ok (.iload_n 2, 1) := by decide +kernel
theorem dX9_in__89 : decode cX9_in_ 89 = .ok (.tableswitch 67 0 3 #[31, 38, 45, 52], 31) := by decide +kernel
theorem dX9_in__120 : decode cX9_in_ 120 = .ok (.aload_n 0, 1) := by decide +kernel
theorem dX9_in__121 : decode cX9_in_ 121 = .ok (.getfield 69, 3) := by decide +kernel
theorem dX9_in__124 : decode cX9_in_ 124 = .ok (.iload_n 1, 1) := by decide +kernel
theorem dX9_in__125 : decode cX9_in_ 125 = .ok (.iaload, 1) := by decide +kernel
theorem dX9_in__126 : decode cX9_in_ 126 = .ok (.ireturn, 1) := by decide +kernel
theorem dX9_in__127 : decode cX9_in_ 127 = .ok (.aload_n 0, 1) := by decide +kernel
theorem dX9_in__128 : decode cX9_in_ 128 = .ok (.getfield 72, 3) := by decide +kernel
theorem dX9_in__131 : decode cX9_in_ 131 = .ok (.iload_n 1, 1) := by decide +kernel
theorem dX9_in__132 : decode cX9_in_ 132 = .ok (.iaload, 1) := by decide +kernel
theorem dX9_in__133 : decode cX9_in_ 133 = .ok (.ireturn, 1) := by decide +kernel
theorem dX9_in__134 : decode cX9_in_ 134 = .ok (.aload_n 0, 1) := by decide +kernel
theorem dX9_in__135 : decode cX9_in_ 135 = .ok (.getfield 81, 3) := by decide +kernel
theorem dX9_in__138 : decode cX9_in_ 138 = .ok (.iload_n 1, 1) := by decide +kernel
theorem dX9_in__139 : decode cX9_in_ 139 = .ok (.iaload, 1) := by decide +kernel
theorem dX9_in__140 : decode cX9_in_ 140 = .ok (.ireturn, 1) := by decide +kernel
theorem dX9_in__141 : decode cX9_in_ 141 = .ok (.aload_n 0, 1) := by decide +kernel
theorem dX9_in__142 : decode cX9_in_ 142 = .ok (.getfield 84, 3) := by decide +kernel
theorem dX9_in__145 : decode cX9_in_ 145 = .ok (.iload_n 1, 1) := by decide +kernel
theorem dX9_in__146 : decode cX9_in_ 146 = .ok (.baload, 1) := by decide +kernel
theorem dX9_in__147 : decode cX9_in_ 147 = .ok (.ifCond .eq 7, 3) := by decide +kernel
theorem dX9_in__150 : decode cX9_in_ 150 = .ok (.iconst 1, 1) := by decide +kernel
theorem dX9_in__151 : decode cX9_in_ 151 = .ok (.goto 4, 3) := by decide +kernel
theorem dX9_in__154 : decode cX9_in_ 154 = .ok (.iconst 0, 1) := by decide +kernel
theorem dX9_in__155 : decode cX9_in_ 155 = .ok (.ireturn, 1) := by decide +kernel
theorem dX9_in__156 : decode cX9_in_ 156 = .ok (.iconst (-1), 1) := by decide +kernel
theorem dX9_in__157 : decode cX9_in_ 157 = .ok (.ireturn, 1) := by decide +kernel
theorem dX9_takePlane_0 : decode cX9_takePlane 0 = .ok (.aload_n 0, 1) := by decide +kernel
theorem dX9_takePlane_1 : decode cX9_takePlane 1 = .ok (.aload_n 0, 1) := by decide +kernel
theorem dX9_takePlane_2 : decode cX9_takePlane 2 = .ok (.getfield 60, 3) := by decide +kernel
theorem dX9_takePlane_5 : decode cX9_takePlane 5 = .ok (.iload_n 1, 1) := by decide +kernel
theorem dX9_takePlane_6 : decode cX9_takePlane 6 = .ok (.iaload, 1) := by decide +kernel
theorem dX9_takePlane_7 : decode cX9_takePlane 7 = .ok (.putfield 235, 3) := by decide +kernel
theorem dX9_takePlane_10 : decode cX9_takePlane 10 = .ok (.aload_n 0, 1) := by decide +kernel
theorem dX9_takePlane_11 : decode cX9_takePlane 11 = .ok (.aload_n 0, 1) := by decide +kernel
theorem dX9_takePlane_12 : decode cX9_takePlane 12 = .ok (.getfield 63, 3) := by decide +kernel
theorem dX9_takePlane_15 : decode cX9_takePlane 15 = .ok (.iload_n 1, 1) := by decide +kernel
theorem dX9_takePlane_16 : decode cX9_takePlane 16 = .ok (.iaload, 1) := by decide +kernel
theorem dX9_takePlane_17 : decode cX9_takePlane 17 = .ok (.putfield 238, 3) := by decide +kernel
theorem dX9_takePlane_20 : decode cX9_takePlane 20 = .ok (.iconst 0, 1) := by decide +kernel
theorem dX9_takePlane_21 : decode cX9_takePlane 21 = .ok (.istore_n 2, 1) := by decide +kernel
theorem dX9_takePlane_22 : decode cX9_takePlane 22 = .ok (.iload_n 2, 1) := by decide +kernel
theorem dX9_takePlane_23 : decode cX9_takePlane 23 = .ok (.bipush 12, 2) := by decide +kernel
theorem dX9_takePlane_25 : decode cX9_takePlane 25 = .ok (.if_icmp .ge 33, 3) := by decide +kernel
theorem dX9_takePlane_28 : decode cX9_takePlane 28 = .ok (.aload_n 0, 1) := by decide +kernel
theorem dX9_takePlane_29 : decode cX9_takePlane 29 = .ok (.getfield 99, 3) := by decide +kernel
theorem dX9_takePlane_32 : decode cX9_takePlane 32 = .ok (.iload_n 2, 1) := by decide +kernel
theorem dX9_takePlane_33 : decode cX9_takePlane 33 = .ok (.aload_n 0, 1) := by decide +kernel
theorem dX9_takePlane_34 : decode cX9_takePlane 34 = .ok (.getfield 21, 3) := by decide +kernel
theorem dX9_takePlane_37 : decode cX9_takePlane 37 = .ok (.iload_n 2, 1) := by decide +kernel
theorem dX9_takePlane_38 : decode cX9_takePlane 38 = .ok (.iaload, 1) := by decide +kernel
theorem dX9_takePlane_39 : decode cX9_takePlane 39 = .ok (.iastore, 1) := by decide +kernel
theorem dX9_takePlane_40 : decode cX9_takePlane 40 = .ok (.aload_n 0, 1) := by decide +kernel
theorem dX9_takePlane_41 : decode cX9_takePlane 41 = .ok (.getfield 102, 3) := by decide +kernel
theorem dX9_takePlane_44 : decode cX9_takePlane 44 = .ok (.iload_n 2, 1) := by decide +kernel
theorem dX9_takePlane_45 : decode cX9_takePlane 45 = .ok (.aload_n 0, 1) := by decide +kernel
theorem dX9_takePlane_46 : decode cX9_takePlane 46 = .ok (.getfield 24, 3) := by decide +kernel
theorem dX9_takePlane_49 : decode cX9_takePlane 49 = .ok (.iload_n 2, 1) := by decide +kernel
theorem dX9_takePlane_50 : decode cX9_takePlane 50 = .ok (.iaload, 1) := by decide +kernel
theorem dX9_takePlane_51 : decode cX9_takePlane 51 = .ok (.iastore, 1) := by decide +kernel
theorem dX9_takePlane_52 : decode cX9_takePlane 52 = .ok (.iinc 2 1, 3) := by decide +kernel
theorem dX9_takePlane_55 : decode cX9_takePlane 55 = .ok (.goto (-33), 3) := by decide +kernel
theorem dX9_takePlane_58 : decode cX9_takePlane 58 = .ok (.return_, 1) := by decide +kernel
theorem dX9_takeLoad_0 : decode cX9_takeLoad 0 = .ok (.aload_n 0, 1) := by decide +kernel
theorem dX9_takeLoad_1 : decode cX9_takeLoad 1 = .ok (.aload_n 0, 1) := by decide +kernel
theorem dX9_takeLoad_2 : decode cX9_takeLoad 2 = .ok (.getfield 69, 3) := by decide +kernel
theorem dX9_takeLoad_5 : decode cX9_takeLoad 5 = .ok (.iload_n 1, 1) := by decide +kernel
theorem dX9_takeLoad_6 : decode cX9_takeLoad 6 = .ok (.iaload, 1) := by decide +kernel
theorem dX9_takeLoad_7 : decode cX9_takeLoad 7 = .ok (.invokevirtual 241, 3) := by decide +kernel
theorem dX9_takeLoad_10 : decode cX9_takeLoad 10 = .ok (.aload_n 0, 1) := by decide +kernel
theorem dX9_takeLoad_11 : decode cX9_takeLoad 11 = .ok (.getfield 84, 3) := by decide +kernel
theorem dX9_takeLoad_14 : decode cX9_takeLoad 14 = .ok (.iload_n 1, 1) := by decide +kernel
theorem dX9_takeLoad_15 : decode cX9_takeLoad 15 = .ok (.baload, 1) := by decide +kernel
theorem dX9_takeLoad_16 : decode cX9_takeLoad 16 = .ok (.ifCond .eq 71, 3) := by decide +kernel
theorem dX9_takeLoad_19 : decode cX9_takeLoad 19 = .ok (.aload_n 0, 1) := by decide +kernel
theorem dX9_takeLoad_20 : decode cX9_takeLoad 20 = .ok (.aload_n 0, 1) := by decide +kernel
theorem dX9_takeLoad_21 : decode cX9_takeLoad 21 = .ok (.getfield 93, 3) := by decide +kernel
theorem dX9_takeLoad_24 : decode cX9_takeLoad 24 = .ok (.iload_n 1, 1) := by decide +kernel
theorem dX9_takeLoad_25 : decode cX9_takeLoad 25 = .ok (.iaload, 1) := by decide +kernel
theorem dX9_takeLoad_26 : decode cX9_takeLoad 26 = .ok (.putfield 235, 3) := by decide +kernel
theorem dX9_takeLoad_29 : decode cX9_takeLoad 29 = .ok (.aload_n 0, 1) := by decide +kernel
theorem dX9_takeLoad_30 : decode cX9_takeLoad 30 = .ok (.aload_n 0, 1) := by decide +kernel
theorem dX9_takeLoad_31 : decode cX9_takeLoad 31 = .ok (.getfield 96, 3) := by decide +kernel
theorem dX9_takeLoad_34 : decode cX9_takeLoad 34 = .ok (.iload_n 1, 1) := by decide +kernel
theorem dX9_takeLoad_35 : decode cX9_takeLoad 35 = .ok (.iaload, 1) := by decide +kernel
theorem dX9_takeLoad_36 : decode cX9_takeLoad 36 = .ok (.putfield 238, 3) := by decide +kernel
theorem dX9_takeLoad_39 : decode cX9_takeLoad 39 = .ok (.iconst 0, 1) := by decide +kernel
theorem dX9_takeLoad_40 : decode cX9_takeLoad 40 = .ok (.istore_n 2, 1) := by decide +kernel
theorem dX9_takeLoad_41 : decode cX9_takeLoad 41 = .ok (.iload_n 2, 1) := by decide +kernel
theorem dX9_takeLoad_42 : decode cX9_takeLoad 42 = .ok (.bipush 12, 2) := by decide +kernel
theorem dX9_takeLoad_44 : decode cX9_takeLoad 44 = .ok (.if_icmp .ge 43, 3) := by decide +kernel
theorem dX9_takeLoad_47 : decode cX9_takeLoad 47 = .ok (.aload_n 0, 1) := by decide +kernel
theorem dX9_takeLoad_48 : decode cX9_takeLoad 48 = .ok (.getfield 99, 3) := by decide +kernel
theorem dX9_takeLoad_51 : decode cX9_takeLoad 51 = .ok (.iload_n 2, 1) := by decide +kernel
theorem dX9_takeLoad_52 : decode cX9_takeLoad 52 = .ok (.aload_n 0, 1) := by decide +kernel
theorem dX9_takeLoad_53 : decode cX9_takeLoad 53 = .ok (.getfield 87, 3) := by decide +kernel
theorem dX9_takeLoad_56 : decode cX9_takeLoad 56 = .ok (.bipush 12, 2) := by decide +kernel
theorem dX9_takeLoad_58 : decode cX9_takeLoad 58 = .ok (.iload_n 1, 1) := by decide +kernel
theorem dX9_takeLoad_59 : decode cX9_takeLoad 59 = .ok (.imul, 1) := by decide +kernel
theorem dX9_takeLoad_60 : decode cX9_takeLoad 60 = .ok (.iload_n 2, 1) := by decide +kernel
theorem dX9_takeLoad_61 : decode cX9_takeLoad 61 = .ok (.iadd, 1) := by decide +kernel
theorem dX9_takeLoad_62 : decode cX9_takeLoad 62 = .ok (.iaload, 1) := by decide +kernel
theorem dX9_takeLoad_63 : decode cX9_takeLoad 63 = .ok (.iastore, 1) := by decide +kernel
theorem dX9_takeLoad_64 : decode cX9_takeLoad 64 = .ok (.aload_n 0, 1) := by decide +kernel
theorem dX9_takeLoad_65 : decode cX9_takeLoad 65 = .ok (.getfield 102, 3) := by decide +kernel
theorem dX9_takeLoad_68 : decode cX9_takeLoad 68 = .ok (.iload_n 2, 1) := by decide +kernel
theorem dX9_takeLoad_69 : decode cX9_takeLoad 69 = .ok (.aload_n 0, 1) := by decide +kernel
theorem dX9_takeLoad_70 : decode cX9_takeLoad 70 = .ok (.getfield 90, 3) := by decide +kernel
theorem dX9_takeLoad_73 : decode cX9_takeLoad 73 = .ok (.bipush 12, 2) := by decide +kernel
theorem dX9_takeLoad_75 : decode cX9_takeLoad 75 = .ok (.iload_n 1, 1) := by decide +kernel
theorem dX9_takeLoad_76 : decode cX9_takeLoad 76 = .ok (.imul, 1) := by decide +kernel
theorem dX9_takeLoad_77 : decode cX9_takeLoad 77 = .ok (.iload_n 2, 1) := by decide +kernel
theorem dX9_takeLoad_78 : decode cX9_takeLoad 78 = .ok (.iadd, 1) := by decide +kernel
theorem dX9_takeLoad_79 : decode cX9_takeLoad 79 = .ok (.iaload, 1) := by decide +kernel
theorem dX9_takeLoad_80 : decode cX9_takeLoad 80 = .ok (.iastore, 1) := by decide +kernel
theorem dX9_takeLoad_81 : decode cX9_takeLoad 81 = .ok (.iinc 2 1, 3) := by decide +kernel
theorem dX9_takeLoad_84 : decode cX9_takeLoad 84 = .ok (.goto (-43), 3) := by decide +kernel
theorem dX9_takeLoad_87 : decode cX9_takeLoad 87 = .ok (.return_, 1) := by decide +kernel
theorem dX9_least_0 : decode cX9_least 0 = .ok (.iload_n 0, 1) := by decide +kernel
theorem dX9_least_1 : decode cX9_least 1 = .ok (.iload_n 1, 1) := by decide +kernel
theorem dX9_least_2 : decode cX9_least 2 = .ok (.if_icmp .ge 7, 3) := by decide +kernel
theorem dX9_least_5 : decode cX9_least 5 = .ok (.iload_n 0, 1) := by decide +kernel
theorem dX9_least_6 : decode cX9_least 6 = .ok (.goto 4, 3) := by decide +kernel
theorem dX9_least_9 : decode cX9_least 9 = .ok (.iload_n 1, 1) := by decide +kernel
theorem dX9_least_10 : decode cX9_least 10 = .ok (.ireturn, 1) := by decide +kernel
theorem dX9_layOut_0 : decode cX9_layOut 0 = .ok (.sipush 1001, 3) := by decide +kernel
theorem dX9_layOut_3 : decode cX9_layOut 3 = .ok (.iload_n 2, 1) := by decide +kernel
theorem dX9_layOut_4 : decode cX9_layOut 4 = .ok (.imul, 1) := by decide +kernel
theorem dX9_layOut_5 : decode cX9_layOut 5 = .ok (.istore_n 3, 1) := by decide +kernel
theorem dX9_layOut_6 : decode cX9_layOut 6 = .ok (.aload_n 0, 1) := by decide +kernel
theorem dX9_layOut_7 : decode cX9_layOut 7 = .ok (.getfield 105, 3) := by decide +kernel
theorem dX9_layOut_10 : decode cX9_layOut 10 = .ok (.iload_n 3, 1) := by decide +kernel
theorem dX9_layOut_11 : decode cX9_layOut 11 = .ok (.iconst 0, 1) := by decide +kernel
theorem dX9_layOut_12 : decode cX9_layOut 12 = .ok (.iastore, 1) := by decide +kernel
theorem dX9_layOut_13 : decode cX9_layOut 13 = .ok (.aload_n 0, 1) := by decide +kernel
theorem dX9_layOut_14 : decode cX9_layOut 14 = .ok (.getfield 108, 3) := by decide +kernel
theorem dX9_layOut_17 : decode cX9_layOut 17 = .ok (.iload_n 3, 1) := by decide +kernel
theorem dX9_layOut_18 : decode cX9_layOut 18 = .ok (.iconst 0, 1) := by decide +kernel
theorem dX9_layOut_19 : decode cX9_layOut 19 = .ok (.iastore, 1) := by decide +kernel
theorem dX9_layOut_20 : decode cX9_layOut 20 = .ok (.aload_n 0, 1) := by decide +kernel
theorem dX9_layOut_21 : decode cX9_layOut 21 = .ok (.getfield 111, 3) := by decide +kernel
theorem dX9_layOut_24 : decode cX9_layOut 24 = .ok (.iload_n 3, 1) := by decide +kernel
theorem dX9_layOut_25 : decode cX9_layOut 25 = .ok (.aload_n 0, 1) := by decide +kernel
theorem dX9_layOut_26 : decode cX9_layOut 26 = .ok (.getfield 238, 3) := by decide +kernel
theorem dX9_layOut_29 : decode cX9_layOut 29 = .ok (.iastore, 1) := by decide +kernel
theorem dX9_layOut_30 : decode cX9_layOut 30 = .ok (.aload_n 0, 1) := by decide +kernel
theorem dX9_layOut_31 : decode cX9_layOut 31 = .ok (.getfield 114, 3) := by decide +kernel
theorem dX9_layOut_34 : decode cX9_layOut 34 = .ok (.iload_n 3, 1) := by decide +kernel
theorem dX9_layOut_35 : decode cX9_layOut 35 = .ok (.iconst 1, 1) := by decide +kernel
theorem dX9_layOut_36 : decode cX9_layOut 36 = .ok (.iastore, 1) := by decide +kernel
theorem dX9_layOut_37 : decode cX9_layOut 37 = .ok (.aload_n 0, 1) := by decide +kernel
theorem dX9_layOut_38 : decode cX9_layOut 38 = .ok (.getfield 117, 3) := by decide +kernel
theorem dX9_layOut_41 : decode cX9_layOut 41 = .ok (.iload_n 2, 1) := by decide +kernel
theorem dX9_layOut_42 : decode cX9_layOut 42 = .ok (.iconst (-1), 1) := by decide +kernel
theorem dX9_layOut_43 : decode cX9_layOut 43 = .ok (.iastore, 1) := by decide +kernel
theorem dX9_layOut_44 : decode cX9_layOut 44 = .ok (.aload_n 0, 1) := by decide +kernel
theorem dX9_layOut_45 : decode cX9_layOut 45 = .ok (.getfield 120, 3) := by decide +kernel
theorem dX9_layOut_48 : decode cX9_layOut 48 = .ok (.iload_n 2, 1) := by decide +kernel
theorem dX9_layOut_49 : decode cX9_layOut 49 = .ok (.iconst 0, 1) := by decide +kernel
theorem dX9_layOut_50 : decode cX9_layOut 50 = .ok (.iastore, 1) := by decide +kernel
theorem dX9_layOut_51 : decode cX9_layOut 51 = .ok (.iconst 0, 1) := by decide +kernel
theorem dX9_layOut_52 : decode cX9_layOut 52 = .ok (.istore 4, 2) := by decide +kernel
theorem dX9_layOut_54 : decode cX9_layOut 54 = .ok (.iload 4, 2) := by decide +kernel
theorem dX9_layOut_56 : decode cX9_layOut 56 = .ok (.sipush 1000, 3) := by decide +kernel
theorem dX9_layOut_59 : decode cX9_layOut 59 = .ok (.if_icmp .ge 243, 3) := by decide +kernel
theorem dX9_layOut_62 : decode cX9_layOut 62 = .ok (.iload_n 3, 1) := by decide +kernel
theorem dX9_layOut_63 : decode cX9_layOut 63 = .ok (.iload 4, 2) := by decide +kernel
theorem dX9_layOut_65 : decode cX9_layOut 65 = .ok (.iadd, 1) := by decide +kernel
theorem dX9_layOut_66 : decode cX9_layOut 66 = .ok (.istore 5, 2) := by decide +kernel
theorem dX9_layOut_68 : decode cX9_layOut 68 = .ok (.aload_n 0, 1) := by decide +kernel
theorem dX9_layOut_69 : decode cX9_layOut 69 = .ok (.getfield 111, 3) := by decide +kernel
theorem dX9_layOut_72 : decode cX9_layOut 72 = .ok (.iload 5, 2) := by decide +kernel
theorem dX9_layOut_74 : decode cX9_layOut 74 = .ok (.iaload, 1) := by decide +kernel
theorem dX9_layOut_75 : decode cX9_layOut 75 = .ok (.sipush 4000, 3) := by decide +kernel
theorem dX9_layOut_78 : decode cX9_layOut 78 = .ok (.idiv, 1) := by decide +kernel
theorem dX9_layOut_79 : decode cX9_layOut 79 = .ok (.istore 6, 2) := by decide +kernel
theorem dX9_layOut_81 : decode cX9_layOut 81 = .ok (.aload_n 0, 1) := by decide +kernel
theorem dX9_layOut_82 : decode cX9_layOut 82 = .ok (.getfield 105, 3) := by decide +kernel
theorem dX9_layOut_85 : decode cX9_layOut 85 = .ok (.iload 5, 2) := by decide +kernel
theorem dX9_layOut_87 : decode cX9_layOut 87 = .ok (.iconst 1, 1) := by decide +kernel
theorem dX9_layOut_88 : decode cX9_layOut 88 = .ok (.iadd, 1) := by decide +kernel
theorem dX9_layOut_89 : decode cX9_layOut 89 = .ok (.aload_n 0, 1) := by decide +kernel
theorem dX9_layOut_90 : decode cX9_layOut 90 = .ok (.getfield 105, 3) := by decide +kernel
theorem dX9_layOut_93 : decode cX9_layOut 93 = .ok (.iload 5, 2) := by decide +kernel
theorem dX9_layOut_95 : decode cX9_layOut 95 = .ok (.iaload, 1) := by decide +kernel
theorem dX9_layOut_96 : decode cX9_layOut 96 = .ok (.iastore, 1) := by decide +kernel
theorem dX9_layOut_97 : decode cX9_layOut 97 = .ok (.aload_n 0, 1) := by decide +kernel
theorem dX9_layOut_98 : decode cX9_layOut 98 = .ok (.getfield 108, 3) := by decide +kernel
theorem dX9_layOut_101 : decode cX9_layOut 101 = .ok (.iload 5, 2) := by decide +kernel
theorem dX9_layOut_103 : decode cX9_layOut 103 = .ok (.iconst 1, 1) := by decide +kernel
theorem dX9_layOut_104 : decode cX9_layOut 104 = .ok (.iadd, 1) := by decide +kernel
theorem dX9_layOut_105 : decode cX9_layOut 105 = .ok (.aload_n 0, 1) := by decide +kernel
theorem dX9_layOut_106 : decode cX9_layOut 106 = .ok (.getfield 108, 3) := by decide +kernel
theorem dX9_layOut_109 : decode cX9_layOut 109 = .ok (.iload 5, 2) := by decide +kernel
theorem dX9_layOut_111 : decode cX9_layOut 111 = .ok (.iaload, 1) := by decide +kernel
theorem dX9_layOut_112 : decode cX9_layOut 112 = .ok (.iastore, 1) := by decide +kernel
theorem dX9_layOut_113 : decode cX9_layOut 113 = .ok (.aload_n 0, 1) := by decide +kernel
theorem dX9_layOut_114 : decode cX9_layOut 114 = .ok (.getfield 111, 3) := by decide +kernel
theorem dX9_layOut_117 : decode cX9_layOut 117 = .ok (.iload 5, 2) := by decide +kernel
theorem dX9_layOut_119 : decode cX9_layOut 119 = .ok (.iconst 1, 1) := by decide +kernel
theorem dX9_layOut_120 : decode cX9_layOut 120 = .ok (.iadd, 1) := by decide +kernel
theorem dX9_layOut_121 : decode cX9_layOut 121 = .ok (.aload_n 0, 1) := by decide +kernel
theorem dX9_layOut_122 : decode cX9_layOut 122 = .ok (.getfield 111, 3) := by decide +kernel
theorem dX9_layOut_125 : decode cX9_layOut 125 = .ok (.iload 5, 2) := by decide +kernel
theorem dX9_layOut_127 : decode cX9_layOut 127 = .ok (.iaload, 1) := by decide +kernel
theorem dX9_layOut_128 : decode cX9_layOut 128 = .ok (.iastore, 1) := by decide +kernel
theorem dX9_layOut_129 : decode cX9_layOut 129 = .ok (.aload_n 0, 1) := by decide +kernel
theorem dX9_layOut_130 : decode cX9_layOut 130 = .ok (.getfield 114, 3) := by decide +kernel
theorem dX9_layOut_133 : decode cX9_layOut 133 = .ok (.iload 5, 2) := by decide +kernel
theorem dX9_layOut_135 : decode cX9_layOut 135 = .ok (.iconst 1, 1) := by decide +kernel
theorem dX9_layOut_136 : decode cX9_layOut 136 = .ok (.iadd, 1) := by decide +kernel
theorem dX9_layOut_137 : decode cX9_layOut 137 = .ok (.aload_n 0, 1) := by decide +kernel
theorem dX9_layOut_138 : decode cX9_layOut 138 = .ok (.getfield 114, 3) := by decide +kernel
theorem dX9_layOut_141 : decode cX9_layOut 141 = .ok (.iload 5, 2) := by decide +kernel
theorem dX9_layOut_143 : decode cX9_layOut 143 = .ok (.iaload, 1) := by decide +kernel
theorem dX9_layOut_144 : decode cX9_layOut 144 = .ok (.iastore, 1) := by decide +kernel
theorem dX9_layOut_145 : decode cX9_layOut 145 = .ok (.aload_n 0, 1) := by decide +kernel
theorem dX9_layOut_146 : decode cX9_layOut 146 = .ok (.getfield 114, 3) := by decide +kernel
theorem dX9_layOut_149 : decode cX9_layOut 149 = .ok (.iload 5, 2) := by decide +kernel
theorem dX9_layOut_151 : decode cX9_layOut 151 = .ok (.iaload, 1) := by decide +kernel
theorem dX9_layOut_152 : decode cX9_layOut 152 = .ok (.iconst 3, 1) := by decide +kernel
theorem dX9_layOut_153 : decode cX9_layOut 153 = .ok (.if_icmp .ge 41, 3) := by decide +kernel
theorem dX9_layOut_156 : decode cX9_layOut 156 = .ok (.aload_n 0, 1) := by decide +kernel
theorem dX9_layOut_157 : decode cX9_layOut 157 = .ok (.getfield 105, 3) := by decide +kernel
theorem dX9_layOut_160 : decode cX9_layOut 160 = .ok (.iload 5, 2) := by decide +kernel
theorem dX9_layOut_162 : decode cX9_layOut 162 = .ok (.iconst 1, 1) := by decide +kernel
theorem dX9_layOut_163 : decode cX9_layOut 163 = .ok (.iadd, 1) := by decide +kernel
theorem dX9_layOut_164 : decode cX9_layOut 164 = .ok (.dup2, 1) := by decide +kernel
theorem dX9_layOut_165 : decode cX9_layOut 165 = .ok (.iaload, 1) := by decide +kernel
theorem dX9_layOut_166 : decode cX9_layOut 166 = .ok (.aload_n 0, 1) := by decide +kernel
theorem dX9_layOut_167 : decode cX9_layOut 167 = .ok (.getfield 99, 3) := by decide +kernel
theorem dX9_layOut_170 : decode cX9_layOut 170 = .ok (.iload 6, 2) := by decide +kernel
theorem dX9_layOut_172 : decode cX9_layOut 172 = .ok (.iaload, 1) := by decide +kernel
theorem dX9_layOut_173 : decode cX9_layOut 173 = .ok (.iadd, 1) := by decide +kernel
theorem dX9_layOut_174 : decode cX9_layOut 174 = .ok (.iastore, 1) := by decide +kernel
theorem dX9_layOut_175 : decode cX9_layOut 175 = .ok (.aload_n 0, 1) := by decide +kernel
theorem dX9_layOut_176 : decode cX9_layOut 176 = .ok (.getfield 108, 3) := by decide +kernel
theorem dX9_layOut_179 : decode cX9_layOut 179 = .ok (.iload 5, 2) := by decide +kernel
theorem dX9_layOut_181 : decode cX9_layOut 181 = .ok (.iconst 1, 1) := by decide +kernel
theorem dX9_layOut_182 : decode cX9_layOut 182 = .ok (.iadd, 1) := by decide +kernel
theorem dX9_layOut_183 : decode cX9_layOut 183 = .ok (.dup2, 1) := by decide +kernel
theorem dX9_layOut_184 : decode cX9_layOut 184 = .ok (.iaload, 1) := by decide +kernel
theorem dX9_layOut_185 : decode cX9_layOut 185 = .ok (.aload_n 0, 1) := by decide +kernel
theorem dX9_layOut_186 : decode cX9_layOut 186 = .ok (.getfield 102, 3) := by decide +kernel
theorem dX9_layOut_189 : decode cX9_layOut 189 = .ok (.iload 6, 2) := by decide +kernel
theorem dX9_layOut_191 : decode cX9_layOut 191 = .ok (.iaload, 1) := by decide +kernel
theorem dX9_layOut_192 : decode cX9_layOut 192 = .ok (.iadd, 1) := by decide +kernel
theorem dX9_layOut_193 : decode cX9_layOut 193 = .ok (.iastore, 1) := by decide +kernel
theorem dX9_layOut_194 : decode cX9_layOut 194 = .ok (.aload_n 0, 1) := by decide +kernel
theorem dX9_layOut_195 : decode cX9_layOut 195 = .ok (.getfield 114, 3) := by decide +kernel
theorem dX9_layOut_198 : decode cX9_layOut 198 = .ok (.iload 5, 2) := by decide +kernel
theorem dX9_layOut_200 : decode cX9_layOut 200 = .ok (.iaload, 1) := by decide +kernel
theorem dX9_layOut_201 : decode cX9_layOut 201 = .ok (.iconst 1, 1) := by decide +kernel
theorem dX9_layOut_202 : decode cX9_layOut 202 = .ok (.if_icmp .ne 17, 3) := by decide +kernel
theorem dX9_layOut_205 : decode cX9_layOut 205 = .ok (.aload_n 0, 1) := by decide +kernel
theorem dX9_layOut_206 : decode cX9_layOut 206 = .ok (.iload_n 1, 1) := by decide +kernel
theorem dX9_layOut_207 : decode cX9_layOut 207 = .ok (.iload 4, 2) := by decide +kernel
theorem dX9_layOut_209 : decode cX9_layOut 209 = .ok (.iload 5, 2) := by decide +kernel
theorem dX9_layOut_211 : decode cX9_layOut 211 = .ok (.iconst 1, 1) := by decide +kernel
theorem dX9_layOut_212 : decode cX9_layOut 212 = .ok (.iadd, 1) := by decide +kernel
theorem dX9_layOut_213 : decode cX9_layOut 213 = .ok (.invokevirtual 245, 3) := by decide +kernel
theorem dX9_layOut_216 : decode cX9_layOut 216 = .ok (.goto 80, 3) := by decide +kernel
theorem dX9_layOut_219 : decode cX9_layOut 219 = .ok (.aload_n 0, 1) := by decide +kernel
theorem dX9_layOut_220 : decode cX9_layOut 220 = .ok (.getfield 114, 3) := by decide +kernel
theorem dX9_layOut_223 : decode cX9_layOut 223 = .ok (.iload 5, 2) := by decide +kernel
theorem dX9_layOut_225 : decode cX9_layOut 225 = .ok (.iaload, 1) := by decide +kernel
theorem dX9_layOut_226 : decode cX9_layOut 226 = .ok (.iconst 2, 1) := by decide +kernel
theorem dX9_layOut_227 : decode cX9_layOut 227 = .ok (.if_icmp .ne 69, 3) := by decide +kernel
theorem dX9_layOut_230 : decode cX9_layOut 230 = .ok (.aload_n 0, 1) := by decide +kernel
theorem dX9_layOut_231 : decode cX9_layOut 231 = .ok (.getfield 120, 3) := by decide +kernel
theorem dX9_layOut_234 : decode cX9_layOut 234 = .ok (.iload_n 2, 1) := by decide +kernel
theorem dX9_layOut_235 : decode cX9_layOut 235 = .ok (.dup2, 1) := by decide +kernel
theorem dX9_layOut_236 : decode cX9_layOut 236 = .ok (.iaload, 1) := by decide +kernel
theorem dX9_layOut_237 : decode cX9_layOut 237 = .ok (.iconst 1, 1) := by decide +kernel
theorem dX9_layOut_238 : decode cX9_layOut 238 = .ok (.iadd, 1) := by decide +kernel
theorem dX9_layOut_239 : decode cX9_layOut 239 = .ok (.iastore, 1) := by decide +kernel
theorem dX9_layOut_240 : decode cX9_layOut 240 = .ok (.aload_n 0, 1) := by decide +kernel
theorem dX9_layOut_241 : decode cX9_layOut 241 = .ok (.getfield 111, 3) := by decide +kernel
theorem dX9_layOut_244 : decode cX9_layOut 244 = .ok (.iload 5, 2) := by decide +kernel
theorem dX9_layOut_246 : decode cX9_layOut 246 = .ok (.iconst 1, 1) := by decide +kernel
theorem dX9_layOut_247 : decode cX9_layOut 247 = .ok (.iadd, 1) := by decide +kernel
theorem dX9_layOut_248 : decode cX9_layOut 248 = .ok (.dup2, 1) := by decide +kernel
theorem dX9_layOut_249 : decode cX9_layOut 249 = .ok (.iaload, 1) := by decide +kernel
theorem dX9_layOut_250 : decode cX9_layOut 250 = .ok (.bipush 50, 2) := by decide +kernel
theorem dX9_layOut_252 : decode cX9_layOut 252 = .ok (.isub, 1) := by decide +kernel
theorem dX9_layOut_253 : decode cX9_layOut 253 = .ok (.iastore, 1) := by decide +kernel
theorem dX9_layOut_254 : decode cX9_layOut 254 = .ok (.aload_n 0, 1) := by decide +kernel
theorem dX9_layOut_255 : decode cX9_layOut 255 = .ok (.getfield 111, 3) := by decide +kernel
theorem dX9_layOut_258 : decode cX9_layOut 258 = .ok (.iload 5, 2) := by decide +kernel
theorem dX9_layOut_260 : decode cX9_layOut 260 = .ok (.iconst 1, 1) := by decide +kernel
theorem dX9_layOut_261 : decode cX9_layOut 261 = .ok (.iadd, 1) := by decide +kernel
theorem dX9_layOut_262 : decode cX9_layOut 262 = .ok (.iaload, 1) := by decide +kernel
theorem dX9_layOut_263 : decode cX9_layOut 263 = .ok (.ifCond .gt 33, 3) := by decide +kernel
theorem dX9_layOut_266 : decode cX9_layOut 266 = .ok (.aload_n 0, 1) := by decide +kernel
theorem dX9_layOut_267 : decode cX9_layOut 267 = .ok (.getfield 111, 3) := by decide +kernel
theorem dX9_layOut_270 : decode cX9_layOut 270 = .ok (.iload 5, 2) := by decide +kernel
theorem dX9_layOut_272 : decode cX9_layOut 272 = .ok (.iconst 1, 1) := by decide +kernel
theorem dX9_layOut_273 : decode cX9_layOut 273 = .ok (.iadd, 1) := by decide +kernel
theorem dX9_layOut_274 : decode cX9_layOut 274 = .ok (.iconst 0, 1) := by decide +kernel
theorem dX9_layOut_275 : decode cX9_layOut 275 = .ok (.iastore, 1) := by decide +kernel
theorem dX9_layOut_276 : decode cX9_layOut 276 = .ok (.aload_n 0, 1) := by decide +kernel
theorem dX9_layOut_277 : decode cX9_layOut 277 = .ok (.getfield 114, 3) := by decide +kernel
theorem dX9_layOut_280 : decode cX9_layOut 280 = .ok (.iload 5, 2) := by decide +kernel
theorem dX9_layOut_282 : decode cX9_layOut 282 = .ok (.iconst 1, 1) := by decide +kernel
theorem dX9_layOut_283 : decode cX9_layOut 283 = .ok (.iadd, 1) := by decide +kernel
theorem dX9_layOut_284 : decode cX9_layOut 284 = .ok (.iconst 3, 1) := by decide +kernel
theorem dX9_layOut_285 : decode cX9_layOut 285 = .ok (.iastore, 1) := by decide +kernel
theorem dX9_layOut_286 : decode cX9_layOut 286 = .ok (.aload_n 0, 1) := by decide +kernel
theorem dX9_layOut_287 : decode cX9_layOut 287 = .ok (.getfield 117, 3) := by decide +kernel
theorem dX9_layOut_290 : decode cX9_layOut 290 = .ok (.iload_n 2, 1) := by decide +kernel
theorem dX9_layOut_291 : decode cX9_layOut 291 = .ok (.iload 4, 2) := by decide +kernel
theorem dX9_layOut_293 : decode cX9_layOut 293 = .ok (.iconst 1, 1) := by decide +kernel
theorem dX9_layOut_294 : decode cX9_layOut 294 = .ok (.iadd, 1) := by decide +kernel
theorem dX9_layOut_295 : decode cX9_layOut 295 = .ok (.iastore, 1) := by decide +kernel
theorem dX9_layOut_296 : decode cX9_layOut 296 = .ok (.iinc 4 1, 3) := by decide +kernel
theorem dX9_layOut_299 : decode cX9_layOut 299 = .ok (.goto (-245), 3) := by decide +kernel
theorem dX9_layOut_302 : decode cX9_layOut 302 = .ok (.return_, 1) := by decide +kernel
theorem dX9_fall_0 : decode cX9_fall 0 = .ok (.aload_n 0, 1) := by decide +kernel
theorem dX9_fall_1 : decode cX9_fall 1 = .ok (.getfield 36, 3) := by decide +kernel
theorem dX9_fall_4 : decode cX9_fall 4 = .ok (.iload_n 1, 1) := by decide +kernel
theorem dX9_fall_5 : decode cX9_fall 5 = .ok (.iaload, 1) := by decide +kernel
theorem dX9_fall_6 : decode cX9_fall 6 = .ok (.istore 4, 2) := by decide +kernel
theorem dX9_fall_8 : decode cX9_fall 8 = .ok (.aload_n 0, 1) := by decide +kernel
theorem dX9_fall_9 : decode cX9_fall 9 = .ok (.getfield 105, 3) := by decide +kernel
theorem dX9_fall_12 : decode cX9_fall 12 = .ok (.iload_n 3, 1) := by decide +kernel
theorem dX9_fall_13 : decode cX9_fall 13 = .ok (.dup2, 1) := by decide +kernel
theorem dX9_fall_14 : decode cX9_fall 14 = .ok (.iaload, 1) := by decide +kernel
theorem dX9_fall_15 : decode cX9_fall 15 = .ok (.iload_n 2, 1) := by decide +kernel
theorem dX9_fall_16 : decode cX9_fall 16 = .ok (.bipush 20, 2) := by decide +kernel
theorem dX9_fall_18 : decode cX9_fall 18 = .ok (.if_icmp .le 7, 3) := by decide +kernel
theorem dX9_fall_21 : decode cX9_fall 21 = .ok (.iconst 0, 1) := by decide +kernel
theorem dX9_fall_22 : decode cX9_fall 22 = .ok (.goto 11, 3) := by decide +kernel
theorem dX9_fall_25 : decode cX9_fall 25 = .ok (.aload_n 0, 1) := by decide +kernel
theorem dX9_fall_26 : decode cX9_fall 26 = .ok (.getfield 235, 3) := by decide +kernel
theorem dX9_fall_29 : decode cX9_fall 29 = .ok (.iload_n 2, 1) := by decide +kernel
theorem dX9_fall_30 : decode cX9_fall 30 = .ok (.iconst 1, 1) := by decide +kernel
theorem dX9_fall_31 : decode cX9_fall 31 = .ok (.iadd, 1) := by decide +kernel
theorem dX9_fall_32 : decode cX9_fall 32 = .ok (.ishr, 1) := by decide +kernel
theorem dX9_fall_33 : decode cX9_fall 33 = .ok (.iadd, 1) := by decide +kernel
theorem dX9_fall_34 : decode cX9_fall 34 = .ok (.iastore, 1) := by decide +kernel
theorem dX9_fall_35 : decode cX9_fall 35 = .ok (.iload 4, 2) := by decide +kernel
theorem dX9_fall_37 : decode cX9_fall 37 = .ok (.iconst 2, 1) := by decide +kernel
theorem dX9_fall_38 : decode cX9_fall 38 = .ok (.if_icmp .ne 79, 3) := by decide +kernel
theorem dX9_fall_41 : decode cX9_fall 41 = .ok (.iload_n 2, 1) := by decide +kernel
theorem dX9_fall_42 : decode cX9_fall 42 = .ok (.iconst 5, 1) := by decide +kernel
theorem dX9_fall_43 : decode cX9_fall 43 = .ok (.if_icmp .lt 74, 3) := by decide +kernel
theorem dX9_fall_46 : decode cX9_fall 46 = .ok (.aload_n 0, 1) := by decide +kernel
theorem dX9_fall_47 : decode cX9_fall 47 = .ok (.getfield 45, 3) := by decide +kernel
theorem dX9_fall_50 : decode cX9_fall 50 = .ok (.iload_n 1, 1) := by decide +kernel
theorem dX9_fall_51 : decode cX9_fall 51 = .ok (.iaload, 1) := by decide +kernel
theorem dX9_fall_52 : decode cX9_fall 52 = .ok (.istore 5, 2) := by decide +kernel
theorem dX9_fall_54 : decode cX9_fall 54 = .ok (.aload_n 0, 1) := by decide +kernel
theorem dX9_fall_55 : decode cX9_fall 55 = .ok (.getfield 105, 3) := by decide +kernel
theorem dX9_fall_58 : decode cX9_fall 58 = .ok (.iload_n 3, 1) := by decide +kernel
theorem dX9_fall_59 : decode cX9_fall 59 = .ok (.dup2, 1) := by decide +kernel
theorem dX9_fall_60 : decode cX9_fall 60 = .ok (.iaload, 1) := by decide +kernel
theorem dX9_fall_61 : decode cX9_fall 61 = .ok (.iload 5, 2) := by decide +kernel
theorem dX9_fall_63 : decode cX9_fall 63 = .ok (.ifCond .ne 8, 3) := by decide +kernel
theorem dX9_fall_66 : decode cX9_fall 66 = .ok (.bipush 80, 2) := by decide +kernel
theorem dX9_fall_68 : decode cX9_fall 68 = .ok (.goto 15, 3) := by decide +kernel
theorem dX9_fall_71 : decode cX9_fall 71 = .ok (.iload 5, 2) := by decide +kernel
theorem dX9_fall_73 : decode cX9_fall 73 = .ok (.iconst 2, 1) := by decide +kernel
theorem dX9_fall_74 : decode cX9_fall 74 = .ok (.if_icmp .ne 8, 3) := by decide +kernel
theorem dX9_fall_77 : decode cX9_fall 77 = .ok (.bipush (-80), 2) := by decide +kernel
theorem dX9_fall_79 : decode cX9_fall 79 = .ok (.goto 4, 3) := by decide +kernel
theorem dX9_fall_82 : decode cX9_fall 82 = .ok (.iconst 0, 1) := by decide +kernel
theorem dX9_fall_83 : decode cX9_fall 83 = .ok (.iadd, 1) := by decide +kernel
theorem dX9_fall_84 : decode cX9_fall 84 = .ok (.iastore, 1) := by decide +kernel
theorem dX9_fall_85 : decode cX9_fall 85 = .ok (.aload_n 0, 1) := by decide +kernel
theorem dX9_fall_86 : decode cX9_fall 86 = .ok (.getfield 108, 3) := by decide +kernel
theorem dX9_fall_89 : decode cX9_fall 89 = .ok (.iload_n 3, 1) := by decide +kernel
theorem dX9_fall_90 : decode cX9_fall 90 = .ok (.dup2, 1) := by decide +kernel
theorem dX9_fall_91 : decode cX9_fall 91 = .ok (.iaload, 1) := by decide +kernel
theorem dX9_fall_92 : decode cX9_fall 92 = .ok (.iload 5, 2) := by decide +kernel
theorem dX9_fall_94 : decode cX9_fall 94 = .ok (.iconst 1, 1) := by decide +kernel
theorem dX9_fall_95 : decode cX9_fall 95 = .ok (.if_icmp .ne 8, 3) := by decide +kernel
theorem dX9_fall_98 : decode cX9_fall 98 = .ok (.bipush 80, 2) := by decide +kernel
theorem dX9_fall_100 : decode cX9_fall 100 = .ok (.goto 15, 3) := by decide +kernel
theorem dX9_fall_103 : decode cX9_fall 103 = .ok (.iload 5, 2) := by decide +kernel
theorem dX9_fall_105 : decode cX9_fall 105 = .ok (.iconst 3, 1) := by decide +kernel
theorem dX9_fall_106 : decode cX9_fall 106 = .ok (.if_icmp .ne 8, 3) := by decide +kernel
theorem dX9_fall_109 : decode cX9_fall 109 = .ok (.bipush (-80), 2) := by decide +kernel
theorem dX9_fall_111 : decode cX9_fall 111 = .ok (.goto 4, 3) := by decide +kernel
theorem dX9_fall_114 : decode cX9_fall 114 = .ok (.iconst 0, 1) := by decide +kernel
theorem dX9_fall_115 : decode cX9_fall 115 = .ok (.iadd, 1) := by decide +kernel
theorem dX9_fall_116 : decode cX9_fall 116 = .ok (.iastore, 1) := by decide +kernel
theorem dX9_fall_117 : decode cX9_fall 117 = .ok (.iload 4, 2) := by decide +kernel
theorem dX9_fall_119 : decode cX9_fall 119 = .ok (.iconst 1, 1) := by decide +kernel
theorem dX9_fall_120 : decode cX9_fall 120 = .ok (.if_icmp .ne 8, 3) := by decide +kernel
theorem dX9_fall_123 : decode cX9_fall 123 = .ok (.bipush 60, 2) := by decide +kernel
theorem dX9_fall_125 : decode cX9_fall 125 = .ok (.goto 16, 3) := by decide +kernel
theorem dX9_fall_128 : decode cX9_fall 128 = .ok (.iload 4, 2) := by decide +kernel
theorem dX9_fall_130 : decode cX9_fall 130 = .ok (.iconst 2, 1) := by decide +kernel
theorem dX9_fall_131 : decode cX9_fall 131 = .ok (.if_icmp .ne 8, 3) := by decide +kernel
theorem dX9_fall_134 : decode cX9_fall 134 = .ok (.bipush 45, 2) := by decide +kernel
theorem dX9_fall_136 : decode cX9_fall 136 = .ok (.goto 5, 3) := by decide +kernel
theorem dX9_fall_139 : decode cX9_fall 139 = .ok (.bipush 50, 2) := by decide +kernel
theorem dX9_fall_141 : decode cX9_fall 141 = .ok (.istore 5, 2) := by decide +kernel
theorem dX9_fall_143 : decode cX9_fall 143 = .ok (.aload_n 0, 1) := by decide +kernel
theorem dX9_fall_144 : decode cX9_fall 144 = .ok (.getfield 111, 3) := by decide +kernel
theorem dX9_fall_147 : decode cX9_fall 147 = .ok (.iload_n 3, 1) := by decide +kernel
theorem dX9_fall_148 : decode cX9_fall 148 = .ok (.dup2, 1) := by decide +kernel
theorem dX9_fall_149 : decode cX9_fall 149 = .ok (.iaload, 1) := by decide +kernel
theorem dX9_fall_150 : decode cX9_fall 150 = .ok (.bipush 10, 2) := by decide +kernel
theorem dX9_fall_152 : decode cX9_fall 152 = .ok (.bipush 10, 2) := by decide +kernel
theorem dX9_fall_154 : decode cX9_fall 154 = .ok (.iload_n 2, 1) := by decide +kernel
theorem dX9_fall_155 : decode cX9_fall 155 = .ok (.iconst 1, 1) := by decide +kernel
theorem dX9_fall_156 : decode cX9_fall 156 = .ok (.iadd, 1) := by decide +kernel
theorem dX9_fall_157 : decode cX9_fall 157 = .ok (.imul, 1) := by decide +kernel
theorem dX9_fall_158 : decode cX9_fall 158 = .ok (.iload 5, 2) := by decide +kernel
theorem dX9_fall_160 : decode cX9_fall 160 = .ok (.invokestatic 249, 3) := by decide +kernel
theorem dX9_fall_163 : decode cX9_fall 163 = .ok (.imul, 1) := by decide +kernel
theorem dX9_fall_164 : decode cX9_fall 164 = .ok (.isub, 1) := by decide +kernel
theorem dX9_fall_165 : decode cX9_fall 165 = .ok (.iastore, 1) := by decide +kernel
theorem dX9_fall_166 : decode cX9_fall 166 = .ok (.aload_n 0, 1) := by decide +kernel
theorem dX9_fall_167 : decode cX9_fall 167 = .ok (.getfield 111, 3) := by decide +kernel
theorem dX9_fall_170 : decode cX9_fall 170 = .ok (.iload_n 3, 1) := by decide +kernel
theorem dX9_fall_171 : decode cX9_fall 171 = .ok (.iaload, 1) := by decide +kernel
theorem dX9_fall_172 : decode cX9_fall 172 = .ok (.aload_n 0, 1) := by decide +kernel
theorem dX9_fall_173 : decode cX9_fall 173 = .ok (.getfield 39, 3) := by decide +kernel
theorem dX9_fall_176 : decode cX9_fall 176 = .ok (.iload_n 1, 1) := by decide +kernel
theorem dX9_fall_177 : decode cX9_fall 177 = .ok (.iaload, 1) := by decide +kernel
theorem dX9_fall_178 : decode cX9_fall 178 = .ok (.if_icmp .le 14, 3) := by decide +kernel
theorem dX9_fall_181 : decode cX9_fall 181 = .ok (.iload 4, 2) := by decide +kernel
theorem dX9_fall_183 : decode cX9_fall 183 = .ok (.iconst 3, 1) := by decide +kernel
theorem dX9_fall_184 : decode cX9_fall 184 = .ok (.if_icmp .ne 15, 3) := by decide +kernel
theorem dX9_fall_187 : decode cX9_fall 187 = .ok (.iload_n 2, 1) := by decide +kernel
theorem dX9_fall_188 : decode cX9_fall 188 = .ok (.iconst 2, 1) := by decide +kernel
theorem dX9_fall_189 : decode cX9_fall 189 = .ok (.if_icmp .lt 10, 3) := by decide +kernel
theorem dX9_fall_192 : decode cX9_fall 192 = .ok (.aload_n 0, 1) := by decide +kernel
theorem dX9_fall_193 : decode cX9_fall 193 = .ok (.getfield 114, 3) := by decide +kernel
theorem dX9_fall_196 : decode cX9_fall 196 = .ok (.iload_n 3, 1) := by decide +kernel
theorem dX9_fall_197 : decode cX9_fall 197 = .ok (.iconst 2, 1) := by decide +kernel
theorem dX9_fall_198 : decode cX9_fall 198 = .ok (.iastore, 1) := by decide +kernel
theorem dX9_fall_199 : decode cX9_fall 199 = .ok (.return_, 1) := by decide +kernel
theorem dX9_where_0 : decode cX9_where 0 = .ok (.aload_n 0, 1) := by decide +kernel
theorem dX9_where_1 : decode cX9_where 1 = .ok (.iload_n 1, 1) := by decide +kernel
theorem dX9_where_2 : decode cX9_where 2 = .ok (.iload_n 2, 1) := by decide +kernel
theorem dX9_where_3 : decode cX9_where 3 = .ok (.invokevirtual 225, 3) := by decide +kernel
theorem dX9_where_6 : decode cX9_where 6 = .ok (.ifCond .eq 28, 3) := by decide +kernel
theorem dX9_where_9 : decode cX9_where 9 = .ok (.iload_n 3, 1) := by decide +kernel
theorem dX9_where_10 : decode cX9_where 10 = .ok (.i2l, 1) := by decide +kernel
theorem dX9_where_11 : decode cX9_where 11 = .ok (.lconst 0, 1) := by decide +kernel
theorem dX9_where_12 : decode cX9_where 12 = .ok (.ldc2_w 187, 3) := by decide +kernel
theorem dX9_where_15 : decode cX9_where 15 = .ok (.invokestatic 138, 3) := by decide +kernel
theorem dX9_where_18 : decode cX9_where 18 = .ok (.ifCond .eq 16, 3) := by decide +kernel
theorem dX9_where_21 : decode cX9_where 21 = .ok (.iload 4, 2) := by decide +kernel
theorem dX9_where_23 : decode cX9_where 23 = .ok (.i2l, 1) := by decide +kernel
theorem dX9_where_24 : decode cX9_where 24 = .ok (.lconst 0, 1) := by decide +kernel
theorem dX9_where_25 : decode cX9_where 25 = .ok (.ldc2_w 189, 3) := by decide +kernel
theorem dX9_where_28 : decode cX9_where 28 = .ok (.invokestatic 138, 3) := by decide +kernel
theorem dX9_where_31 : decode cX9_where 31 = .ok (.ifCond .ne 6, 3) := by decide +kernel
theorem dX9_where_34 : decode cX9_where 34 = .ok (.ldc 252, 2) := by decide +kernel
theorem dX9_where_36 : decode cX9_where 36 = .ok (.ireturn, 1) := by decide +kernel
theorem dX9_where_37 : decode cX9_where 37 = .ok (.aload_n 0, 1) := by decide +kernel
theorem dX9_where_38 : decode cX9_where 38 = .ok (.iload_n 1, 1) := by decide +kernel
theorem dX9_where_39 : decode cX9_where 39 = .ok (.invokevirtual 253, 3) := by decide +kernel
theorem dX9_where_42 : decode cX9_where 42 = .ok (.aload_n 0, 1) := by decide +kernel
theorem dX9_where_43 : decode cX9_where 43 = .ok (.aload_n 0, 1) := by decide +kernel
theorem dX9_where_44 : decode cX9_where 44 = .ok (.getfield 75, 3) := by decide +kernel
theorem dX9_where_47 : decode cX9_where 47 = .ok (.bipush 6, 2) := by decide +kernel
theorem dX9_where_49 : decode cX9_where 49 = .ok (.iload_n 1, 1) := by decide +kernel
theorem dX9_where_50 : decode cX9_where 50 = .ok (.imul, 1) := by decide +kernel
theorem dX9_where_51 : decode cX9_where 51 = .ok (.iload_n 2, 1) := by decide +kernel
theorem dX9_where_52 : decode cX9_where 52 = .ok (.iadd, 1) := by decide +kernel
theorem dX9_where_53 : decode cX9_where 53 = .ok (.iaload, 1) := by decide +kernel
theorem dX9_where_54 : decode cX9_where 54 = .ok (.iconst 0, 1) := by decide +kernel
theorem dX9_where_55 : decode cX9_where 55 = .ok (.invokevirtual 256, 3) := by decide +kernel
theorem dX9_where_58 : decode cX9_where 58 = .ok (.iload 4, 2) := by decide +kernel
theorem dX9_where_60 : decode cX9_where 60 = .ok (.tableswitch 68 0 2 #[28, 54, 61], 28) := by decide +kernel
theorem dX9_where_88 : decode cX9_where 88 = .ok (.aload_n 0, 1) := by decide +kernel
theorem dX9_where_89 : decode cX9_where 89 = .ok (.getfield 81, 3) := by decide +kernel
theorem dX9_where_92 : decode cX9_where 92 = .ok (.iload_n 1, 1) := by decide +kernel
theorem dX9_where_93 : decode cX9_where 93 = .ok (.iaload, 1) := by decide +kernel
theorem dX9_where_94 : decode cX9_where 94 = .ok (.aload_n 0, 1) := by decide +kernel
theorem dX9_where_95 : decode cX9_where 95 = .ok (.getfield 235, 3) := by decide +kernel
theorem dX9_where_98 : decode cX9_where 98 = .ok (.aload_n 0, 1) := by decide +kernel
theorem dX9_where_99 : decode cX9_where 99 = .ok (.iload_n 1, 1) := by decide +kernel
theorem dX9_where_100 : decode cX9_where 100 = .ok (.iload_n 2, 1) := by decide +kernel
theorem dX9_where_101 : decode cX9_where 101 = .ok (.invokevirtual 232, 3) := by decide +kernel
theorem dX9_where_104 : decode cX9_where 104 = .ok (.imul, 1) := by decide +kernel
theorem dX9_where_105 : decode cX9_where 105 = .ok (.iadd, 1) := by decide +kernel
theorem dX9_where_106 : decode cX9_where 106 = .ok (.aload_n 0, 1) := by decide +kernel
theorem dX9_where_107 : decode cX9_where 107 = .ok (.getfield 105, 3) := by decide +kernel
theorem dX9_where_110 : decode cX9_where 110 = .ok (.iload_n 3, 1) := by decide +kernel
theorem dX9_where_111 : decode cX9_where 111 = .ok (.iaload, 1) := by decide +kernel
theorem dX9_where_112 : decode cX9_where 112 = .ok (.iadd, 1) := by decide +kernel
theorem dX9_where_113 : decode cX9_where 113 = .ok (.ireturn, 1) := by decide +kernel
theorem dX9_where_114 : decode cX9_where 114 = .ok (.aload_n 0, 1) := by decide +kernel
theorem dX9_where_115 : decode cX9_where 115 = .ok (.getfield 108, 3) := by decide +kernel
theorem dX9_where_118 : decode cX9_where 118 = .ok (.iload_n 3, 1) := by decide +kernel
theorem dX9_where_119 : decode cX9_where 119 = .ok (.iaload, 1) := by decide +kernel
theorem dX9_where_120 : decode cX9_where 120 = .ok (.ireturn, 1) := by decide +kernel
theorem dX9_where_121 : decode cX9_where 121 = .ok (.aload_n 0, 1) := by decide +kernel
theorem dX9_where_122 : decode cX9_where 122 = .ok (.getfield 111, 3) := by decide +kernel
theorem dX9_where_125 : decode cX9_where 125 = .ok (.iload_n 3, 1) := by decide +kernel
theorem dX9_where_126 : decode cX9_where 126 = .ok (.iaload, 1) := by decide +kernel
theorem dX9_where_127 : decode cX9_where 127 = .ok (.ireturn, 1) := by decide +kernel
theorem dX9_where_128 : decode cX9_where 128 = .ok (.aload_n 0, 1) := by decide +kernel
theorem dX9_where_129 : decode cX9_where 129 = .ok (.getfield 114, 3) := by decide +kernel
theorem dX9_where_132 : decode cX9_where 132 = .ok (.iload_n 3, 1) := by decide +kernel
theorem dX9_where_133 : decode cX9_where 133 = .ok (.iaload, 1) := by decide +kernel
theorem dX9_where_134 : decode cX9_where 134 = .ok (.ireturn, 1) := by decide +kernel
theorem dX9_nearBy_0 : decode cX9_nearBy 0 = .ok (.ldc2_w 260, 3) := by decide +kernel
theorem dX9_nearBy_3 : decode cX9_nearBy 3 = .ok (.lstore_n 2, 1) := by decide +kernel
theorem dX9_nearBy_4 : decode cX9_nearBy 4 = .ok (.iload_n 1, 1) := by decide +kernel
theorem dX9_nearBy_5 : decode cX9_nearBy 5 = .ok (.istore 4, 2) := by decide +kernel
theorem dX9_nearBy_7 : decode cX9_nearBy 7 = .ok (.iload 4, 2) := by decide +kernel
theorem dX9_nearBy_9 : decode cX9_nearBy 9 = .ok (.aload_n 0, 1) := by decide +kernel
theorem dX9_nearBy_10 : decode cX9_nearBy 10 = .ok (.getfield 117, 3) := by decide +kernel
theorem dX9_nearBy_13 : decode cX9_nearBy 13 = .ok (.iconst 0, 1) := by decide +kernel
theorem dX9_nearBy_14 : decode cX9_nearBy 14 = .ok (.iaload, 1) := by decide +kernel
theorem dX9_nearBy_15 : decode cX9_nearBy 15 = .ok (.if_icmp .ge 131, 3) := by decide +kernel
theorem dX9_nearBy_18 : decode cX9_nearBy 18 = .ok (.iload 4, 2) := by decide +kernel
theorem dX9_nearBy_20 : decode cX9_nearBy 20 = .ok (.iload_n 1, 1) := by decide +kernel
theorem dX9_nearBy_21 : decode cX9_nearBy 21 = .ok (.isub, 1) := by decide +kernel
theorem dX9_nearBy_22 : decode cX9_nearBy 22 = .ok (.aload_n 0, 1) := by decide +kernel
theorem dX9_nearBy_23 : decode cX9_nearBy 23 = .ok (.getfield 117, 3) := by decide +kernel
theorem dX9_nearBy_26 : decode cX9_nearBy 26 = .ok (.iconst 1, 1) := by decide +kernel
theorem dX9_nearBy_27 : decode cX9_nearBy 27 = .ok (.iaload, 1) := by decide +kernel
theorem dX9_nearBy_28 : decode cX9_nearBy 28 = .ok (.if_icmp .ge 118, 3) := by decide +kernel
theorem dX9_nearBy_31 : decode cX9_nearBy 31 = .ok (.sipush 1001, 3) := by decide +kernel
theorem dX9_nearBy_34 : decode cX9_nearBy 34 = .ok (.iload 4, 2) := by decide +kernel
theorem dX9_nearBy_36 : decode cX9_nearBy 36 = .ok (.iadd, 1) := by decide +kernel
theorem dX9_nearBy_37 : decode cX9_nearBy 37 = .ok (.iload_n 1, 1) := by decide +kernel
theorem dX9_nearBy_38 : decode cX9_nearBy 38 = .ok (.isub, 1) := by decide +kernel
theorem dX9_nearBy_39 : decode cX9_nearBy 39 = .ok (.istore 5, 2) := by decide +kernel
theorem dX9_nearBy_41 : decode cX9_nearBy 41 = .ok (.aload_n 0, 1) := by decide +kernel
theorem dX9_nearBy_42 : decode cX9_nearBy 42 = .ok (.getfield 105, 3) := by decide +kernel
theorem dX9_nearBy_45 : decode cX9_nearBy 45 = .ok (.iload 4, 2) := by decide +kernel
theorem dX9_nearBy_47 : decode cX9_nearBy 47 = .ok (.iaload, 1) := by decide +kernel
theorem dX9_nearBy_48 : decode cX9_nearBy 48 = .ok (.i2l, 1) := by decide +kernel
theorem dX9_nearBy_49 : decode cX9_nearBy 49 = .ok (.aload_n 0, 1) := by decide +kernel
theorem dX9_nearBy_50 : decode cX9_nearBy 50 = .ok (.getfield 105, 3) := by decide +kernel
theorem dX9_nearBy_53 : decode cX9_nearBy 53 = .ok (.iload 5, 2) := by decide +kernel
theorem dX9_nearBy_55 : decode cX9_nearBy 55 = .ok (.iaload, 1) := by decide +kernel
theorem dX9_nearBy_56 : decode cX9_nearBy 56 = .ok (.i2l, 1) := by decide +kernel
theorem dX9_nearBy_57 : decode cX9_nearBy 57 = .ok (.lsub, 1) := by decide +kernel
theorem dX9_nearBy_58 : decode cX9_nearBy 58 = .ok (.aload_n 0, 1) := by decide +kernel
theorem dX9_nearBy_59 : decode cX9_nearBy 59 = .ok (.getfield 235, 3) := by decide +kernel
theorem dX9_nearBy_62 : decode cX9_nearBy 62 = .ok (.i2l, 1) := by decide +kernel
theorem dX9_nearBy_63 : decode cX9_nearBy 63 = .ok (.iload_n 1, 1) := by decide +kernel
theorem dX9_nearBy_64 : decode cX9_nearBy 64 = .ok (.i2l, 1) := by decide +kernel
theorem dX9_nearBy_65 : decode cX9_nearBy 65 = .ok (.lmul, 1) := by decide +kernel
theorem dX9_nearBy_66 : decode cX9_nearBy 66 = .ok (.lsub, 1) := by decide +kernel
theorem dX9_nearBy_67 : decode cX9_nearBy 67 = .ok (.lstore 6, 2) := by decide +kernel
theorem dX9_nearBy_69 : decode cX9_nearBy 69 = .ok (.aload_n 0, 1) := by decide +kernel
theorem dX9_nearBy_70 : decode cX9_nearBy 70 = .ok (.getfield 108, 3) := by decide +kernel
theorem dX9_nearBy_73 : decode cX9_nearBy 73 = .ok (.iload 4, 2) := by decide +kernel
theorem dX9_nearBy_75 : decode cX9_nearBy 75 = .ok (.iaload, 1) := by decide +kernel
theorem dX9_nearBy_76 : decode cX9_nearBy 76 = .ok (.i2l, 1) := by decide +kernel
theorem dX9_nearBy_77 : decode cX9_nearBy 77 = .ok (.aload_n 0, 1) := by decide +kernel
theorem dX9_nearBy_78 : decode cX9_nearBy 78 = .ok (.getfield 108, 3) := by decide +kernel
theorem dX9_nearBy_81 : decode cX9_nearBy 81 = .ok (.iload 5, 2) := by decide +kernel
theorem dX9_nearBy_83 : decode cX9_nearBy 83 = .ok (.iaload, 1) := by decide +kernel
theorem dX9_nearBy_84 : decode cX9_nearBy 84 = .ok (.i2l, 1) := by decide +kernel
theorem dX9_nearBy_85 : decode cX9_nearBy 85 = .ok (.lsub, 1) := by decide +kernel
theorem dX9_nearBy_86 : decode cX9_nearBy 86 = .ok (.lstore 8, 2) := by decide +kernel
theorem dX9_nearBy_88 : decode cX9_nearBy 88 = .ok (.aload_n 0, 1) := by decide +kernel
theorem dX9_nearBy_89 : decode cX9_nearBy 89 = .ok (.getfield 111, 3) := by decide +kernel
theorem dX9_nearBy_92 : decode cX9_nearBy 92 = .ok (.iload 4, 2) := by decide +kernel
theorem dX9_nearBy_94 : decode cX9_nearBy 94 = .ok (.iaload, 1) := by decide +kernel
theorem dX9_nearBy_95 : decode cX9_nearBy 95 = .ok (.i2l, 1) := by decide +kernel
theorem dX9_nearBy_96 : decode cX9_nearBy 96 = .ok (.aload_n 0, 1) := by decide +kernel
theorem dX9_nearBy_97 : decode cX9_nearBy 97 = .ok (.getfield 111, 3) := by decide +kernel
theorem dX9_nearBy_100 : decode cX9_nearBy 100 = .ok (.iload 5, 2) := by decide +kernel
theorem dX9_nearBy_102 : decode cX9_nearBy 102 = .ok (.iaload, 1) := by decide +kernel
theorem dX9_nearBy_103 : decode cX9_nearBy 103 = .ok (.i2l, 1) := by decide +kernel
theorem dX9_nearBy_104 : decode cX9_nearBy 104 = .ok (.lsub, 1) := by decide +kernel
theorem dX9_nearBy_105 : decode cX9_nearBy 105 = .ok (.lstore 10, 2) := by decide +kernel
theorem dX9_nearBy_107 : decode cX9_nearBy 107 = .ok (.lload 6, 2) := by decide +kernel
theorem dX9_nearBy_109 : decode cX9_nearBy 109 = .ok (.lload 6, 2) := by decide +kernel
theorem dX9_nearBy_111 : decode cX9_nearBy 111 = .ok (.lmul, 1) := by decide +kernel
theorem dX9_nearBy_112 : decode cX9_nearBy 112 = .ok (.lload 8, 2) := by decide +kernel
theorem dX9_nearBy_114 : decode cX9_nearBy 114 = .ok (.lload 8, 2) := by decide +kernel
theorem dX9_nearBy_116 : decode cX9_nearBy 116 = .ok (.lmul, 1) := by decide +kernel
theorem dX9_nearBy_117 : decode cX9_nearBy 117 = .ok (.ladd, 1) := by decide +kernel
theorem dX9_nearBy_118 : decode cX9_nearBy 118 = .ok (.lload 10, 2) := by decide +kernel
theorem dX9_nearBy_120 : decode cX9_nearBy 120 = .ok (.lload 10, 2) := by decide +kernel
theorem dX9_nearBy_122 : decode cX9_nearBy 122 = .ok (.lmul, 1) := by decide +kernel
theorem dX9_nearBy_123 : decode cX9_nearBy 123 = .ok (.ladd, 1) := by decide +kernel
theorem dX9_nearBy_124 : decode cX9_nearBy 124 = .ok (.lstore 12, 2) := by decide +kernel
theorem dX9_nearBy_126 : decode cX9_nearBy 126 = .ok (.lload 12, 2) := by decide +kernel
theorem dX9_nearBy_128 : decode cX9_nearBy 128 = .ok (.lload_n 2, 1) := by decide +kernel
theorem dX9_nearBy_129 : decode cX9_nearBy 129 = .ok (.lcmp, 1) := by decide +kernel
theorem dX9_nearBy_130 : decode cX9_nearBy 130 = .ok (.ifCond .ge 8, 3) := by decide +kernel
theorem dX9_nearBy_133 : decode cX9_nearBy 133 = .ok (.lload 12, 2) := by decide +kernel
theorem dX9_nearBy_135 : decode cX9_nearBy 135 = .ok (.goto 4, 3) := by decide +kernel
theorem dX9_nearBy_138 : decode cX9_nearBy 138 = .ok (.lload_n 2, 1) := by decide +kernel
theorem dX9_nearBy_139 : decode cX9_nearBy 139 = .ok (.lstore_n 2, 1) := by decide +kernel
theorem dX9_nearBy_140 : decode cX9_nearBy 140 = .ok (.iinc 4 1, 3) := by decide +kernel
theorem dX9_nearBy_143 : decode cX9_nearBy 143 = .ok (.goto (-136), 3) := by decide +kernel
theorem dX9_nearBy_146 : decode cX9_nearBy 146 = .ok (.lload_n 2, 1) := by decide +kernel
theorem dX9_nearBy_147 : decode cX9_nearBy 147 = .ok (.lreturn, 1) := by decide +kernel
theorem dX9_nearOf_0 : decode cX9_nearOf 0 = .ok (.iload_n 2, 1) := by decide +kernel
theorem dX9_nearOf_1 : decode cX9_nearOf 1 = .ok (.iload_n 3, 1) := by decide +kernel
theorem dX9_nearOf_2 : decode cX9_nearOf 2 = .ok (.if_icmp .ge 7, 3) := by decide +kernel
theorem dX9_nearOf_5 : decode cX9_nearOf 5 = .ok (.iload_n 2, 1) := by decide +kernel
theorem dX9_nearOf_6 : decode cX9_nearOf 6 = .ok (.goto 4, 3) := by decide +kernel
theorem dX9_nearOf_9 : decode cX9_nearOf 9 = .ok (.iload_n 3, 1) := by decide +kernel
theorem dX9_nearOf_10 : decode cX9_nearOf 10 = .ok (.istore 4, 2) := by decide +kernel
theorem dX9_nearOf_12 : decode cX9_nearOf 12 = .ok (.iload_n 2, 1) := by decide +kernel
theorem dX9_nearOf_13 : decode cX9_nearOf 13 = .ok (.iload_n 3, 1) := by decide +kernel
theorem dX9_nearOf_14 : decode cX9_nearOf 14 = .ok (.if_icmp .ge 7, 3) := by decide +kernel
theorem dX9_nearOf_17 : decode cX9_nearOf 17 = .ok (.iload_n 3, 1) := by decide +kernel
theorem dX9_nearOf_18 : decode cX9_nearOf 18 = .ok (.goto 4, 3) := by decide +kernel
theorem dX9_nearOf_21 : decode cX9_nearOf 21 = .ok (.iload_n 2, 1) := by decide +kernel
theorem dX9_nearOf_22 : decode cX9_nearOf 22 = .ok (.istore 5, 2) := by decide +kernel
theorem dX9_nearOf_24 : decode cX9_nearOf 24 = .ok (.aload_n 0, 1) := by decide +kernel
theorem dX9_nearOf_25 : decode cX9_nearOf 25 = .ok (.aload_n 0, 1) := by decide +kernel
theorem dX9_nearOf_26 : decode cX9_nearOf 26 = .ok (.getfield 75, 3) := by decide +kernel
theorem dX9_nearOf_29 : decode cX9_nearOf 29 = .ok (.bipush 6, 2) := by decide +kernel
theorem dX9_nearOf_31 : decode cX9_nearOf 31 = .ok (.iload_n 1, 1) := by decide +kernel
theorem dX9_nearOf_32 : decode cX9_nearOf 32 = .ok (.imul, 1) := by decide +kernel
theorem dX9_nearOf_33 : decode cX9_nearOf 33 = .ok (.iload 4, 2) := by decide +kernel
theorem dX9_nearOf_35 : decode cX9_nearOf 35 = .ok (.iadd, 1) := by decide +kernel
theorem dX9_nearOf_36 : decode cX9_nearOf 36 = .ok (.iaload, 1) := by decide +kernel
theorem dX9_nearOf_37 : decode cX9_nearOf 37 = .ok (.iconst 0, 1) := by decide +kernel
theorem dX9_nearOf_38 : decode cX9_nearOf 38 = .ok (.invokevirtual 256, 3) := by decide +kernel
theorem dX9_nearOf_41 : decode cX9_nearOf 41 = .ok (.aload_n 0, 1) := by decide +kernel
theorem dX9_nearOf_42 : decode cX9_nearOf 42 = .ok (.aload_n 0, 1) := by decide +kernel
theorem dX9_nearOf_43 : decode cX9_nearOf 43 = .ok (.getfield 75, 3) := by decide +kernel
theorem dX9_nearOf_46 : decode cX9_nearOf 46 = .ok (.bipush 6, 2) := by decide +kernel
theorem dX9_nearOf_48 : decode cX9_nearOf 48 = .ok (.iload_n 1, 1) := by decide +kernel
theorem dX9_nearOf_49 : decode cX9_nearOf 49 = .ok (.imul, 1) := by decide +kernel
theorem dX9_nearOf_50 : decode cX9_nearOf 50 = .ok (.iload 5, 2) := by decide +kernel
theorem dX9_nearOf_52 : decode cX9_nearOf 52 = .ok (.iadd, 1) := by decide +kernel
theorem dX9_nearOf_53 : decode cX9_nearOf 53 = .ok (.iaload, 1) := by decide +kernel
theorem dX9_nearOf_54 : decode cX9_nearOf 54 = .ok (.iconst 1, 1) := by decide +kernel
theorem dX9_nearOf_55 : decode cX9_nearOf 55 = .ok (.invokevirtual 256, 3) := by decide +kernel
theorem dX9_nearOf_58 : decode cX9_nearOf 58 = .ok (.aload_n 0, 1) := by decide +kernel
theorem dX9_nearOf_59 : decode cX9_nearOf 59 = .ok (.aload_n 0, 1) := by decide +kernel
theorem dX9_nearOf_60 : decode cX9_nearOf 60 = .ok (.iload_n 1, 1) := by decide +kernel
theorem dX9_nearOf_61 : decode cX9_nearOf 61 = .ok (.iload 5, 2) := by decide +kernel
theorem dX9_nearOf_63 : decode cX9_nearOf 63 = .ok (.invokevirtual 232, 3) := by decide +kernel
theorem dX9_nearOf_66 : decode cX9_nearOf 66 = .ok (.aload_n 0, 1) := by decide +kernel
theorem dX9_nearOf_67 : decode cX9_nearOf 67 = .ok (.iload_n 1, 1) := by decide +kernel
theorem dX9_nearOf_68 : decode cX9_nearOf 68 = .ok (.iload 4, 2) := by decide +kernel
theorem dX9_nearOf_70 : decode cX9_nearOf 70 = .ok (.invokevirtual 232, 3) := by decide +kernel
theorem dX9_nearOf_73 : decode cX9_nearOf 73 = .ok (.isub, 1) := by decide +kernel
theorem dX9_nearOf_74 : decode cX9_nearOf 74 = .ok (.invokevirtual 262, 3) := by decide +kernel
theorem dX9_nearOf_77 : decode cX9_nearOf 77 = .ok (.lreturn, 1) := by decide +kernel
theorem dX9_near_0 : decode cX9_near 0 = .ok (.aload_n 0, 1) := by decide +kernel
theorem dX9_near_1 : decode cX9_near 1 = .ok (.iload_n 1, 1) := by decide +kernel
theorem dX9_near_2 : decode cX9_near 2 = .ok (.iload_n 2, 1) := by decide +kernel
theorem dX9_near_3 : decode cX9_near 3 = .ok (.invokevirtual 225, 3) := by decide +kernel
theorem dX9_near_6 : decode cX9_near 6 = .ok (.ifCond .eq 17, 3) := by decide +kernel
theorem dX9_near_9 : decode cX9_near 9 = .ok (.aload_n 0, 1) := by decide +kernel
theorem dX9_near_10 : decode cX9_near 10 = .ok (.iload_n 1, 1) := by decide +kernel
theorem dX9_near_11 : decode cX9_near 11 = .ok (.iload_n 3, 1) := by decide +kernel
theorem dX9_near_12 : decode cX9_near 12 = .ok (.invokevirtual 225, 3) := by decide +kernel
theorem dX9_near_15 : decode cX9_near 15 = .ok (.ifCond .eq 8, 3) := by decide +kernel
theorem dX9_near_18 : decode cX9_near 18 = .ok (.iload_n 2, 1) := by decide +kernel
theorem dX9_near_19 : decode cX9_near 19 = .ok (.iload_n 3, 1) := by decide +kernel
theorem dX9_near_20 : decode cX9_near 20 = .ok (.if_icmp .ne 7, 3) := by decide +kernel
theorem dX9_near_23 : decode cX9_near 23 = .ok (.ldc2_w 266, 3) := by decide +kernel
theorem dX9_near_26 : decode cX9_near 26 = .ok (.lreturn, 1) := by decide +kernel
theorem dX9_near_27 : decode cX9_near 27 = .ok (.aload_n 0, 1) := by decide +kernel
theorem dX9_near_28 : decode cX9_near 28 = .ok (.iload_n 1, 1) := by decide +kernel
theorem dX9_near_29 : decode cX9_near 29 = .ok (.invokevirtual 253, 3) := by decide +kernel
theorem dX9_near_32 : decode cX9_near 32 = .ok (.aload_n 0, 1) := by decide +kernel
theorem dX9_near_33 : decode cX9_near 33 = .ok (.iload_n 1, 1) := by decide +kernel
theorem dX9_near_34 : decode cX9_near 34 = .ok (.iload_n 2, 1) := by decide +kernel
theorem dX9_near_35 : decode cX9_near 35 = .ok (.iload_n 3, 1) := by decide +kernel
theorem dX9_near_36 : decode cX9_near 36 = .ok (.invokevirtual 268, 3) := by decide +kernel
theorem dX9_near_39 : decode cX9_near 39 = .ok (.lreturn, 1) := by decide +kernel
theorem dX9_isFree_0 : decode cX9_isFree 0 = .ok (.lload_n 1, 1) := by decide +kernel
theorem dX9_isFree_1 : decode cX9_isFree 1 = .ok (.aload_n 0, 1) := by decide +kernel
theorem dX9_isFree_2 : decode cX9_isFree 2 = .ok (.getfield 66, 3) := by decide +kernel
theorem dX9_isFree_5 : decode cX9_isFree 5 = .ok (.iconst 0, 1) := by decide +kernel
theorem dX9_isFree_6 : decode cX9_isFree 6 = .ok (.iaload, 1) := by decide +kernel
theorem dX9_isFree_7 : decode cX9_isFree 7 = .ok (.i2l, 1) := by decide +kernel
theorem dX9_isFree_8 : decode cX9_isFree 8 = .ok (.aload_n 0, 1) := by decide +kernel
theorem dX9_isFree_9 : decode cX9_isFree 9 = .ok (.getfield 66, 3) := by decide +kernel
theorem dX9_isFree_12 : decode cX9_isFree 12 = .ok (.iconst 0, 1) := by decide +kernel
theorem dX9_isFree_13 : decode cX9_isFree 13 = .ok (.iaload, 1) := by decide +kernel
theorem dX9_isFree_14 : decode cX9_isFree 14 = .ok (.i2l, 1) := by decide +kernel
theorem dX9_isFree_15 : decode cX9_isFree 15 = .ok (.lmul, 1) := by decide +kernel
theorem dX9_isFree_16 : decode cX9_isFree 16 = .ok (.lcmp, 1) := by decide +kernel
theorem dX9_isFree_17 : decode cX9_isFree 17 = .ok (.ifCond .lt 7, 3) := by decide +kernel
theorem dX9_isFree_20 : decode cX9_isFree 20 = .ok (.iconst 1, 1) := by decide +kernel
theorem dX9_isFree_21 : decode cX9_isFree 21 = .ok (.goto 4, 3) := by decide +kernel
theorem dX9_isFree_24 : decode cX9_isFree 24 = .ok (.iconst 0, 1) := by decide +kernel
theorem dX9_isFree_25 : decode cX9_isFree 25 = .ok (.ireturn, 1) := by decide +kernel
theorem dX9_betweenOf_0 : decode cX9_betweenOf 0 = .ok (.aload_n 0, 1) := by decide +kernel
theorem dX9_betweenOf_1 : decode cX9_betweenOf 1 = .ok (.iload_n 1, 1) := by decide +kernel
theorem dX9_betweenOf_2 : decode cX9_betweenOf 2 = .ok (.iconst 0, 1) := by decide +kernel
theorem dX9_betweenOf_3 : decode cX9_betweenOf 3 = .ok (.invokevirtual 256, 3) := by decide +kernel
theorem dX9_betweenOf_6 : decode cX9_betweenOf 6 = .ok (.aload_n 0, 1) := by decide +kernel
theorem dX9_betweenOf_7 : decode cX9_betweenOf 7 = .ok (.iload_n 2, 1) := by decide +kernel
theorem dX9_betweenOf_8 : decode cX9_betweenOf 8 = .ok (.iconst 1, 1) := by decide +kernel
theorem dX9_betweenOf_9 : decode cX9_betweenOf 9 = .ok (.invokevirtual 256, 3) := by decide +kernel
theorem dX9_betweenOf_12 : decode cX9_betweenOf 12 = .ok (.iconst 1, 1) := by decide +kernel
theorem dX9_betweenOf_13 : decode cX9_betweenOf 13 = .ok (.istore_n 3, 1) := by decide +kernel
theorem dX9_betweenOf_14 : decode cX9_betweenOf 14 = .ok (.iload_n 3, 1) := by decide +kernel
theorem dX9_betweenOf_15 : decode cX9_betweenOf 15 = .ok (.bipush 60, 2) := by decide +kernel
theorem dX9_betweenOf_17 : decode cX9_betweenOf 17 = .ok (.if_icmp .gt 21, 3) := by decide +kernel
theorem dX9_betweenOf_20 : decode cX9_betweenOf 20 = .ok (.aload_n 0, 1) := by decide +kernel
theorem dX9_betweenOf_21 : decode cX9_betweenOf 21 = .ok (.aload_n 0, 1) := by decide +kernel
theorem dX9_betweenOf_22 : decode cX9_betweenOf 22 = .ok (.iload_n 3, 1) := by decide +kernel
theorem dX9_betweenOf_23 : decode cX9_betweenOf 23 = .ok (.invokevirtual 262, 3) := by decide +kernel
theorem dX9_betweenOf_26 : decode cX9_betweenOf 26 = .ok (.invokevirtual 272, 3) := by decide +kernel
theorem dX9_betweenOf_29 : decode cX9_betweenOf 29 = .ok (.ifCond .ne 9, 3) := by decide +kernel
theorem dX9_betweenOf_32 : decode cX9_betweenOf 32 = .ok (.iinc 3 1, 3) := by decide +kernel
theorem dX9_betweenOf_35 : decode cX9_betweenOf 35 = .ok (.goto (-21), 3) := by decide +kernel
theorem dX9_betweenOf_38 : decode cX9_betweenOf 38 = .ok (.iload_n 3, 1) := by decide +kernel
theorem dX9_betweenOf_39 : decode cX9_betweenOf 39 = .ok (.bipush 60, 2) := by decide +kernel
theorem dX9_betweenOf_41 : decode cX9_betweenOf 41 = .ok (.if_icmp .gt 7, 3) := by decide +kernel
theorem dX9_betweenOf_44 : decode cX9_betweenOf 44 = .ok (.iload_n 3, 1) := by decide +kernel
theorem dX9_betweenOf_45 : decode cX9_betweenOf 45 = .ok (.goto 5, 3) := by decide +kernel
theorem dX9_betweenOf_48 : decode cX9_betweenOf 48 = .ok (.bipush (-7), 2) := by decide +kernel
theorem dX9_betweenOf_50 : decode cX9_betweenOf 50 = .ok (.ireturn, 1) := by decide +kernel
theorem dX9_between_0 : decode cX9_between 0 = .ok (.iload_n 1, 1) := by decide +kernel
theorem dX9_between_1 : decode cX9_between 1 = .ok (.i2l, 1) := by decide +kernel
theorem dX9_between_2 : decode cX9_between 2 = .ok (.lconst 0, 1) := by decide +kernel
theorem dX9_between_3 : decode cX9_between 3 = .ok (.ldc2_w 136, 3) := by decide +kernel
theorem dX9_between_6 : decode cX9_between 6 = .ok (.invokestatic 138, 3) := by decide +kernel
theorem dX9_between_9 : decode cX9_between 9 = .ok (.ifCond .eq 24, 3) := by decide +kernel
theorem dX9_between_12 : decode cX9_between 12 = .ok (.aload_n 0, 1) := by decide +kernel
theorem dX9_between_13 : decode cX9_between 13 = .ok (.iload_n 2, 1) := by decide +kernel
theorem dX9_between_14 : decode cX9_between 14 = .ok (.invokevirtual 197, 3) := by decide +kernel
theorem dX9_between_17 : decode cX9_between 17 = .ok (.ifCond .eq 16, 3) := by decide +kernel
theorem dX9_between_20 : decode cX9_between 20 = .ok (.aload_n 0, 1) := by decide +kernel
theorem dX9_between_21 : decode cX9_between 21 = .ok (.iload_n 3, 1) := by decide +kernel
theorem dX9_between_22 : decode cX9_between 22 = .ok (.invokevirtual 197, 3) := by decide +kernel
theorem dX9_between_25 : decode cX9_between 25 = .ok (.ifCond .eq 8, 3) := by decide +kernel
theorem dX9_between_28 : decode cX9_between 28 = .ok (.iload_n 2, 1) := by decide +kernel
theorem dX9_between_29 : decode cX9_between 29 = .ok (.iload_n 3, 1) := by decide +kernel
theorem dX9_between_30 : decode cX9_between 30 = .ok (.if_icmp .ne 5, 3) := by decide +kernel
theorem dX9_between_33 : decode cX9_between 33 = .ok (.iconst (-1), 1) := by decide +kernel
theorem dX9_between_34 : decode cX9_between 34 = .ok (.ireturn, 1) := by decide +kernel
theorem dX9_between_35 : decode cX9_between 35 = .ok (.aload_n 0, 1) := by decide +kernel
theorem dX9_between_36 : decode cX9_between 36 = .ok (.iload_n 1, 1) := by decide +kernel
theorem dX9_between_37 : decode cX9_between 37 = .ok (.invokevirtual 241, 3) := by decide +kernel
theorem dX9_between_40 : decode cX9_between 40 = .ok (.aload_n 0, 1) := by decide +kernel
theorem dX9_between_41 : decode cX9_between 41 = .ok (.iload_n 2, 1) := by decide +kernel
theorem dX9_between_42 : decode cX9_between 42 = .ok (.iload_n 3, 1) := by decide +kernel
theorem dX9_between_43 : decode cX9_between 43 = .ok (.invokevirtual 276, 3) := by decide +kernel
theorem dX9_between_46 : decode cX9_between 46 = .ok (.ireturn, 1) := by decide +kernel
theorem dX9_nextOrder_0 : decode cX9_nextOrder 0 = .ok (.iload_n 1, 1) := by decide +kernel
theorem dX9_nextOrder_1 : decode cX9_nextOrder 1 = .ok (.iconst 2, 1) := by decide +kernel
theorem dX9_nextOrder_2 : decode cX9_nextOrder 2 = .ok (.isub, 1) := by decide +kernel
theorem dX9_nextOrder_3 : decode cX9_nextOrder 3 = .ok (.istore_n 2, 1) := by decide +kernel
theorem dX9_nextOrder_4 : decode cX9_nextOrder 4 = .ok (.iload_n 2, 1) := by decide +kernel
theorem dX9_nextOrder_5 : decode cX9_nextOrder 5 = .ok (.ifCond .lt 26, 3) := by decide +kernel
theorem dX9_nextOrder_8 : decode cX9_nextOrder 8 = .ok (.aload_n 0, 1) := by decide +kernel
theorem dX9_nextOrder_9 : decode cX9_nextOrder 9 = .ok (.getfield 129, 3) := by decide +kernel
theorem dX9_nextOrder_12 : decode cX9_nextOrder 12 = .ok (.iload_n 2, 1) := by decide +kernel
theorem dX9_nextOrder_13 : decode cX9_nextOrder 13 = .ok (.iaload, 1) := by decide +kernel
theorem dX9_nextOrder_14 : decode cX9_nextOrder 14 = .ok (.aload_n 0, 1) := by decide +kernel
theorem dX9_nextOrder_15 : decode cX9_nextOrder 15 = .ok (.getfield 129, 3) := by decide +kernel
theorem dX9_nextOrder_18 : decode cX9_nextOrder 18 = .ok (.iload_n 2, 1) := by decide +kernel
theorem dX9_nextOrder_19 : decode cX9_nextOrder 19 = .ok (.iconst 1, 1) := by decide +kernel
theorem dX9_nextOrder_20 : decode cX9_nextOrder 20 = .ok (.iadd, 1) := by decide +kernel
theorem dX9_nextOrder_21 : decode cX9_nextOrder 21 = .ok (.iaload, 1) := by decide +kernel
theorem dX9_nextOrder_22 : decode cX9_nextOrder 22 = .ok (.if_icmp .le 9, 3) := by decide +kernel
theorem dX9_nextOrder_25 : decode cX9_nextOrder 25 = .ok (.iinc 2 (-1), 3) := by decide +kernel
theorem dX9_nextOrder_28 : decode cX9_nextOrder 28 = .ok (.goto (-24), 3) := by decide +kernel
theorem dX9_nextOrder_31 : decode cX9_nextOrder 31 = .ok (.iload_n 2, 1) := by decide +kernel
theorem dX9_nextOrder_32 : decode cX9_nextOrder 32 = .ok (.ifCond .ge 5, 3) := by decide +kernel
theorem dX9_nextOrder_35 : decode cX9_nextOrder 35 = .ok (.iconst 0, 1) := by decide +kernel
theorem dX9_nextOrder_36 : decode cX9_nextOrder 36 = .ok (.ireturn, 1) := by decide +kernel
theorem dX9_nextOrder_37 : decode cX9_nextOrder 37 = .ok (.iload_n 1, 1) := by decide +kernel
theorem dX9_nextOrder_38 : decode cX9_nextOrder 38 = .ok (.iconst 1, 1) := by decide +kernel
theorem dX9_nextOrder_39 : decode cX9_nextOrder 39 = .ok (.isub, 1) := by decide +kernel
theorem dX9_nextOrder_40 : decode cX9_nextOrder 40 = .ok (.istore_n 3, 1) := by decide +kernel
theorem dX9_nextOrder_41 : decode cX9_nextOrder 41 = .ok (.aload_n 0, 1) := by decide +kernel
theorem dX9_nextOrder_42 : decode cX9_nextOrder 42 = .ok (.getfield 129, 3) := by decide +kernel
theorem dX9_nextOrder_45 : decode cX9_nextOrder 45 = .ok (.iload_n 3, 1) := by decide +kernel
theorem dX9_nextOrder_46 : decode cX9_nextOrder 46 = .ok (.iaload, 1) := by decide +kernel
theorem dX9_nextOrder_47 : decode cX9_nextOrder 47 = .ok (.aload_n 0, 1) := by decide +kernel
theorem dX9_nextOrder_48 : decode cX9_nextOrder 48 = .ok (.getfield 129, 3) := by decide +kernel
theorem dX9_nextOrder_51 : decode cX9_nextOrder 51 = .ok (.iload_n 2, 1) := by decide +kernel
theorem dX9_nextOrder_52 : decode cX9_nextOrder 52 = .ok (.iaload, 1) := by decide +kernel
theorem dX9_nextOrder_53 : decode cX9_nextOrder 53 = .ok (.if_icmp .ge 9, 3) := by decide +kernel
theorem dX9_nextOrder_56 : decode cX9_nextOrder 56 = .ok (.iinc 3 (-1), 3) := by decide +kernel
theorem dX9_nextOrder_59 : decode cX9_nextOrder 59 = .ok (.goto (-18), 3) := by decide +kernel
theorem dX9_nextOrder_62 : decode cX9_nextOrder 62 = .ok (.aload_n 0, 1) := by decide +kernel
theorem dX9_nextOrder_63 : decode cX9_nextOrder 63 = .ok (.getfield 129, 3) := by decide +kernel
theorem dX9_nextOrder_66 : decode cX9_nextOrder 66 = .ok (.iload_n 2, 1) := by decide +kernel
theorem dX9_nextOrder_67 : decode cX9_nextOrder 67 = .ok (.iaload, 1) := by decide +kernel
theorem dX9_nextOrder_68 : decode cX9_nextOrder 68 = .ok (.istore 4, 2) := by decide +kernel
theorem dX9_nextOrder_70 : decode cX9_nextOrder 70 = .ok (.aload_n 0, 1) := by decide +kernel
theorem dX9_nextOrder_71 : decode cX9_nextOrder 71 = .ok (.getfield 129, 3) := by decide +kernel
theorem dX9_nextOrder_74 : decode cX9_nextOrder 74 = .ok (.iload_n 2, 1) := by decide +kernel
theorem dX9_nextOrder_75 : decode cX9_nextOrder 75 = .ok (.aload_n 0, 1) := by decide +kernel
theorem dX9_nextOrder_76 : decode cX9_nextOrder 76 = .ok (.getfield 129, 3) := by decide +kernel
theorem dX9_nextOrder_79 : decode cX9_nextOrder 79 = .ok (.iload_n 3, 1) := by decide +kernel
theorem dX9_nextOrder_80 : decode cX9_nextOrder 80 = .ok (.iaload, 1) := by decide +kernel
theorem dX9_nextOrder_81 : decode cX9_nextOrder 81 = .ok (.iastore, 1) := by decide +kernel
theorem dX9_nextOrder_82 : decode cX9_nextOrder 82 = .ok (.aload_n 0, 1) := by decide +kernel
theorem dX9_nextOrder_83 : decode cX9_nextOrder 83 = .ok (.getfield 129, 3) := by decide +kernel
theorem dX9_nextOrder_86 : decode cX9_nextOrder 86 = .ok (.iload_n 3, 1) := by decide +kernel
theorem dX9_nextOrder_87 : decode cX9_nextOrder 87 = .ok (.iload 4, 2) := by decide +kernel
theorem dX9_nextOrder_89 : decode cX9_nextOrder 89 = .ok (.iastore, 1) := by decide +kernel
theorem dX9_nextOrder_90 : decode cX9_nextOrder 90 = .ok (.iload_n 2, 1) := by decide +kernel
theorem dX9_nextOrder_91 : decode cX9_nextOrder 91 = .ok (.iconst 1, 1) := by decide +kernel
theorem dX9_nextOrder_92 : decode cX9_nextOrder 92 = .ok (.iadd, 1) := by decide +kernel
theorem dX9_nextOrder_93 : decode cX9_nextOrder 93 = .ok (.istore 5, 2) := by decide +kernel
theorem dX9_nextOrder_95 : decode cX9_nextOrder 95 = .ok (.iload_n 1, 1) := by decide +kernel
theorem dX9_nextOrder_96 : decode cX9_nextOrder 96 = .ok (.iconst 1, 1) := by decide +kernel
theorem dX9_nextOrder_97 : decode cX9_nextOrder 97 = .ok (.isub, 1) := by decide +kernel
theorem dX9_nextOrder_98 : decode cX9_nextOrder 98 = .ok (.istore 6, 2) := by decide +kernel
theorem dX9_nextOrder_100 : decode cX9_nextOrder 100 = .ok (.iload 5, 2) := by decide +kernel
theorem dX9_nextOrder_102 : decode cX9_nextOrder 102 = .ok (.iload 6, 2) := by decide +kernel
theorem dX9_nextOrder_104 : decode cX9_nextOrder 104 = .ok (.if_icmp .ge 44, 3) := by decide +kernel
theorem dX9_nextOrder_107 : decode cX9_nextOrder 107 = .ok (.aload_n 0, 1) := by decide +kernel
theorem dX9_nextOrder_108 : decode cX9_nextOrder 108 = .ok (.getfield 129, 3) := by decide +kernel
theorem dX9_nextOrder_111 : decode cX9_nextOrder 111 = .ok (.iload 5, 2) := by decide +kernel
theorem dX9_nextOrder_113 : decode cX9_nextOrder 113 = .ok (.iaload, 1) := by decide +kernel
theorem dX9_nextOrder_114 : decode cX9_nextOrder 114 = .ok (.istore 4, 2) := by decide +kernel
theorem dX9_nextOrder_116 : decode cX9_nextOrder 116 = .ok (.aload_n 0, 1) := by decide +kernel
theorem dX9_nextOrder_117 : decode cX9_nextOrder 117 = .ok (.getfield 129, 3) := by decide +kernel
theorem dX9_nextOrder_120 : decode cX9_nextOrder 120 = .ok (.iload 5, 2) := by decide +kernel
theorem dX9_nextOrder_122 : decode cX9_nextOrder 122 = .ok (.aload_n 0, 1) := by decide +kernel
theorem dX9_nextOrder_123 : decode cX9_nextOrder 123 = .ok (.getfield 129, 3) := by decide +kernel
theorem dX9_nextOrder_126 : decode cX9_nextOrder 126 = .ok (.iload 6, 2) := by decide +kernel
theorem dX9_nextOrder_128 : decode cX9_nextOrder 128 = .ok (.iaload, 1) := by decide +kernel
theorem dX9_nextOrder_129 : decode cX9_nextOrder 129 = .ok (.iastore, 1) := by decide +kernel
theorem dX9_nextOrder_130 : decode cX9_nextOrder 130 = .ok (.aload_n 0, 1) := by decide +kernel
theorem dX9_nextOrder_131 : decode cX9_nextOrder 131 = .ok (.getfield 129, 3) := by decide +kernel
theorem dX9_nextOrder_134 : decode cX9_nextOrder 134 = .ok (.iload 6, 2) := by decide +kernel
theorem dX9_nextOrder_136 : decode cX9_nextOrder 136 = .ok (.iload 4, 2) := by decide +kernel
theorem dX9_nextOrder_138 : decode cX9_nextOrder 138 = .ok (.iastore, 1) := by decide +kernel
theorem dX9_nextOrder_139 : decode cX9_nextOrder 139 = .ok (.iinc 5 1, 3) := by decide +kernel
theorem dX9_nextOrder_142 : decode cX9_nextOrder 142 = .ok (.iinc 6 (-1), 3) := by decide +kernel
theorem dX9_nextOrder_145 : decode cX9_nextOrder 145 = .ok (.goto (-45), 3) := by decide +kernel
theorem dX9_nextOrder_148 : decode cX9_nextOrder 148 = .ok (.iconst 1, 1) := by decide +kernel
theorem dX9_nextOrder_149 : decode cX9_nextOrder 149 = .ok (.ireturn, 1) := by decide +kernel
theorem dX9_rankOf_0 : decode cX9_rankOf 0 = .ok (.aload_n 0, 1) := by decide +kernel
theorem dX9_rankOf_1 : decode cX9_rankOf 1 = .ok (.getfield 66, 3) := by decide +kernel
theorem dX9_rankOf_4 : decode cX9_rankOf 4 = .ok (.bipush 6, 2) := by decide +kernel
theorem dX9_rankOf_6 : decode cX9_rankOf 6 = .ok (.aload_n 0, 1) := by decide +kernel
theorem dX9_rankOf_7 : decode cX9_rankOf 7 = .ok (.getfield 36, 3) := by decide +kernel
theorem dX9_rankOf_10 : decode cX9_rankOf 10 = .ok (.iload_n 1, 1) := by decide +kernel
theorem dX9_rankOf_11 : decode cX9_rankOf 11 = .ok (.iaload, 1) := by decide +kernel
theorem dX9_rankOf_12 : decode cX9_rankOf 12 = .ok (.iadd, 1) := by decide +kernel
theorem dX9_rankOf_13 : decode cX9_rankOf 13 = .ok (.iaload, 1) := by decide +kernel
theorem dX9_rankOf_14 : decode cX9_rankOf 14 = .ok (.ireturn, 1) := by decide +kernel
theorem dX9_sumOf_0 : decode cX9_sumOf 0 = .ok (.iconst 0, 1) := by decide +kernel
theorem dX9_sumOf_1 : decode cX9_sumOf 1 = .ok (.istore_n 2, 1) := by decide +kernel
theorem dX9_sumOf_2 : decode cX9_sumOf 2 = .ok (.iconst 1, 1) := by decide +kernel
theorem dX9_sumOf_3 : decode cX9_sumOf 3 = .ok (.istore_n 3, 1) := by decide +kernel
theorem dX9_sumOf_4 : decode cX9_sumOf 4 = .ok (.iload_n 3, 1) := by decide +kernel
theorem dX9_sumOf_5 : decode cX9_sumOf 5 = .ok (.iload_n 1, 1) := by decide +kernel
theorem dX9_sumOf_6 : decode cX9_sumOf 6 = .ok (.if_icmp .ge 99, 3) := by decide +kernel
theorem dX9_sumOf_9 : decode cX9_sumOf 9 = .ok (.iload_n 2, 1) := by decide +kernel
theorem dX9_sumOf_10 : decode cX9_sumOf 10 = .ok (.ifCond .lt 95, 3) := by decide +kernel
theorem dX9_sumOf_13 : decode cX9_sumOf 13 = .ok (.aload_n 0, 1) := by decide +kernel
theorem dX9_sumOf_14 : decode cX9_sumOf 14 = .ok (.getfield 126, 3) := by decide +kernel
theorem dX9_sumOf_17 : decode cX9_sumOf 17 = .ok (.bipush 6, 2) := by decide +kernel
theorem dX9_sumOf_19 : decode cX9_sumOf 19 = .ok (.aload_n 0, 1) := by decide +kernel
theorem dX9_sumOf_20 : decode cX9_sumOf 20 = .ok (.getfield 129, 3) := by decide +kernel
theorem dX9_sumOf_23 : decode cX9_sumOf 23 = .ok (.iload_n 3, 1) := by decide +kernel
theorem dX9_sumOf_24 : decode cX9_sumOf 24 = .ok (.iconst 1, 1) := by decide +kernel
theorem dX9_sumOf_25 : decode cX9_sumOf 25 = .ok (.isub, 1) := by decide +kernel
theorem dX9_sumOf_26 : decode cX9_sumOf 26 = .ok (.iaload, 1) := by decide +kernel
theorem dX9_sumOf_27 : decode cX9_sumOf 27 = .ok (.imul, 1) := by decide +kernel
theorem dX9_sumOf_28 : decode cX9_sumOf 28 = .ok (.aload_n 0, 1) := by decide +kernel
theorem dX9_sumOf_29 : decode cX9_sumOf 29 = .ok (.getfield 129, 3) := by decide +kernel
theorem dX9_sumOf_32 : decode cX9_sumOf 32 = .ok (.iload_n 3, 1) := by decide +kernel
theorem dX9_sumOf_33 : decode cX9_sumOf 33 = .ok (.iaload, 1) := by decide +kernel
theorem dX9_sumOf_34 : decode cX9_sumOf 34 = .ok (.iadd, 1) := by decide +kernel
theorem dX9_sumOf_35 : decode cX9_sumOf 35 = .ok (.iaload, 1) := by decide +kernel
theorem dX9_sumOf_36 : decode cX9_sumOf 36 = .ok (.istore 4, 2) := by decide +kernel
theorem dX9_sumOf_38 : decode cX9_sumOf 38 = .ok (.iload 4, 2) := by decide +kernel
theorem dX9_sumOf_40 : decode cX9_sumOf 40 = .ok (.ifCond .le 42, 3) := by decide +kernel
theorem dX9_sumOf_43 : decode cX9_sumOf 43 = .ok (.aload_n 0, 1) := by decide +kernel
theorem dX9_sumOf_44 : decode cX9_sumOf 44 = .ok (.aload_n 0, 1) := by decide +kernel
theorem dX9_sumOf_45 : decode cX9_sumOf 45 = .ok (.getfield 123, 3) := by decide +kernel
theorem dX9_sumOf_48 : decode cX9_sumOf 48 = .ok (.aload_n 0, 1) := by decide +kernel
theorem dX9_sumOf_49 : decode cX9_sumOf 49 = .ok (.getfield 129, 3) := by decide +kernel
theorem dX9_sumOf_52 : decode cX9_sumOf 52 = .ok (.iload_n 3, 1) := by decide +kernel
theorem dX9_sumOf_53 : decode cX9_sumOf 53 = .ok (.iconst 1, 1) := by decide +kernel
theorem dX9_sumOf_54 : decode cX9_sumOf 54 = .ok (.isub, 1) := by decide +kernel
theorem dX9_sumOf_55 : decode cX9_sumOf 55 = .ok (.iaload, 1) := by decide +kernel
theorem dX9_sumOf_56 : decode cX9_sumOf 56 = .ok (.iaload, 1) := by decide +kernel
theorem dX9_sumOf_57 : decode cX9_sumOf 57 = .ok (.invokevirtual 279, 3) := by decide +kernel
theorem dX9_sumOf_60 : decode cX9_sumOf 60 = .ok (.aload_n 0, 1) := by decide +kernel
theorem dX9_sumOf_61 : decode cX9_sumOf 61 = .ok (.aload_n 0, 1) := by decide +kernel
theorem dX9_sumOf_62 : decode cX9_sumOf 62 = .ok (.getfield 123, 3) := by decide +kernel
theorem dX9_sumOf_65 : decode cX9_sumOf 65 = .ok (.aload_n 0, 1) := by decide +kernel
theorem dX9_sumOf_66 : decode cX9_sumOf 66 = .ok (.getfield 129, 3) := by decide +kernel
theorem dX9_sumOf_69 : decode cX9_sumOf 69 = .ok (.iload_n 3, 1) := by decide +kernel
theorem dX9_sumOf_70 : decode cX9_sumOf 70 = .ok (.iaload, 1) := by decide +kernel
theorem dX9_sumOf_71 : decode cX9_sumOf 71 = .ok (.iaload, 1) := by decide +kernel
theorem dX9_sumOf_72 : decode cX9_sumOf 72 = .ok (.invokevirtual 279, 3) := by decide +kernel
theorem dX9_sumOf_75 : decode cX9_sumOf 75 = .ok (.if_icmp .gt 7, 3) := by decide +kernel
theorem dX9_sumOf_78 : decode cX9_sumOf 78 = .ok (.iconst 1, 1) := by decide +kernel
theorem dX9_sumOf_79 : decode cX9_sumOf 79 = .ok (.goto 4, 3) := by decide +kernel
theorem dX9_sumOf_82 : decode cX9_sumOf 82 = .ok (.iconst 0, 1) := by decide +kernel
theorem dX9_sumOf_83 : decode cX9_sumOf 83 = .ok (.istore 5, 2) := by decide +kernel
theorem dX9_sumOf_85 : decode cX9_sumOf 85 = .ok (.iload 5, 2) := by decide +kernel
theorem dX9_sumOf_87 : decode cX9_sumOf 87 = .ok (.ifCond .eq 10, 3) := by decide +kernel
theorem dX9_sumOf_90 : decode cX9_sumOf 90 = .ok (.iload_n 2, 1) := by decide +kernel
theorem dX9_sumOf_91 : decode cX9_sumOf 91 = .ok (.iload 4, 2) := by decide +kernel
theorem dX9_sumOf_93 : decode cX9_sumOf 93 = .ok (.iadd, 1) := by decide +kernel
theorem dX9_sumOf_94 : decode cX9_sumOf 94 = .ok (.goto 4, 3) := by decide +kernel
theorem dX9_sumOf_97 : decode cX9_sumOf 97 = .ok (.iconst (-1), 1) := by decide +kernel
theorem dX9_sumOf_98 : decode cX9_sumOf 98 = .ok (.istore_n 2, 1) := by decide +kernel
theorem dX9_sumOf_99 : decode cX9_sumOf 99 = .ok (.iinc 3 1, 3) := by decide +kernel
theorem dX9_sumOf_102 : decode cX9_sumOf 102 = .ok (.goto (-98), 3) := by decide +kernel
theorem dX9_sumOf_105 : decode cX9_sumOf 105 = .ok (.iload_n 2, 1) := by decide +kernel
theorem dX9_sumOf_106 : decode cX9_sumOf 106 = .ok (.ireturn, 1) := by decide +kernel
theorem dX9_sortGroups_0 : decode cX9_sortGroups 0 = .ok (.iconst 0, 1) := by decide +kernel
theorem dX9_sortGroups_1 : decode cX9_sortGroups 1 = .ok (.istore_n 2, 1) := by decide +kernel
theorem dX9_sortGroups_2 : decode cX9_sortGroups 2 = .ok (.iload_n 2, 1) := by decide +kernel
theorem dX9_sortGroups_3 : decode cX9_sortGroups 3 = .ok (.aload_n 0, 1) := by decide +kernel
theorem dX9_sortGroups_4 : decode cX9_sortGroups 4 = .ok (.getfield 72, 3) := by decide +kernel
theorem dX9_sortGroups_7 : decode cX9_sortGroups 7 = .ok (.iload_n 1, 1) := by decide +kernel
theorem dX9_sortGroups_8 : decode cX9_sortGroups 8 = .ok (.iaload, 1) := by decide +kernel
theorem dX9_sortGroups_9 : decode cX9_sortGroups 9 = .ok (.if_icmp .ge 72, 3) := by decide +kernel
theorem dX9_sortGroups_12 : decode cX9_sortGroups 12 = .ok (.aload_n 0, 1) := by decide +kernel
theorem dX9_sortGroups_13 : decode cX9_sortGroups 13 = .ok (.getfield 75, 3) := by decide +kernel
theorem dX9_sortGroups_16 : decode cX9_sortGroups 16 = .ok (.bipush 6, 2) := by decide +kernel
theorem dX9_sortGroups_18 : decode cX9_sortGroups 18 = .ok (.iload_n 1, 1) := by decide +kernel
theorem dX9_sortGroups_19 : decode cX9_sortGroups 19 = .ok (.imul, 1) := by decide +kernel
theorem dX9_sortGroups_20 : decode cX9_sortGroups 20 = .ok (.iload_n 2, 1) := by decide +kernel
theorem dX9_sortGroups_21 : decode cX9_sortGroups 21 = .ok (.iadd, 1) := by decide +kernel
theorem dX9_sortGroups_22 : decode cX9_sortGroups 22 = .ok (.iaload, 1) := by decide +kernel
theorem dX9_sortGroups_23 : decode cX9_sortGroups 23 = .ok (.istore_n 3, 1) := by decide +kernel
theorem dX9_sortGroups_24 : decode cX9_sortGroups 24 = .ok (.iload_n 2, 1) := by decide +kernel
theorem dX9_sortGroups_25 : decode cX9_sortGroups 25 = .ok (.istore 4, 2) := by decide +kernel
theorem dX9_sortGroups_27 : decode cX9_sortGroups 27 = .ok (.iload 4, 2) := by decide +kernel
theorem dX9_sortGroups_29 : decode cX9_sortGroups 29 = .ok (.ifCond .le 38, 3) := by decide +kernel
theorem dX9_sortGroups_32 : decode cX9_sortGroups 32 = .ok (.aload_n 0, 1) := by decide +kernel
theorem dX9_sortGroups_33 : decode cX9_sortGroups 33 = .ok (.getfield 123, 3) := by decide +kernel
theorem dX9_sortGroups_36 : decode cX9_sortGroups 36 = .ok (.iload 4, 2) := by decide +kernel
theorem dX9_sortGroups_38 : decode cX9_sortGroups 38 = .ok (.iconst 1, 1) := by decide +kernel
theorem dX9_sortGroups_39 : decode cX9_sortGroups 39 = .ok (.isub, 1) := by decide +kernel
theorem dX9_sortGroups_40 : decode cX9_sortGroups 40 = .ok (.iaload, 1) := by decide +kernel
theorem dX9_sortGroups_41 : decode cX9_sortGroups 41 = .ok (.iload_n 3, 1) := by decide +kernel
theorem dX9_sortGroups_42 : decode cX9_sortGroups 42 = .ok (.if_icmp .le 25, 3) := by decide +kernel
theorem dX9_sortGroups_45 : decode cX9_sortGroups 45 = .ok (.aload_n 0, 1) := by decide +kernel
theorem dX9_sortGroups_46 : decode cX9_sortGroups 46 = .ok (.getfield 123, 3) := by decide +kernel
theorem dX9_sortGroups_49 : decode cX9_sortGroups 49 = .ok (.iload 4, 2) := by decide +kernel
theorem dX9_sortGroups_51 : decode cX9_sortGroups 51 = .ok (.aload_n 0, 1) := by decide +kernel
theorem dX9_sortGroups_52 : decode cX9_sortGroups 52 = .ok (.getfield 123, 3) := by decide +kernel
theorem dX9_sortGroups_55 : decode cX9_sortGroups 55 = .ok (.iload 4, 2) := by decide +kernel
theorem dX9_sortGroups_57 : decode cX9_sortGroups 57 = .ok (.iconst 1, 1) := by decide +kernel
theorem dX9_sortGroups_58 : decode cX9_sortGroups 58 = .ok (.isub, 1) := by decide +kernel
theorem dX9_sortGroups_59 : decode cX9_sortGroups 59 = .ok (.iaload, 1) := by decide +kernel
theorem dX9_sortGroups_60 : decode cX9_sortGroups 60 = .ok (.iastore, 1) := by decide +kernel
theorem dX9_sortGroups_61 : decode cX9_sortGroups 61 = .ok (.iinc 4 (-1), 3) := by decide +kernel
theorem dX9_sortGroups_64 : decode cX9_sortGroups 64 = .ok (.goto (-37), 3) := by decide +kernel
theorem dX9_sortGroups_67 : decode cX9_sortGroups 67 = .ok (.aload_n 0, 1) := by decide +kernel
theorem dX9_sortGroups_68 : decode cX9_sortGroups 68 = .ok (.getfield 123, 3) := by decide +kernel
theorem dX9_sortGroups_71 : decode cX9_sortGroups 71 = .ok (.iload 4, 2) := by decide +kernel
theorem dX9_sortGroups_73 : decode cX9_sortGroups 73 = .ok (.iload_n 3, 1) := by decide +kernel
theorem dX9_sortGroups_74 : decode cX9_sortGroups 74 = .ok (.iastore, 1) := by decide +kernel
theorem dX9_sortGroups_75 : decode cX9_sortGroups 75 = .ok (.iinc 2 1, 3) := by decide +kernel
theorem dX9_sortGroups_78 : decode cX9_sortGroups 78 = .ok (.goto (-76), 3) := by decide +kernel
theorem dX9_sortGroups_81 : decode cX9_sortGroups 81 = .ok (.return_, 1) := by decide +kernel
theorem dX9_order_0 : decode cX9_order 0 = .ok (.aload_n 0, 1) := by decide +kernel
theorem dX9_order_1 : decode cX9_order 1 = .ok (.iload_n 1, 1) := by decide +kernel
theorem dX9_order_2 : decode cX9_order 2 = .ok (.invokevirtual 149, 3) := by decide +kernel
theorem dX9_order_5 : decode cX9_order 5 = .ok (.ifCond .ne 5, 3) := by decide +kernel
theorem dX9_order_8 : decode cX9_order 8 = .ok (.iconst (-1), 1) := by decide +kernel
theorem dX9_order_9 : decode cX9_order 9 = .ok (.ireturn, 1) := by decide +kernel
theorem dX9_order_10 : decode cX9_order 10 = .ok (.aload_n 0, 1) := by decide +kernel
theorem dX9_order_11 : decode cX9_order 11 = .ok (.getfield 84, 3) := by decide +kernel
theorem dX9_order_14 : decode cX9_order 14 = .ok (.iload_n 1, 1) := by decide +kernel
theorem dX9_order_15 : decode cX9_order 15 = .ok (.baload, 1) := by decide +kernel
theorem dX9_order_16 : decode cX9_order 16 = .ok (.ifCond .eq 6, 3) := by decide +kernel
theorem dX9_order_19 : decode cX9_order 19 = .ok (.bipush (-6), 2) := by decide +kernel
theorem dX9_order_21 : decode cX9_order 21 = .ok (.ireturn, 1) := by decide +kernel
theorem dX9_order_22 : decode cX9_order 22 = .ok (.aload_n 0, 1) := by decide +kernel
theorem dX9_order_23 : decode cX9_order 23 = .ok (.getfield 72, 3) := by decide +kernel
theorem dX9_order_26 : decode cX9_order 26 = .ok (.iload_n 1, 1) := by decide +kernel
theorem dX9_order_27 : decode cX9_order 27 = .ok (.iaload, 1) := by decide +kernel
theorem dX9_order_28 : decode cX9_order 28 = .ok (.istore_n 2, 1) := by decide +kernel
theorem dX9_order_29 : decode cX9_order 29 = .ok (.iload_n 2, 1) := by decide +kernel
theorem dX9_order_30 : decode cX9_order 30 = .ok (.ifCond .ne 6, 3) := by decide +kernel
theorem dX9_order_33 : decode cX9_order 33 = .ok (.bipush (-7), 2) := by decide +kernel
theorem dX9_order_35 : decode cX9_order 35 = .ok (.ireturn, 1) := by decide +kernel
theorem dX9_order_36 : decode cX9_order 36 = .ok (.aload_n 0, 1) := by decide +kernel
theorem dX9_order_37 : decode cX9_order 37 = .ok (.iload_n 1, 1) := by decide +kernel
theorem dX9_order_38 : decode cX9_order 38 = .ok (.invokevirtual 253, 3) := by decide +kernel
theorem dX9_order_41 : decode cX9_order 41 = .ok (.aload_n 0, 1) := by decide +kernel
theorem dX9_order_42 : decode cX9_order 42 = .ok (.iload_n 1, 1) := by decide +kernel
theorem dX9_order_43 : decode cX9_order 43 = .ok (.invokevirtual 282, 3) := by decide +kernel
theorem dX9_order_46 : decode cX9_order 46 = .ok (.iconst 0, 1) := by decide +kernel
theorem dX9_order_47 : decode cX9_order 47 = .ok (.istore_n 3, 1) := by decide +kernel
theorem dX9_order_48 : decode cX9_order 48 = .ok (.iload_n 3, 1) := by decide +kernel
theorem dX9_order_49 : decode cX9_order 49 = .ok (.iload_n 2, 1) := by decide +kernel
theorem dX9_order_50 : decode cX9_order 50 = .ok (.if_icmp .ge 71, 3) := by decide +kernel
theorem dX9_order_53 : decode cX9_order 53 = .ok (.iconst 0, 1) := by decide +kernel
theorem dX9_order_54 : decode cX9_order 54 = .ok (.istore 4, 2) := by decide +kernel
theorem dX9_order_56 : decode cX9_order 56 = .ok (.iload 4, 2) := by decide +kernel
theorem dX9_order_58 : decode cX9_order 58 = .ok (.iload_n 2, 1) := by decide +kernel
theorem dX9_order_59 : decode cX9_order 59 = .ok (.if_icmp .ge 49, 3) := by decide +kernel
theorem dX9_order_62 : decode cX9_order 62 = .ok (.aload_n 0, 1) := by decide +kernel
theorem dX9_order_63 : decode cX9_order 63 = .ok (.getfield 126, 3) := by decide +kernel
theorem dX9_order_66 : decode cX9_order 66 = .ok (.bipush 6, 2) := by decide +kernel
theorem dX9_order_68 : decode cX9_order 68 = .ok (.iload_n 3, 1) := by decide +kernel
theorem dX9_order_69 : decode cX9_order 69 = .ok (.imul, 1) := by decide +kernel
theorem dX9_order_70 : decode cX9_order 70 = .ok (.iload 4, 2) := by decide +kernel
theorem dX9_order_72 : decode cX9_order 72 = .ok (.iadd, 1) := by decide +kernel
theorem dX9_order_73 : decode cX9_order 73 = .ok (.iload_n 3, 1) := by decide +kernel
theorem dX9_order_74 : decode cX9_order 74 = .ok (.iload 4, 2) := by decide +kernel
theorem dX9_order_76 : decode cX9_order 76 = .ok (.if_icmp .ne 8, 3) := by decide +kernel
theorem dX9_order_79 : decode cX9_order 79 = .ok (.bipush (-7), 2) := by decide +kernel
theorem dX9_order_81 : decode cX9_order 81 = .ok (.goto 20, 3) := by decide +kernel
theorem dX9_order_84 : decode cX9_order 84 = .ok (.aload_n 0, 1) := by decide +kernel
theorem dX9_order_85 : decode cX9_order 85 = .ok (.aload_n 0, 1) := by decide +kernel
theorem dX9_order_86 : decode cX9_order 86 = .ok (.getfield 123, 3) := by decide +kernel
theorem dX9_order_89 : decode cX9_order 89 = .ok (.iload_n 3, 1) := by decide +kernel
theorem dX9_order_90 : decode cX9_order 90 = .ok (.iaload, 1) := by decide +kernel
theorem dX9_order_91 : decode cX9_order 91 = .ok (.aload_n 0, 1) := by decide +kernel
theorem dX9_order_92 : decode cX9_order 92 = .ok (.getfield 123, 3) := by decide +kernel
theorem dX9_order_95 : decode cX9_order 95 = .ok (.iload 4, 2) := by decide +kernel
theorem dX9_order_97 : decode cX9_order 97 = .ok (.iaload, 1) := by decide +kernel
theorem dX9_order_98 : decode cX9_order 98 = .ok (.invokevirtual 276, 3) := by decide +kernel
theorem dX9_order_101 : decode cX9_order 101 = .ok (.iastore, 1) := by decide +kernel
theorem dX9_order_102 : decode cX9_order 102 = .ok (.iinc 4 1, 3) := by decide +kernel
theorem dX9_order_105 : decode cX9_order 105 = .ok (.goto (-49), 3) := by decide +kernel
theorem dX9_order_108 : decode cX9_order 108 = .ok (.aload_n 0, 1) := by decide +kernel
theorem dX9_order_109 : decode cX9_order 109 = .ok (.getfield 129, 3) := by decide +kernel
theorem dX9_order_112 : decode cX9_order 112 = .ok (.iload_n 3, 1) := by decide +kernel
theorem dX9_order_113 : decode cX9_order 113 = .ok (.iload_n 3, 1) := by decide +kernel
theorem dX9_order_114 : decode cX9_order 114 = .ok (.iastore, 1) := by decide +kernel
theorem dX9_order_115 : decode cX9_order 115 = .ok (.iinc 3 1, 3) := by decide +kernel
theorem dX9_order_118 : decode cX9_order 118 = .ok (.goto (-70), 3) := by decide +kernel
theorem dX9_order_121 : decode cX9_order 121 = .ok (.iconst (-1), 1) := by decide +kernel
theorem dX9_order_122 : decode cX9_order 122 = .ok (.istore_n 3, 1) := by decide +kernel
theorem dX9_order_123 : decode cX9_order 123 = .ok (.iconst 1, 1) := by decide +kernel
theorem dX9_order_124 : decode cX9_order 124 = .ok (.istore 4, 2) := by decide +kernel
theorem dX9_order_126 : decode cX9_order 126 = .ok (.iload 4, 2) := by decide +kernel
theorem dX9_order_128 : decode cX9_order 128 = .ok (.ifCond .eq 67, 3) := by decide +kernel
theorem dX9_order_131 : decode cX9_order 131 = .ok (.aload_n 0, 1) := by decide +kernel
theorem dX9_order_132 : decode cX9_order 132 = .ok (.iload_n 2, 1) := by decide +kernel
theorem dX9_order_133 : decode cX9_order 133 = .ok (.invokevirtual 285, 3) := by decide +kernel
theorem dX9_order_136 : decode cX9_order 136 = .ok (.istore 5, 2) := by decide +kernel
theorem dX9_order_138 : decode cX9_order 138 = .ok (.iload 5, 2) := by decide +kernel
theorem dX9_order_140 : decode cX9_order 140 = .ok (.ifCond .lt 45, 3) := by decide +kernel
theorem dX9_order_143 : decode cX9_order 143 = .ok (.iload_n 3, 1) := by decide +kernel
theorem dX9_order_144 : decode cX9_order 144 = .ok (.ifCond .lt 9, 3) := by decide +kernel
theorem dX9_order_147 : decode cX9_order 147 = .ok (.iload 5, 2) := by decide +kernel
theorem dX9_order_149 : decode cX9_order 149 = .ok (.iload_n 3, 1) := by decide +kernel
theorem dX9_order_150 : decode cX9_order 150 = .ok (.if_icmp .ge 35, 3) := by decide +kernel
theorem dX9_order_153 : decode cX9_order 153 = .ok (.iload 5, 2) := by decide +kernel
theorem dX9_order_155 : decode cX9_order 155 = .ok (.istore_n 3, 1) := by decide +kernel
theorem dX9_order_156 : decode cX9_order 156 = .ok (.iconst 0, 1) := by decide +kernel
theorem dX9_order_157 : decode cX9_order 157 = .ok (.istore 6, 2) := by decide +kernel
theorem dX9_order_159 : decode cX9_order 159 = .ok (.iload 6, 2) := by decide +kernel
theorem dX9_order_161 : decode cX9_order 161 = .ok (.iload_n 2, 1) := by decide +kernel
theorem dX9_order_162 : decode cX9_order 162 = .ok (.if_icmp .ge 23, 3) := by decide +kernel
theorem dX9_order_165 : decode cX9_order 165 = .ok (.aload_n 0, 1) := by decide +kernel
theorem dX9_order_166 : decode cX9_order 166 = .ok (.getfield 132, 3) := by decide +kernel
theorem dX9_order_169 : decode cX9_order 169 = .ok (.iload 6, 2) := by decide +kernel
theorem dX9_order_171 : decode cX9_order 171 = .ok (.aload_n 0, 1) := by decide +kernel
theorem dX9_order_172 : decode cX9_order 172 = .ok (.getfield 129, 3) := by decide +kernel
theorem dX9_order_175 : decode cX9_order 175 = .ok (.iload 6, 2) := by decide +kernel
theorem dX9_order_177 : decode cX9_order 177 = .ok (.iaload, 1) := by decide +kernel
theorem dX9_order_178 : decode cX9_order 178 = .ok (.iastore, 1) := by decide +kernel
theorem dX9_order_179 : decode cX9_order 179 = .ok (.iinc 6 1, 3) := by decide +kernel
theorem dX9_order_182 : decode cX9_order 182 = .ok (.goto (-23), 3) := by decide +kernel
theorem dX9_order_185 : decode cX9_order 185 = .ok (.aload_n 0, 1) := by decide +kernel
theorem dX9_order_186 : decode cX9_order 186 = .ok (.iload_n 2, 1) := by decide +kernel
theorem dX9_order_187 : decode cX9_order 187 = .ok (.invokevirtual 288, 3) := by decide +kernel
theorem dX9_order_190 : decode cX9_order 190 = .ok (.istore 4, 2) := by decide +kernel
theorem dX9_order_192 : decode cX9_order 192 = .ok (.goto (-66), 3) := by decide +kernel
theorem dX9_order_195 : decode cX9_order 195 = .ok (.iload_n 3, 1) := by decide +kernel
theorem dX9_order_196 : decode cX9_order 196 = .ok (.ifCond .ge 6, 3) := by decide +kernel
theorem dX9_order_199 : decode cX9_order 199 = .ok (.bipush (-7), 2) := by decide +kernel
theorem dX9_order_201 : decode cX9_order 201 = .ok (.ireturn, 1) := by decide +kernel
theorem dX9_order_202 : decode cX9_order 202 = .ok (.iconst 0, 1) := by decide +kernel
theorem dX9_order_203 : decode cX9_order 203 = .ok (.istore 5, 2) := by decide +kernel
theorem dX9_order_205 : decode cX9_order 205 = .ok (.iload 5, 2) := by decide +kernel
theorem dX9_order_207 : decode cX9_order 207 = .ok (.iload_n 2, 1) := by decide +kernel
theorem dX9_order_208 : decode cX9_order 208 = .ok (.if_icmp .ge 79, 3) := by decide +kernel
theorem dX9_order_211 : decode cX9_order 211 = .ok (.aload_n 0, 1) := by decide +kernel
theorem dX9_order_212 : decode cX9_order 212 = .ok (.getfield 75, 3) := by decide +kernel
theorem dX9_order_215 : decode cX9_order 215 = .ok (.bipush 6, 2) := by decide +kernel
theorem dX9_order_217 : decode cX9_order 217 = .ok (.iload_n 1, 1) := by decide +kernel
theorem dX9_order_218 : decode cX9_order 218 = .ok (.imul, 1) := by decide +kernel
theorem dX9_order_219 : decode cX9_order 219 = .ok (.iload 5, 2) := by decide +kernel
theorem dX9_order_221 : decode cX9_order 221 = .ok (.iadd, 1) := by decide +kernel
theorem dX9_order_222 : decode cX9_order 222 = .ok (.aload_n 0, 1) := by decide +kernel
theorem dX9_order_223 : decode cX9_order 223 = .ok (.getfield 123, 3) := by decide +kernel
theorem dX9_order_226 : decode cX9_order 226 = .ok (.aload_n 0, 1) := by decide +kernel
theorem dX9_order_227 : decode cX9_order 227 = .ok (.getfield 132, 3) := by decide +kernel
theorem dX9_order_230 : decode cX9_order 230 = .ok (.iload 5, 2) := by decide +kernel
theorem dX9_order_232 : decode cX9_order 232 = .ok (.iaload, 1) := by decide +kernel
theorem dX9_order_233 : decode cX9_order 233 = .ok (.iaload, 1) := by decide +kernel
theorem dX9_order_234 : decode cX9_order 234 = .ok (.iastore, 1) := by decide +kernel
theorem dX9_order_235 : decode cX9_order 235 = .ok (.aload_n 0, 1) := by decide +kernel
theorem dX9_order_236 : decode cX9_order 236 = .ok (.getfield 78, 3) := by decide +kernel
theorem dX9_order_239 : decode cX9_order 239 = .ok (.bipush 6, 2) := by decide +kernel
theorem dX9_order_241 : decode cX9_order 241 = .ok (.iload_n 1, 1) := by decide +kernel
theorem dX9_order_242 : decode cX9_order 242 = .ok (.imul, 1) := by decide +kernel
theorem dX9_order_243 : decode cX9_order 243 = .ok (.iload 5, 2) := by decide +kernel
theorem dX9_order_245 : decode cX9_order 245 = .ok (.iadd, 1) := by decide +kernel
theorem dX9_order_246 : decode cX9_order 246 = .ok (.iload 5, 2) := by decide +kernel
theorem dX9_order_248 : decode cX9_order 248 = .ok (.ifCond .ne 7, 3) := by decide +kernel
theorem dX9_order_251 : decode cX9_order 251 = .ok (.iconst 1, 1) := by decide +kernel
theorem dX9_order_252 : decode cX9_order 252 = .ok (.goto 28, 3) := by decide +kernel
theorem dX9_order_255 : decode cX9_order 255 = .ok (.aload_n 0, 1) := by decide +kernel
theorem dX9_order_256 : decode cX9_order 256 = .ok (.getfield 126, 3) := by decide +kernel
theorem dX9_order_259 : decode cX9_order 259 = .ok (.bipush 6, 2) := by decide +kernel
theorem dX9_order_261 : decode cX9_order 261 = .ok (.aload_n 0, 1) := by decide +kernel
theorem dX9_order_262 : decode cX9_order 262 = .ok (.getfield 132, 3) := by decide +kernel
theorem dX9_order_265 : decode cX9_order 265 = .ok (.iload 5, 2) := by decide +kernel
theorem dX9_order_267 : decode cX9_order 267 = .ok (.iconst 1, 1) := by decide +kernel
theorem dX9_order_268 : decode cX9_order 268 = .ok (.isub, 1) := by decide +kernel
theorem dX9_order_269 : decode cX9_order 269 = .ok (.iaload, 1) := by decide +kernel
theorem dX9_order_270 : decode cX9_order 270 = .ok (.imul, 1) := by decide +kernel
theorem dX9_order_271 : decode cX9_order 271 = .ok (.aload_n 0, 1) := by decide +kernel
theorem dX9_order_272 : decode cX9_order 272 = .ok (.getfield 132, 3) := by decide +kernel
theorem dX9_order_275 : decode cX9_order 275 = .ok (.iload 5, 2) := by decide +kernel
theorem dX9_order_277 : decode cX9_order 277 = .ok (.iaload, 1) := by decide +kernel
theorem dX9_order_278 : decode cX9_order 278 = .ok (.iadd, 1) := by decide +kernel
theorem dX9_order_279 : decode cX9_order 279 = .ok (.iaload, 1) := by decide +kernel
theorem dX9_order_280 : decode cX9_order 280 = .ok (.iastore, 1) := by decide +kernel
theorem dX9_order_281 : decode cX9_order 281 = .ok (.iinc 5 1, 3) := by decide +kernel
theorem dX9_order_284 : decode cX9_order 284 = .ok (.goto (-79), 3) := by decide +kernel
theorem dX9_order_287 : decode cX9_order 287 = .ok (.iload_n 3, 1) := by decide +kernel
theorem dX9_order_288 : decode cX9_order 288 = .ok (.ireturn, 1) := by decide +kernel
theorem dX9_root_0 : decode cX9_root 0 = .ok (.lconst 0, 1) := by decide +kernel
theorem dX9_root_1 : decode cX9_root 1 = .ok (.lstore_n 2, 1) := by decide +kernel
theorem dX9_root_2 : decode cX9_root 2 = .ok (.ldc2_w 291, 3) := by decide +kernel
theorem dX9_root_5 : decode cX9_root 5 = .ok (.lstore 4, 2) := by decide +kernel
theorem dX9_root_7 : decode cX9_root 7 = .ok (.lload 4, 2) := by decide +kernel
theorem dX9_root_9 : decode cX9_root 9 = .ok (.lconst 0, 1) := by decide +kernel
theorem dX9_root_10 : decode cX9_root 10 = .ok (.lcmp, 1) := by decide +kernel
theorem dX9_root_11 : decode cX9_root 11 = .ok (.ifCond .le 35, 3) := by decide +kernel
theorem dX9_root_14 : decode cX9_root 14 = .ok (.lload_n 2, 1) := by decide +kernel
theorem dX9_root_15 : decode cX9_root 15 = .ok (.lload_n 2, 1) := by decide +kernel
theorem dX9_root_16 : decode cX9_root 16 = .ok (.lload 4, 2) := by decide +kernel
theorem dX9_root_18 : decode cX9_root 18 = .ok (.ladd, 1) := by decide +kernel
theorem dX9_root_19 : decode cX9_root 19 = .ok (.lload_n 2, 1) := by decide +kernel
theorem dX9_root_20 : decode cX9_root 20 = .ok (.lload 4, 2) := by decide +kernel
theorem dX9_root_22 : decode cX9_root 22 = .ok (.ladd, 1) := by decide +kernel
theorem dX9_root_23 : decode cX9_root 23 = .ok (.lmul, 1) := by decide +kernel
theorem dX9_root_24 : decode cX9_root 24 = .ok (.lload_n 0, 1) := by decide +kernel
theorem dX9_root_25 : decode cX9_root 25 = .ok (.lcmp, 1) := by decide +kernel
theorem dX9_root_26 : decode cX9_root 26 = .ok (.ifCond .gt 8, 3) := by decide +kernel
theorem dX9_root_29 : decode cX9_root 29 = .ok (.lload 4, 2) := by decide +kernel
theorem dX9_root_31 : decode cX9_root 31 = .ok (.goto 4, 3) := by decide +kernel
theorem dX9_root_34 : decode cX9_root 34 = .ok (.lconst 0, 1) := by decide +kernel
theorem dX9_root_35 : decode cX9_root 35 = .ok (.ladd, 1) := by decide +kernel
theorem dX9_root_36 : decode cX9_root 36 = .ok (.lstore_n 2, 1) := by decide +kernel
theorem dX9_root_37 : decode cX9_root 37 = .ok (.lload 4, 2) := by decide +kernel
theorem dX9_root_39 : decode cX9_root 39 = .ok (.iconst 1, 1) := by decide +kernel
theorem dX9_root_40 : decode cX9_root 40 = .ok (.lshr, 1) := by decide +kernel
theorem dX9_root_41 : decode cX9_root 41 = .ok (.lstore 4, 2) := by decide +kernel
theorem dX9_root_43 : decode cX9_root 43 = .ok (.goto (-36), 3) := by decide +kernel
theorem dX9_root_46 : decode cX9_root 46 = .ok (.lload_n 2, 1) := by decide +kernel
theorem dX9_root_47 : decode cX9_root 47 = .ok (.lreturn, 1) := by decide +kernel
theorem dX9_findStarts_0 : decode cX9_findStarts 0 = .ok (.aload_n 0, 1) := by decide +kernel
theorem dX9_findStarts_1 : decode cX9_findStarts 1 = .ok (.ldc2_w 228, 3) := by decide +kernel
theorem dX9_findStarts_4 : decode cX9_findStarts 4 = .ok (.putfield 293, 3) := by decide +kernel
theorem dX9_findStarts_7 : decode cX9_findStarts 7 = .ok (.aload_n 0, 1) := by decide +kernel
theorem dX9_findStarts_8 : decode cX9_findStarts 8 = .ok (.ldc2_w 230, 3) := by decide +kernel
theorem dX9_findStarts_11 : decode cX9_findStarts 11 = .ok (.putfield 297, 3) := by decide +kernel
theorem dX9_findStarts_14 : decode cX9_findStarts 14 = .ok (.iconst 0, 1) := by decide +kernel
theorem dX9_findStarts_15 : decode cX9_findStarts 15 = .ok (.istore_n 2, 1) := by decide +kernel
theorem dX9_findStarts_16 : decode cX9_findStarts 16 = .ok (.iload_n 2, 1) := by decide +kernel
theorem dX9_findStarts_17 : decode cX9_findStarts 17 = .ok (.aload_n 0, 1) := by decide +kernel
theorem dX9_findStarts_18 : decode cX9_findStarts 18 = .ok (.getfield 72, 3) := by decide +kernel
theorem dX9_findStarts_21 : decode cX9_findStarts 21 = .ok (.iload_n 1, 1) := by decide +kernel
theorem dX9_findStarts_22 : decode cX9_findStarts 22 = .ok (.iaload, 1) := by decide +kernel
theorem dX9_findStarts_23 : decode cX9_findStarts 23 = .ok (.if_icmp .ge 192, 3) := by decide +kernel
theorem dX9_findStarts_26 : decode cX9_findStarts 26 = .ok (.aload_n 0, 1) := by decide +kernel
theorem dX9_findStarts_27 : decode cX9_findStarts 27 = .ok (.getfield 75, 3) := by decide +kernel
theorem dX9_findStarts_30 : decode cX9_findStarts 30 = .ok (.bipush 6, 2) := by decide +kernel
theorem dX9_findStarts_32 : decode cX9_findStarts 32 = .ok (.iload_n 1, 1) := by decide +kernel
theorem dX9_findStarts_33 : decode cX9_findStarts 33 = .ok (.imul, 1) := by decide +kernel
theorem dX9_findStarts_34 : decode cX9_findStarts 34 = .ok (.iload_n 2, 1) := by decide +kernel
theorem dX9_findStarts_35 : decode cX9_findStarts 35 = .ok (.iadd, 1) := by decide +kernel
theorem dX9_findStarts_36 : decode cX9_findStarts 36 = .ok (.iaload, 1) := by decide +kernel
theorem dX9_findStarts_37 : decode cX9_findStarts 37 = .ok (.istore_n 3, 1) := by decide +kernel
theorem dX9_findStarts_38 : decode cX9_findStarts 38 = .ok (.aload_n 0, 1) := by decide +kernel
theorem dX9_findStarts_39 : decode cX9_findStarts 39 = .ok (.iload_n 3, 1) := by decide +kernel
theorem dX9_findStarts_40 : decode cX9_findStarts 40 = .ok (.iconst 0, 1) := by decide +kernel
theorem dX9_findStarts_41 : decode cX9_findStarts 41 = .ok (.invokevirtual 256, 3) := by decide +kernel
theorem dX9_findStarts_44 : decode cX9_findStarts 44 = .ok (.aload_n 0, 1) := by decide +kernel
theorem dX9_findStarts_45 : decode cX9_findStarts 45 = .ok (.getfield 235, 3) := by decide +kernel
theorem dX9_findStarts_48 : decode cX9_findStarts 48 = .ok (.i2l, 1) := by decide +kernel
theorem dX9_findStarts_49 : decode cX9_findStarts 49 = .ok (.aload_n 0, 1) := by decide +kernel
theorem dX9_findStarts_50 : decode cX9_findStarts 50 = .ok (.iload_n 1, 1) := by decide +kernel
theorem dX9_findStarts_51 : decode cX9_findStarts 51 = .ok (.iload_n 2, 1) := by decide +kernel
theorem dX9_findStarts_52 : decode cX9_findStarts 52 = .ok (.invokevirtual 232, 3) := by decide +kernel
theorem dX9_findStarts_55 : decode cX9_findStarts 55 = .ok (.i2l, 1) := by decide +kernel
theorem dX9_findStarts_56 : decode cX9_findStarts 56 = .ok (.lmul, 1) := by decide +kernel
theorem dX9_findStarts_57 : decode cX9_findStarts 57 = .ok (.aload_n 0, 1) := by decide +kernel
theorem dX9_findStarts_58 : decode cX9_findStarts 58 = .ok (.getfield 105, 3) := by decide +kernel
theorem dX9_findStarts_61 : decode cX9_findStarts 61 = .ok (.aload_n 0, 1) := by decide +kernel
theorem dX9_findStarts_62 : decode cX9_findStarts 62 = .ok (.getfield 117, 3) := by decide +kernel
theorem dX9_findStarts_65 : decode cX9_findStarts 65 = .ok (.iconst 0, 1) := by decide +kernel
theorem dX9_findStarts_66 : decode cX9_findStarts 66 = .ok (.iaload, 1) := by decide +kernel
theorem dX9_findStarts_67 : decode cX9_findStarts 67 = .ok (.iaload, 1) := by decide +kernel
theorem dX9_findStarts_68 : decode cX9_findStarts 68 = .ok (.i2l, 1) := by decide +kernel
theorem dX9_findStarts_69 : decode cX9_findStarts 69 = .ok (.ladd, 1) := by decide +kernel
theorem dX9_findStarts_70 : decode cX9_findStarts 70 = .ok (.lstore 4, 2) := by decide +kernel
theorem dX9_findStarts_72 : decode cX9_findStarts 72 = .ok (.aload_n 0, 1) := by decide +kernel
theorem dX9_findStarts_73 : decode cX9_findStarts 73 = .ok (.getfield 108, 3) := by decide +kernel
theorem dX9_findStarts_76 : decode cX9_findStarts 76 = .ok (.aload_n 0, 1) := by decide +kernel
theorem dX9_findStarts_77 : decode cX9_findStarts 77 = .ok (.getfield 117, 3) := by decide +kernel
theorem dX9_findStarts_80 : decode cX9_findStarts 80 = .ok (.iconst 0, 1) := by decide +kernel
theorem dX9_findStarts_81 : decode cX9_findStarts 81 = .ok (.iaload, 1) := by decide +kernel
theorem dX9_findStarts_82 : decode cX9_findStarts 82 = .ok (.iaload, 1) := by decide +kernel
theorem dX9_findStarts_83 : decode cX9_findStarts 83 = .ok (.i2l, 1) := by decide +kernel
theorem dX9_findStarts_84 : decode cX9_findStarts 84 = .ok (.lstore 6, 2) := by decide +kernel
theorem dX9_findStarts_86 : decode cX9_findStarts 86 = .ok (.aload_n 0, 1) := by decide +kernel
theorem dX9_findStarts_87 : decode cX9_findStarts 87 = .ok (.getfield 66, 3) := by decide +kernel
theorem dX9_findStarts_90 : decode cX9_findStarts 90 = .ok (.iconst 1, 1) := by decide +kernel
theorem dX9_findStarts_91 : decode cX9_findStarts 91 = .ok (.iaload, 1) := by decide +kernel
theorem dX9_findStarts_92 : decode cX9_findStarts 92 = .ok (.i2l, 1) := by decide +kernel
theorem dX9_findStarts_93 : decode cX9_findStarts 93 = .ok (.aload_n 0, 1) := by decide +kernel
theorem dX9_findStarts_94 : decode cX9_findStarts 94 = .ok (.getfield 42, 3) := by decide +kernel
theorem dX9_findStarts_97 : decode cX9_findStarts 97 = .ok (.iload_n 3, 1) := by decide +kernel
theorem dX9_findStarts_98 : decode cX9_findStarts 98 = .ok (.iaload, 1) := by decide +kernel
theorem dX9_findStarts_99 : decode cX9_findStarts 99 = .ok (.i2l, 1) := by decide +kernel
theorem dX9_findStarts_100 : decode cX9_findStarts 100 = .ok (.aload_n 0, 1) := by decide +kernel
theorem dX9_findStarts_101 : decode cX9_findStarts 101 = .ok (.getfield 120, 3) := by decide +kernel
theorem dX9_findStarts_104 : decode cX9_findStarts 104 = .ok (.iconst 0, 1) := by decide +kernel
theorem dX9_findStarts_105 : decode cX9_findStarts 105 = .ok (.iaload, 1) := by decide +kernel
theorem dX9_findStarts_106 : decode cX9_findStarts 106 = .ok (.i2l, 1) := by decide +kernel
theorem dX9_findStarts_107 : decode cX9_findStarts 107 = .ok (.lmul, 1) := by decide +kernel
theorem dX9_findStarts_108 : decode cX9_findStarts 108 = .ok (.ladd, 1) := by decide +kernel
theorem dX9_findStarts_109 : decode cX9_findStarts 109 = .ok (.lstore 8, 2) := by decide +kernel
theorem dX9_findStarts_111 : decode cX9_findStarts 111 = .ok (.lload 8, 2) := by decide +kernel
theorem dX9_findStarts_113 : decode cX9_findStarts 113 = .ok (.lload 8, 2) := by decide +kernel
theorem dX9_findStarts_115 : decode cX9_findStarts 115 = .ok (.lmul, 1) := by decide +kernel
theorem dX9_findStarts_116 : decode cX9_findStarts 116 = .ok (.lload 6, 2) := by decide +kernel
theorem dX9_findStarts_118 : decode cX9_findStarts 118 = .ok (.lload 6, 2) := by decide +kernel
theorem dX9_findStarts_120 : decode cX9_findStarts 120 = .ok (.lmul, 1) := by decide +kernel
theorem dX9_findStarts_121 : decode cX9_findStarts 121 = .ok (.lsub, 1) := by decide +kernel
theorem dX9_findStarts_122 : decode cX9_findStarts 122 = .ok (.lstore 10, 2) := by decide +kernel
theorem dX9_findStarts_124 : decode cX9_findStarts 124 = .ok (.lload 10, 2) := by decide +kernel
theorem dX9_findStarts_126 : decode cX9_findStarts 126 = .ok (.lconst 0, 1) := by decide +kernel
theorem dX9_findStarts_127 : decode cX9_findStarts 127 = .ok (.lcmp, 1) := by decide +kernel
theorem dX9_findStarts_128 : decode cX9_findStarts 128 = .ok (.ifCond .ge 14, 3) := by decide +kernel
theorem dX9_findStarts_131 : decode cX9_findStarts 131 = .ok (.aload_n 0, 1) := by decide +kernel
theorem dX9_findStarts_132 : decode cX9_findStarts 132 = .ok (.aload_n 0, 1) := by decide +kernel
theorem dX9_findStarts_133 : decode cX9_findStarts 133 = .ok (.getfield 293, 3) := by decide +kernel
theorem dX9_findStarts_136 : decode cX9_findStarts 136 = .ok (.lconst 1, 1) := by decide +kernel
theorem dX9_findStarts_137 : decode cX9_findStarts 137 = .ok (.lsub, 1) := by decide +kernel
theorem dX9_findStarts_138 : decode cX9_findStarts 138 = .ok (.putfield 297, 3) := by decide +kernel
theorem dX9_findStarts_141 : decode cX9_findStarts 141 = .ok (.return_, 1) := by decide +kernel
theorem dX9_findStarts_142 : decode cX9_findStarts 142 = .ok (.lload 10, 2) := by decide +kernel
theorem dX9_findStarts_144 : decode cX9_findStarts 144 = .ok (.invokestatic 300, 3) := by decide +kernel
theorem dX9_findStarts_147 : decode cX9_findStarts 147 = .ok (.lstore 12, 2) := by decide +kernel
theorem dX9_findStarts_149 : decode cX9_findStarts 149 = .ok (.aload_n 0, 1) := by decide +kernel
theorem dX9_findStarts_150 : decode cX9_findStarts 150 = .ok (.lload 12, 2) := by decide +kernel
theorem dX9_findStarts_152 : decode cX9_findStarts 152 = .ok (.lneg, 1) := by decide +kernel
theorem dX9_findStarts_153 : decode cX9_findStarts 153 = .ok (.lload 4, 2) := by decide +kernel
theorem dX9_findStarts_155 : decode cX9_findStarts 155 = .ok (.lsub, 1) := by decide +kernel
theorem dX9_findStarts_156 : decode cX9_findStarts 156 = .ok (.aload_n 0, 1) := by decide +kernel
theorem dX9_findStarts_157 : decode cX9_findStarts 157 = .ok (.getfield 293, 3) := by decide +kernel
theorem dX9_findStarts_160 : decode cX9_findStarts 160 = .ok (.lcmp, 1) := by decide +kernel
theorem dX9_findStarts_161 : decode cX9_findStarts 161 = .ok (.ifCond .le 12, 3) := by decide +kernel
theorem dX9_findStarts_164 : decode cX9_findStarts 164 = .ok (.lload 12, 2) := by decide +kernel
theorem dX9_findStarts_166 : decode cX9_findStarts 166 = .ok (.lneg, 1) := by decide +kernel
theorem dX9_findStarts_167 : decode cX9_findStarts 167 = .ok (.lload 4, 2) := by decide +kernel
theorem dX9_findStarts_169 : decode cX9_findStarts 169 = .ok (.lsub, 1) := by decide +kernel
theorem dX9_findStarts_170 : decode cX9_findStarts 170 = .ok (.goto 7, 3) := by decide +kernel
theorem dX9_findStarts_173 : decode cX9_findStarts 173 = .ok (.aload_n 0, 1) := by decide +kernel
theorem dX9_findStarts_174 : decode cX9_findStarts 174 = .ok (.getfield 293, 3) := by decide +kernel
theorem dX9_findStarts_177 : decode cX9_findStarts 177 = .ok (.putfield 293, 3) := by decide +kernel
theorem dX9_findStarts_180 : decode cX9_findStarts 180 = .ok (.aload_n 0, 1) := by decide +kernel
theorem dX9_findStarts_181 : decode cX9_findStarts 181 = .ok (.lload 12, 2) := by decide +kernel
theorem dX9_findStarts_183 : decode cX9_findStarts 183 = .ok (.lload 4, 2) := by decide +kernel
theorem dX9_findStarts_185 : decode cX9_findStarts 185 = .ok (.lsub, 1) := by decide +kernel
theorem dX9_findStarts_186 : decode cX9_findStarts 186 = .ok (.aload_n 0, 1) := by decide +kernel
theorem dX9_findStarts_187 : decode cX9_findStarts 187 = .ok (.getfield 297, 3) := by decide +kernel
theorem dX9_findStarts_190 : decode cX9_findStarts 190 = .ok (.lcmp, 1) := by decide +kernel
theorem dX9_findStarts_191 : decode cX9_findStarts 191 = .ok (.ifCond .ge 11, 3) := by decide +kernel
theorem dX9_findStarts_194 : decode cX9_findStarts 194 = .ok (.lload 12, 2) := by decide +kernel
theorem dX9_findStarts_196 : decode cX9_findStarts 196 = .ok (.lload 4, 2) := by decide +kernel
theorem dX9_findStarts_198 : decode cX9_findStarts 198 = .ok (.lsub, 1) := by decide +kernel
theorem dX9_findStarts_199 : decode cX9_findStarts 199 = .ok (.goto 7, 3) := by decide +kernel
theorem dX9_findStarts_202 : decode cX9_findStarts 202 = .ok (.aload_n 0, 1) := by decide +kernel
theorem dX9_findStarts_203 : decode cX9_findStarts 203 = .ok (.getfield 297, 3) := by decide +kernel
theorem dX9_findStarts_206 : decode cX9_findStarts 206 = .ok (.putfield 297, 3) := by decide +kernel
theorem dX9_findStarts_209 : decode cX9_findStarts 209 = .ok (.iinc 2 1, 3) := by decide +kernel
theorem dX9_findStarts_212 : decode cX9_findStarts 212 = .ok (.goto (-196), 3) := by decide +kernel
theorem dX9_findStarts_215 : decode cX9_findStarts 215 = .ok (.return_, 1) := by decide +kernel
theorem dX9_spot_0 : decode cX9_spot 0 = .ok (.aload_n 0, 1) := by decide +kernel
theorem dX9_spot_1 : decode cX9_spot 1 = .ok (.iload_n 1, 1) := by decide +kernel
theorem dX9_spot_2 : decode cX9_spot 2 = .ok (.invokevirtual 149, 3) := by decide +kernel
theorem dX9_spot_5 : decode cX9_spot 5 = .ok (.ifCond .eq 13, 3) := by decide +kernel
theorem dX9_spot_8 : decode cX9_spot 8 = .ok (.iload_n 2, 1) := by decide +kernel
theorem dX9_spot_9 : decode cX9_spot 9 = .ok (.i2l, 1) := by decide +kernel
theorem dX9_spot_10 : decode cX9_spot 10 = .ok (.lconst 0, 1) := by decide +kernel
theorem dX9_spot_11 : decode cX9_spot 11 = .ok (.lconst 1, 1) := by decide +kernel
theorem dX9_spot_12 : decode cX9_spot 12 = .ok (.invokestatic 138, 3) := by decide +kernel
theorem dX9_spot_15 : decode cX9_spot 15 = .ok (.ifCond .ne 7, 3) := by decide +kernel
theorem dX9_spot_18 : decode cX9_spot 18 = .ok (.ldc_w 304, 3) := by decide +kernel
theorem dX9_spot_21 : decode cX9_spot 21 = .ok (.ireturn, 1) := by decide +kernel
theorem dX9_spot_22 : decode cX9_spot 22 = .ok (.aload_n 0, 1) := by decide +kernel
theorem dX9_spot_23 : decode cX9_spot 23 = .ok (.iload_n 1, 1) := by decide +kernel
theorem dX9_spot_24 : decode cX9_spot 24 = .ok (.invokevirtual 253, 3) := by decide +kernel
theorem dX9_spot_27 : decode cX9_spot 27 = .ok (.aload_n 0, 1) := by decide +kernel
theorem dX9_spot_28 : decode cX9_spot 28 = .ok (.iload_n 1, 1) := by decide +kernel
theorem dX9_spot_29 : decode cX9_spot 29 = .ok (.invokevirtual 305, 3) := by decide +kernel
theorem dX9_spot_32 : decode cX9_spot 32 = .ok (.aload_n 0, 1) := by decide +kernel
theorem dX9_spot_33 : decode cX9_spot 33 = .ok (.getfield 293, 3) := by decide +kernel
theorem dX9_spot_36 : decode cX9_spot 36 = .ok (.aload_n 0, 1) := by decide +kernel
theorem dX9_spot_37 : decode cX9_spot 37 = .ok (.getfield 297, 3) := by decide +kernel
theorem dX9_spot_40 : decode cX9_spot 40 = .ok (.lcmp, 1) := by decide +kernel
theorem dX9_spot_41 : decode cX9_spot 41 = .ok (.ifCond .le 9, 3) := by decide +kernel
theorem dX9_spot_44 : decode cX9_spot 44 = .ok (.ldc_w 308, 3) := by decide +kernel
theorem dX9_spot_47 : decode cX9_spot 47 = .ok (.goto 19, 3) := by decide +kernel
theorem dX9_spot_50 : decode cX9_spot 50 = .ok (.iload_n 2, 1) := by decide +kernel
theorem dX9_spot_51 : decode cX9_spot 51 = .ok (.ifCond .ne 10, 3) := by decide +kernel
theorem dX9_spot_54 : decode cX9_spot 54 = .ok (.aload_n 0, 1) := by decide +kernel
theorem dX9_spot_55 : decode cX9_spot 55 = .ok (.getfield 293, 3) := by decide +kernel
theorem dX9_spot_58 : decode cX9_spot 58 = .ok (.goto 7, 3) := by decide +kernel
theorem dX9_spot_61 : decode cX9_spot 61 = .ok (.aload_n 0, 1) := by decide +kernel
theorem dX9_spot_62 : decode cX9_spot 62 = .ok (.getfield 297, 3) := by decide +kernel
theorem dX9_spot_65 : decode cX9_spot 65 = .ok (.l2i, 1) := by decide +kernel
theorem dX9_spot_66 : decode cX9_spot 66 = .ok (.ireturn, 1) := by decide +kernel
theorem dX9_jumpersIn_0 : decode cX9_jumpersIn 0 = .ok (.iconst 0, 1) := by decide +kernel
theorem dX9_jumpersIn_1 : decode cX9_jumpersIn 1 = .ok (.istore_n 2, 1) := by decide +kernel
theorem dX9_jumpersIn_2 : decode cX9_jumpersIn 2 = .ok (.iconst 0, 1) := by decide +kernel
theorem dX9_jumpersIn_3 : decode cX9_jumpersIn 3 = .ok (.istore_n 3, 1) := by decide +kernel
theorem dX9_jumpersIn_4 : decode cX9_jumpersIn 4 = .ok (.iload_n 3, 1) := by decide +kernel
theorem dX9_jumpersIn_5 : decode cX9_jumpersIn 5 = .ok (.aload_n 0, 1) := by decide +kernel
theorem dX9_jumpersIn_6 : decode cX9_jumpersIn 6 = .ok (.getfield 72, 3) := by decide +kernel
theorem dX9_jumpersIn_9 : decode cX9_jumpersIn 9 = .ok (.iload_n 1, 1) := by decide +kernel
theorem dX9_jumpersIn_10 : decode cX9_jumpersIn 10 = .ok (.iaload, 1) := by decide +kernel
theorem dX9_jumpersIn_11 : decode cX9_jumpersIn 11 = .ok (.if_icmp .ge 28, 3) := by decide +kernel
theorem dX9_jumpersIn_14 : decode cX9_jumpersIn 14 = .ok (.iload_n 2, 1) := by decide +kernel
theorem dX9_jumpersIn_15 : decode cX9_jumpersIn 15 = .ok (.aload_n 0, 1) := by decide +kernel
theorem dX9_jumpersIn_16 : decode cX9_jumpersIn 16 = .ok (.getfield 48, 3) := by decide +kernel
theorem dX9_jumpersIn_19 : decode cX9_jumpersIn 19 = .ok (.aload_n 0, 1) := by decide +kernel
theorem dX9_jumpersIn_20 : decode cX9_jumpersIn 20 = .ok (.getfield 75, 3) := by decide +kernel
theorem dX9_jumpersIn_23 : decode cX9_jumpersIn 23 = .ok (.bipush 6, 2) := by decide +kernel
theorem dX9_jumpersIn_25 : decode cX9_jumpersIn 25 = .ok (.iload_n 1, 1) := by decide +kernel
theorem dX9_jumpersIn_26 : decode cX9_jumpersIn 26 = .ok (.imul, 1) := by decide +kernel
theorem dX9_jumpersIn_27 : decode cX9_jumpersIn 27 = .ok (.iload_n 3, 1) := by decide +kernel
theorem dX9_jumpersIn_28 : decode cX9_jumpersIn 28 = .ok (.iadd, 1) := by decide +kernel
theorem dX9_jumpersIn_29 : decode cX9_jumpersIn 29 = .ok (.iaload, 1) := by decide +kernel
theorem dX9_jumpersIn_30 : decode cX9_jumpersIn 30 = .ok (.iaload, 1) := by decide +kernel
theorem dX9_jumpersIn_31 : decode cX9_jumpersIn 31 = .ok (.iadd, 1) := by decide +kernel
theorem dX9_jumpersIn_32 : decode cX9_jumpersIn 32 = .ok (.istore_n 2, 1) := by decide +kernel
theorem dX9_jumpersIn_33 : decode cX9_jumpersIn 33 = .ok (.iinc 3 1, 3) := by decide +kernel
theorem dX9_jumpersIn_36 : decode cX9_jumpersIn 36 = .ok (.goto (-32), 3) := by decide +kernel
theorem dX9_jumpersIn_39 : decode cX9_jumpersIn 39 = .ok (.iload_n 2, 1) := by decide +kernel
theorem dX9_jumpersIn_40 : decode cX9_jumpersIn 40 = .ok (.ireturn, 1) := by decide +kernel
theorem dX9_hasEmpty_0 : decode cX9_hasEmpty 0 = .ok (.aload_n 0, 1) := by decide +kernel
theorem dX9_hasEmpty_1 : decode cX9_hasEmpty 1 = .ok (.getfield 72, 3) := by decide +kernel
theorem dX9_hasEmpty_4 : decode cX9_hasEmpty 4 = .ok (.iload_n 1, 1) := by decide +kernel
theorem dX9_hasEmpty_5 : decode cX9_hasEmpty 5 = .ok (.iaload, 1) := by decide +kernel
theorem dX9_hasEmpty_6 : decode cX9_hasEmpty 6 = .ok (.ifCond .ne 7, 3) := by decide +kernel
theorem dX9_hasEmpty_9 : decode cX9_hasEmpty 9 = .ok (.iconst 1, 1) := by decide +kernel
theorem dX9_hasEmpty_10 : decode cX9_hasEmpty 10 = .ok (.goto 4, 3) := by decide +kernel
theorem dX9_hasEmpty_13 : decode cX9_hasEmpty 13 = .ok (.iconst 0, 1) := by decide +kernel
theorem dX9_hasEmpty_14 : decode cX9_hasEmpty 14 = .ok (.istore_n 2, 1) := by decide +kernel
theorem dX9_hasEmpty_15 : decode cX9_hasEmpty 15 = .ok (.iconst 0, 1) := by decide +kernel
theorem dX9_hasEmpty_16 : decode cX9_hasEmpty 16 = .ok (.istore_n 3, 1) := by decide +kernel
theorem dX9_hasEmpty_17 : decode cX9_hasEmpty 17 = .ok (.iload_n 3, 1) := by decide +kernel
theorem dX9_hasEmpty_18 : decode cX9_hasEmpty 18 = .ok (.aload_n 0, 1) := by decide +kernel
theorem dX9_hasEmpty_19 : decode cX9_hasEmpty 19 = .ok (.getfield 72, 3) := by decide +kernel
theorem dX9_hasEmpty_22 : decode cX9_hasEmpty 22 = .ok (.iload_n 1, 1) := by decide +kernel
theorem dX9_hasEmpty_23 : decode cX9_hasEmpty 23 = .ok (.iaload, 1) := by decide +kernel
theorem dX9_hasEmpty_24 : decode cX9_hasEmpty 24 = .ok (.if_icmp .ge 38, 3) := by decide +kernel
theorem dX9_hasEmpty_27 : decode cX9_hasEmpty 27 = .ok (.iload_n 2, 1) := by decide +kernel
theorem dX9_hasEmpty_28 : decode cX9_hasEmpty 28 = .ok (.ifCond .ne 22, 3) := by decide +kernel
theorem dX9_hasEmpty_31 : decode cX9_hasEmpty 31 = .ok (.aload_n 0, 1) := by decide +kernel
theorem dX9_hasEmpty_32 : decode cX9_hasEmpty 32 = .ok (.getfield 48, 3) := by decide +kernel
theorem dX9_hasEmpty_35 : decode cX9_hasEmpty 35 = .ok (.aload_n 0, 1) := by decide +kernel
theorem dX9_hasEmpty_36 : decode cX9_hasEmpty 36 = .ok (.getfield 75, 3) := by decide +kernel
theorem dX9_hasEmpty_39 : decode cX9_hasEmpty 39 = .ok (.bipush 6, 2) := by decide +kernel
theorem dX9_hasEmpty_41 : decode cX9_hasEmpty 41 = .ok (.iload_n 1, 1) := by decide +kernel
theorem dX9_hasEmpty_42 : decode cX9_hasEmpty 42 = .ok (.imul, 1) := by decide +kernel
theorem dX9_hasEmpty_43 : decode cX9_hasEmpty 43 = .ok (.iload_n 3, 1) := by decide +kernel
theorem dX9_hasEmpty_44 : decode cX9_hasEmpty 44 = .ok (.iadd, 1) := by decide +kernel
theorem dX9_hasEmpty_45 : decode cX9_hasEmpty 45 = .ok (.iaload, 1) := by decide +kernel
theorem dX9_hasEmpty_46 : decode cX9_hasEmpty 46 = .ok (.iaload, 1) := by decide +kernel
theorem dX9_hasEmpty_47 : decode cX9_hasEmpty 47 = .ok (.ifCond .ne 7, 3) := by decide +kernel
theorem dX9_hasEmpty_50 : decode cX9_hasEmpty 50 = .ok (.iconst 1, 1) := by decide +kernel
theorem dX9_hasEmpty_51 : decode cX9_hasEmpty 51 = .ok (.goto 4, 3) := by decide +kernel
theorem dX9_hasEmpty_54 : decode cX9_hasEmpty 54 = .ok (.iconst 0, 1) := by decide +kernel
theorem dX9_hasEmpty_55 : decode cX9_hasEmpty 55 = .ok (.istore_n 2, 1) := by decide +kernel
theorem dX9_hasEmpty_56 : decode cX9_hasEmpty 56 = .ok (.iinc 3 1, 3) := by decide +kernel
theorem dX9_hasEmpty_59 : decode cX9_hasEmpty 59 = .ok (.goto (-42), 3) := by decide +kernel
theorem dX9_hasEmpty_62 : decode cX9_hasEmpty 62 = .ok (.iload_n 2, 1) := by decide +kernel
theorem dX9_hasEmpty_63 : decode cX9_hasEmpty 63 = .ok (.ireturn, 1) := by decide +kernel
theorem dX9_weightOn_0 : decode cX9_weightOn 0 = .ok (.iconst 0, 1) := by decide +kernel
theorem dX9_weightOn_1 : decode cX9_weightOn 1 = .ok (.istore_n 2, 1) := by decide +kernel
theorem dX9_weightOn_2 : decode cX9_weightOn 2 = .ok (.iconst 0, 1) := by decide +kernel
theorem dX9_weightOn_3 : decode cX9_weightOn 3 = .ok (.istore_n 3, 1) := by decide +kernel
theorem dX9_weightOn_4 : decode cX9_weightOn 4 = .ok (.iload_n 3, 1) := by decide +kernel
theorem dX9_weightOn_5 : decode cX9_weightOn 5 = .ok (.aload_n 0, 1) := by decide +kernel
theorem dX9_weightOn_6 : decode cX9_weightOn 6 = .ok (.getfield 72, 3) := by decide +kernel
theorem dX9_weightOn_9 : decode cX9_weightOn 9 = .ok (.iload_n 1, 1) := by decide +kernel
theorem dX9_weightOn_10 : decode cX9_weightOn 10 = .ok (.iaload, 1) := by decide +kernel
theorem dX9_weightOn_11 : decode cX9_weightOn 11 = .ok (.if_icmp .ge 27, 3) := by decide +kernel
theorem dX9_weightOn_14 : decode cX9_weightOn 14 = .ok (.iload_n 2, 1) := by decide +kernel
theorem dX9_weightOn_15 : decode cX9_weightOn 15 = .ok (.aload_n 0, 1) := by decide +kernel
theorem dX9_weightOn_16 : decode cX9_weightOn 16 = .ok (.aload_n 0, 1) := by decide +kernel
theorem dX9_weightOn_17 : decode cX9_weightOn 17 = .ok (.getfield 75, 3) := by decide +kernel
theorem dX9_weightOn_20 : decode cX9_weightOn 20 = .ok (.bipush 6, 2) := by decide +kernel
theorem dX9_weightOn_22 : decode cX9_weightOn 22 = .ok (.iload_n 1, 1) := by decide +kernel
theorem dX9_weightOn_23 : decode cX9_weightOn 23 = .ok (.imul, 1) := by decide +kernel
theorem dX9_weightOn_24 : decode cX9_weightOn 24 = .ok (.iload_n 3, 1) := by decide +kernel
theorem dX9_weightOn_25 : decode cX9_weightOn 25 = .ok (.iadd, 1) := by decide +kernel
theorem dX9_weightOn_26 : decode cX9_weightOn 26 = .ok (.iaload, 1) := by decide +kernel
theorem dX9_weightOn_27 : decode cX9_weightOn 27 = .ok (.invokevirtual 208, 3) := by decide +kernel
theorem dX9_weightOn_30 : decode cX9_weightOn 30 = .ok (.iadd, 1) := by decide +kernel
theorem dX9_weightOn_31 : decode cX9_weightOn 31 = .ok (.istore_n 2, 1) := by decide +kernel
theorem dX9_weightOn_32 : decode cX9_weightOn 32 = .ok (.iinc 3 1, 3) := by decide +kernel
theorem dX9_weightOn_35 : decode cX9_weightOn 35 = .ok (.goto (-31), 3) := by decide +kernel
theorem dX9_weightOn_38 : decode cX9_weightOn 38 = .ok (.iload_n 2, 1) := by decide +kernel
theorem dX9_weightOn_39 : decode cX9_weightOn 39 = .ok (.ireturn, 1) := by decide +kernel
theorem dX9_hasOldGear_0 : decode cX9_hasOldGear 0 = .ok (.iconst 0, 1) := by decide +kernel
theorem dX9_hasOldGear_1 : decode cX9_hasOldGear 1 = .ok (.istore_n 3, 1) := by decide +kernel
theorem dX9_hasOldGear_2 : decode cX9_hasOldGear 2 = .ok (.iconst 0, 1) := by decide +kernel
theorem dX9_hasOldGear_3 : decode cX9_hasOldGear 3 = .ok (.istore 4, 2) := by decide +kernel
theorem dX9_hasOldGear_5 : decode cX9_hasOldGear 5 = .ok (.iload 4, 2) := by decide +kernel
theorem dX9_hasOldGear_7 : decode cX9_hasOldGear 7 = .ok (.aload_n 0, 1) := by decide +kernel
theorem dX9_hasOldGear_8 : decode cX9_hasOldGear 8 = .ok (.getfield 72, 3) := by decide +kernel
theorem dX9_hasOldGear_11 : decode cX9_hasOldGear 11 = .ok (.iload_n 1, 1) := by decide +kernel
theorem dX9_hasOldGear_12 : decode cX9_hasOldGear 12 = .ok (.iaload, 1) := by decide +kernel
theorem dX9_hasOldGear_13 : decode cX9_hasOldGear 13 = .ok (.if_icmp .ge 75, 3) := by decide +kernel
theorem dX9_hasOldGear_16 : decode cX9_hasOldGear 16 = .ok (.aload_n 0, 1) := by decide +kernel
theorem dX9_hasOldGear_17 : decode cX9_hasOldGear 17 = .ok (.getfield 75, 3) := by decide +kernel
theorem dX9_hasOldGear_20 : decode cX9_hasOldGear 20 = .ok (.bipush 6, 2) := by decide +kernel
theorem dX9_hasOldGear_22 : decode cX9_hasOldGear 22 = .ok (.iload_n 1, 1) := by decide +kernel
theorem dX9_hasOldGear_23 : decode cX9_hasOldGear 23 = .ok (.imul, 1) := by decide +kernel
theorem dX9_hasOldGear_24 : decode cX9_hasOldGear 24 = .ok (.iload 4, 2) := by decide +kernel
theorem dX9_hasOldGear_26 : decode cX9_hasOldGear 26 = .ok (.iadd, 1) := by decide +kernel
theorem dX9_hasOldGear_27 : decode cX9_hasOldGear 27 = .ok (.iaload, 1) := by decide +kernel
theorem dX9_hasOldGear_28 : decode cX9_hasOldGear 28 = .ok (.istore 5, 2) := by decide +kernel
theorem dX9_hasOldGear_30 : decode cX9_hasOldGear 30 = .ok (.iconst 0, 1) := by decide +kernel
theorem dX9_hasOldGear_31 : decode cX9_hasOldGear 31 = .ok (.istore 6, 2) := by decide +kernel
theorem dX9_hasOldGear_33 : decode cX9_hasOldGear 33 = .ok (.iload 6, 2) := by decide +kernel
theorem dX9_hasOldGear_35 : decode cX9_hasOldGear 35 = .ok (.aload_n 0, 1) := by decide +kernel
theorem dX9_hasOldGear_36 : decode cX9_hasOldGear 36 = .ok (.getfield 48, 3) := by decide +kernel
theorem dX9_hasOldGear_39 : decode cX9_hasOldGear 39 = .ok (.iload 5, 2) := by decide +kernel
theorem dX9_hasOldGear_41 : decode cX9_hasOldGear 41 = .ok (.iaload, 1) := by decide +kernel
theorem dX9_hasOldGear_42 : decode cX9_hasOldGear 42 = .ok (.if_icmp .ge 40, 3) := by decide +kernel
theorem dX9_hasOldGear_45 : decode cX9_hasOldGear 45 = .ok (.iload_n 3, 1) := by decide +kernel
theorem dX9_hasOldGear_46 : decode cX9_hasOldGear 46 = .ok (.ifCond .ne 24, 3) := by decide +kernel
theorem dX9_hasOldGear_49 : decode cX9_hasOldGear 49 = .ok (.aload_n 0, 1) := by decide +kernel
theorem dX9_hasOldGear_50 : decode cX9_hasOldGear 50 = .ok (.getfield 33, 3) := by decide +kernel
theorem dX9_hasOldGear_53 : decode cX9_hasOldGear 53 = .ok (.aload_n 0, 1) := by decide +kernel
theorem dX9_hasOldGear_54 : decode cX9_hasOldGear 54 = .ok (.getfield 51, 3) := by decide +kernel
theorem dX9_hasOldGear_57 : decode cX9_hasOldGear 57 = .ok (.iconst 4, 1) := by decide +kernel
theorem dX9_hasOldGear_58 : decode cX9_hasOldGear 58 = .ok (.iload 5, 2) := by decide +kernel
theorem dX9_hasOldGear_60 : decode cX9_hasOldGear 60 = .ok (.imul, 1) := by decide +kernel
theorem dX9_hasOldGear_61 : decode cX9_hasOldGear 61 = .ok (.iload 6, 2) := by decide +kernel
theorem dX9_hasOldGear_63 : decode cX9_hasOldGear 63 = .ok (.iadd, 1) := by decide +kernel
theorem dX9_hasOldGear_64 : decode cX9_hasOldGear 64 = .ok (.iaload, 1) := by decide +kernel
theorem dX9_hasOldGear_65 : decode cX9_hasOldGear 65 = .ok (.iaload, 1) := by decide +kernel
theorem dX9_hasOldGear_66 : decode cX9_hasOldGear 66 = .ok (.iload_n 2, 1) := by decide +kernel
theorem dX9_hasOldGear_67 : decode cX9_hasOldGear 67 = .ok (.if_icmp .ge 7, 3) := by decide +kernel
theorem dX9_hasOldGear_70 : decode cX9_hasOldGear 70 = .ok (.iconst 1, 1) := by decide +kernel
theorem dX9_hasOldGear_71 : decode cX9_hasOldGear 71 = .ok (.goto 4, 3) := by decide +kernel
theorem dX9_hasOldGear_74 : decode cX9_hasOldGear 74 = .ok (.iconst 0, 1) := by decide +kernel
theorem dX9_hasOldGear_75 : decode cX9_hasOldGear 75 = .ok (.istore_n 3, 1) := by decide +kernel
theorem dX9_hasOldGear_76 : decode cX9_hasOldGear 76 = .ok (.iinc 6 1, 3) := by decide +kernel
theorem dX9_hasOldGear_79 : decode cX9_hasOldGear 79 = .ok (.goto (-46), 3) := by decide +kernel
theorem dX9_hasOldGear_82 : decode cX9_hasOldGear 82 = .ok (.iinc 4 1, 3) := by decide +kernel
theorem dX9_hasOldGear_85 : decode cX9_hasOldGear 85 = .ok (.goto (-80), 3) := by decide +kernel
theorem dX9_hasOldGear_88 : decode cX9_hasOldGear 88 = .ok (.iload_n 3, 1) := by decide +kernel
theorem dX9_hasOldGear_89 : decode cX9_hasOldGear 89 = .ok (.ireturn, 1) := by decide +kernel
theorem dX9_hasTwice_0 : decode cX9_hasTwice 0 = .ok (.iconst 0, 1) := by decide +kernel
theorem dX9_hasTwice_1 : decode cX9_hasTwice 1 = .ok (.istore_n 2, 1) := by decide +kernel
theorem dX9_hasTwice_2 : decode cX9_hasTwice 2 = .ok (.iconst 0, 1) := by decide +kernel
theorem dX9_hasTwice_3 : decode cX9_hasTwice 3 = .ok (.istore_n 3, 1) := by decide +kernel
theorem dX9_hasTwice_4 : decode cX9_hasTwice 4 = .ok (.iload_n 3, 1) := by decide +kernel
theorem dX9_hasTwice_5 : decode cX9_hasTwice 5 = .ok (.bipush 32, 2) := by decide +kernel
theorem dX9_hasTwice_7 : decode cX9_hasTwice 7 = .ok (.if_icmp .ge 78, 3) := by decide +kernel
theorem dX9_hasTwice_10 : decode cX9_hasTwice 10 = .ok (.iconst 0, 1) := by decide +kernel
theorem dX9_hasTwice_11 : decode cX9_hasTwice 11 = .ok (.istore 4, 2) := by decide +kernel
theorem dX9_hasTwice_13 : decode cX9_hasTwice 13 = .ok (.iconst 0, 1) := by decide +kernel
theorem dX9_hasTwice_14 : decode cX9_hasTwice 14 = .ok (.istore 5, 2) := by decide +kernel
theorem dX9_hasTwice_16 : decode cX9_hasTwice 16 = .ok (.iload 5, 2) := by decide +kernel
theorem dX9_hasTwice_18 : decode cX9_hasTwice 18 = .ok (.aload_n 0, 1) := by decide +kernel
theorem dX9_hasTwice_19 : decode cX9_hasTwice 19 = .ok (.getfield 72, 3) := by decide +kernel
theorem dX9_hasTwice_22 : decode cX9_hasTwice 22 = .ok (.iload_n 1, 1) := by decide +kernel
theorem dX9_hasTwice_23 : decode cX9_hasTwice 23 = .ok (.iaload, 1) := by decide +kernel
theorem dX9_hasTwice_24 : decode cX9_hasTwice 24 = .ok (.if_icmp .ge 39, 3) := by decide +kernel
theorem dX9_hasTwice_27 : decode cX9_hasTwice 27 = .ok (.iload 4, 2) := by decide +kernel
theorem dX9_hasTwice_29 : decode cX9_hasTwice 29 = .ok (.aload_n 0, 1) := by decide +kernel
theorem dX9_hasTwice_30 : decode cX9_hasTwice 30 = .ok (.aload_n 0, 1) := by decide +kernel
theorem dX9_hasTwice_31 : decode cX9_hasTwice 31 = .ok (.getfield 75, 3) := by decide +kernel
theorem dX9_hasTwice_34 : decode cX9_hasTwice 34 = .ok (.bipush 6, 2) := by decide +kernel
theorem dX9_hasTwice_36 : decode cX9_hasTwice 36 = .ok (.iload_n 1, 1) := by decide +kernel
theorem dX9_hasTwice_37 : decode cX9_hasTwice 37 = .ok (.imul, 1) := by decide +kernel
theorem dX9_hasTwice_38 : decode cX9_hasTwice 38 = .ok (.iload 5, 2) := by decide +kernel
theorem dX9_hasTwice_40 : decode cX9_hasTwice 40 = .ok (.iadd, 1) := by decide +kernel
theorem dX9_hasTwice_41 : decode cX9_hasTwice 41 = .ok (.iaload, 1) := by decide +kernel
theorem dX9_hasTwice_42 : decode cX9_hasTwice 42 = .ok (.iload_n 3, 1) := by decide +kernel
theorem dX9_hasTwice_43 : decode cX9_hasTwice 43 = .ok (.invokevirtual 204, 3) := by decide +kernel
theorem dX9_hasTwice_46 : decode cX9_hasTwice 46 = .ok (.ifCond .eq 7, 3) := by decide +kernel
theorem dX9_hasTwice_49 : decode cX9_hasTwice 49 = .ok (.iconst 1, 1) := by decide +kernel
theorem dX9_hasTwice_50 : decode cX9_hasTwice 50 = .ok (.goto 4, 3) := by decide +kernel
theorem dX9_hasTwice_53 : decode cX9_hasTwice 53 = .ok (.iconst 0, 1) := by decide +kernel
theorem dX9_hasTwice_54 : decode cX9_hasTwice 54 = .ok (.iadd, 1) := by decide +kernel
theorem dX9_hasTwice_55 : decode cX9_hasTwice 55 = .ok (.istore 4, 2) := by decide +kernel
theorem dX9_hasTwice_57 : decode cX9_hasTwice 57 = .ok (.iinc 5 1, 3) := by decide +kernel
theorem dX9_hasTwice_60 : decode cX9_hasTwice 60 = .ok (.goto (-44), 3) := by decide +kernel
theorem dX9_hasTwice_63 : decode cX9_hasTwice 63 = .ok (.iload_n 2, 1) := by decide +kernel
theorem dX9_hasTwice_64 : decode cX9_hasTwice 64 = .ok (.ifCond .ne 9, 3) := by decide +kernel
theorem dX9_hasTwice_67 : decode cX9_hasTwice 67 = .ok (.iload 4, 2) := by decide +kernel
theorem dX9_hasTwice_69 : decode cX9_hasTwice 69 = .ok (.iconst 1, 1) := by decide +kernel
theorem dX9_hasTwice_70 : decode cX9_hasTwice 70 = .ok (.if_icmp .le 7, 3) := by decide +kernel
theorem dX9_hasTwice_73 : decode cX9_hasTwice 73 = .ok (.iconst 1, 1) := by decide +kernel
theorem dX9_hasTwice_74 : decode cX9_hasTwice 74 = .ok (.goto 4, 3) := by decide +kernel
theorem dX9_hasTwice_77 : decode cX9_hasTwice 77 = .ok (.iconst 0, 1) := by decide +kernel
theorem dX9_hasTwice_78 : decode cX9_hasTwice 78 = .ok (.istore_n 2, 1) := by decide +kernel
theorem dX9_hasTwice_79 : decode cX9_hasTwice 79 = .ok (.iinc 3 1, 3) := by decide +kernel
theorem dX9_hasTwice_82 : decode cX9_hasTwice 82 = .ok (.goto (-78), 3) := by decide +kernel
theorem dX9_hasTwice_85 : decode cX9_hasTwice 85 = .ok (.iload_n 2, 1) := by decide +kernel
theorem dX9_hasTwice_86 : decode cX9_hasTwice 86 = .ok (.ireturn, 1) := by decide +kernel
theorem dX9_sortsIn_0 : decode cX9_sortsIn 0 = .ok (.iconst 0, 1) := by decide +kernel
theorem dX9_sortsIn_1 : decode cX9_sortsIn 1 = .ok (.istore_n 3, 1) := by decide +kernel
theorem dX9_sortsIn_2 : decode cX9_sortsIn 2 = .ok (.iconst 0, 1) := by decide +kernel
theorem dX9_sortsIn_3 : decode cX9_sortsIn 3 = .ok (.istore 4, 2) := by decide +kernel
theorem dX9_sortsIn_5 : decode cX9_sortsIn 5 = .ok (.iload 4, 2) := by decide +kernel
theorem dX9_sortsIn_7 : decode cX9_sortsIn 7 = .ok (.aload_n 0, 1) := by decide +kernel
theorem dX9_sortsIn_8 : decode cX9_sortsIn 8 = .ok (.getfield 48, 3) := by decide +kernel
theorem dX9_sortsIn_11 : decode cX9_sortsIn 11 = .ok (.iload_n 1, 1) := by decide +kernel
theorem dX9_sortsIn_12 : decode cX9_sortsIn 12 = .ok (.iaload, 1) := by decide +kernel
theorem dX9_sortsIn_13 : decode cX9_sortsIn 13 = .ok (.if_icmp .ge 37, 3) := by decide +kernel
theorem dX9_sortsIn_16 : decode cX9_sortsIn 16 = .ok (.iload_n 3, 1) := by decide +kernel
theorem dX9_sortsIn_17 : decode cX9_sortsIn 17 = .ok (.aload_n 0, 1) := by decide +kernel
theorem dX9_sortsIn_18 : decode cX9_sortsIn 18 = .ok (.getfield 27, 3) := by decide +kernel
theorem dX9_sortsIn_21 : decode cX9_sortsIn 21 = .ok (.aload_n 0, 1) := by decide +kernel
theorem dX9_sortsIn_22 : decode cX9_sortsIn 22 = .ok (.getfield 51, 3) := by decide +kernel
theorem dX9_sortsIn_25 : decode cX9_sortsIn 25 = .ok (.iconst 4, 1) := by decide +kernel
theorem dX9_sortsIn_26 : decode cX9_sortsIn 26 = .ok (.iload_n 1, 1) := by decide +kernel
theorem dX9_sortsIn_27 : decode cX9_sortsIn 27 = .ok (.imul, 1) := by decide +kernel
theorem dX9_sortsIn_28 : decode cX9_sortsIn 28 = .ok (.iload 4, 2) := by decide +kernel
theorem dX9_sortsIn_30 : decode cX9_sortsIn 30 = .ok (.iadd, 1) := by decide +kernel
theorem dX9_sortsIn_31 : decode cX9_sortsIn 31 = .ok (.iaload, 1) := by decide +kernel
theorem dX9_sortsIn_32 : decode cX9_sortsIn 32 = .ok (.iaload, 1) := by decide +kernel
theorem dX9_sortsIn_33 : decode cX9_sortsIn 33 = .ok (.iload_n 2, 1) := by decide +kernel
theorem dX9_sortsIn_34 : decode cX9_sortsIn 34 = .ok (.if_icmp .ne 7, 3) := by decide +kernel
theorem dX9_sortsIn_37 : decode cX9_sortsIn 37 = .ok (.iconst 1, 1) := by decide +kernel
theorem dX9_sortsIn_38 : decode cX9_sortsIn 38 = .ok (.goto 4, 3) := by decide +kernel
theorem dX9_sortsIn_41 : decode cX9_sortsIn 41 = .ok (.iconst 0, 1) := by decide +kernel
theorem dX9_sortsIn_42 : decode cX9_sortsIn 42 = .ok (.iadd, 1) := by decide +kernel
theorem dX9_sortsIn_43 : decode cX9_sortsIn 43 = .ok (.istore_n 3, 1) := by decide +kernel
theorem dX9_sortsIn_44 : decode cX9_sortsIn 44 = .ok (.iinc 4 1, 3) := by decide +kernel
theorem dX9_sortsIn_47 : decode cX9_sortsIn 47 = .ok (.goto (-42), 3) := by decide +kernel
theorem dX9_sortsIn_50 : decode cX9_sortsIn 50 = .ok (.iload_n 3, 1) := by decide +kernel
theorem dX9_sortsIn_51 : decode cX9_sortsIn 51 = .ok (.ireturn, 1) := by decide +kernel
theorem dX9_hasAlone_0 : decode cX9_hasAlone 0 = .ok (.iconst 0, 1) := by decide +kernel
theorem dX9_hasAlone_1 : decode cX9_hasAlone 1 = .ok (.istore_n 2, 1) := by decide +kernel
theorem dX9_hasAlone_2 : decode cX9_hasAlone 2 = .ok (.iconst 0, 1) := by decide +kernel
theorem dX9_hasAlone_3 : decode cX9_hasAlone 3 = .ok (.istore_n 3, 1) := by decide +kernel
theorem dX9_hasAlone_4 : decode cX9_hasAlone 4 = .ok (.iload_n 3, 1) := by decide +kernel
theorem dX9_hasAlone_5 : decode cX9_hasAlone 5 = .ok (.aload_n 0, 1) := by decide +kernel
theorem dX9_hasAlone_6 : decode cX9_hasAlone 6 = .ok (.getfield 72, 3) := by decide +kernel
theorem dX9_hasAlone_9 : decode cX9_hasAlone 9 = .ok (.iload_n 1, 1) := by decide +kernel
theorem dX9_hasAlone_10 : decode cX9_hasAlone 10 = .ok (.iaload, 1) := by decide +kernel
theorem dX9_hasAlone_11 : decode cX9_hasAlone 11 = .ok (.if_icmp .ge 69, 3) := by decide +kernel
theorem dX9_hasAlone_14 : decode cX9_hasAlone 14 = .ok (.aload_n 0, 1) := by decide +kernel
theorem dX9_hasAlone_15 : decode cX9_hasAlone 15 = .ok (.getfield 75, 3) := by decide +kernel
theorem dX9_hasAlone_18 : decode cX9_hasAlone 18 = .ok (.bipush 6, 2) := by decide +kernel
theorem dX9_hasAlone_20 : decode cX9_hasAlone 20 = .ok (.iload_n 1, 1) := by decide +kernel
theorem dX9_hasAlone_21 : decode cX9_hasAlone 21 = .ok (.imul, 1) := by decide +kernel
theorem dX9_hasAlone_22 : decode cX9_hasAlone 22 = .ok (.iload_n 3, 1) := by decide +kernel
theorem dX9_hasAlone_23 : decode cX9_hasAlone 23 = .ok (.iadd, 1) := by decide +kernel
theorem dX9_hasAlone_24 : decode cX9_hasAlone 24 = .ok (.iaload, 1) := by decide +kernel
theorem dX9_hasAlone_25 : decode cX9_hasAlone 25 = .ok (.istore 4, 2) := by decide +kernel
theorem dX9_hasAlone_27 : decode cX9_hasAlone 27 = .ok (.aload_n 0, 1) := by decide +kernel
theorem dX9_hasAlone_28 : decode cX9_hasAlone 28 = .ok (.iload 4, 2) := by decide +kernel
theorem dX9_hasAlone_30 : decode cX9_hasAlone 30 = .ok (.iconst 1, 1) := by decide +kernel
theorem dX9_hasAlone_31 : decode cX9_hasAlone 31 = .ok (.invokevirtual 309, 3) := by decide +kernel
theorem dX9_hasAlone_34 : decode cX9_hasAlone 34 = .ok (.istore 5, 2) := by decide +kernel
theorem dX9_hasAlone_36 : decode cX9_hasAlone 36 = .ok (.iload_n 2, 1) := by decide +kernel
theorem dX9_hasAlone_37 : decode cX9_hasAlone 37 = .ok (.ifCond .ne 31, 3) := by decide +kernel
theorem dX9_hasAlone_40 : decode cX9_hasAlone 40 = .ok (.iload 5, 2) := by decide +kernel
theorem dX9_hasAlone_42 : decode cX9_hasAlone 42 = .ok (.aload_n 0, 1) := by decide +kernel
theorem dX9_hasAlone_43 : decode cX9_hasAlone 43 = .ok (.iload 4, 2) := by decide +kernel
theorem dX9_hasAlone_45 : decode cX9_hasAlone 45 = .ok (.iconst 2, 1) := by decide +kernel
theorem dX9_hasAlone_46 : decode cX9_hasAlone 46 = .ok (.invokevirtual 309, 3) := by decide +kernel
theorem dX9_hasAlone_49 : decode cX9_hasAlone 49 = .ok (.if_icmp .gt 19, 3) := by decide +kernel
theorem dX9_hasAlone_52 : decode cX9_hasAlone 52 = .ok (.iload 5, 2) := by decide +kernel
theorem dX9_hasAlone_54 : decode cX9_hasAlone 54 = .ok (.ifCond .le 18, 3) := by decide +kernel
theorem dX9_hasAlone_57 : decode cX9_hasAlone 57 = .ok (.aload_n 0, 1) := by decide +kernel
theorem dX9_hasAlone_58 : decode cX9_hasAlone 58 = .ok (.getfield 36, 3) := by decide +kernel
theorem dX9_hasAlone_61 : decode cX9_hasAlone 61 = .ok (.iload 4, 2) := by decide +kernel
theorem dX9_hasAlone_63 : decode cX9_hasAlone 63 = .ok (.iaload, 1) := by decide +kernel
theorem dX9_hasAlone_64 : decode cX9_hasAlone 64 = .ok (.iconst 3, 1) := by decide +kernel
theorem dX9_hasAlone_65 : decode cX9_hasAlone 65 = .ok (.if_icmp .eq 7, 3) := by decide +kernel
theorem dX9_hasAlone_68 : decode cX9_hasAlone 68 = .ok (.iconst 1, 1) := by decide +kernel
theorem dX9_hasAlone_69 : decode cX9_hasAlone 69 = .ok (.goto 4, 3) := by decide +kernel
theorem dX9_hasAlone_72 : decode cX9_hasAlone 72 = .ok (.iconst 0, 1) := by decide +kernel
theorem dX9_hasAlone_73 : decode cX9_hasAlone 73 = .ok (.istore_n 2, 1) := by decide +kernel
theorem dX9_hasAlone_74 : decode cX9_hasAlone 74 = .ok (.iinc 3 1, 3) := by decide +kernel
theorem dX9_hasAlone_77 : decode cX9_hasAlone 77 = .ok (.goto (-73), 3) := by decide +kernel
theorem dX9_hasAlone_80 : decode cX9_hasAlone 80 = .ok (.iload_n 2, 1) := by decide +kernel
theorem dX9_hasAlone_81 : decode cX9_hasAlone 81 = .ok (.ireturn, 1) := by decide +kernel
theorem dX9_blowsTooMuch_0 : decode cX9_blowsTooMuch 0 = .ok (.aload_n 0, 1) := by decide +kernel
theorem dX9_blowsTooMuch_1 : decode cX9_blowsTooMuch 1 = .ok (.getfield 21, 3) := by decide +kernel
theorem dX9_blowsTooMuch_4 : decode cX9_blowsTooMuch 4 = .ok (.iconst 0, 1) := by decide +kernel
theorem dX9_blowsTooMuch_5 : decode cX9_blowsTooMuch 5 = .ok (.iaload, 1) := by decide +kernel
theorem dX9_blowsTooMuch_6 : decode cX9_blowsTooMuch 6 = .ok (.aload_n 0, 1) := by decide +kernel
theorem dX9_blowsTooMuch_7 : decode cX9_blowsTooMuch 7 = .ok (.getfield 21, 3) := by decide +kernel
theorem dX9_blowsTooMuch_10 : decode cX9_blowsTooMuch 10 = .ok (.iconst 0, 1) := by decide +kernel
theorem dX9_blowsTooMuch_11 : decode cX9_blowsTooMuch 11 = .ok (.iaload, 1) := by decide +kernel
theorem dX9_blowsTooMuch_12 : decode cX9_blowsTooMuch 12 = .ok (.imul, 1) := by decide +kernel
theorem dX9_blowsTooMuch_13 : decode cX9_blowsTooMuch 13 = .ok (.aload_n 0, 1) := by decide +kernel
theorem dX9_blowsTooMuch_14 : decode cX9_blowsTooMuch 14 = .ok (.getfield 24, 3) := by decide +kernel
theorem dX9_blowsTooMuch_17 : decode cX9_blowsTooMuch 17 = .ok (.iconst 0, 1) := by decide +kernel
theorem dX9_blowsTooMuch_18 : decode cX9_blowsTooMuch 18 = .ok (.iaload, 1) := by decide +kernel
theorem dX9_blowsTooMuch_19 : decode cX9_blowsTooMuch 19 = .ok (.aload_n 0, 1) := by decide +kernel
theorem dX9_blowsTooMuch_20 : decode cX9_blowsTooMuch 20 = .ok (.getfield 24, 3) := by decide +kernel
theorem dX9_blowsTooMuch_23 : decode cX9_blowsTooMuch 23 = .ok (.iconst 0, 1) := by decide +kernel
theorem dX9_blowsTooMuch_24 : decode cX9_blowsTooMuch 24 = .ok (.iaload, 1) := by decide +kernel
theorem dX9_blowsTooMuch_25 : decode cX9_blowsTooMuch 25 = .ok (.imul, 1) := by decide +kernel
theorem dX9_blowsTooMuch_26 : decode cX9_blowsTooMuch 26 = .ok (.iadd, 1) := by decide +kernel
theorem dX9_blowsTooMuch_27 : decode cX9_blowsTooMuch 27 = .ok (.istore_n 2, 1) := by decide +kernel
theorem dX9_blowsTooMuch_28 : decode cX9_blowsTooMuch 28 = .ok (.iconst 0, 1) := by decide +kernel
theorem dX9_blowsTooMuch_29 : decode cX9_blowsTooMuch 29 = .ok (.istore_n 3, 1) := by decide +kernel
theorem dX9_blowsTooMuch_30 : decode cX9_blowsTooMuch 30 = .ok (.iconst 0, 1) := by decide +kernel
theorem dX9_blowsTooMuch_31 : decode cX9_blowsTooMuch 31 = .ok (.istore 4, 2) := by decide +kernel
theorem dX9_blowsTooMuch_33 : decode cX9_blowsTooMuch 33 = .ok (.iload 4, 2) := by decide +kernel
theorem dX9_blowsTooMuch_35 : decode cX9_blowsTooMuch 35 = .ok (.aload_n 0, 1) := by decide +kernel
theorem dX9_blowsTooMuch_36 : decode cX9_blowsTooMuch 36 = .ok (.getfield 72, 3) := by decide +kernel
theorem dX9_blowsTooMuch_39 : decode cX9_blowsTooMuch 39 = .ok (.iload_n 1, 1) := by decide +kernel
theorem dX9_blowsTooMuch_40 : decode cX9_blowsTooMuch 40 = .ok (.iaload, 1) := by decide +kernel
theorem dX9_blowsTooMuch_41 : decode cX9_blowsTooMuch 41 = .ok (.if_icmp .ge 47, 3) := by decide +kernel
theorem dX9_blowsTooMuch_44 : decode cX9_blowsTooMuch 44 = .ok (.iload_n 3, 1) := by decide +kernel
theorem dX9_blowsTooMuch_45 : decode cX9_blowsTooMuch 45 = .ok (.ifCond .ne 31, 3) := by decide +kernel
theorem dX9_blowsTooMuch_48 : decode cX9_blowsTooMuch 48 = .ok (.aload_n 0, 1) := by decide +kernel
theorem dX9_blowsTooMuch_49 : decode cX9_blowsTooMuch 49 = .ok (.getfield 66, 3) := by decide +kernel
theorem dX9_blowsTooMuch_52 : decode cX9_blowsTooMuch 52 = .ok (.iconst 2, 1) := by decide +kernel
theorem dX9_blowsTooMuch_53 : decode cX9_blowsTooMuch 53 = .ok (.aload_n 0, 1) := by decide +kernel
theorem dX9_blowsTooMuch_54 : decode cX9_blowsTooMuch 54 = .ok (.getfield 36, 3) := by decide +kernel
theorem dX9_blowsTooMuch_57 : decode cX9_blowsTooMuch 57 = .ok (.aload_n 0, 1) := by decide +kernel
theorem dX9_blowsTooMuch_58 : decode cX9_blowsTooMuch 58 = .ok (.getfield 75, 3) := by decide +kernel
theorem dX9_blowsTooMuch_61 : decode cX9_blowsTooMuch 61 = .ok (.bipush 6, 2) := by decide +kernel
theorem dX9_blowsTooMuch_63 : decode cX9_blowsTooMuch 63 = .ok (.iload_n 1, 1) := by decide +kernel
theorem dX9_blowsTooMuch_64 : decode cX9_blowsTooMuch 64 = .ok (.imul, 1) := by decide +kernel
theorem dX9_blowsTooMuch_65 : decode cX9_blowsTooMuch 65 = .ok (.iload 4, 2) := by decide +kernel
theorem dX9_blowsTooMuch_67 : decode cX9_blowsTooMuch 67 = .ok (.iadd, 1) := by decide +kernel
theorem dX9_blowsTooMuch_68 : decode cX9_blowsTooMuch 68 = .ok (.iaload, 1) := by decide +kernel
theorem dX9_blowsTooMuch_69 : decode cX9_blowsTooMuch 69 = .ok (.iaload, 1) := by decide +kernel
theorem dX9_blowsTooMuch_70 : decode cX9_blowsTooMuch 70 = .ok (.iadd, 1) := by decide +kernel
theorem dX9_blowsTooMuch_71 : decode cX9_blowsTooMuch 71 = .ok (.iaload, 1) := by decide +kernel
theorem dX9_blowsTooMuch_72 : decode cX9_blowsTooMuch 72 = .ok (.iload_n 2, 1) := by decide +kernel
theorem dX9_blowsTooMuch_73 : decode cX9_blowsTooMuch 73 = .ok (.if_icmp .ge 7, 3) := by decide +kernel
theorem dX9_blowsTooMuch_76 : decode cX9_blowsTooMuch 76 = .ok (.iconst 1, 1) := by decide +kernel
theorem dX9_blowsTooMuch_77 : decode cX9_blowsTooMuch 77 = .ok (.goto 4, 3) := by decide +kernel
theorem dX9_blowsTooMuch_80 : decode cX9_blowsTooMuch 80 = .ok (.iconst 0, 1) := by decide +kernel
theorem dX9_blowsTooMuch_81 : decode cX9_blowsTooMuch 81 = .ok (.istore_n 3, 1) := by decide +kernel
theorem dX9_blowsTooMuch_82 : decode cX9_blowsTooMuch 82 = .ok (.iinc 4 1, 3) := by decide +kernel
theorem dX9_blowsTooMuch_85 : decode cX9_blowsTooMuch 85 = .ok (.goto (-52), 3) := by decide +kernel
theorem dX9_blowsTooMuch_88 : decode cX9_blowsTooMuch 88 = .ok (.iload_n 3, 1) := by decide +kernel
theorem dX9_blowsTooMuch_89 : decode cX9_blowsTooMuch 89 = .ok (.ireturn, 1) := by decide +kernel
theorem dX9_areRanksWrong_0 : decode cX9_areRanksWrong 0 = .ok (.iconst 0, 1) := by decide +kernel
theorem dX9_areRanksWrong_1 : decode cX9_areRanksWrong 1 = .ok (.istore_n 2, 1) := by decide +kernel
theorem dX9_areRanksWrong_2 : decode cX9_areRanksWrong 2 = .ok (.iconst 1, 1) := by decide +kernel
theorem dX9_areRanksWrong_3 : decode cX9_areRanksWrong 3 = .ok (.istore_n 3, 1) := by decide +kernel
theorem dX9_areRanksWrong_4 : decode cX9_areRanksWrong 4 = .ok (.iload_n 3, 1) := by decide +kernel
theorem dX9_areRanksWrong_5 : decode cX9_areRanksWrong 5 = .ok (.aload_n 0, 1) := by decide +kernel
theorem dX9_areRanksWrong_6 : decode cX9_areRanksWrong 6 = .ok (.getfield 72, 3) := by decide +kernel
theorem dX9_areRanksWrong_9 : decode cX9_areRanksWrong 9 = .ok (.iload_n 1, 1) := by decide +kernel
theorem dX9_areRanksWrong_10 : decode cX9_areRanksWrong 10 = .ok (.iaload, 1) := by decide +kernel
theorem dX9_areRanksWrong_11 : decode cX9_areRanksWrong 11 = .ok (.if_icmp .ge 54, 3) := by decide +kernel
theorem dX9_areRanksWrong_14 : decode cX9_areRanksWrong 14 = .ok (.iload_n 2, 1) := by decide +kernel
theorem dX9_areRanksWrong_15 : decode cX9_areRanksWrong 15 = .ok (.ifCond .ne 38, 3) := by decide +kernel
theorem dX9_areRanksWrong_18 : decode cX9_areRanksWrong 18 = .ok (.aload_n 0, 1) := by decide +kernel
theorem dX9_areRanksWrong_19 : decode cX9_areRanksWrong 19 = .ok (.aload_n 0, 1) := by decide +kernel
theorem dX9_areRanksWrong_20 : decode cX9_areRanksWrong 20 = .ok (.getfield 75, 3) := by decide +kernel
theorem dX9_areRanksWrong_23 : decode cX9_areRanksWrong 23 = .ok (.bipush 6, 2) := by decide +kernel
theorem dX9_areRanksWrong_25 : decode cX9_areRanksWrong 25 = .ok (.iload_n 1, 1) := by decide +kernel
theorem dX9_areRanksWrong_26 : decode cX9_areRanksWrong 26 = .ok (.imul, 1) := by decide +kernel
theorem dX9_areRanksWrong_27 : decode cX9_areRanksWrong 27 = .ok (.iload_n 3, 1) := by decide +kernel
theorem dX9_areRanksWrong_28 : decode cX9_areRanksWrong 28 = .ok (.iadd, 1) := by decide +kernel
theorem dX9_areRanksWrong_29 : decode cX9_areRanksWrong 29 = .ok (.iconst 1, 1) := by decide +kernel
theorem dX9_areRanksWrong_30 : decode cX9_areRanksWrong 30 = .ok (.isub, 1) := by decide +kernel
theorem dX9_areRanksWrong_31 : decode cX9_areRanksWrong 31 = .ok (.iaload, 1) := by decide +kernel
theorem dX9_areRanksWrong_32 : decode cX9_areRanksWrong 32 = .ok (.invokevirtual 279, 3) := by decide +kernel
theorem dX9_areRanksWrong_35 : decode cX9_areRanksWrong 35 = .ok (.aload_n 0, 1) := by decide +kernel
theorem dX9_areRanksWrong_36 : decode cX9_areRanksWrong 36 = .ok (.aload_n 0, 1) := by decide +kernel
theorem dX9_areRanksWrong_37 : decode cX9_areRanksWrong 37 = .ok (.getfield 75, 3) := by decide +kernel
theorem dX9_areRanksWrong_40 : decode cX9_areRanksWrong 40 = .ok (.bipush 6, 2) := by decide +kernel
theorem dX9_areRanksWrong_42 : decode cX9_areRanksWrong 42 = .ok (.iload_n 1, 1) := by decide +kernel
theorem dX9_areRanksWrong_43 : decode cX9_areRanksWrong 43 = .ok (.imul, 1) := by decide +kernel
theorem dX9_areRanksWrong_44 : decode cX9_areRanksWrong 44 = .ok (.iload_n 3, 1) := by decide +kernel
theorem dX9_areRanksWrong_45 : decode cX9_areRanksWrong 45 = .ok (.iadd, 1) := by decide +kernel
theorem dX9_areRanksWrong_46 : decode cX9_areRanksWrong 46 = .ok (.iaload, 1) := by decide +kernel
theorem dX9_areRanksWrong_47 : decode cX9_areRanksWrong 47 = .ok (.invokevirtual 279, 3) := by decide +kernel
theorem dX9_areRanksWrong_50 : decode cX9_areRanksWrong 50 = .ok (.if_icmp .le 7, 3) := by decide +kernel
theorem dX9_areRanksWrong_53 : decode cX9_areRanksWrong 53 = .ok (.iconst 1, 1) := by decide +kernel
theorem dX9_areRanksWrong_54 : decode cX9_areRanksWrong 54 = .ok (.goto 4, 3) := by decide +kernel
theorem dX9_areRanksWrong_57 : decode cX9_areRanksWrong 57 = .ok (.iconst 0, 1) := by decide +kernel
theorem dX9_areRanksWrong_58 : decode cX9_areRanksWrong 58 = .ok (.istore_n 2, 1) := by decide +kernel
theorem dX9_areRanksWrong_59 : decode cX9_areRanksWrong 59 = .ok (.iinc 3 1, 3) := by decide +kernel
theorem dX9_areRanksWrong_62 : decode cX9_areRanksWrong 62 = .ok (.goto (-58), 3) := by decide +kernel
theorem dX9_areRanksWrong_65 : decode cX9_areRanksWrong 65 = .ok (.iload_n 2, 1) := by decide +kernel
theorem dX9_areRanksWrong_66 : decode cX9_areRanksWrong 66 = .ok (.ireturn, 1) := by decide +kernel
theorem dX9_areSomeNear_0 : decode cX9_areSomeNear 0 = .ok (.iconst 0, 1) := by decide +kernel
theorem dX9_areSomeNear_1 : decode cX9_areSomeNear 1 = .ok (.istore_n 2, 1) := by decide +kernel
theorem dX9_areSomeNear_2 : decode cX9_areSomeNear 2 = .ok (.iconst 0, 1) := by decide +kernel
theorem dX9_areSomeNear_3 : decode cX9_areSomeNear 3 = .ok (.istore_n 3, 1) := by decide +kernel
theorem dX9_areSomeNear_4 : decode cX9_areSomeNear 4 = .ok (.iload_n 3, 1) := by decide +kernel
theorem dX9_areSomeNear_5 : decode cX9_areSomeNear 5 = .ok (.aload_n 0, 1) := by decide +kernel
theorem dX9_areSomeNear_6 : decode cX9_areSomeNear 6 = .ok (.getfield 72, 3) := by decide +kernel
theorem dX9_areSomeNear_9 : decode cX9_areSomeNear 9 = .ok (.iload_n 1, 1) := by decide +kernel
theorem dX9_areSomeNear_10 : decode cX9_areSomeNear 10 = .ok (.iaload, 1) := by decide +kernel
theorem dX9_areSomeNear_11 : decode cX9_areSomeNear 11 = .ok (.if_icmp .ge 49, 3) := by decide +kernel
theorem dX9_areSomeNear_14 : decode cX9_areSomeNear 14 = .ok (.iconst 0, 1) := by decide +kernel
theorem dX9_areSomeNear_15 : decode cX9_areSomeNear 15 = .ok (.istore 4, 2) := by decide +kernel
theorem dX9_areSomeNear_17 : decode cX9_areSomeNear 17 = .ok (.iload 4, 2) := by decide +kernel
theorem dX9_areSomeNear_19 : decode cX9_areSomeNear 19 = .ok (.iload_n 3, 1) := by decide +kernel
theorem dX9_areSomeNear_20 : decode cX9_areSomeNear 20 = .ok (.if_icmp .ge 34, 3) := by decide +kernel
theorem dX9_areSomeNear_23 : decode cX9_areSomeNear 23 = .ok (.iload_n 2, 1) := by decide +kernel
theorem dX9_areSomeNear_24 : decode cX9_areSomeNear 24 = .ok (.ifCond .ne 18, 3) := by decide +kernel
theorem dX9_areSomeNear_27 : decode cX9_areSomeNear 27 = .ok (.aload_n 0, 1) := by decide +kernel
theorem dX9_areSomeNear_28 : decode cX9_areSomeNear 28 = .ok (.aload_n 0, 1) := by decide +kernel
theorem dX9_areSomeNear_29 : decode cX9_areSomeNear 29 = .ok (.iload_n 1, 1) := by decide +kernel
theorem dX9_areSomeNear_30 : decode cX9_areSomeNear 30 = .ok (.iload_n 3, 1) := by decide +kernel
theorem dX9_areSomeNear_31 : decode cX9_areSomeNear 31 = .ok (.iload 4, 2) := by decide +kernel
theorem dX9_areSomeNear_33 : decode cX9_areSomeNear 33 = .ok (.invokevirtual 268, 3) := by decide +kernel
theorem dX9_areSomeNear_36 : decode cX9_areSomeNear 36 = .ok (.invokevirtual 272, 3) := by decide +kernel
theorem dX9_areSomeNear_39 : decode cX9_areSomeNear 39 = .ok (.ifCond .ne 7, 3) := by decide +kernel
theorem dX9_areSomeNear_42 : decode cX9_areSomeNear 42 = .ok (.iconst 1, 1) := by decide +kernel
theorem dX9_areSomeNear_43 : decode cX9_areSomeNear 43 = .ok (.goto 4, 3) := by decide +kernel
theorem dX9_areSomeNear_46 : decode cX9_areSomeNear 46 = .ok (.iconst 0, 1) := by decide +kernel
theorem dX9_areSomeNear_47 : decode cX9_areSomeNear 47 = .ok (.istore_n 2, 1) := by decide +kernel
theorem dX9_areSomeNear_48 : decode cX9_areSomeNear 48 = .ok (.iinc 4 1, 3) := by decide +kernel
theorem dX9_areSomeNear_51 : decode cX9_areSomeNear 51 = .ok (.goto (-34), 3) := by decide +kernel
theorem dX9_areSomeNear_54 : decode cX9_areSomeNear 54 = .ok (.iinc 3 1, 3) := by decide +kernel
theorem dX9_areSomeNear_57 : decode cX9_areSomeNear 57 = .ok (.goto (-53), 3) := by decide +kernel
theorem dX9_areSomeNear_60 : decode cX9_areSomeNear 60 = .ok (.iload_n 2, 1) := by decide +kernel
theorem dX9_areSomeNear_61 : decode cX9_areSomeNear 61 = .ok (.ireturn, 1) := by decide +kernel
theorem dX9_isSomeOut_0 : decode cX9_isSomeOut 0 = .ok (.aload_n 0, 1) := by decide +kernel
theorem dX9_isSomeOut_1 : decode cX9_isSomeOut 1 = .ok (.iload_n 1, 1) := by decide +kernel
theorem dX9_isSomeOut_2 : decode cX9_isSomeOut 2 = .ok (.invokevirtual 305, 3) := by decide +kernel
theorem dX9_isSomeOut_5 : decode cX9_isSomeOut 5 = .ok (.aload_n 0, 1) := by decide +kernel
theorem dX9_isSomeOut_6 : decode cX9_isSomeOut 6 = .ok (.getfield 81, 3) := by decide +kernel
theorem dX9_isSomeOut_9 : decode cX9_isSomeOut 9 = .ok (.iload_n 1, 1) := by decide +kernel
theorem dX9_isSomeOut_10 : decode cX9_isSomeOut 10 = .ok (.iaload, 1) := by decide +kernel
theorem dX9_isSomeOut_11 : decode cX9_isSomeOut 11 = .ok (.i2l, 1) := by decide +kernel
theorem dX9_isSomeOut_12 : decode cX9_isSomeOut 12 = .ok (.aload_n 0, 1) := by decide +kernel
theorem dX9_isSomeOut_13 : decode cX9_isSomeOut 13 = .ok (.getfield 293, 3) := by decide +kernel
theorem dX9_isSomeOut_16 : decode cX9_isSomeOut 16 = .ok (.aload_n 0, 1) := by decide +kernel
theorem dX9_isSomeOut_17 : decode cX9_isSomeOut 17 = .ok (.getfield 297, 3) := by decide +kernel
theorem dX9_isSomeOut_20 : decode cX9_isSomeOut 20 = .ok (.invokestatic 138, 3) := by decide +kernel
theorem dX9_isSomeOut_23 : decode cX9_isSomeOut 23 = .ok (.ifCond .ne 7, 3) := by decide +kernel
theorem dX9_isSomeOut_26 : decode cX9_isSomeOut 26 = .ok (.iconst 1, 1) := by decide +kernel
theorem dX9_isSomeOut_27 : decode cX9_isSomeOut 27 = .ok (.goto 4, 3) := by decide +kernel
theorem dX9_isSomeOut_30 : decode cX9_isSomeOut 30 = .ok (.iconst 0, 1) := by decide +kernel
theorem dX9_isSomeOut_31 : decode cX9_isSomeOut 31 = .ok (.ireturn, 1) := by decide +kernel
theorem dX9_barOf_0 : decode cX9_barOf 0 = .ok (.aload_n 0, 1) := by decide +kernel
theorem dX9_barOf_1 : decode cX9_barOf 1 = .ok (.iload_n 1, 1) := by decide +kernel
theorem dX9_barOf_2 : decode cX9_barOf 2 = .ok (.invokevirtual 253, 3) := by decide +kernel
theorem dX9_barOf_5 : decode cX9_barOf 5 = .ok (.aload_n 0, 1) := by decide +kernel
theorem dX9_barOf_6 : decode cX9_barOf 6 = .ok (.getfield 69, 3) := by decide +kernel
theorem dX9_barOf_9 : decode cX9_barOf 9 = .ok (.iload_n 1, 1) := by decide +kernel
theorem dX9_barOf_10 : decode cX9_barOf 10 = .ok (.iaload, 1) := by decide +kernel
theorem dX9_barOf_11 : decode cX9_barOf 11 = .ok (.istore_n 3, 1) := by decide +kernel
theorem dX9_barOf_12 : decode cX9_barOf 12 = .ok (.aload_n 0, 1) := by decide +kernel
theorem dX9_barOf_13 : decode cX9_barOf 13 = .ok (.getfield 84, 3) := by decide +kernel
theorem dX9_barOf_16 : decode cX9_barOf 16 = .ok (.iload_n 1, 1) := by decide +kernel
theorem dX9_barOf_17 : decode cX9_barOf 17 = .ok (.baload, 1) := by decide +kernel
theorem dX9_barOf_18 : decode cX9_barOf 18 = .ok (.ifCond .eq 5, 3) := by decide +kernel
theorem dX9_barOf_21 : decode cX9_barOf 21 = .ok (.iconst 1, 1) := by decide +kernel
theorem dX9_barOf_22 : decode cX9_barOf 22 = .ok (.ireturn, 1) := by decide +kernel
theorem dX9_barOf_23 : decode cX9_barOf 23 = .ok (.aload_n 0, 1) := by decide +kernel
theorem dX9_barOf_24 : decode cX9_barOf 24 = .ok (.iload_n 1, 1) := by decide +kernel
theorem dX9_barOf_25 : decode cX9_barOf 25 = .ok (.invokevirtual 312, 3) := by decide +kernel
theorem dX9_barOf_28 : decode cX9_barOf 28 = .ok (.ifCond .eq 5, 3) := by decide +kernel
theorem dX9_barOf_31 : decode cX9_barOf 31 = .ok (.iconst 2, 1) := by decide +kernel
theorem dX9_barOf_32 : decode cX9_barOf 32 = .ok (.ireturn, 1) := by decide +kernel
theorem dX9_barOf_33 : decode cX9_barOf 33 = .ok (.aload_n 0, 1) := by decide +kernel
theorem dX9_barOf_34 : decode cX9_barOf 34 = .ok (.iload_n 1, 1) := by decide +kernel
theorem dX9_barOf_35 : decode cX9_barOf 35 = .ok (.invokevirtual 315, 3) := by decide +kernel
theorem dX9_barOf_38 : decode cX9_barOf 38 = .ok (.aload_n 0, 1) := by decide +kernel
theorem dX9_barOf_39 : decode cX9_barOf 39 = .ok (.getfield 54, 3) := by decide +kernel
theorem dX9_barOf_42 : decode cX9_barOf 42 = .ok (.iload_n 3, 1) := by decide +kernel
theorem dX9_barOf_43 : decode cX9_barOf 43 = .ok (.iaload, 1) := by decide +kernel
theorem dX9_barOf_44 : decode cX9_barOf 44 = .ok (.if_icmp .le 5, 3) := by decide +kernel
theorem dX9_barOf_47 : decode cX9_barOf 47 = .ok (.iconst 3, 1) := by decide +kernel
theorem dX9_barOf_48 : decode cX9_barOf 48 = .ok (.ireturn, 1) := by decide +kernel
theorem dX9_barOf_49 : decode cX9_barOf 49 = .ok (.aload_n 0, 1) := by decide +kernel
theorem dX9_barOf_50 : decode cX9_barOf 50 = .ok (.iload_n 1, 1) := by decide +kernel
theorem dX9_barOf_51 : decode cX9_barOf 51 = .ok (.invokevirtual 318, 3) := by decide +kernel
theorem dX9_barOf_54 : decode cX9_barOf 54 = .ok (.aload_n 0, 1) := by decide +kernel
theorem dX9_barOf_55 : decode cX9_barOf 55 = .ok (.getfield 57, 3) := by decide +kernel
theorem dX9_barOf_58 : decode cX9_barOf 58 = .ok (.iload_n 3, 1) := by decide +kernel
theorem dX9_barOf_59 : decode cX9_barOf 59 = .ok (.iaload, 1) := by decide +kernel
theorem dX9_barOf_60 : decode cX9_barOf 60 = .ok (.if_icmp .le 5, 3) := by decide +kernel
theorem dX9_barOf_63 : decode cX9_barOf 63 = .ok (.iconst 4, 1) := by decide +kernel
theorem dX9_barOf_64 : decode cX9_barOf 64 = .ok (.ireturn, 1) := by decide +kernel
theorem dX9_barOf_65 : decode cX9_barOf 65 = .ok (.aload_n 0, 1) := by decide +kernel
theorem dX9_barOf_66 : decode cX9_barOf 66 = .ok (.iload_n 1, 1) := by decide +kernel
theorem dX9_barOf_67 : decode cX9_barOf 67 = .ok (.iload_n 2, 1) := by decide +kernel
theorem dX9_barOf_68 : decode cX9_barOf 68 = .ok (.invokevirtual 321, 3) := by decide +kernel
theorem dX9_barOf_71 : decode cX9_barOf 71 = .ok (.ifCond .eq 5, 3) := by decide +kernel
theorem dX9_barOf_74 : decode cX9_barOf 74 = .ok (.iconst 5, 1) := by decide +kernel
theorem dX9_barOf_75 : decode cX9_barOf 75 = .ok (.ireturn, 1) := by decide +kernel
theorem dX9_barOf_76 : decode cX9_barOf 76 = .ok (.aload_n 0, 1) := by decide +kernel
theorem dX9_barOf_77 : decode cX9_barOf 77 = .ok (.iload_n 1, 1) := by decide +kernel
theorem dX9_barOf_78 : decode cX9_barOf 78 = .ok (.invokevirtual 324, 3) := by decide +kernel
theorem dX9_barOf_81 : decode cX9_barOf 81 = .ok (.ifCond .eq 6, 3) := by decide +kernel
theorem dX9_barOf_84 : decode cX9_barOf 84 = .ok (.bipush 6, 2) := by decide +kernel
theorem dX9_barOf_86 : decode cX9_barOf 86 = .ok (.ireturn, 1) := by decide +kernel
theorem dX9_barOf_87 : decode cX9_barOf 87 = .ok (.aload_n 0, 1) := by decide +kernel
theorem dX9_barOf_88 : decode cX9_barOf 88 = .ok (.iload_n 1, 1) := by decide +kernel
theorem dX9_barOf_89 : decode cX9_barOf 89 = .ok (.invokevirtual 327, 3) := by decide +kernel
theorem dX9_barOf_92 : decode cX9_barOf 92 = .ok (.ifCond .eq 6, 3) := by decide +kernel
theorem dX9_barOf_95 : decode cX9_barOf 95 = .ok (.bipush 7, 2) := by decide +kernel
theorem dX9_barOf_97 : decode cX9_barOf 97 = .ok (.ireturn, 1) := by decide +kernel
theorem dX9_barOf_98 : decode cX9_barOf 98 = .ok (.aload_n 0, 1) := by decide +kernel
theorem dX9_barOf_99 : decode cX9_barOf 99 = .ok (.iload_n 1, 1) := by decide +kernel
theorem dX9_barOf_100 : decode cX9_barOf 100 = .ok (.invokevirtual 330, 3) := by decide +kernel
theorem dX9_barOf_103 : decode cX9_barOf 103 = .ok (.ifCond .eq 6, 3) := by decide +kernel
theorem dX9_barOf_106 : decode cX9_barOf 106 = .ok (.bipush 8, 2) := by decide +kernel
theorem dX9_barOf_108 : decode cX9_barOf 108 = .ok (.ireturn, 1) := by decide +kernel
theorem dX9_barOf_109 : decode cX9_barOf 109 = .ok (.aload_n 0, 1) := by decide +kernel
theorem dX9_barOf_110 : decode cX9_barOf 110 = .ok (.iload_n 1, 1) := by decide +kernel
theorem dX9_barOf_111 : decode cX9_barOf 111 = .ok (.invokevirtual 333, 3) := by decide +kernel
theorem dX9_barOf_114 : decode cX9_barOf 114 = .ok (.ifCond .eq 8, 3) := by decide +kernel
theorem dX9_barOf_117 : decode cX9_barOf 117 = .ok (.bipush 9, 2) := by decide +kernel
theorem dX9_barOf_119 : decode cX9_barOf 119 = .ok (.goto 30, 3) := by decide +kernel
theorem dX9_barOf_122 : decode cX9_barOf 122 = .ok (.aload_n 0, 1) := by decide +kernel
theorem dX9_barOf_123 : decode cX9_barOf 123 = .ok (.iload_n 1, 1) := by decide +kernel
theorem dX9_barOf_124 : decode cX9_barOf 124 = .ok (.invokevirtual 336, 3) := by decide +kernel
theorem dX9_barOf_127 : decode cX9_barOf 127 = .ok (.ifCond .eq 8, 3) := by decide +kernel
theorem dX9_barOf_130 : decode cX9_barOf 130 = .ok (.bipush 10, 2) := by decide +kernel
theorem dX9_barOf_132 : decode cX9_barOf 132 = .ok (.goto 17, 3) := by decide +kernel
theorem dX9_barOf_135 : decode cX9_barOf 135 = .ok (.aload_n 0, 1) := by decide +kernel
theorem dX9_barOf_136 : decode cX9_barOf 136 = .ok (.iload_n 1, 1) := by decide +kernel
theorem dX9_barOf_137 : decode cX9_barOf 137 = .ok (.invokevirtual 339, 3) := by decide +kernel
theorem dX9_barOf_140 : decode cX9_barOf 140 = .ok (.ifCond .eq 8, 3) := by decide +kernel
theorem dX9_barOf_143 : decode cX9_barOf 143 = .ok (.bipush 11, 2) := by decide +kernel
theorem dX9_barOf_145 : decode cX9_barOf 145 = .ok (.goto 4, 3) := by decide +kernel
theorem dX9_barOf_148 : decode cX9_barOf 148 = .ok (.iconst 0, 1) := by decide +kernel
theorem dX9_barOf_149 : decode cX9_barOf 149 = .ok (.ireturn, 1) := by decide +kernel
theorem dX9_why_0 : decode cX9_why 0 = .ok (.aload_n 0, 1) := by decide +kernel
theorem dX9_why_1 : decode cX9_why 1 = .ok (.iload_n 1, 1) := by decide +kernel
theorem dX9_why_2 : decode cX9_why 2 = .ok (.invokevirtual 149, 3) := by decide +kernel
theorem dX9_why_5 : decode cX9_why 5 = .ok (.ifCond .eq 24, 3) := by decide +kernel
theorem dX9_why_8 : decode cX9_why 8 = .ok (.iload_n 2, 1) := by decide +kernel
theorem dX9_why_9 : decode cX9_why 9 = .ok (.i2l, 1) := by decide +kernel
theorem dX9_why_10 : decode cX9_why 10 = .ok (.lconst 0, 1) := by decide +kernel
theorem dX9_why_11 : decode cX9_why 11 = .ok (.ldc2_w 187, 3) := by decide +kernel
theorem dX9_why_14 : decode cX9_why 14 = .ok (.invokestatic 138, 3) := by decide +kernel
theorem dX9_why_17 : decode cX9_why 17 = .ok (.ifCond .eq 12, 3) := by decide +kernel
theorem dX9_why_20 : decode cX9_why 20 = .ok (.aload_n 0, 1) := by decide +kernel
theorem dX9_why_21 : decode cX9_why 21 = .ok (.iload_n 1, 1) := by decide +kernel
theorem dX9_why_22 : decode cX9_why 22 = .ok (.iload_n 2, 1) := by decide +kernel
theorem dX9_why_23 : decode cX9_why 23 = .ok (.invokevirtual 342, 3) := by decide +kernel
theorem dX9_why_26 : decode cX9_why 26 = .ok (.goto 4, 3) := by decide +kernel
theorem dX9_why_29 : decode cX9_why 29 = .ok (.iconst (-1), 1) := by decide +kernel
theorem dX9_why_30 : decode cX9_why 30 = .ok (.ireturn, 1) := by decide +kernel
theorem dX9_leave_0 : decode cX9_leave 0 = .ok (.aload_n 0, 1) := by decide +kernel
theorem dX9_leave_1 : decode cX9_leave 1 = .ok (.iload_n 1, 1) := by decide +kernel
theorem dX9_leave_2 : decode cX9_leave 2 = .ok (.invokevirtual 149, 3) := by decide +kernel
theorem dX9_leave_5 : decode cX9_leave 5 = .ok (.ifCond .eq 15, 3) := by decide +kernel
theorem dX9_leave_8 : decode cX9_leave 8 = .ok (.iload_n 2, 1) := by decide +kernel
theorem dX9_leave_9 : decode cX9_leave 9 = .ok (.i2l, 1) := by decide +kernel
theorem dX9_leave_10 : decode cX9_leave 10 = .ok (.lconst 0, 1) := by decide +kernel
theorem dX9_leave_11 : decode cX9_leave 11 = .ok (.ldc2_w 187, 3) := by decide +kernel
theorem dX9_leave_14 : decode cX9_leave 14 = .ok (.invokestatic 138, 3) := by decide +kernel
theorem dX9_leave_17 : decode cX9_leave 17 = .ok (.ifCond .ne 5, 3) := by decide +kernel
theorem dX9_leave_20 : decode cX9_leave 20 = .ok (.iconst (-1), 1) := by decide +kernel
theorem dX9_leave_21 : decode cX9_leave 21 = .ok (.ireturn, 1) := by decide +kernel
theorem dX9_leave_22 : decode cX9_leave 22 = .ok (.aload_n 0, 1) := by decide +kernel
theorem dX9_leave_23 : decode cX9_leave 23 = .ok (.iload_n 1, 1) := by decide +kernel
theorem dX9_leave_24 : decode cX9_leave 24 = .ok (.iload_n 2, 1) := by decide +kernel
theorem dX9_leave_25 : decode cX9_leave 25 = .ok (.invokevirtual 342, 3) := by decide +kernel
theorem dX9_leave_28 : decode cX9_leave 28 = .ok (.ifCond .le 6, 3) := by decide +kernel
theorem dX9_leave_31 : decode cX9_leave 31 = .ok (.bipush (-6), 2) := by decide +kernel
theorem dX9_leave_33 : decode cX9_leave 33 = .ok (.ireturn, 1) := by decide +kernel
theorem dX9_leave_34 : decode cX9_leave 34 = .ok (.aload_n 0, 1) := by decide +kernel
theorem dX9_leave_35 : decode cX9_leave 35 = .ok (.getfield 84, 3) := by decide +kernel
theorem dX9_leave_38 : decode cX9_leave 38 = .ok (.iload_n 1, 1) := by decide +kernel
theorem dX9_leave_39 : decode cX9_leave 39 = .ok (.iconst 1, 1) := by decide +kernel
theorem dX9_leave_40 : decode cX9_leave 40 = .ok (.bastore, 1) := by decide +kernel
theorem dX9_leave_41 : decode cX9_leave 41 = .ok (.aload_n 0, 1) := by decide +kernel
theorem dX9_leave_42 : decode cX9_leave 42 = .ok (.getfield 93, 3) := by decide +kernel
theorem dX9_leave_45 : decode cX9_leave 45 = .ok (.iload_n 1, 1) := by decide +kernel
theorem dX9_leave_46 : decode cX9_leave 46 = .ok (.aload_n 0, 1) := by decide +kernel
theorem dX9_leave_47 : decode cX9_leave 47 = .ok (.getfield 235, 3) := by decide +kernel
theorem dX9_leave_50 : decode cX9_leave 50 = .ok (.iastore, 1) := by decide +kernel
theorem dX9_leave_51 : decode cX9_leave 51 = .ok (.aload_n 0, 1) := by decide +kernel
theorem dX9_leave_52 : decode cX9_leave 52 = .ok (.getfield 96, 3) := by decide +kernel
theorem dX9_leave_55 : decode cX9_leave 55 = .ok (.iload_n 1, 1) := by decide +kernel
theorem dX9_leave_56 : decode cX9_leave 56 = .ok (.aload_n 0, 1) := by decide +kernel
theorem dX9_leave_57 : decode cX9_leave 57 = .ok (.getfield 238, 3) := by decide +kernel
theorem dX9_leave_60 : decode cX9_leave 60 = .ok (.iastore, 1) := by decide +kernel
theorem dX9_leave_61 : decode cX9_leave 61 = .ok (.iconst 0, 1) := by decide +kernel
theorem dX9_leave_62 : decode cX9_leave 62 = .ok (.istore_n 3, 1) := by decide +kernel
theorem dX9_leave_63 : decode cX9_leave 63 = .ok (.iload_n 3, 1) := by decide +kernel
theorem dX9_leave_64 : decode cX9_leave 64 = .ok (.bipush 12, 2) := by decide +kernel
theorem dX9_leave_66 : decode cX9_leave 66 = .ok (.if_icmp .ge 43, 3) := by decide +kernel
theorem dX9_leave_69 : decode cX9_leave 69 = .ok (.aload_n 0, 1) := by decide +kernel
theorem dX9_leave_70 : decode cX9_leave 70 = .ok (.getfield 87, 3) := by decide +kernel
theorem dX9_leave_73 : decode cX9_leave 73 = .ok (.bipush 12, 2) := by decide +kernel
theorem dX9_leave_75 : decode cX9_leave 75 = .ok (.iload_n 1, 1) := by decide +kernel
theorem dX9_leave_76 : decode cX9_leave 76 = .ok (.imul, 1) := by decide +kernel
theorem dX9_leave_77 : decode cX9_leave 77 = .ok (.iload_n 3, 1) := by decide +kernel
theorem dX9_leave_78 : decode cX9_leave 78 = .ok (.iadd, 1) := by decide +kernel
theorem dX9_leave_79 : decode cX9_leave 79 = .ok (.aload_n 0, 1) := by decide +kernel
theorem dX9_leave_80 : decode cX9_leave 80 = .ok (.getfield 21, 3) := by decide +kernel
theorem dX9_leave_83 : decode cX9_leave 83 = .ok (.iload_n 3, 1) := by decide +kernel
theorem dX9_leave_84 : decode cX9_leave 84 = .ok (.iaload, 1) := by decide +kernel
theorem dX9_leave_85 : decode cX9_leave 85 = .ok (.iastore, 1) := by decide +kernel
theorem dX9_leave_86 : decode cX9_leave 86 = .ok (.aload_n 0, 1) := by decide +kernel
theorem dX9_leave_87 : decode cX9_leave 87 = .ok (.getfield 90, 3) := by decide +kernel
theorem dX9_leave_90 : decode cX9_leave 90 = .ok (.bipush 12, 2) := by decide +kernel
theorem dX9_leave_92 : decode cX9_leave 92 = .ok (.iload_n 1, 1) := by decide +kernel
theorem dX9_leave_93 : decode cX9_leave 93 = .ok (.imul, 1) := by decide +kernel
theorem dX9_leave_94 : decode cX9_leave 94 = .ok (.iload_n 3, 1) := by decide +kernel
theorem dX9_leave_95 : decode cX9_leave 95 = .ok (.iadd, 1) := by decide +kernel
theorem dX9_leave_96 : decode cX9_leave 96 = .ok (.aload_n 0, 1) := by decide +kernel
theorem dX9_leave_97 : decode cX9_leave 97 = .ok (.getfield 24, 3) := by decide +kernel
theorem dX9_leave_100 : decode cX9_leave 100 = .ok (.iload_n 3, 1) := by decide +kernel
theorem dX9_leave_101 : decode cX9_leave 101 = .ok (.iaload, 1) := by decide +kernel
theorem dX9_leave_102 : decode cX9_leave 102 = .ok (.iastore, 1) := by decide +kernel
theorem dX9_leave_103 : decode cX9_leave 103 = .ok (.iinc 3 1, 3) := by decide +kernel
theorem dX9_leave_106 : decode cX9_leave 106 = .ok (.goto (-43), 3) := by decide +kernel
theorem dX9_leave_109 : decode cX9_leave 109 = .ok (.aload_n 0, 1) := by decide +kernel
theorem dX9_leave_110 : decode cX9_leave 110 = .ok (.iload_n 1, 1) := by decide +kernel
theorem dX9_leave_111 : decode cX9_leave 111 = .ok (.invokevirtual 315, 3) := by decide +kernel
theorem dX9_leave_114 : decode cX9_leave 114 = .ok (.istore_n 3, 1) := by decide +kernel
theorem dX9_leave_115 : decode cX9_leave 115 = .ok (.aload_n 0, 1) := by decide +kernel
theorem dX9_leave_116 : decode cX9_leave 116 = .ok (.dup, 1) := by decide +kernel
theorem dX9_leave_117 : decode cX9_leave 117 = .ok (.getfield 345, 3) := by decide +kernel
theorem dX9_leave_120 : decode cX9_leave 120 = .ok (.iload_n 3, 1) := by decide +kernel
theorem dX9_leave_121 : decode cX9_leave 121 = .ok (.iadd, 1) := by decide +kernel
theorem dX9_leave_122 : decode cX9_leave 122 = .ok (.putfield 345, 3) := by decide +kernel
theorem dX9_leave_125 : decode cX9_leave 125 = .ok (.iload_n 3, 1) := by decide +kernel
theorem dX9_leave_126 : decode cX9_leave 126 = .ok (.ireturn, 1) := by decide +kernel
theorem dX9_many_0 : decode cX9_many 0 = .ok (.iconst 0, 1) := by decide +kernel
theorem dX9_many_1 : decode cX9_many 1 = .ok (.istore_n 2, 1) := by decide +kernel
theorem dX9_many_2 : decode cX9_many 2 = .ok (.iconst 0, 1) := by decide +kernel
theorem dX9_many_3 : decode cX9_many 3 = .ok (.istore_n 3, 1) := by decide +kernel
theorem dX9_many_4 : decode cX9_many 4 = .ok (.iload_n 3, 1) := by decide +kernel
theorem dX9_many_5 : decode cX9_many 5 = .ok (.aload_n 0, 1) := by decide +kernel
theorem dX9_many_6 : decode cX9_many 6 = .ok (.getfield 146, 3) := by decide +kernel
theorem dX9_many_9 : decode cX9_many 9 = .ok (.if_icmp .ge 26, 3) := by decide +kernel
theorem dX9_many_12 : decode cX9_many 12 = .ok (.iload_n 2, 1) := by decide +kernel
theorem dX9_many_13 : decode cX9_many 13 = .ok (.aload_n 0, 1) := by decide +kernel
theorem dX9_many_14 : decode cX9_many 14 = .ok (.getfield 84, 3) := by decide +kernel
theorem dX9_many_17 : decode cX9_many 17 = .ok (.iload_n 3, 1) := by decide +kernel
theorem dX9_many_18 : decode cX9_many 18 = .ok (.baload, 1) := by decide +kernel
theorem dX9_many_19 : decode cX9_many 19 = .ok (.ifCond .eq 7, 3) := by decide +kernel
theorem dX9_many_22 : decode cX9_many 22 = .ok (.iconst 1, 1) := by decide +kernel
theorem dX9_many_23 : decode cX9_many 23 = .ok (.goto 4, 3) := by decide +kernel
theorem dX9_many_26 : decode cX9_many 26 = .ok (.iconst 0, 1) := by decide +kernel
theorem dX9_many_27 : decode cX9_many 27 = .ok (.iadd, 1) := by decide +kernel
theorem dX9_many_28 : decode cX9_many 28 = .ok (.istore_n 2, 1) := by decide +kernel
theorem dX9_many_29 : decode cX9_many 29 = .ok (.iinc 3 1, 3) := by decide +kernel
theorem dX9_many_32 : decode cX9_many 32 = .ok (.goto (-28), 3) := by decide +kernel
theorem dX9_many_35 : decode cX9_many 35 = .ok (.iload_n 1, 1) := by decide +kernel
theorem dX9_many_36 : decode cX9_many 36 = .ok (.tableswitch 49 0 3 #[32, 37, 42, 44], 32) := by decide +kernel
theorem dX9_many_68 : decode cX9_many 68 = .ok (.aload_n 0, 1) := by decide +kernel
theorem dX9_many_69 : decode cX9_many 69 = .ok (.getfield 142, 3) := by decide +kernel
theorem dX9_many_72 : decode cX9_many 72 = .ok (.ireturn, 1) := by decide +kernel
theorem dX9_many_73 : decode cX9_many 73 = .ok (.aload_n 0, 1) := by decide +kernel
theorem dX9_many_74 : decode cX9_many 74 = .ok (.getfield 146, 3) := by decide +kernel
theorem dX9_many_77 : decode cX9_many 77 = .ok (.ireturn, 1) := by decide +kernel
theorem dX9_many_78 : decode cX9_many 78 = .ok (.iload_n 2, 1) := by decide +kernel
theorem dX9_many_79 : decode cX9_many 79 = .ok (.ireturn, 1) := by decide +kernel
theorem dX9_many_80 : decode cX9_many 80 = .ok (.aload_n 0, 1) := by decide +kernel
theorem dX9_many_81 : decode cX9_many 81 = .ok (.getfield 345, 3) := by decide +kernel
theorem dX9_many_84 : decode cX9_many 84 = .ok (.ireturn, 1) := by decide +kernel
theorem dX9_many_85 : decode cX9_many 85 = .ok (.iconst (-1), 1) := by decide +kernel
theorem dX9_many_86 : decode cX9_many 86 = .ok (.ireturn, 1) := by decide +kernel
