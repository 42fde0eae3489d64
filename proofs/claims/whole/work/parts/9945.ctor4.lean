def mX11_init : gM := (yX11_init, cX11_init, RX11, 1, none, 1, 20)
theorem dX11_init_0 : decode mX11_init.2.1 0 = .ok (.aload_n 0, 1) := by decide +kernel
theorem dX11_init_1 : decode mX11_init.2.1 1 = .ok (.invokespecial 1, 3) := by decide +kernel
theorem dX11_init_4 : decode mX11_init.2.1 4 = .ok (.aload_n 0, 1) := by decide +kernel
theorem dX11_init_5 : decode mX11_init.2.1 5 = .ok (.bipush 24, 2) := by decide +kernel
theorem dX11_init_7 : decode mX11_init.2.1 7 = .ok (.newarray .long, 2) := by decide +kernel
theorem dX11_init_9 : decode mX11_init.2.1 9 = .ok (.putfield 7, 3) := by decide +kernel
theorem dX11_init_12 : decode mX11_init.2.1 12 = .ok (.aload_n 0, 1) := by decide +kernel
theorem dX11_init_13 : decode mX11_init.2.1 13 = .ok (.bipush 24, 2) := by decide +kernel
theorem dX11_init_15 : decode mX11_init.2.1 15 = .ok (.newarray .int, 2) := by decide +kernel
theorem dX11_init_17 : decode mX11_init.2.1 17 = .ok (.putfield 13, 3) := by decide +kernel
theorem dX11_init_20 : decode mX11_init.2.1 20 = .ok (.aload_n 0, 1) := by decide +kernel
theorem dX11_init_21 : decode mX11_init.2.1 21 = .ok (.bipush 24, 2) := by decide +kernel
theorem dX11_init_23 : decode mX11_init.2.1 23 = .ok (.newarray .int, 2) := by decide +kernel
theorem dX11_init_25 : decode mX11_init.2.1 25 = .ok (.putfield 17, 3) := by decide +kernel
theorem dX11_init_28 : decode mX11_init.2.1 28 = .ok (.aload_n 0, 1) := by decide +kernel
theorem dX11_init_29 : decode mX11_init.2.1 29 = .ok (.bipush 24, 2) := by decide +kernel
theorem dX11_init_31 : decode mX11_init.2.1 31 = .ok (.newarray .boolean, 2) := by decide +kernel
theorem dX11_init_33 : decode mX11_init.2.1 33 = .ok (.putfield 20, 3) := by decide +kernel
theorem dX11_init_36 : decode mX11_init.2.1 36 = .ok (.aload_n 0, 1) := by decide +kernel
theorem dX11_init_37 : decode mX11_init.2.1 37 = .ok (.bipush 16, 2) := by decide +kernel
theorem dX11_init_39 : decode mX11_init.2.1 39 = .ok (.newarray .long, 2) := by decide +kernel
theorem dX11_init_41 : decode mX11_init.2.1 41 = .ok (.putfield 24, 3) := by decide +kernel
theorem dX11_init_44 : decode mX11_init.2.1 44 = .ok (.aload_n 0, 1) := by decide +kernel
theorem dX11_init_45 : decode mX11_init.2.1 45 = .ok (.bipush 16, 2) := by decide +kernel
theorem dX11_init_47 : decode mX11_init.2.1 47 = .ok (.newarray .int, 2) := by decide +kernel
theorem dX11_init_49 : decode mX11_init.2.1 49 = .ok (.putfield 27, 3) := by decide +kernel
theorem dX11_init_52 : decode mX11_init.2.1 52 = .ok (.aload_n 0, 1) := by decide +kernel
theorem dX11_init_53 : decode mX11_init.2.1 53 = .ok (.bipush 16, 2) := by decide +kernel
theorem dX11_init_55 : decode mX11_init.2.1 55 = .ok (.newarray .int, 2) := by decide +kernel
theorem dX11_init_57 : decode mX11_init.2.1 57 = .ok (.putfield 30, 3) := by decide +kernel
theorem dX11_init_60 : decode mX11_init.2.1 60 = .ok (.aload_n 0, 1) := by decide +kernel
theorem dX11_init_61 : decode mX11_init.2.1 61 = .ok (.bipush 60, 2) := by decide +kernel
theorem dX11_init_63 : decode mX11_init.2.1 63 = .ok (.newarray .int, 2) := by decide +kernel
theorem dX11_init_65 : decode mX11_init.2.1 65 = .ok (.putfield 33, 3) := by decide +kernel
theorem dX11_init_68 : decode mX11_init.2.1 68 = .ok (.aload_n 0, 1) := by decide +kernel
theorem dX11_init_69 : decode mX11_init.2.1 69 = .ok (.bipush 60, 2) := by decide +kernel
theorem dX11_init_71 : decode mX11_init.2.1 71 = .ok (.newarray .int, 2) := by decide +kernel
theorem dX11_init_73 : decode mX11_init.2.1 73 = .ok (.putfield 36, 3) := by decide +kernel
theorem dX11_init_76 : decode mX11_init.2.1 76 = .ok (.aload_n 0, 1) := by decide +kernel
theorem dX11_init_77 : decode mX11_init.2.1 77 = .ok (.bipush 30, 2) := by decide +kernel
theorem dX11_init_79 : decode mX11_init.2.1 79 = .ok (.newarray .int, 2) := by decide +kernel
theorem dX11_init_81 : decode mX11_init.2.1 81 = .ok (.putfield 39, 3) := by decide +kernel
theorem dX11_init_84 : decode mX11_init.2.1 84 = .ok (.aload_n 0, 1) := by decide +kernel
theorem dX11_init_85 : decode mX11_init.2.1 85 = .ok (.bipush 30, 2) := by decide +kernel
theorem dX11_init_87 : decode mX11_init.2.1 87 = .ok (.newarray .int, 2) := by decide +kernel
theorem dX11_init_89 : decode mX11_init.2.1 89 = .ok (.putfield 42, 3) := by decide +kernel
theorem dX11_init_92 : decode mX11_init.2.1 92 = .ok (.aload_n 0, 1) := by decide +kernel
theorem dX11_init_93 : decode mX11_init.2.1 93 = .ok (.bipush 30, 2) := by decide +kernel
theorem dX11_init_95 : decode mX11_init.2.1 95 = .ok (.newarray .int, 2) := by decide +kernel
theorem dX11_init_97 : decode mX11_init.2.1 97 = .ok (.putfield 45, 3) := by decide +kernel
theorem dX11_init_100 : decode mX11_init.2.1 100 = .ok (.aload_n 0, 1) := by decide +kernel
theorem dX11_init_101 : decode mX11_init.2.1 101 = .ok (.sipush 130, 3) := by decide +kernel
theorem dX11_init_104 : decode mX11_init.2.1 104 = .ok (.newarray .int, 2) := by decide +kernel
theorem dX11_init_106 : decode mX11_init.2.1 106 = .ok (.putfield 48, 3) := by decide +kernel
theorem dX11_init_109 : decode mX11_init.2.1 109 = .ok (.aload_n 0, 1) := by decide +kernel
theorem dX11_init_110 : decode mX11_init.2.1 110 = .ok (.sipush 130, 3) := by decide +kernel
theorem dX11_init_113 : decode mX11_init.2.1 113 = .ok (.newarray .int, 2) := by decide +kernel
theorem dX11_init_115 : decode mX11_init.2.1 115 = .ok (.putfield 51, 3) := by decide +kernel
theorem dX11_init_118 : decode mX11_init.2.1 118 = .ok (.aload_n 0, 1) := by decide +kernel
theorem dX11_init_119 : decode mX11_init.2.1 119 = .ok (.iconst (-1), 1) := by decide +kernel
theorem dX11_init_120 : decode mX11_init.2.1 120 = .ok (.putfield 54, 3) := by decide +kernel
theorem dX11_init_123 : decode mX11_init.2.1 123 = .ok (.aload_n 0, 1) := by decide +kernel
theorem dX11_init_124 : decode mX11_init.2.1 124 = .ok (.iconst (-1), 1) := by decide +kernel
theorem dX11_init_125 : decode mX11_init.2.1 125 = .ok (.putfield 58, 3) := by decide +kernel
theorem dX11_init_128 : decode mX11_init.2.1 128 = .ok (.aload_n 0, 1) := by decide +kernel
theorem dX11_init_129 : decode mX11_init.2.1 129 = .ok (.bipush 24, 2) := by decide +kernel
theorem dX11_init_131 : decode mX11_init.2.1 131 = .ok (.newarray .long, 2) := by decide +kernel
theorem dX11_init_133 : decode mX11_init.2.1 133 = .ok (.putfield 61, 3) := by decide +kernel
theorem dX11_init_136 : decode mX11_init.2.1 136 = .ok (.aload_n 0, 1) := by decide +kernel
theorem dX11_init_137 : decode mX11_init.2.1 137 = .ok (.bipush 24, 2) := by decide +kernel
theorem dX11_init_139 : decode mX11_init.2.1 139 = .ok (.newarray .int, 2) := by decide +kernel
theorem dX11_init_141 : decode mX11_init.2.1 141 = .ok (.putfield 64, 3) := by decide +kernel
theorem dX11_init_144 : decode mX11_init.2.1 144 = .ok (.aload_n 0, 1) := by decide +kernel
theorem dX11_init_145 : decode mX11_init.2.1 145 = .ok (.bipush 24, 2) := by decide +kernel
theorem dX11_init_147 : decode mX11_init.2.1 147 = .ok (.newarray .int, 2) := by decide +kernel
theorem dX11_init_149 : decode mX11_init.2.1 149 = .ok (.putfield 67, 3) := by decide +kernel
theorem dX11_init_152 : decode mX11_init.2.1 152 = .ok (.aload_n 0, 1) := by decide +kernel
theorem dX11_init_153 : decode mX11_init.2.1 153 = .ok (.bipush 24, 2) := by decide +kernel
theorem dX11_init_155 : decode mX11_init.2.1 155 = .ok (.newarray .boolean, 2) := by decide +kernel
theorem dX11_init_157 : decode mX11_init.2.1 157 = .ok (.putfield 70, 3) := by decide +kernel
theorem dX11_init_160 : decode mX11_init.2.1 160 = .ok (.aload_n 0, 1) := by decide +kernel
theorem dX11_init_161 : decode mX11_init.2.1 161 = .ok (.bipush 16, 2) := by decide +kernel
theorem dX11_init_163 : decode mX11_init.2.1 163 = .ok (.newarray .long, 2) := by decide +kernel
theorem dX11_init_165 : decode mX11_init.2.1 165 = .ok (.putfield 73, 3) := by decide +kernel
theorem dX11_init_168 : decode mX11_init.2.1 168 = .ok (.aload_n 0, 1) := by decide +kernel
theorem dX11_init_169 : decode mX11_init.2.1 169 = .ok (.bipush 16, 2) := by decide +kernel
theorem dX11_init_171 : decode mX11_init.2.1 171 = .ok (.newarray .int, 2) := by decide +kernel
theorem dX11_init_173 : decode mX11_init.2.1 173 = .ok (.putfield 76, 3) := by decide +kernel
theorem dX11_init_176 : decode mX11_init.2.1 176 = .ok (.aload_n 0, 1) := by decide +kernel
theorem dX11_init_177 : decode mX11_init.2.1 177 = .ok (.bipush 16, 2) := by decide +kernel
theorem dX11_init_179 : decode mX11_init.2.1 179 = .ok (.newarray .int, 2) := by decide +kernel
theorem dX11_init_181 : decode mX11_init.2.1 181 = .ok (.putfield 79, 3) := by decide +kernel
theorem dX11_init_184 : decode mX11_init.2.1 184 = .ok (.aload_n 0, 1) := by decide +kernel
theorem dX11_init_185 : decode mX11_init.2.1 185 = .ok (.bipush 60, 2) := by decide +kernel
theorem dX11_init_187 : decode mX11_init.2.1 187 = .ok (.newarray .int, 2) := by decide +kernel
theorem dX11_init_189 : decode mX11_init.2.1 189 = .ok (.putfield 82, 3) := by decide +kernel
theorem dX11_init_192 : decode mX11_init.2.1 192 = .ok (.aload_n 0, 1) := by decide +kernel
theorem dX11_init_193 : decode mX11_init.2.1 193 = .ok (.bipush 60, 2) := by decide +kernel
theorem dX11_init_195 : decode mX11_init.2.1 195 = .ok (.newarray .int, 2) := by decide +kernel
theorem dX11_init_197 : decode mX11_init.2.1 197 = .ok (.putfield 85, 3) := by decide +kernel
theorem dX11_init_200 : decode mX11_init.2.1 200 = .ok (.aload_n 0, 1) := by decide +kernel
theorem dX11_init_201 : decode mX11_init.2.1 201 = .ok (.bipush 30, 2) := by decide +kernel
theorem dX11_init_203 : decode mX11_init.2.1 203 = .ok (.newarray .int, 2) := by decide +kernel
theorem dX11_init_205 : decode mX11_init.2.1 205 = .ok (.putfield 88, 3) := by decide +kernel
theorem dX11_init_208 : decode mX11_init.2.1 208 = .ok (.aload_n 0, 1) := by decide +kernel
theorem dX11_init_209 : decode mX11_init.2.1 209 = .ok (.bipush 30, 2) := by decide +kernel
theorem dX11_init_211 : decode mX11_init.2.1 211 = .ok (.newarray .int, 2) := by decide +kernel
theorem dX11_init_213 : decode mX11_init.2.1 213 = .ok (.putfield 91, 3) := by decide +kernel
theorem dX11_init_216 : decode mX11_init.2.1 216 = .ok (.aload_n 0, 1) := by decide +kernel
theorem dX11_init_217 : decode mX11_init.2.1 217 = .ok (.bipush 30, 2) := by decide +kernel
theorem dX11_init_219 : decode mX11_init.2.1 219 = .ok (.newarray .int, 2) := by decide +kernel
theorem dX11_init_221 : decode mX11_init.2.1 221 = .ok (.putfield 94, 3) := by decide +kernel
theorem dX11_init_224 : decode mX11_init.2.1 224 = .ok (.aload_n 0, 1) := by decide +kernel
theorem dX11_init_225 : decode mX11_init.2.1 225 = .ok (.sipush 130, 3) := by decide +kernel
theorem dX11_init_228 : decode mX11_init.2.1 228 = .ok (.newarray .int, 2) := by decide +kernel
theorem dX11_init_230 : decode mX11_init.2.1 230 = .ok (.putfield 97, 3) := by decide +kernel
theorem dX11_init_233 : decode mX11_init.2.1 233 = .ok (.aload_n 0, 1) := by decide +kernel
theorem dX11_init_234 : decode mX11_init.2.1 234 = .ok (.sipush 130, 3) := by decide +kernel
theorem dX11_init_237 : decode mX11_init.2.1 237 = .ok (.newarray .int, 2) := by decide +kernel
theorem dX11_init_239 : decode mX11_init.2.1 239 = .ok (.putfield 100, 3) := by decide +kernel
theorem dX11_init_242 : decode mX11_init.2.1 242 = .ok (.aload_n 0, 1) := by decide +kernel
theorem dX11_init_243 : decode mX11_init.2.1 243 = .ok (.sipush 1200, 3) := by decide +kernel
theorem dX11_init_246 : decode mX11_init.2.1 246 = .ok (.newarray .int, 2) := by decide +kernel
theorem dX11_init_248 : decode mX11_init.2.1 248 = .ok (.putfield 103, 3) := by decide +kernel
theorem dX11_init_251 : decode mX11_init.2.1 251 = .ok (.aload_n 0, 1) := by decide +kernel
theorem dX11_init_252 : decode mX11_init.2.1 252 = .ok (.ldc 106, 2) := by decide +kernel
theorem dX11_init_254 : decode mX11_init.2.1 254 = .ok (.putfield 107, 3) := by decide +kernel
theorem dX11_init_257 : decode mX11_init.2.1 257 = .ok (.aload_n 0, 1) := by decide +kernel
theorem dX11_init_258 : decode mX11_init.2.1 258 = .ok (.bipush 106, 2) := by decide +kernel
theorem dX11_init_260 : decode mX11_init.2.1 260 = .ok (.newarray .int, 2) := by decide +kernel
theorem dX11_init_262 : decode mX11_init.2.1 262 = .ok (.putfield 110, 3) := by decide +kernel
theorem dX11_init_265 : decode mX11_init.2.1 265 = .ok (.aload_n 0, 1) := by decide +kernel
theorem dX11_init_266 : decode mX11_init.2.1 266 = .ok (.bipush 106, 2) := by decide +kernel
theorem dX11_init_268 : decode mX11_init.2.1 268 = .ok (.newarray .int, 2) := by decide +kernel
theorem dX11_init_270 : decode mX11_init.2.1 270 = .ok (.putfield 113, 3) := by decide +kernel
theorem dX11_init_273 : decode mX11_init.2.1 273 = .ok (.aload_n 0, 1) := by decide +kernel
theorem dX11_init_274 : decode mX11_init.2.1 274 = .ok (.bipush 106, 2) := by decide +kernel
theorem dX11_init_276 : decode mX11_init.2.1 276 = .ok (.newarray .int, 2) := by decide +kernel
theorem dX11_init_278 : decode mX11_init.2.1 278 = .ok (.putfield 116, 3) := by decide +kernel
theorem dX11_init_281 : decode mX11_init.2.1 281 = .ok (.aload_n 0, 1) := by decide +kernel
theorem dX11_init_282 : decode mX11_init.2.1 282 = .ok (.bipush 24, 2) := by decide +kernel
theorem dX11_init_284 : decode mX11_init.2.1 284 = .ok (.newarray .int, 2) := by decide +kernel
theorem dX11_init_286 : decode mX11_init.2.1 286 = .ok (.putfield 119, 3) := by decide +kernel
theorem dX11_init_289 : decode mX11_init.2.1 289 = .ok (.aload_n 0, 1) := by decide +kernel
theorem dX11_init_290 : decode mX11_init.2.1 290 = .ok (.sipush 576, 3) := by decide +kernel
theorem dX11_init_293 : decode mX11_init.2.1 293 = .ok (.newarray .boolean, 2) := by decide +kernel
theorem dX11_init_295 : decode mX11_init.2.1 295 = .ok (.putfield 122, 3) := by decide +kernel
theorem dX11_init_298 : decode mX11_init.2.1 298 = .ok (.aload_n 0, 1) := by decide +kernel
theorem dX11_init_299 : decode mX11_init.2.1 299 = .ok (.bipush 24, 2) := by decide +kernel
theorem dX11_init_301 : decode mX11_init.2.1 301 = .ok (.newarray .int, 2) := by decide +kernel
theorem dX11_init_303 : decode mX11_init.2.1 303 = .ok (.putfield 125, 3) := by decide +kernel
theorem dX11_init_306 : decode mX11_init.2.1 306 = .ok (.aload_n 0, 1) := by decide +kernel
theorem dX11_init_307 : decode mX11_init.2.1 307 = .ok (.bipush 24, 2) := by decide +kernel
theorem dX11_init_309 : decode mX11_init.2.1 309 = .ok (.newarray .boolean, 2) := by decide +kernel
theorem dX11_init_311 : decode mX11_init.2.1 311 = .ok (.putfield 128, 3) := by decide +kernel
theorem dX11_init_314 : decode mX11_init.2.1 314 = .ok (.aload_n 0, 1) := by decide +kernel
theorem dX11_init_315 : decode mX11_init.2.1 315 = .ok (.bipush 24, 2) := by decide +kernel
theorem dX11_init_317 : decode mX11_init.2.1 317 = .ok (.newarray .int, 2) := by decide +kernel
theorem dX11_init_319 : decode mX11_init.2.1 319 = .ok (.putfield 131, 3) := by decide +kernel
theorem dX11_init_322 : decode mX11_init.2.1 322 = .ok (.aload_n 0, 1) := by decide +kernel
theorem dX11_init_323 : decode mX11_init.2.1 323 = .ok (.bipush 24, 2) := by decide +kernel
theorem dX11_init_325 : decode mX11_init.2.1 325 = .ok (.newarray .int, 2) := by decide +kernel
theorem dX11_init_327 : decode mX11_init.2.1 327 = .ok (.putfield 134, 3) := by decide +kernel
theorem dX11_init_330 : decode mX11_init.2.1 330 = .ok (.aload_n 0, 1) := by decide +kernel
theorem dX11_init_331 : decode mX11_init.2.1 331 = .ok (.bipush 48, 2) := by decide +kernel
theorem dX11_init_333 : decode mX11_init.2.1 333 = .ok (.newarray .int, 2) := by decide +kernel
theorem dX11_init_335 : decode mX11_init.2.1 335 = .ok (.putfield 137, 3) := by decide +kernel
theorem dX11_init_338 : decode mX11_init.2.1 338 = .ok (.aload_n 0, 1) := by decide +kernel
theorem dX11_init_339 : decode mX11_init.2.1 339 = .ok (.sipush 2880, 3) := by decide +kernel
theorem dX11_init_342 : decode mX11_init.2.1 342 = .ok (.newarray .long, 2) := by decide +kernel
theorem dX11_init_344 : decode mX11_init.2.1 344 = .ok (.putfield 140, 3) := by decide +kernel
theorem dX11_init_347 : decode mX11_init.2.1 347 = .ok (.aload_n 0, 1) := by decide +kernel
theorem dX11_init_348 : decode mX11_init.2.1 348 = .ok (.bipush 48, 2) := by decide +kernel
theorem dX11_init_350 : decode mX11_init.2.1 350 = .ok (.newarray .int, 2) := by decide +kernel
theorem dX11_init_352 : decode mX11_init.2.1 352 = .ok (.putfield 143, 3) := by decide +kernel
theorem dX11_init_355 : decode mX11_init.2.1 355 = .ok (.aload_n 0, 1) := by decide +kernel
theorem dX11_init_356 : decode mX11_init.2.1 356 = .ok (.bipush 24, 2) := by decide +kernel
theorem dX11_init_358 : decode mX11_init.2.1 358 = .ok (.newarray .int, 2) := by decide +kernel
theorem dX11_init_360 : decode mX11_init.2.1 360 = .ok (.putfield 146, 3) := by decide +kernel
theorem dX11_init_363 : decode mX11_init.2.1 363 = .ok (.aload_n 0, 1) := by decide +kernel
theorem dX11_init_364 : decode mX11_init.2.1 364 = .ok (.bipush 24, 2) := by decide +kernel
theorem dX11_init_366 : decode mX11_init.2.1 366 = .ok (.newarray .int, 2) := by decide +kernel
theorem dX11_init_368 : decode mX11_init.2.1 368 = .ok (.putfield 149, 3) := by decide +kernel
theorem dX11_init_371 : decode mX11_init.2.1 371 = .ok (.aload_n 0, 1) := by decide +kernel
theorem dX11_init_372 : decode mX11_init.2.1 372 = .ok (.bipush 24, 2) := by decide +kernel
theorem dX11_init_374 : decode mX11_init.2.1 374 = .ok (.newarray .int, 2) := by decide +kernel
theorem dX11_init_376 : decode mX11_init.2.1 376 = .ok (.putfield 152, 3) := by decide +kernel
theorem dX11_init_379 : decode mX11_init.2.1 379 = .ok (.aload_n 0, 1) := by decide +kernel
theorem dX11_init_380 : decode mX11_init.2.1 380 = .ok (.bipush 24, 2) := by decide +kernel
theorem dX11_init_382 : decode mX11_init.2.1 382 = .ok (.newarray .boolean, 2) := by decide +kernel
theorem dX11_init_384 : decode mX11_init.2.1 384 = .ok (.putfield 155, 3) := by decide +kernel
theorem dX11_init_387 : decode mX11_init.2.1 387 = .ok (.aload_n 0, 1) := by decide +kernel
theorem dX11_init_388 : decode mX11_init.2.1 388 = .ok (.bipush 24, 2) := by decide +kernel
theorem dX11_init_390 : decode mX11_init.2.1 390 = .ok (.newarray .boolean, 2) := by decide +kernel
theorem dX11_init_392 : decode mX11_init.2.1 392 = .ok (.putfield 158, 3) := by decide +kernel
theorem dX11_init_395 : decode mX11_init.2.1 395 = .ok (.aload_n 0, 1) := by decide +kernel
theorem dX11_init_396 : decode mX11_init.2.1 396 = .ok (.bipush 24, 2) := by decide +kernel
theorem dX11_init_398 : decode mX11_init.2.1 398 = .ok (.newarray .int, 2) := by decide +kernel
theorem dX11_init_400 : decode mX11_init.2.1 400 = .ok (.putfield 161, 3) := by decide +kernel
theorem dX11_init_403 : decode mX11_init.2.1 403 = .ok (.aload_n 0, 1) := by decide +kernel
theorem dX11_init_404 : decode mX11_init.2.1 404 = .ok (.bipush 24, 2) := by decide +kernel
theorem dX11_init_406 : decode mX11_init.2.1 406 = .ok (.newarray .long, 2) := by decide +kernel
theorem dX11_init_408 : decode mX11_init.2.1 408 = .ok (.putfield 164, 3) := by decide +kernel
theorem dX11_init_411 : decode mX11_init.2.1 411 = .ok (.aload_n 0, 1) := by decide +kernel
theorem dX11_init_412 : decode mX11_init.2.1 412 = .ok (.bipush 24, 2) := by decide +kernel
theorem dX11_init_414 : decode mX11_init.2.1 414 = .ok (.newarray .long, 2) := by decide +kernel
theorem dX11_init_416 : decode mX11_init.2.1 416 = .ok (.putfield 167, 3) := by decide +kernel
theorem dX11_init_419 : decode mX11_init.2.1 419 = .ok (.aload_n 0, 1) := by decide +kernel
theorem dX11_init_420 : decode mX11_init.2.1 420 = .ok (.bipush 24, 2) := by decide +kernel
theorem dX11_init_422 : decode mX11_init.2.1 422 = .ok (.newarray .int, 2) := by decide +kernel
theorem dX11_init_424 : decode mX11_init.2.1 424 = .ok (.putfield 170, 3) := by decide +kernel
theorem dX11_init_427 : decode mX11_init.2.1 427 = .ok (.aload_n 0, 1) := by decide +kernel
theorem dX11_init_428 : decode mX11_init.2.1 428 = .ok (.bipush 24, 2) := by decide +kernel
theorem dX11_init_430 : decode mX11_init.2.1 430 = .ok (.newarray .long, 2) := by decide +kernel
theorem dX11_init_432 : decode mX11_init.2.1 432 = .ok (.putfield 173, 3) := by decide +kernel
theorem dX11_init_435 : decode mX11_init.2.1 435 = .ok (.aload_n 0, 1) := by decide +kernel
theorem dX11_init_436 : decode mX11_init.2.1 436 = .ok (.bipush 24, 2) := by decide +kernel
theorem dX11_init_438 : decode mX11_init.2.1 438 = .ok (.newarray .long, 2) := by decide +kernel
theorem dX11_init_440 : decode mX11_init.2.1 440 = .ok (.putfield 176, 3) := by decide +kernel
theorem dX11_init_443 : decode mX11_init.2.1 443 = .ok (.aload_n 0, 1) := by decide +kernel
theorem dX11_init_444 : decode mX11_init.2.1 444 = .ok (.bipush 24, 2) := by decide +kernel
theorem dX11_init_446 : decode mX11_init.2.1 446 = .ok (.newarray .int, 2) := by decide +kernel
theorem dX11_init_448 : decode mX11_init.2.1 448 = .ok (.putfield 179, 3) := by decide +kernel
theorem dX11_init_451 : decode mX11_init.2.1 451 = .ok (.aload_n 0, 1) := by decide +kernel
theorem dX11_init_452 : decode mX11_init.2.1 452 = .ok (.iconst (-1), 1) := by decide +kernel
theorem dX11_init_453 : decode mX11_init.2.1 453 = .ok (.putfield 182, 3) := by decide +kernel
theorem dX11_init_456 : decode mX11_init.2.1 456 = .ok (.aload_n 0, 1) := by decide +kernel
theorem dX11_init_457 : decode mX11_init.2.1 457 = .ok (.sipush 256, 3) := by decide +kernel
theorem dX11_init_460 : decode mX11_init.2.1 460 = .ok (.newarray .long, 2) := by decide +kernel
theorem dX11_init_462 : decode mX11_init.2.1 462 = .ok (.putfield 185, 3) := by decide +kernel
theorem dX11_init_465 : decode mX11_init.2.1 465 = .ok (.aload_n 0, 1) := by decide +kernel
theorem dX11_init_466 : decode mX11_init.2.1 466 = .ok (.sipush 256, 3) := by decide +kernel
theorem dX11_init_469 : decode mX11_init.2.1 469 = .ok (.newarray .long, 2) := by decide +kernel
theorem dX11_init_471 : decode mX11_init.2.1 471 = .ok (.putfield 188, 3) := by decide +kernel
theorem dX11_init_474 : decode mX11_init.2.1 474 = .ok (.aload_n 0, 1) := by decide +kernel
theorem dX11_init_475 : decode mX11_init.2.1 475 = .ok (.sipush 256, 3) := by decide +kernel
theorem dX11_init_478 : decode mX11_init.2.1 478 = .ok (.newarray .boolean, 2) := by decide +kernel
theorem dX11_init_480 : decode mX11_init.2.1 480 = .ok (.putfield 191, 3) := by decide +kernel
theorem dX11_init_483 : decode mX11_init.2.1 483 = .ok (.aload_n 0, 1) := by decide +kernel
theorem dX11_init_484 : decode mX11_init.2.1 484 = .ok (.bipush 16, 2) := by decide +kernel
theorem dX11_init_486 : decode mX11_init.2.1 486 = .ok (.newarray .long, 2) := by decide +kernel
theorem dX11_init_488 : decode mX11_init.2.1 488 = .ok (.putfield 194, 3) := by decide +kernel
theorem dX11_init_491 : decode mX11_init.2.1 491 = .ok (.aload_n 0, 1) := by decide +kernel
theorem dX11_init_492 : decode mX11_init.2.1 492 = .ok (.bipush 16, 2) := by decide +kernel
theorem dX11_init_494 : decode mX11_init.2.1 494 = .ok (.newarray .long, 2) := by decide +kernel
theorem dX11_init_496 : decode mX11_init.2.1 496 = .ok (.putfield 197, 3) := by decide +kernel
theorem dX11_init_499 : decode mX11_init.2.1 499 = .ok (.aload_n 0, 1) := by decide +kernel
theorem dX11_init_500 : decode mX11_init.2.1 500 = .ok (.bipush 16, 2) := by decide +kernel
theorem dX11_init_502 : decode mX11_init.2.1 502 = .ok (.newarray .int, 2) := by decide +kernel
theorem dX11_init_504 : decode mX11_init.2.1 504 = .ok (.putfield 200, 3) := by decide +kernel
theorem dX11_init_507 : decode mX11_init.2.1 507 = .ok (.aload_n 0, 1) := by decide +kernel
theorem dX11_init_508 : decode mX11_init.2.1 508 = .ok (.bipush 16, 2) := by decide +kernel
theorem dX11_init_510 : decode mX11_init.2.1 510 = .ok (.newarray .int, 2) := by decide +kernel
theorem dX11_init_512 : decode mX11_init.2.1 512 = .ok (.putfield 203, 3) := by decide +kernel
theorem dX11_init_515 : decode mX11_init.2.1 515 = .ok (.aload_n 0, 1) := by decide +kernel
theorem dX11_init_516 : decode mX11_init.2.1 516 = .ok (.bipush 8, 2) := by decide +kernel
theorem dX11_init_518 : decode mX11_init.2.1 518 = .ok (.newarray .int, 2) := by decide +kernel
theorem dX11_init_520 : decode mX11_init.2.1 520 = .ok (.putfield 206, 3) := by decide +kernel
theorem dX11_init_523 : decode mX11_init.2.1 523 = .ok (.aload_n 0, 1) := by decide +kernel
theorem dX11_init_524 : decode mX11_init.2.1 524 = .ok (.bipush 8, 2) := by decide +kernel
theorem dX11_init_526 : decode mX11_init.2.1 526 = .ok (.newarray .int, 2) := by decide +kernel
theorem dX11_init_528 : decode mX11_init.2.1 528 = .ok (.putfield 209, 3) := by decide +kernel
theorem dX11_init_531 : decode mX11_init.2.1 531 = .ok (.aload_n 0, 1) := by decide +kernel
theorem dX11_init_532 : decode mX11_init.2.1 532 = .ok (.sipush 2400, 3) := by decide +kernel
theorem dX11_init_535 : decode mX11_init.2.1 535 = .ok (.newarray .long, 2) := by decide +kernel
theorem dX11_init_537 : decode mX11_init.2.1 537 = .ok (.putfield 212, 3) := by decide +kernel
theorem dX11_init_540 : decode mX11_init.2.1 540 = .ok (.aload_n 0, 1) := by decide +kernel
theorem dX11_init_541 : decode mX11_init.2.1 541 = .ok (.sipush 300, 3) := by decide +kernel
theorem dX11_init_544 : decode mX11_init.2.1 544 = .ok (.newarray .long, 2) := by decide +kernel
theorem dX11_init_546 : decode mX11_init.2.1 546 = .ok (.putfield 215, 3) := by decide +kernel
theorem dX11_init_549 : decode mX11_init.2.1 549 = .ok (.return_, 1) := by decide +kernel
theorem fn_X11_7 : nFp mX11_init 7 11 1 (.array .long) := ⟨RX11, TX11, 101, rfl, by decide, ux_11, (gm 1229 (by decide +kernel) rfl), Or.inr ⟨rfl, rfl, rfl⟩, by decide +kernel, ⟨tyX11, tyX11_ok⟩, nmX11⟩
theorem fn_X11_13 : nFp mX11_init 13 11 2 (.array .int) := ⟨RX11, TX11, 101, rfl, by decide, ux_11, (gm 1230 (by decide +kernel) rfl), Or.inr ⟨rfl, rfl, rfl⟩, by decide +kernel, ⟨tyX11, tyX11_ok⟩, nmX11⟩
theorem fn_X11_17 : nFp mX11_init 17 11 3 (.array .int) := ⟨RX11, TX11, 101, rfl, by decide, ux_11, (gm 1231 (by decide +kernel) rfl), Or.inr ⟨rfl, rfl, rfl⟩, by decide +kernel, ⟨tyX11, tyX11_ok⟩, nmX11⟩
theorem fn_X11_20 : nFp mX11_init 20 11 4 (.array .boolean) := ⟨RX11, TX11, 101, rfl, by decide, ux_11, (gm 1232 (by decide +kernel) rfl), Or.inr ⟨rfl, rfl, rfl⟩, by decide +kernel, ⟨tyX11, tyX11_ok⟩, nmX11⟩
theorem fn_X11_24 : nFp mX11_init 24 11 6 (.array .long) := ⟨RX11, TX11, 101, rfl, by decide, ux_11, (gm 1234 (by decide +kernel) rfl), Or.inr ⟨rfl, rfl, rfl⟩, by decide +kernel, ⟨tyX11, tyX11_ok⟩, nmX11⟩
theorem fn_X11_27 : nFp mX11_init 27 11 7 (.array .int) := ⟨RX11, TX11, 101, rfl, by decide, ux_11, (gm 1235 (by decide +kernel) rfl), Or.inr ⟨rfl, rfl, rfl⟩, by decide +kernel, ⟨tyX11, tyX11_ok⟩, nmX11⟩
theorem fn_X11_30 : nFp mX11_init 30 11 8 (.array .int) := ⟨RX11, TX11, 101, rfl, by decide, ux_11, (gm 1236 (by decide +kernel) rfl), Or.inr ⟨rfl, rfl, rfl⟩, by decide +kernel, ⟨tyX11, tyX11_ok⟩, nmX11⟩
theorem fn_X11_33 : nFp mX11_init 33 11 10 (.array .int) := ⟨RX11, TX11, 101, rfl, by decide, ux_11, (gm 1238 (by decide +kernel) rfl), Or.inr ⟨rfl, rfl, rfl⟩, by decide +kernel, ⟨tyX11, tyX11_ok⟩, nmX11⟩
theorem fn_X11_36 : nFp mX11_init 36 11 11 (.array .int) := ⟨RX11, TX11, 101, rfl, by decide, ux_11, (gm 1239 (by decide +kernel) rfl), Or.inr ⟨rfl, rfl, rfl⟩, by decide +kernel, ⟨tyX11, tyX11_ok⟩, nmX11⟩
theorem fn_X11_39 : nFp mX11_init 39 11 13 (.array .int) := ⟨RX11, TX11, 101, rfl, by decide, ux_11, (gm 1241 (by decide +kernel) rfl), Or.inr ⟨rfl, rfl, rfl⟩, by decide +kernel, ⟨tyX11, tyX11_ok⟩, nmX11⟩
theorem fn_X11_42 : nFp mX11_init 42 11 14 (.array .int) := ⟨RX11, TX11, 101, rfl, by decide, ux_11, (gm 1242 (by decide +kernel) rfl), Or.inr ⟨rfl, rfl, rfl⟩, by decide +kernel, ⟨tyX11, tyX11_ok⟩, nmX11⟩
theorem fn_X11_45 : nFp mX11_init 45 11 15 (.array .int) := ⟨RX11, TX11, 101, rfl, by decide, ux_11, (gm 1243 (by decide +kernel) rfl), Or.inr ⟨rfl, rfl, rfl⟩, by decide +kernel, ⟨tyX11, tyX11_ok⟩, nmX11⟩
theorem fn_X11_48 : nFp mX11_init 48 11 17 (.array .int) := ⟨RX11, TX11, 101, rfl, by decide, ux_11, (gm 1245 (by decide +kernel) rfl), Or.inr ⟨rfl, rfl, rfl⟩, by decide +kernel, ⟨tyX11, tyX11_ok⟩, nmX11⟩
theorem fn_X11_51 : nFp mX11_init 51 11 18 (.array .int) := ⟨RX11, TX11, 101, rfl, by decide, ux_11, (gm 1246 (by decide +kernel) rfl), Or.inr ⟨rfl, rfl, rfl⟩, by decide +kernel, ⟨tyX11, tyX11_ok⟩, nmX11⟩
theorem fn_X11_54 : nFp mX11_init 54 11 19 .int := ⟨RX11, TX11, 101, rfl, by decide, ux_11, (gm 1247 (by decide +kernel) rfl), Or.inl rfl, by decide +kernel, ⟨tyX11, tyX11_ok⟩, nmX11⟩
theorem fn_X11_58 : nFp mX11_init 58 11 20 .int := ⟨RX11, TX11, 101, rfl, by decide, ux_11, (gm 1248 (by decide +kernel) rfl), Or.inl rfl, by decide +kernel, ⟨tyX11, tyX11_ok⟩, nmX11⟩
theorem fn_X11_61 : nFp mX11_init 61 11 22 (.array .long) := ⟨RX11, TX11, 101, rfl, by decide, ux_11, (gm 1250 (by decide +kernel) rfl), Or.inr ⟨rfl, rfl, rfl⟩, by decide +kernel, ⟨tyX11, tyX11_ok⟩, nmX11⟩
theorem fn_X11_64 : nFp mX11_init 64 11 23 (.array .int) := ⟨RX11, TX11, 101, rfl, by decide, ux_11, (gm 1251 (by decide +kernel) rfl), Or.inr ⟨rfl, rfl, rfl⟩, by decide +kernel, ⟨tyX11, tyX11_ok⟩, nmX11⟩
theorem fn_X11_67 : nFp mX11_init 67 11 24 (.array .int) := ⟨RX11, TX11, 101, rfl, by decide, ux_11, (gm 1252 (by decide +kernel) rfl), Or.inr ⟨rfl, rfl, rfl⟩, by decide +kernel, ⟨tyX11, tyX11_ok⟩, nmX11⟩
theorem fn_X11_70 : nFp mX11_init 70 11 25 (.array .boolean) := ⟨RX11, TX11, 101, rfl, by decide, ux_11, (gm 1253 (by decide +kernel) rfl), Or.inr ⟨rfl, rfl, rfl⟩, by decide +kernel, ⟨tyX11, tyX11_ok⟩, nmX11⟩
theorem fn_X11_73 : nFp mX11_init 73 11 27 (.array .long) := ⟨RX11, TX11, 101, rfl, by decide, ux_11, (gm 1255 (by decide +kernel) rfl), Or.inr ⟨rfl, rfl, rfl⟩, by decide +kernel, ⟨tyX11, tyX11_ok⟩, nmX11⟩
theorem fn_X11_76 : nFp mX11_init 76 11 28 (.array .int) := ⟨RX11, TX11, 101, rfl, by decide, ux_11, (gm 1256 (by decide +kernel) rfl), Or.inr ⟨rfl, rfl, rfl⟩, by decide +kernel, ⟨tyX11, tyX11_ok⟩, nmX11⟩
theorem fn_X11_79 : nFp mX11_init 79 11 29 (.array .int) := ⟨RX11, TX11, 101, rfl, by decide, ux_11, (gm 1257 (by decide +kernel) rfl), Or.inr ⟨rfl, rfl, rfl⟩, by decide +kernel, ⟨tyX11, tyX11_ok⟩, nmX11⟩
theorem fn_X11_82 : nFp mX11_init 82 11 31 (.array .int) := ⟨RX11, TX11, 101, rfl, by decide, ux_11, (gm 1259 (by decide +kernel) rfl), Or.inr ⟨rfl, rfl, rfl⟩, by decide +kernel, ⟨tyX11, tyX11_ok⟩, nmX11⟩
theorem fn_X11_85 : nFp mX11_init 85 11 32 (.array .int) := ⟨RX11, TX11, 101, rfl, by decide, ux_11, (gm 1260 (by decide +kernel) rfl), Or.inr ⟨rfl, rfl, rfl⟩, by decide +kernel, ⟨tyX11, tyX11_ok⟩, nmX11⟩
theorem fn_X11_88 : nFp mX11_init 88 11 34 (.array .int) := ⟨RX11, TX11, 101, rfl, by decide, ux_11, (gm 1262 (by decide +kernel) rfl), Or.inr ⟨rfl, rfl, rfl⟩, by decide +kernel, ⟨tyX11, tyX11_ok⟩, nmX11⟩
theorem fn_X11_91 : nFp mX11_init 91 11 35 (.array .int) := ⟨RX11, TX11, 101, rfl, by decide, ux_11, (gm 1263 (by decide +kernel) rfl), Or.inr ⟨rfl, rfl, rfl⟩, by decide +kernel, ⟨tyX11, tyX11_ok⟩, nmX11⟩
theorem fn_X11_94 : nFp mX11_init 94 11 36 (.array .int) := ⟨RX11, TX11, 101, rfl, by decide, ux_11, (gm 1264 (by decide +kernel) rfl), Or.inr ⟨rfl, rfl, rfl⟩, by decide +kernel, ⟨tyX11, tyX11_ok⟩, nmX11⟩
theorem fn_X11_97 : nFp mX11_init 97 11 38 (.array .int) := ⟨RX11, TX11, 101, rfl, by decide, ux_11, (gm 1266 (by decide +kernel) rfl), Or.inr ⟨rfl, rfl, rfl⟩, by decide +kernel, ⟨tyX11, tyX11_ok⟩, nmX11⟩
theorem fn_X11_100 : nFp mX11_init 100 11 39 (.array .int) := ⟨RX11, TX11, 101, rfl, by decide, ux_11, (gm 1267 (by decide +kernel) rfl), Or.inr ⟨rfl, rfl, rfl⟩, by decide +kernel, ⟨tyX11, tyX11_ok⟩, nmX11⟩
theorem fn_X11_103 : nFp mX11_init 103 11 42 (.array .int) := ⟨RX11, TX11, 101, rfl, by decide, ux_11, (gm 1270 (by decide +kernel) rfl), Or.inr ⟨rfl, rfl, rfl⟩, by decide +kernel, ⟨tyX11, tyX11_ok⟩, nmX11⟩
theorem fn_X11_107 : nFp mX11_init 107 11 50 .int := ⟨RX11, TX11, 101, rfl, by decide, ux_11, (gm 1278 (by decide +kernel) rfl), Or.inl rfl, by decide +kernel, ⟨tyX11, tyX11_ok⟩, nmX11⟩
theorem fn_X11_110 : nFp mX11_init 110 11 54 (.array .int) := ⟨RX11, TX11, 101, rfl, by decide, ux_11, (gm 1282 (by decide +kernel) rfl), Or.inr ⟨rfl, rfl, rfl⟩, by decide +kernel, ⟨tyX11, tyX11_ok⟩, nmX11⟩
theorem fn_X11_113 : nFp mX11_init 113 11 55 (.array .int) := ⟨RX11, TX11, 101, rfl, by decide, ux_11, (gm 1283 (by decide +kernel) rfl), Or.inr ⟨rfl, rfl, rfl⟩, by decide +kernel, ⟨tyX11, tyX11_ok⟩, nmX11⟩
theorem fn_X11_116 : nFp mX11_init 116 11 56 (.array .int) := ⟨RX11, TX11, 101, rfl, by decide, ux_11, (gm 1284 (by decide +kernel) rfl), Or.inr ⟨rfl, rfl, rfl⟩, by decide +kernel, ⟨tyX11, tyX11_ok⟩, nmX11⟩
theorem fn_X11_119 : nFp mX11_init 119 11 58 (.array .int) := ⟨RX11, TX11, 101, rfl, by decide, ux_11, (gm 1286 (by decide +kernel) rfl), Or.inr ⟨rfl, rfl, rfl⟩, by decide +kernel, ⟨tyX11, tyX11_ok⟩, nmX11⟩
theorem fn_X11_122 : nFp mX11_init 122 11 59 (.array .boolean) := ⟨RX11, TX11, 101, rfl, by decide, ux_11, (gm 1287 (by decide +kernel) rfl), Or.inr ⟨rfl, rfl, rfl⟩, by decide +kernel, ⟨tyX11, tyX11_ok⟩, nmX11⟩
theorem fn_X11_125 : nFp mX11_init 125 11 60 (.array .int) := ⟨RX11, TX11, 101, rfl, by decide, ux_11, (gm 1288 (by decide +kernel) rfl), Or.inr ⟨rfl, rfl, rfl⟩, by decide +kernel, ⟨tyX11, tyX11_ok⟩, nmX11⟩
theorem fn_X11_128 : nFp mX11_init 128 11 61 (.array .boolean) := ⟨RX11, TX11, 101, rfl, by decide, ux_11, (gm 1289 (by decide +kernel) rfl), Or.inr ⟨rfl, rfl, rfl⟩, by decide +kernel, ⟨tyX11, tyX11_ok⟩, nmX11⟩
theorem fn_X11_131 : nFp mX11_init 131 11 62 (.array .int) := ⟨RX11, TX11, 101, rfl, by decide, ux_11, (gm 1290 (by decide +kernel) rfl), Or.inr ⟨rfl, rfl, rfl⟩, by decide +kernel, ⟨tyX11, tyX11_ok⟩, nmX11⟩
theorem fn_X11_134 : nFp mX11_init 134 11 64 (.array .int) := ⟨RX11, TX11, 101, rfl, by decide, ux_11, (gm 1292 (by decide +kernel) rfl), Or.inr ⟨rfl, rfl, rfl⟩, by decide +kernel, ⟨tyX11, tyX11_ok⟩, nmX11⟩
theorem fn_X11_137 : nFp mX11_init 137 11 65 (.array .int) := ⟨RX11, TX11, 101, rfl, by decide, ux_11, (gm 1293 (by decide +kernel) rfl), Or.inr ⟨rfl, rfl, rfl⟩, by decide +kernel, ⟨tyX11, tyX11_ok⟩, nmX11⟩
theorem fn_X11_140 : nFp mX11_init 140 11 66 (.array .long) := ⟨RX11, TX11, 101, rfl, by decide, ux_11, (gm 1294 (by decide +kernel) rfl), Or.inr ⟨rfl, rfl, rfl⟩, by decide +kernel, ⟨tyX11, tyX11_ok⟩, nmX11⟩
theorem fn_X11_143 : nFp mX11_init 143 11 68 (.array .int) := ⟨RX11, TX11, 101, rfl, by decide, ux_11, (gm 1296 (by decide +kernel) rfl), Or.inr ⟨rfl, rfl, rfl⟩, by decide +kernel, ⟨tyX11, tyX11_ok⟩, nmX11⟩
theorem fn_X11_146 : nFp mX11_init 146 11 70 (.array .int) := ⟨RX11, TX11, 101, rfl, by decide, ux_11, (gm 1298 (by decide +kernel) rfl), Or.inr ⟨rfl, rfl, rfl⟩, by decide +kernel, ⟨tyX11, tyX11_ok⟩, nmX11⟩
theorem fn_X11_149 : nFp mX11_init 149 11 71 (.array .int) := ⟨RX11, TX11, 101, rfl, by decide, ux_11, (gm 1299 (by decide +kernel) rfl), Or.inr ⟨rfl, rfl, rfl⟩, by decide +kernel, ⟨tyX11, tyX11_ok⟩, nmX11⟩
theorem fn_X11_152 : nFp mX11_init 152 11 72 (.array .int) := ⟨RX11, TX11, 101, rfl, by decide, ux_11, (gm 1300 (by decide +kernel) rfl), Or.inr ⟨rfl, rfl, rfl⟩, by decide +kernel, ⟨tyX11, tyX11_ok⟩, nmX11⟩
theorem fn_X11_155 : nFp mX11_init 155 11 73 (.array .boolean) := ⟨RX11, TX11, 101, rfl, by decide, ux_11, (gm 1301 (by decide +kernel) rfl), Or.inr ⟨rfl, rfl, rfl⟩, by decide +kernel, ⟨tyX11, tyX11_ok⟩, nmX11⟩
theorem fn_X11_158 : nFp mX11_init 158 11 74 (.array .boolean) := ⟨RX11, TX11, 101, rfl, by decide, ux_11, (gm 1302 (by decide +kernel) rfl), Or.inr ⟨rfl, rfl, rfl⟩, by decide +kernel, ⟨tyX11, tyX11_ok⟩, nmX11⟩
theorem fn_X11_161 : nFp mX11_init 161 11 75 (.array .int) := ⟨RX11, TX11, 101, rfl, by decide, ux_11, (gm 1303 (by decide +kernel) rfl), Or.inr ⟨rfl, rfl, rfl⟩, by decide +kernel, ⟨tyX11, tyX11_ok⟩, nmX11⟩
theorem fn_X11_164 : nFp mX11_init 164 11 78 (.array .long) := ⟨RX11, TX11, 101, rfl, by decide, ux_11, (gm 1306 (by decide +kernel) rfl), Or.inr ⟨rfl, rfl, rfl⟩, by decide +kernel, ⟨tyX11, tyX11_ok⟩, nmX11⟩
theorem fn_X11_167 : nFp mX11_init 167 11 79 (.array .long) := ⟨RX11, TX11, 101, rfl, by decide, ux_11, (gm 1307 (by decide +kernel) rfl), Or.inr ⟨rfl, rfl, rfl⟩, by decide +kernel, ⟨tyX11, tyX11_ok⟩, nmX11⟩
theorem fn_X11_170 : nFp mX11_init 170 11 80 (.array .int) := ⟨RX11, TX11, 101, rfl, by decide, ux_11, (gm 1308 (by decide +kernel) rfl), Or.inr ⟨rfl, rfl, rfl⟩, by decide +kernel, ⟨tyX11, tyX11_ok⟩, nmX11⟩
theorem fn_X11_173 : nFp mX11_init 173 11 82 (.array .long) := ⟨RX11, TX11, 101, rfl, by decide, ux_11, (gm 1310 (by decide +kernel) rfl), Or.inr ⟨rfl, rfl, rfl⟩, by decide +kernel, ⟨tyX11, tyX11_ok⟩, nmX11⟩
theorem fn_X11_176 : nFp mX11_init 176 11 83 (.array .long) := ⟨RX11, TX11, 101, rfl, by decide, ux_11, (gm 1311 (by decide +kernel) rfl), Or.inr ⟨rfl, rfl, rfl⟩, by decide +kernel, ⟨tyX11, tyX11_ok⟩, nmX11⟩
theorem fn_X11_179 : nFp mX11_init 179 11 84 (.array .int) := ⟨RX11, TX11, 101, rfl, by decide, ux_11, (gm 1312 (by decide +kernel) rfl), Or.inr ⟨rfl, rfl, rfl⟩, by decide +kernel, ⟨tyX11, tyX11_ok⟩, nmX11⟩
theorem fn_X11_182 : nFp mX11_init 182 11 85 .int := ⟨RX11, TX11, 101, rfl, by decide, ux_11, (gm 1313 (by decide +kernel) rfl), Or.inl rfl, by decide +kernel, ⟨tyX11, tyX11_ok⟩, nmX11⟩
theorem fn_X11_185 : nFp mX11_init 185 11 86 (.array .long) := ⟨RX11, TX11, 101, rfl, by decide, ux_11, (gm 1314 (by decide +kernel) rfl), Or.inr ⟨rfl, rfl, rfl⟩, by decide +kernel, ⟨tyX11, tyX11_ok⟩, nmX11⟩
theorem fn_X11_188 : nFp mX11_init 188 11 87 (.array .long) := ⟨RX11, TX11, 101, rfl, by decide, ux_11, (gm 1315 (by decide +kernel) rfl), Or.inr ⟨rfl, rfl, rfl⟩, by decide +kernel, ⟨tyX11, tyX11_ok⟩, nmX11⟩
theorem fn_X11_191 : nFp mX11_init 191 11 88 (.array .boolean) := ⟨RX11, TX11, 101, rfl, by decide, ux_11, (gm 1316 (by decide +kernel) rfl), Or.inr ⟨rfl, rfl, rfl⟩, by decide +kernel, ⟨tyX11, tyX11_ok⟩, nmX11⟩
theorem fn_X11_194 : nFp mX11_init 194 11 89 (.array .long) := ⟨RX11, TX11, 101, rfl, by decide, ux_11, (gm 1317 (by decide +kernel) rfl), Or.inr ⟨rfl, rfl, rfl⟩, by decide +kernel, ⟨tyX11, tyX11_ok⟩, nmX11⟩
theorem fn_X11_197 : nFp mX11_init 197 11 90 (.array .long) := ⟨RX11, TX11, 101, rfl, by decide, ux_11, (gm 1318 (by decide +kernel) rfl), Or.inr ⟨rfl, rfl, rfl⟩, by decide +kernel, ⟨tyX11, tyX11_ok⟩, nmX11⟩
theorem fn_X11_200 : nFp mX11_init 200 11 91 (.array .int) := ⟨RX11, TX11, 101, rfl, by decide, ux_11, (gm 1319 (by decide +kernel) rfl), Or.inr ⟨rfl, rfl, rfl⟩, by decide +kernel, ⟨tyX11, tyX11_ok⟩, nmX11⟩
theorem fn_X11_203 : nFp mX11_init 203 11 95 (.array .int) := ⟨RX11, TX11, 101, rfl, by decide, ux_11, (gm 1323 (by decide +kernel) rfl), Or.inr ⟨rfl, rfl, rfl⟩, by decide +kernel, ⟨tyX11, tyX11_ok⟩, nmX11⟩
theorem fn_X11_206 : nFp mX11_init 206 11 97 (.array .int) := ⟨RX11, TX11, 101, rfl, by decide, ux_11, (gm 1325 (by decide +kernel) rfl), Or.inr ⟨rfl, rfl, rfl⟩, by decide +kernel, ⟨tyX11, tyX11_ok⟩, nmX11⟩
theorem fn_X11_209 : nFp mX11_init 209 11 98 (.array .int) := ⟨RX11, TX11, 101, rfl, by decide, ux_11, (gm 1326 (by decide +kernel) rfl), Or.inr ⟨rfl, rfl, rfl⟩, by decide +kernel, ⟨tyX11, tyX11_ok⟩, nmX11⟩
theorem fn_X11_212 : nFp mX11_init 212 11 99 (.array .long) := ⟨RX11, TX11, 101, rfl, by decide, ux_11, (gm 1327 (by decide +kernel) rfl), Or.inr ⟨rfl, rfl, rfl⟩, by decide +kernel, ⟨tyX11, tyX11_ok⟩, nmX11⟩
theorem fn_X11_215 : nFp mX11_init 215 11 100 (.array .long) := ⟨RX11, TX11, 101, rfl, by decide, ux_11, (gm 1328 (by decide +kernel) rfl), Or.inr ⟨rfl, rfl, rfl⟩, by decide +kernel, ⟨tyX11, tyX11_ok⟩, nmX11⟩
def tX11 (cy : Nat → ClassId) (b : Nat) : List va_E := .inr (11, ((((((((((((((((((((((((((((((((((((((((((((((((((((((((((((((((((((dX11).set 1 (.ref (b + 1 + 0))).set 2 (.ref (b + 1 + (0 + 1)))).set 3 (.ref (b + 1 + ((0 + 1) + 1)))).set 4 (.ref (b + 1 + (((0 + 1) + 1) + 1)))).set 6 (.ref (b + 1 + ((((0 + 1) + 1) + 1) + 1)))).set 7 (.ref (b + 1 + (((((0 + 1) + 1) + 1) + 1) + 1)))).set 8 (.ref (b + 1 + ((((((0 + 1) + 1) + 1) + 1) + 1) + 1)))).set 10 (.ref (b + 1 + (((((((0 + 1) + 1) + 1) + 1) + 1) + 1) + 1)))).set 11 (.ref (b + 1 + ((((((((0 + 1) + 1) + 1) + 1) + 1) + 1) + 1) + 1)))).set 13 (.ref (b + 1 + (((((((((0 + 1) + 1) + 1) + 1) + 1) + 1) + 1) + 1) + 1)))).set 14 (.ref (b + 1 + ((((((((((0 + 1) + 1) + 1) + 1) + 1) + 1) + 1) + 1) + 1) + 1)))).set 15 (.ref (b + 1 + (((((((((((0 + 1) + 1) + 1) + 1) + 1) + 1) + 1) + 1) + 1) + 1) + 1)))).set 17 (.ref (b + 1 + ((((((((((((0 + 1) + 1) + 1) + 1) + 1) + 1) + 1) + 1) + 1) + 1) + 1) + 1)))).set 18 (.ref (b + 1 + (((((((((((((0 + 1) + 1) + 1) + 1) + 1) + 1) + 1) + 1) + 1) + 1) + 1) + 1) + 1)))).set 19 (.int (-1))).set 20 (.int (-1))).set 22 (.ref (b + 1 + ((((((((((((((0 + 1) + 1) + 1) + 1) + 1) + 1) + 1) + 1) + 1) + 1) + 1) + 1) + 1) + 1)))).set 23 (.ref (b + 1 + (((((((((((((((0 + 1) + 1) + 1) + 1) + 1) + 1) + 1) + 1) + 1) + 1) + 1) + 1) + 1) + 1) + 1)))).set 24 (.ref (b + 1 + ((((((((((((((((0 + 1) + 1) + 1) + 1) + 1) + 1) + 1) + 1) + 1) + 1) + 1) + 1) + 1) + 1) + 1) + 1)))).set 25 (.ref (b + 1 + (((((((((((((((((0 + 1) + 1) + 1) + 1) + 1) + 1) + 1) + 1) + 1) + 1) + 1) + 1) + 1) + 1) + 1) + 1) + 1)))).set 27 (.ref (b + 1 + ((((((((((((((((((0 + 1) + 1) + 1) + 1) + 1) + 1) + 1) + 1) + 1) + 1) + 1) + 1) + 1) + 1) + 1) + 1) + 1) + 1)))).set 28 (.ref (b + 1 + (((((((((((((((((((0 + 1) + 1) + 1) + 1) + 1) + 1) + 1) + 1) + 1) + 1) + 1) + 1) + 1) + 1) + 1) + 1) + 1) + 1) + 1)))).set 29 (.ref (b + 1 + ((((((((((((((((((((0 + 1) + 1) + 1) + 1) + 1) + 1) + 1) + 1) + 1) + 1) + 1) + 1) + 1) + 1) + 1) + 1) + 1) + 1) + 1) + 1)))).set 31 (.ref (b + 1 + (((((((((((((((((((((0 + 1) + 1) + 1) + 1) + 1) + 1) + 1) + 1) + 1) + 1) + 1) + 1) + 1) + 1) + 1) + 1) + 1) + 1) + 1) + 1) + 1)))).set 32 (.ref (b + 1 + ((((((((((((((((((((((0 + 1) + 1) + 1) + 1) + 1) + 1) + 1) + 1) + 1) + 1) + 1) + 1) + 1) + 1) + 1) + 1) + 1) + 1) + 1) + 1) + 1) + 1)))).set 34 (.ref (b + 1 + (((((((((((((((((((((((0 + 1) + 1) + 1) + 1) + 1) + 1) + 1) + 1) + 1) + 1) + 1) + 1) + 1) + 1) + 1) + 1) + 1) + 1) + 1) + 1) + 1) + 1) + 1)))).set 35 (.ref (b + 1 + ((((((((((((((((((((((((0 + 1) + 1) + 1) + 1) + 1) + 1) + 1) + 1) + 1) + 1) + 1) + 1) + 1) + 1) + 1) + 1) + 1) + 1) + 1) + 1) + 1) + 1) + 1) + 1)))).set 36 (.ref (b + 1 + (((((((((((((((((((((((((0 + 1) + 1) + 1) + 1) + 1) + 1) + 1) + 1) + 1) + 1) + 1) + 1) + 1) + 1) + 1) + 1) + 1) + 1) + 1) + 1) + 1) + 1) + 1) + 1) + 1)))).set 38 (.ref (b + 1 + ((((((((((((((((((((((((((0 + 1) + 1) + 1) + 1) + 1) + 1) + 1) + 1) + 1) + 1) + 1) + 1) + 1) + 1) + 1) + 1) + 1) + 1) + 1) + 1) + 1) + 1) + 1) + 1) + 1) + 1)))).set 39 (.ref (b + 1 + (((((((((((((((((((((((((((0 + 1) + 1) + 1) + 1) + 1) + 1) + 1) + 1) + 1) + 1) + 1) + 1) + 1) + 1) + 1) + 1) + 1) + 1) + 1) + 1) + 1) + 1) + 1) + 1) + 1) + 1) + 1)))).set 42 (.ref (b + 1 + ((((((((((((((((((((((((((((0 + 1) + 1) + 1) + 1) + 1) + 1) + 1) + 1) + 1) + 1) + 1) + 1) + 1) + 1) + 1) + 1) + 1) + 1) + 1) + 1) + 1) + 1) + 1) + 1) + 1) + 1) + 1) + 1)))).set 50 (.int (-1000000))).set 54 (.ref (b + 1 + (((((((((((((((((((((((((((((0 + 1) + 1) + 1) + 1) + 1) + 1) + 1) + 1) + 1) + 1) + 1) + 1) + 1) + 1) + 1) + 1) + 1) + 1) + 1) + 1) + 1) + 1) + 1) + 1) + 1) + 1) + 1) + 1) + 1)))).set 55 (.ref (b + 1 + ((((((((((((((((((((((((((((((0 + 1) + 1) + 1) + 1) + 1) + 1) + 1) + 1) + 1) + 1) + 1) + 1) + 1) + 1) + 1) + 1) + 1) + 1) + 1) + 1) + 1) + 1) + 1) + 1) + 1) + 1) + 1) + 1) + 1) + 1)))).set 56 (.ref (b + 1 + (((((((((((((((((((((((((((((((0 + 1) + 1) + 1) + 1) + 1) + 1) + 1) + 1) + 1) + 1) + 1) + 1) + 1) + 1) + 1) + 1) + 1) + 1) + 1) + 1) + 1) + 1) + 1) + 1) + 1) + 1) + 1) + 1) + 1) + 1) + 1)))).set 58 (.ref (b + 1 + ((((((((((((((((((((((((((((((((0 + 1) + 1) + 1) + 1) + 1) + 1) + 1) + 1) + 1) + 1) + 1) + 1) + 1) + 1) + 1) + 1) + 1) + 1) + 1) + 1) + 1) + 1) + 1) + 1) + 1) + 1) + 1) + 1) + 1) + 1) + 1) + 1)))).set 59 (.ref (b + 1 + (((((((((((((((((((((((((((((((((0 + 1) + 1) + 1) + 1) + 1) + 1) + 1) + 1) + 1) + 1) + 1) + 1) + 1) + 1) + 1) + 1) + 1) + 1) + 1) + 1) + 1) + 1) + 1) + 1) + 1) + 1) + 1) + 1) + 1) + 1) + 1) + 1) + 1)))).set 60 (.ref (b + 1 + ((((((((((((((((((((((((((((((((((0 + 1) + 1) + 1) + 1) + 1) + 1) + 1) + 1) + 1) + 1) + 1) + 1) + 1) + 1) + 1) + 1) + 1) + 1) + 1) + 1) + 1) + 1) + 1) + 1) + 1) + 1) + 1) + 1) + 1) + 1) + 1) + 1) + 1) + 1)))).set 61 (.ref (b + 1 + (((((((((((((((((((((((((((((((((((0 + 1) + 1) + 1) + 1) + 1) + 1) + 1) + 1) + 1) + 1) + 1) + 1) + 1) + 1) + 1) + 1) + 1) + 1) + 1) + 1) + 1) + 1) + 1) + 1) + 1) + 1) + 1) + 1) + 1) + 1) + 1) + 1) + 1) + 1) + 1)))).set 62 (.ref (b + 1 + ((((((((((((((((((((((((((((((((((((0 + 1) + 1) + 1) + 1) + 1) + 1) + 1) + 1) + 1) + 1) + 1) + 1) + 1) + 1) + 1) + 1) + 1) + 1) + 1) + 1) + 1) + 1) + 1) + 1) + 1) + 1) + 1) + 1) + 1) + 1) + 1) + 1) + 1) + 1) + 1) + 1)))).set 64 (.ref (b + 1 + (((((((((((((((((((((((((((((((((((((0 + 1) + 1) + 1) + 1) + 1) + 1) + 1) + 1) + 1) + 1) + 1) + 1) + 1) + 1) + 1) + 1) + 1) + 1) + 1) + 1) + 1) + 1) + 1) + 1) + 1) + 1) + 1) + 1) + 1) + 1) + 1) + 1) + 1) + 1) + 1) + 1) + 1)))).set 65 (.ref (b + 1 + ((((((((((((((((((((((((((((((((((((((0 + 1) + 1) + 1) + 1) + 1) + 1) + 1) + 1) + 1) + 1) + 1) + 1) + 1) + 1) + 1) + 1) + 1) + 1) + 1) + 1) + 1) + 1) + 1) + 1) + 1) + 1) + 1) + 1) + 1) + 1) + 1) + 1) + 1) + 1) + 1) + 1) + 1) + 1)))).set 66 (.ref (b + 1 + (((((((((((((((((((((((((((((((((((((((0 + 1) + 1) + 1) + 1) + 1) + 1) + 1) + 1) + 1) + 1) + 1) + 1) + 1) + 1) + 1) + 1) + 1) + 1) + 1) + 1) + 1) + 1) + 1) + 1) + 1) + 1) + 1) + 1) + 1) + 1) + 1) + 1) + 1) + 1) + 1) + 1) + 1) + 1) + 1)))).set 68 (.ref (b + 1 + ((((((((((((((((((((((((((((((((((((((((0 + 1) + 1) + 1) + 1) + 1) + 1) + 1) + 1) + 1) + 1) + 1) + 1) + 1) + 1) + 1) + 1) + 1) + 1) + 1) + 1) + 1) + 1) + 1) + 1) + 1) + 1) + 1) + 1) + 1) + 1) + 1) + 1) + 1) + 1) + 1) + 1) + 1) + 1) + 1) + 1)))).set 70 (.ref (b + 1 + (((((((((((((((((((((((((((((((((((((((((0 + 1) + 1) + 1) + 1) + 1) + 1) + 1) + 1) + 1) + 1) + 1) + 1) + 1) + 1) + 1) + 1) + 1) + 1) + 1) + 1) + 1) + 1) + 1) + 1) + 1) + 1) + 1) + 1) + 1) + 1) + 1) + 1) + 1) + 1) + 1) + 1) + 1) + 1) + 1) + 1) + 1)))).set 71 (.ref (b + 1 + ((((((((((((((((((((((((((((((((((((((((((0 + 1) + 1) + 1) + 1) + 1) + 1) + 1) + 1) + 1) + 1) + 1) + 1) + 1) + 1) + 1) + 1) + 1) + 1) + 1) + 1) + 1) + 1) + 1) + 1) + 1) + 1) + 1) + 1) + 1) + 1) + 1) + 1) + 1) + 1) + 1) + 1) + 1) + 1) + 1) + 1) + 1) + 1)))).set 72 (.ref (b + 1 + (((((((((((((((((((((((((((((((((((((((((((0 + 1) + 1) + 1) + 1) + 1) + 1) + 1) + 1) + 1) + 1) + 1) + 1) + 1) + 1) + 1) + 1) + 1) + 1) + 1) + 1) + 1) + 1) + 1) + 1) + 1) + 1) + 1) + 1) + 1) + 1) + 1) + 1) + 1) + 1) + 1) + 1) + 1) + 1) + 1) + 1) + 1) + 1) + 1)))).set 73 (.ref (b + 1 + ((((((((((((((((((((((((((((((((((((((((((((0 + 1) + 1) + 1) + 1) + 1) + 1) + 1) + 1) + 1) + 1) + 1) + 1) + 1) + 1) + 1) + 1) + 1) + 1) + 1) + 1) + 1) + 1) + 1) + 1) + 1) + 1) + 1) + 1) + 1) + 1) + 1) + 1) + 1) + 1) + 1) + 1) + 1) + 1) + 1) + 1) + 1) + 1) + 1) + 1)))).set 74 (.ref (b + 1 + (((((((((((((((((((((((((((((((((((((((((((((0 + 1) + 1) + 1) + 1) + 1) + 1) + 1) + 1) + 1) + 1) + 1) + 1) + 1) + 1) + 1) + 1) + 1) + 1) + 1) + 1) + 1) + 1) + 1) + 1) + 1) + 1) + 1) + 1) + 1) + 1) + 1) + 1) + 1) + 1) + 1) + 1) + 1) + 1) + 1) + 1) + 1) + 1) + 1) + 1) + 1)))).set 75 (.ref (b + 1 + ((((((((((((((((((((((((((((((((((((((((((((((0 + 1) + 1) + 1) + 1) + 1) + 1) + 1) + 1) + 1) + 1) + 1) + 1) + 1) + 1) + 1) + 1) + 1) + 1) + 1) + 1) + 1) + 1) + 1) + 1) + 1) + 1) + 1) + 1) + 1) + 1) + 1) + 1) + 1) + 1) + 1) + 1) + 1) + 1) + 1) + 1) + 1) + 1) + 1) + 1) + 1) + 1)))).set 78 (.ref (b + 1 + (((((((((((((((((((((((((((((((((((((((((((((((0 + 1) + 1) + 1) + 1) + 1) + 1) + 1) + 1) + 1) + 1) + 1) + 1) + 1) + 1) + 1) + 1) + 1) + 1) + 1) + 1) + 1) + 1) + 1) + 1) + 1) + 1) + 1) + 1) + 1) + 1) + 1) + 1) + 1) + 1) + 1) + 1) + 1) + 1) + 1) + 1) + 1) + 1) + 1) + 1) + 1) + 1) + 1)))).set 79 (.ref (b + 1 + ((((((((((((((((((((((((((((((((((((((((((((((((0 + 1) + 1) + 1) + 1) + 1) + 1) + 1) + 1) + 1) + 1) + 1) + 1) + 1) + 1) + 1) + 1) + 1) + 1) + 1) + 1) + 1) + 1) + 1) + 1) + 1) + 1) + 1) + 1) + 1) + 1) + 1) + 1) + 1) + 1) + 1) + 1) + 1) + 1) + 1) + 1) + 1) + 1) + 1) + 1) + 1) + 1) + 1) + 1)))).set 80 (.ref (b + 1 + (((((((((((((((((((((((((((((((((((((((((((((((((0 + 1) + 1) + 1) + 1) + 1) + 1) + 1) + 1) + 1) + 1) + 1) + 1) + 1) + 1) + 1) + 1) + 1) + 1) + 1) + 1) + 1) + 1) + 1) + 1) + 1) + 1) + 1) + 1) + 1) + 1) + 1) + 1) + 1) + 1) + 1) + 1) + 1) + 1) + 1) + 1) + 1) + 1) + 1) + 1) + 1) + 1) + 1) + 1) + 1)))).set 82 (.ref (b + 1 + ((((((((((((((((((((((((((((((((((((((((((((((((((0 + 1) + 1) + 1) + 1) + 1) + 1) + 1) + 1) + 1) + 1) + 1) + 1) + 1) + 1) + 1) + 1) + 1) + 1) + 1) + 1) + 1) + 1) + 1) + 1) + 1) + 1) + 1) + 1) + 1) + 1) + 1) + 1) + 1) + 1) + 1) + 1) + 1) + 1) + 1) + 1) + 1) + 1) + 1) + 1) + 1) + 1) + 1) + 1) + 1) + 1)))).set 83 (.ref (b + 1 + (((((((((((((((((((((((((((((((((((((((((((((((((((0 + 1) + 1) + 1) + 1) + 1) + 1) + 1) + 1) + 1) + 1) + 1) + 1) + 1) + 1) + 1) + 1) + 1) + 1) + 1) + 1) + 1) + 1) + 1) + 1) + 1) + 1) + 1) + 1) + 1) + 1) + 1) + 1) + 1) + 1) + 1) + 1) + 1) + 1) + 1) + 1) + 1) + 1) + 1) + 1) + 1) + 1) + 1) + 1) + 1) + 1) + 1)))).set 84 (.ref (b + 1 + ((((((((((((((((((((((((((((((((((((((((((((((((((((0 + 1) + 1) + 1) + 1) + 1) + 1) + 1) + 1) + 1) + 1) + 1) + 1) + 1) + 1) + 1) + 1) + 1) + 1) + 1) + 1) + 1) + 1) + 1) + 1) + 1) + 1) + 1) + 1) + 1) + 1) + 1) + 1) + 1) + 1) + 1) + 1) + 1) + 1) + 1) + 1) + 1) + 1) + 1) + 1) + 1) + 1) + 1) + 1) + 1) + 1) + 1) + 1)))).set 85 (.int (-1))).set 86 (.ref (b + 1 + (((((((((((((((((((((((((((((((((((((((((((((((((((((0 + 1) + 1) + 1) + 1) + 1) + 1) + 1) + 1) + 1) + 1) + 1) + 1) + 1) + 1) + 1) + 1) + 1) + 1) + 1) + 1) + 1) + 1) + 1) + 1) + 1) + 1) + 1) + 1) + 1) + 1) + 1) + 1) + 1) + 1) + 1) + 1) + 1) + 1) + 1) + 1) + 1) + 1) + 1) + 1) + 1) + 1) + 1) + 1) + 1) + 1) + 1) + 1) + 1)))).set 87 (.ref (b + 1 + ((((((((((((((((((((((((((((((((((((((((((((((((((((((0 + 1) + 1) + 1) + 1) + 1) + 1) + 1) + 1) + 1) + 1) + 1) + 1) + 1) + 1) + 1) + 1) + 1) + 1) + 1) + 1) + 1) + 1) + 1) + 1) + 1) + 1) + 1) + 1) + 1) + 1) + 1) + 1) + 1) + 1) + 1) + 1) + 1) + 1) + 1) + 1) + 1) + 1) + 1) + 1) + 1) + 1) + 1) + 1) + 1) + 1) + 1) + 1) + 1) + 1)))).set 88 (.ref (b + 1 + (((((((((((((((((((((((((((((((((((((((((((((((((((((((0 + 1) + 1) + 1) + 1) + 1) + 1) + 1) + 1) + 1) + 1) + 1) + 1) + 1) + 1) + 1) + 1) + 1) + 1) + 1) + 1) + 1) + 1) + 1) + 1) + 1) + 1) + 1) + 1) + 1) + 1) + 1) + 1) + 1) + 1) + 1) + 1) + 1) + 1) + 1) + 1) + 1) + 1) + 1) + 1) + 1) + 1) + 1) + 1) + 1) + 1) + 1) + 1) + 1) + 1) + 1)))).set 89 (.ref (b + 1 + ((((((((((((((((((((((((((((((((((((((((((((((((((((((((0 + 1) + 1) + 1) + 1) + 1) + 1) + 1) + 1) + 1) + 1) + 1) + 1) + 1) + 1) + 1) + 1) + 1) + 1) + 1) + 1) + 1) + 1) + 1) + 1) + 1) + 1) + 1) + 1) + 1) + 1) + 1) + 1) + 1) + 1) + 1) + 1) + 1) + 1) + 1) + 1) + 1) + 1) + 1) + 1) + 1) + 1) + 1) + 1) + 1) + 1) + 1) + 1) + 1) + 1) + 1) + 1)))).set 90 (.ref (b + 1 + (((((((((((((((((((((((((((((((((((((((((((((((((((((((((0 + 1) + 1) + 1) + 1) + 1) + 1) + 1) + 1) + 1) + 1) + 1) + 1) + 1) + 1) + 1) + 1) + 1) + 1) + 1) + 1) + 1) + 1) + 1) + 1) + 1) + 1) + 1) + 1) + 1) + 1) + 1) + 1) + 1) + 1) + 1) + 1) + 1) + 1) + 1) + 1) + 1) + 1) + 1) + 1) + 1) + 1) + 1) + 1) + 1) + 1) + 1) + 1) + 1) + 1) + 1) + 1) + 1)))).set 91 (.ref (b + 1 + ((((((((((((((((((((((((((((((((((((((((((((((((((((((((((0 + 1) + 1) + 1) + 1) + 1) + 1) + 1) + 1) + 1) + 1) + 1) + 1) + 1) + 1) + 1) + 1) + 1) + 1) + 1) + 1) + 1) + 1) + 1) + 1) + 1) + 1) + 1) + 1) + 1) + 1) + 1) + 1) + 1) + 1) + 1) + 1) + 1) + 1) + 1) + 1) + 1) + 1) + 1) + 1) + 1) + 1) + 1) + 1) + 1) + 1) + 1) + 1) + 1) + 1) + 1) + 1) + 1) + 1)))).set 95 (.ref (b + 1 + (((((((((((((((((((((((((((((((((((((((((((((((((((((((((((0 + 1) + 1) + 1) + 1) + 1) + 1) + 1) + 1) + 1) + 1) + 1) + 1) + 1) + 1) + 1) + 1) + 1) + 1) + 1) + 1) + 1) + 1) + 1) + 1) + 1) + 1) + 1) + 1) + 1) + 1) + 1) + 1) + 1) + 1) + 1) + 1) + 1) + 1) + 1) + 1) + 1) + 1) + 1) + 1) + 1) + 1) + 1) + 1) + 1) + 1) + 1) + 1) + 1) + 1) + 1) + 1) + 1) + 1) + 1)))).set 97 (.ref (b + 1 + ((((((((((((((((((((((((((((((((((((((((((((((((((((((((((((0 + 1) + 1) + 1) + 1) + 1) + 1) + 1) + 1) + 1) + 1) + 1) + 1) + 1) + 1) + 1) + 1) + 1) + 1) + 1) + 1) + 1) + 1) + 1) + 1) + 1) + 1) + 1) + 1) + 1) + 1) + 1) + 1) + 1) + 1) + 1) + 1) + 1) + 1) + 1) + 1) + 1) + 1) + 1) + 1) + 1) + 1) + 1) + 1) + 1) + 1) + 1) + 1) + 1) + 1) + 1) + 1) + 1) + 1) + 1) + 1)))).set 98 (.ref (b + 1 + (((((((((((((((((((((((((((((((((((((((((((((((((((((((((((((0 + 1) + 1) + 1) + 1) + 1) + 1) + 1) + 1) + 1) + 1) + 1) + 1) + 1) + 1) + 1) + 1) + 1) + 1) + 1) + 1) + 1) + 1) + 1) + 1) + 1) + 1) + 1) + 1) + 1) + 1) + 1) + 1) + 1) + 1) + 1) + 1) + 1) + 1) + 1) + 1) + 1) + 1) + 1) + 1) + 1) + 1) + 1) + 1) + 1) + 1) + 1) + 1) + 1) + 1) + 1) + 1) + 1) + 1) + 1) + 1) + 1)))).set 99 (.ref (b + 1 + ((((((((((((((((((((((((((((((((((((((((((((((((((((((((((((((0 + 1) + 1) + 1) + 1) + 1) + 1) + 1) + 1) + 1) + 1) + 1) + 1) + 1) + 1) + 1) + 1) + 1) + 1) + 1) + 1) + 1) + 1) + 1) + 1) + 1) + 1) + 1) + 1) + 1) + 1) + 1) + 1) + 1) + 1) + 1) + 1) + 1) + 1) + 1) + 1) + 1) + 1) + 1) + 1) + 1) + 1) + 1) + 1) + 1) + 1) + 1) + 1) + 1) + 1) + 1) + 1) + 1) + 1) + 1) + 1) + 1) + 1)))).set 100 (.ref (b + 1 + (((((((((((((((((((((((((((((((((((((((((((((((((((((((((((((((0 + 1) + 1) + 1) + 1) + 1) + 1) + 1) + 1) + 1) + 1) + 1) + 1) + 1) + 1) + 1) + 1) + 1) + 1) + 1) + 1) + 1) + 1) + 1) + 1) + 1) + 1) + 1) + 1) + 1) + 1) + 1) + 1) + 1) + 1) + 1) + 1) + 1) + 1) + 1) + 1) + 1) + 1) + 1) + 1) + 1) + 1) + 1) + 1) + 1) + 1) + 1) + 1) + 1) + 1) + 1) + 1) + 1) + 1) + 1) + 1) + 1) + 1) + 1)))) :: ((((((((((((((((((((((((((((((((((((((((((((((((((((((((((((((((([] : List va_E) ++ [eJ cy 24]) ++ [eI cy 24]) ++ [eI cy 24]) ++ [eZ cy 24]) ++ [eJ cy 16]) ++ [eI cy 16]) ++ [eI cy 16]) ++ [eI cy 60]) ++ [eI cy 60]) ++ [eI cy 30]) ++ [eI cy 30]) ++ [eI cy 30]) ++ [eI cy 130]) ++ [eI cy 130]) ++ [eJ cy 24]) ++ [eI cy 24]) ++ [eI cy 24]) ++ [eZ cy 24]) ++ [eJ cy 16]) ++ [eI cy 16]) ++ [eI cy 16]) ++ [eI cy 60]) ++ [eI cy 60]) ++ [eI cy 30]) ++ [eI cy 30]) ++ [eI cy 30]) ++ [eI cy 130]) ++ [eI cy 130]) ++ [eI cy 1200]) ++ [eI cy 106]) ++ [eI cy 106]) ++ [eI cy 106]) ++ [eI cy 24]) ++ [eZ cy 576]) ++ [eI cy 24]) ++ [eZ cy 24]) ++ [eI cy 24]) ++ [eI cy 24]) ++ [eI cy 48]) ++ [eJ cy 2880]) ++ [eI cy 48]) ++ [eI cy 24]) ++ [eI cy 24]) ++ [eI cy 24]) ++ [eZ cy 24]) ++ [eZ cy 24]) ++ [eI cy 24]) ++ [eJ cy 24]) ++ [eJ cy 24]) ++ [eI cy 24]) ++ [eJ cy 24]) ++ [eJ cy 24]) ++ [eI cy 24]) ++ [eJ cy 256]) ++ [eJ cy 256]) ++ [eZ cy 256]) ++ [eJ cy 16]) ++ [eJ cy 16]) ++ [eI cy 16]) ++ [eI cy 16]) ++ [eI cy 8]) ++ [eI cy 8]) ++ [eJ cy 2400]) ++ [eJ cy 300])
theorem kX11 {E : gE} {Pm : List va_E} {b : Nat} (hb : Pm.length = b) (hB : b + 65 ≤ gNH) : nC E mX11_init 64 10254 [.ref b] (Pm ++ [.inr (11, dX11)]) none (Pm ++ tX11 E.2.2.1 b) := by
  refine nC_of (by decide +kernel) rfl (Nat.le_of_ble_eq_true rfl) ?_
  show nG E mX11_init 64 10254 0 [(0, .ref b)] [] (nO Pm 11 dX11 []) 0 0 none (nO Pm 11 (((((((((((((((((((((((((((((((((((((((((((((((((((((((((((((((((((((dX11).set 1 (.ref (b + 1 + 0))).set 2 (.ref (b + 1 + (0 + 1)))).set 3 (.ref (b + 1 + ((0 + 1) + 1)))).set 4 (.ref (b + 1 + (((0 + 1) + 1) + 1)))).set 6 (.ref (b + 1 + ((((0 + 1) + 1) + 1) + 1)))).set 7 (.ref (b + 1 + (((((0 + 1) + 1) + 1) + 1) + 1)))).set 8 (.ref (b + 1 + ((((((0 + 1) + 1) + 1) + 1) + 1) + 1)))).set 10 (.ref (b + 1 + (((((((0 + 1) + 1) + 1) + 1) + 1) + 1) + 1)))).set 11 (.ref (b + 1 + ((((((((0 + 1) + 1) + 1) + 1) + 1) + 1) + 1) + 1)))).set 13 (.ref (b + 1 + (((((((((0 + 1) + 1) + 1) + 1) + 1) + 1) + 1) + 1) + 1)))).set 14 (.ref (b + 1 + ((((((((((0 + 1) + 1) + 1) + 1) + 1) + 1) + 1) + 1) + 1) + 1)))).set 15 (.ref (b + 1 + (((((((((((0 + 1) + 1) + 1) + 1) + 1) + 1) + 1) + 1) + 1) + 1) + 1)))).set 17 (.ref (b + 1 + ((((((((((((0 + 1) + 1) + 1) + 1) + 1) + 1) + 1) + 1) + 1) + 1) + 1) + 1)))).set 18 (.ref (b + 1 + (((((((((((((0 + 1) + 1) + 1) + 1) + 1) + 1) + 1) + 1) + 1) + 1) + 1) + 1) + 1)))).set 19 (.int (-1))).set 20 (.int (-1))).set 22 (.ref (b + 1 + ((((((((((((((0 + 1) + 1) + 1) + 1) + 1) + 1) + 1) + 1) + 1) + 1) + 1) + 1) + 1) + 1)))).set 23 (.ref (b + 1 + (((((((((((((((0 + 1) + 1) + 1) + 1) + 1) + 1) + 1) + 1) + 1) + 1) + 1) + 1) + 1) + 1) + 1)))).set 24 (.ref (b + 1 + ((((((((((((((((0 + 1) + 1) + 1) + 1) + 1) + 1) + 1) + 1) + 1) + 1) + 1) + 1) + 1) + 1) + 1) + 1)))).set 25 (.ref (b + 1 + (((((((((((((((((0 + 1) + 1) + 1) + 1) + 1) + 1) + 1) + 1) + 1) + 1) + 1) + 1) + 1) + 1) + 1) + 1) + 1)))).set 27 (.ref (b + 1 + ((((((((((((((((((0 + 1) + 1) + 1) + 1) + 1) + 1) + 1) + 1) + 1) + 1) + 1) + 1) + 1) + 1) + 1) + 1) + 1) + 1)))).set 28 (.ref (b + 1 + (((((((((((((((((((0 + 1) + 1) + 1) + 1) + 1) + 1) + 1) + 1) + 1) + 1) + 1) + 1) + 1) + 1) + 1) + 1) + 1) + 1) + 1)))).set 29 (.ref (b + 1 + ((((((((((((((((((((0 + 1) + 1) + 1) + 1) + 1) + 1) + 1) + 1) + 1) + 1) + 1) + 1) + 1) + 1) + 1) + 1) + 1) + 1) + 1) + 1)))).set 31 (.ref (b + 1 + (((((((((((((((((((((0 + 1) + 1) + 1) + 1) + 1) + 1) + 1) + 1) + 1) + 1) + 1) + 1) + 1) + 1) + 1) + 1) + 1) + 1) + 1) + 1) + 1)))).set 32 (.ref (b + 1 + ((((((((((((((((((((((0 + 1) + 1) + 1) + 1) + 1) + 1) + 1) + 1) + 1) + 1) + 1) + 1) + 1) + 1) + 1) + 1) + 1) + 1) + 1) + 1) + 1) + 1)))).set 34 (.ref (b + 1 + (((((((((((((((((((((((0 + 1) + 1) + 1) + 1) + 1) + 1) + 1) + 1) + 1) + 1) + 1) + 1) + 1) + 1) + 1) + 1) + 1) + 1) + 1) + 1) + 1) + 1) + 1)))).set 35 (.ref (b + 1 + ((((((((((((((((((((((((0 + 1) + 1) + 1) + 1) + 1) + 1) + 1) + 1) + 1) + 1) + 1) + 1) + 1) + 1) + 1) + 1) + 1) + 1) + 1) + 1) + 1) + 1) + 1) + 1)))).set 36 (.ref (b + 1 + (((((((((((((((((((((((((0 + 1) + 1) + 1) + 1) + 1) + 1) + 1) + 1) + 1) + 1) + 1) + 1) + 1) + 1) + 1) + 1) + 1) + 1) + 1) + 1) + 1) + 1) + 1) + 1) + 1)))).set 38 (.ref (b + 1 + ((((((((((((((((((((((((((0 + 1) + 1) + 1) + 1) + 1) + 1) + 1) + 1) + 1) + 1) + 1) + 1) + 1) + 1) + 1) + 1) + 1) + 1) + 1) + 1) + 1) + 1) + 1) + 1) + 1) + 1)))).set 39 (.ref (b + 1 + (((((((((((((((((((((((((((0 + 1) + 1) + 1) + 1) + 1) + 1) + 1) + 1) + 1) + 1) + 1) + 1) + 1) + 1) + 1) + 1) + 1) + 1) + 1) + 1) + 1) + 1) + 1) + 1) + 1) + 1) + 1)))).set 42 (.ref (b + 1 + ((((((((((((((((((((((((((((0 + 1) + 1) + 1) + 1) + 1) + 1) + 1) + 1) + 1) + 1) + 1) + 1) + 1) + 1) + 1) + 1) + 1) + 1) + 1) + 1) + 1) + 1) + 1) + 1) + 1) + 1) + 1) + 1)))).set 50 (.int (-1000000))).set 54 (.ref (b + 1 + (((((((((((((((((((((((((((((0 + 1) + 1) + 1) + 1) + 1) + 1) + 1) + 1) + 1) + 1) + 1) + 1) + 1) + 1) + 1) + 1) + 1) + 1) + 1) + 1) + 1) + 1) + 1) + 1) + 1) + 1) + 1) + 1) + 1)))).set 55 (.ref (b + 1 + ((((((((((((((((((((((((((((((0 + 1) + 1) + 1) + 1) + 1) + 1) + 1) + 1) + 1) + 1) + 1) + 1) + 1) + 1) + 1) + 1) + 1) + 1) + 1) + 1) + 1) + 1) + 1) + 1) + 1) + 1) + 1) + 1) + 1) + 1)))).set 56 (.ref (b + 1 + (((((((((((((((((((((((((((((((0 + 1) + 1) + 1) + 1) + 1) + 1) + 1) + 1) + 1) + 1) + 1) + 1) + 1) + 1) + 1) + 1) + 1) + 1) + 1) + 1) + 1) + 1) + 1) + 1) + 1) + 1) + 1) + 1) + 1) + 1) + 1)))).set 58 (.ref (b + 1 + ((((((((((((((((((((((((((((((((0 + 1) + 1) + 1) + 1) + 1) + 1) + 1) + 1) + 1) + 1) + 1) + 1) + 1) + 1) + 1) + 1) + 1) + 1) + 1) + 1) + 1) + 1) + 1) + 1) + 1) + 1) + 1) + 1) + 1) + 1) + 1) + 1)))).set 59 (.ref (b + 1 + (((((((((((((((((((((((((((((((((0 + 1) + 1) + 1) + 1) + 1) + 1) + 1) + 1) + 1) + 1) + 1) + 1) + 1) + 1) + 1) + 1) + 1) + 1) + 1) + 1) + 1) + 1) + 1) + 1) + 1) + 1) + 1) + 1) + 1) + 1) + 1) + 1) + 1)))).set 60 (.ref (b + 1 + ((((((((((((((((((((((((((((((((((0 + 1) + 1) + 1) + 1) + 1) + 1) + 1) + 1) + 1) + 1) + 1) + 1) + 1) + 1) + 1) + 1) + 1) + 1) + 1) + 1) + 1) + 1) + 1) + 1) + 1) + 1) + 1) + 1) + 1) + 1) + 1) + 1) + 1) + 1)))).set 61 (.ref (b + 1 + (((((((((((((((((((((((((((((((((((0 + 1) + 1) + 1) + 1) + 1) + 1) + 1) + 1) + 1) + 1) + 1) + 1) + 1) + 1) + 1) + 1) + 1) + 1) + 1) + 1) + 1) + 1) + 1) + 1) + 1) + 1) + 1) + 1) + 1) + 1) + 1) + 1) + 1) + 1) + 1)))).set 62 (.ref (b + 1 + ((((((((((((((((((((((((((((((((((((0 + 1) + 1) + 1) + 1) + 1) + 1) + 1) + 1) + 1) + 1) + 1) + 1) + 1) + 1) + 1) + 1) + 1) + 1) + 1) + 1) + 1) + 1) + 1) + 1) + 1) + 1) + 1) + 1) + 1) + 1) + 1) + 1) + 1) + 1) + 1) + 1)))).set 64 (.ref (b + 1 + (((((((((((((((((((((((((((((((((((((0 + 1) + 1) + 1) + 1) + 1) + 1) + 1) + 1) + 1) + 1) + 1) + 1) + 1) + 1) + 1) + 1) + 1) + 1) + 1) + 1) + 1) + 1) + 1) + 1) + 1) + 1) + 1) + 1) + 1) + 1) + 1) + 1) + 1) + 1) + 1) + 1) + 1)))).set 65 (.ref (b + 1 + ((((((((((((((((((((((((((((((((((((((0 + 1) + 1) + 1) + 1) + 1) + 1) + 1) + 1) + 1) + 1) + 1) + 1) + 1) + 1) + 1) + 1) + 1) + 1) + 1) + 1) + 1) + 1) + 1) + 1) + 1) + 1) + 1) + 1) + 1) + 1) + 1) + 1) + 1) + 1) + 1) + 1) + 1) + 1)))).set 66 (.ref (b + 1 + (((((((((((((((((((((((((((((((((((((((0 + 1) + 1) + 1) + 1) + 1) + 1) + 1) + 1) + 1) + 1) + 1) + 1) + 1) + 1) + 1) + 1) + 1) + 1) + 1) + 1) + 1) + 1) + 1) + 1) + 1) + 1) + 1) + 1) + 1) + 1) + 1) + 1) + 1) + 1) + 1) + 1) + 1) + 1) + 1)))).set 68 (.ref (b + 1 + ((((((((((((((((((((((((((((((((((((((((0 + 1) + 1) + 1) + 1) + 1) + 1) + 1) + 1) + 1) + 1) + 1) + 1) + 1) + 1) + 1) + 1) + 1) + 1) + 1) + 1) + 1) + 1) + 1) + 1) + 1) + 1) + 1) + 1) + 1) + 1) + 1) + 1) + 1) + 1) + 1) + 1) + 1) + 1) + 1) + 1)))).set 70 (.ref (b + 1 + (((((((((((((((((((((((((((((((((((((((((0 + 1) + 1) + 1) + 1) + 1) + 1) + 1) + 1) + 1) + 1) + 1) + 1) + 1) + 1) + 1) + 1) + 1) + 1) + 1) + 1) + 1) + 1) + 1) + 1) + 1) + 1) + 1) + 1) + 1) + 1) + 1) + 1) + 1) + 1) + 1) + 1) + 1) + 1) + 1) + 1) + 1)))).set 71 (.ref (b + 1 + ((((((((((((((((((((((((((((((((((((((((((0 + 1) + 1) + 1) + 1) + 1) + 1) + 1) + 1) + 1) + 1) + 1) + 1) + 1) + 1) + 1) + 1) + 1) + 1) + 1) + 1) + 1) + 1) + 1) + 1) + 1) + 1) + 1) + 1) + 1) + 1) + 1) + 1) + 1) + 1) + 1) + 1) + 1) + 1) + 1) + 1) + 1) + 1)))).set 72 (.ref (b + 1 + (((((((((((((((((((((((((((((((((((((((((((0 + 1) + 1) + 1) + 1) + 1) + 1) + 1) + 1) + 1) + 1) + 1) + 1) + 1) + 1) + 1) + 1) + 1) + 1) + 1) + 1) + 1) + 1) + 1) + 1) + 1) + 1) + 1) + 1) + 1) + 1) + 1) + 1) + 1) + 1) + 1) + 1) + 1) + 1) + 1) + 1) + 1) + 1) + 1)))).set 73 (.ref (b + 1 + ((((((((((((((((((((((((((((((((((((((((((((0 + 1) + 1) + 1) + 1) + 1) + 1) + 1) + 1) + 1) + 1) + 1) + 1) + 1) + 1) + 1) + 1) + 1) + 1) + 1) + 1) + 1) + 1) + 1) + 1) + 1) + 1) + 1) + 1) + 1) + 1) + 1) + 1) + 1) + 1) + 1) + 1) + 1) + 1) + 1) + 1) + 1) + 1) + 1) + 1)))).set 74 (.ref (b + 1 + (((((((((((((((((((((((((((((((((((((((((((((0 + 1) + 1) + 1) + 1) + 1) + 1) + 1) + 1) + 1) + 1) + 1) + 1) + 1) + 1) + 1) + 1) + 1) + 1) + 1) + 1) + 1) + 1) + 1) + 1) + 1) + 1) + 1) + 1) + 1) + 1) + 1) + 1) + 1) + 1) + 1) + 1) + 1) + 1) + 1) + 1) + 1) + 1) + 1) + 1) + 1)))).set 75 (.ref (b + 1 + ((((((((((((((((((((((((((((((((((((((((((((((0 + 1) + 1) + 1) + 1) + 1) + 1) + 1) + 1) + 1) + 1) + 1) + 1) + 1) + 1) + 1) + 1) + 1) + 1) + 1) + 1) + 1) + 1) + 1) + 1) + 1) + 1) + 1) + 1) + 1) + 1) + 1) + 1) + 1) + 1) + 1) + 1) + 1) + 1) + 1) + 1) + 1) + 1) + 1) + 1) + 1) + 1)))).set 78 (.ref (b + 1 + (((((((((((((((((((((((((((((((((((((((((((((((0 + 1) + 1) + 1) + 1) + 1) + 1) + 1) + 1) + 1) + 1) + 1) + 1) + 1) + 1) + 1) + 1) + 1) + 1) + 1) + 1) + 1) + 1) + 1) + 1) + 1) + 1) + 1) + 1) + 1) + 1) + 1) + 1) + 1) + 1) + 1) + 1) + 1) + 1) + 1) + 1) + 1) + 1) + 1) + 1) + 1) + 1) + 1)))).set 79 (.ref (b + 1 + ((((((((((((((((((((((((((((((((((((((((((((((((0 + 1) + 1) + 1) + 1) + 1) + 1) + 1) + 1) + 1) + 1) + 1) + 1) + 1) + 1) + 1) + 1) + 1) + 1) + 1) + 1) + 1) + 1) + 1) + 1) + 1) + 1) + 1) + 1) + 1) + 1) + 1) + 1) + 1) + 1) + 1) + 1) + 1) + 1) + 1) + 1) + 1) + 1) + 1) + 1) + 1) + 1) + 1) + 1)))).set 80 (.ref (b + 1 + (((((((((((((((((((((((((((((((((((((((((((((((((0 + 1) + 1) + 1) + 1) + 1) + 1) + 1) + 1) + 1) + 1) + 1) + 1) + 1) + 1) + 1) + 1) + 1) + 1) + 1) + 1) + 1) + 1) + 1) + 1) + 1) + 1) + 1) + 1) + 1) + 1) + 1) + 1) + 1) + 1) + 1) + 1) + 1) + 1) + 1) + 1) + 1) + 1) + 1) + 1) + 1) + 1) + 1) + 1) + 1)))).set 82 (.ref (b + 1 + ((((((((((((((((((((((((((((((((((((((((((((((((((0 + 1) + 1) + 1) + 1) + 1) + 1) + 1) + 1) + 1) + 1) + 1) + 1) + 1) + 1) + 1) + 1) + 1) + 1) + 1) + 1) + 1) + 1) + 1) + 1) + 1) + 1) + 1) + 1) + 1) + 1) + 1) + 1) + 1) + 1) + 1) + 1) + 1) + 1) + 1) + 1) + 1) + 1) + 1) + 1) + 1) + 1) + 1) + 1) + 1) + 1)))).set 83 (.ref (b + 1 + (((((((((((((((((((((((((((((((((((((((((((((((((((0 + 1) + 1) + 1) + 1) + 1) + 1) + 1) + 1) + 1) + 1) + 1) + 1) + 1) + 1) + 1) + 1) + 1) + 1) + 1) + 1) + 1) + 1) + 1) + 1) + 1) + 1) + 1) + 1) + 1) + 1) + 1) + 1) + 1) + 1) + 1) + 1) + 1) + 1) + 1) + 1) + 1) + 1) + 1) + 1) + 1) + 1) + 1) + 1) + 1) + 1) + 1)))).set 84 (.ref (b + 1 + ((((((((((((((((((((((((((((((((((((((((((((((((((((0 + 1) + 1) + 1) + 1) + 1) + 1) + 1) + 1) + 1) + 1) + 1) + 1) + 1) + 1) + 1) + 1) + 1) + 1) + 1) + 1) + 1) + 1) + 1) + 1) + 1) + 1) + 1) + 1) + 1) + 1) + 1) + 1) + 1) + 1) + 1) + 1) + 1) + 1) + 1) + 1) + 1) + 1) + 1) + 1) + 1) + 1) + 1) + 1) + 1) + 1) + 1) + 1)))).set 85 (.int (-1))).set 86 (.ref (b + 1 + (((((((((((((((((((((((((((((((((((((((((((((((((((((0 + 1) + 1) + 1) + 1) + 1) + 1) + 1) + 1) + 1) + 1) + 1) + 1) + 1) + 1) + 1) + 1) + 1) + 1) + 1) + 1) + 1) + 1) + 1) + 1) + 1) + 1) + 1) + 1) + 1) + 1) + 1) + 1) + 1) + 1) + 1) + 1) + 1) + 1) + 1) + 1) + 1) + 1) + 1) + 1) + 1) + 1) + 1) + 1) + 1) + 1) + 1) + 1) + 1)))).set 87 (.ref (b + 1 + ((((((((((((((((((((((((((((((((((((((((((((((((((((((0 + 1) + 1) + 1) + 1) + 1) + 1) + 1) + 1) + 1) + 1) + 1) + 1) + 1) + 1) + 1) + 1) + 1) + 1) + 1) + 1) + 1) + 1) + 1) + 1) + 1) + 1) + 1) + 1) + 1) + 1) + 1) + 1) + 1) + 1) + 1) + 1) + 1) + 1) + 1) + 1) + 1) + 1) + 1) + 1) + 1) + 1) + 1) + 1) + 1) + 1) + 1) + 1) + 1) + 1)))).set 88 (.ref (b + 1 + (((((((((((((((((((((((((((((((((((((((((((((((((((((((0 + 1) + 1) + 1) + 1) + 1) + 1) + 1) + 1) + 1) + 1) + 1) + 1) + 1) + 1) + 1) + 1) + 1) + 1) + 1) + 1) + 1) + 1) + 1) + 1) + 1) + 1) + 1) + 1) + 1) + 1) + 1) + 1) + 1) + 1) + 1) + 1) + 1) + 1) + 1) + 1) + 1) + 1) + 1) + 1) + 1) + 1) + 1) + 1) + 1) + 1) + 1) + 1) + 1) + 1) + 1)))).set 89 (.ref (b + 1 + ((((((((((((((((((((((((((((((((((((((((((((((((((((((((0 + 1) + 1) + 1) + 1) + 1) + 1) + 1) + 1) + 1) + 1) + 1) + 1) + 1) + 1) + 1) + 1) + 1) + 1) + 1) + 1) + 1) + 1) + 1) + 1) + 1) + 1) + 1) + 1) + 1) + 1) + 1) + 1) + 1) + 1) + 1) + 1) + 1) + 1) + 1) + 1) + 1) + 1) + 1) + 1) + 1) + 1) + 1) + 1) + 1) + 1) + 1) + 1) + 1) + 1) + 1) + 1)))).set 90 (.ref (b + 1 + (((((((((((((((((((((((((((((((((((((((((((((((((((((((((0 + 1) + 1) + 1) + 1) + 1) + 1) + 1) + 1) + 1) + 1) + 1) + 1) + 1) + 1) + 1) + 1) + 1) + 1) + 1) + 1) + 1) + 1) + 1) + 1) + 1) + 1) + 1) + 1) + 1) + 1) + 1) + 1) + 1) + 1) + 1) + 1) + 1) + 1) + 1) + 1) + 1) + 1) + 1) + 1) + 1) + 1) + 1) + 1) + 1) + 1) + 1) + 1) + 1) + 1) + 1) + 1) + 1)))).set 91 (.ref (b + 1 + ((((((((((((((((((((((((((((((((((((((((((((((((((((((((((0 + 1) + 1) + 1) + 1) + 1) + 1) + 1) + 1) + 1) + 1) + 1) + 1) + 1) + 1) + 1) + 1) + 1) + 1) + 1) + 1) + 1) + 1) + 1) + 1) + 1) + 1) + 1) + 1) + 1) + 1) + 1) + 1) + 1) + 1) + 1) + 1) + 1) + 1) + 1) + 1) + 1) + 1) + 1) + 1) + 1) + 1) + 1) + 1) + 1) + 1) + 1) + 1) + 1) + 1) + 1) + 1) + 1) + 1)))).set 95 (.ref (b + 1 + (((((((((((((((((((((((((((((((((((((((((((((((((((((((((((0 + 1) + 1) + 1) + 1) + 1) + 1) + 1) + 1) + 1) + 1) + 1) + 1) + 1) + 1) + 1) + 1) + 1) + 1) + 1) + 1) + 1) + 1) + 1) + 1) + 1) + 1) + 1) + 1) + 1) + 1) + 1) + 1) + 1) + 1) + 1) + 1) + 1) + 1) + 1) + 1) + 1) + 1) + 1) + 1) + 1) + 1) + 1) + 1) + 1) + 1) + 1) + 1) + 1) + 1) + 1) + 1) + 1) + 1) + 1)))).set 97 (.ref (b + 1 + ((((((((((((((((((((((((((((((((((((((((((((((((((((((((((((0 + 1) + 1) + 1) + 1) + 1) + 1) + 1) + 1) + 1) + 1) + 1) + 1) + 1) + 1) + 1) + 1) + 1) + 1) + 1) + 1) + 1) + 1) + 1) + 1) + 1) + 1) + 1) + 1) + 1) + 1) + 1) + 1) + 1) + 1) + 1) + 1) + 1) + 1) + 1) + 1) + 1) + 1) + 1) + 1) + 1) + 1) + 1) + 1) + 1) + 1) + 1) + 1) + 1) + 1) + 1) + 1) + 1) + 1) + 1) + 1)))).set 98 (.ref (b + 1 + (((((((((((((((((((((((((((((((((((((((((((((((((((((((((((((0 + 1) + 1) + 1) + 1) + 1) + 1) + 1) + 1) + 1) + 1) + 1) + 1) + 1) + 1) + 1) + 1) + 1) + 1) + 1) + 1) + 1) + 1) + 1) + 1) + 1) + 1) + 1) + 1) + 1) + 1) + 1) + 1) + 1) + 1) + 1) + 1) + 1) + 1) + 1) + 1) + 1) + 1) + 1) + 1) + 1) + 1) + 1) + 1) + 1) + 1) + 1) + 1) + 1) + 1) + 1) + 1) + 1) + 1) + 1) + 1) + 1)))).set 99 (.ref (b + 1 + ((((((((((((((((((((((((((((((((((((((((((((((((((((((((((((((0 + 1) + 1) + 1) + 1) + 1) + 1) + 1) + 1) + 1) + 1) + 1) + 1) + 1) + 1) + 1) + 1) + 1) + 1) + 1) + 1) + 1) + 1) + 1) + 1) + 1) + 1) + 1) + 1) + 1) + 1) + 1) + 1) + 1) + 1) + 1) + 1) + 1) + 1) + 1) + 1) + 1) + 1) + 1) + 1) + 1) + 1) + 1) + 1) + 1) + 1) + 1) + 1) + 1) + 1) + 1) + 1) + 1) + 1) + 1) + 1) + 1) + 1)))).set 100 (.ref (b + 1 + (((((((((((((((((((((((((((((((((((((((((((((((((((((((((((((((0 + 1) + 1) + 1) + 1) + 1) + 1) + 1) + 1) + 1) + 1) + 1) + 1) + 1) + 1) + 1) + 1) + 1) + 1) + 1) + 1) + 1) + 1) + 1) + 1) + 1) + 1) + 1) + 1) + 1) + 1) + 1) + 1) + 1) + 1) + 1) + 1) + 1) + 1) + 1) + 1) + 1) + 1) + 1) + 1) + 1) + 1) + 1) + 1) + 1) + 1) + 1) + 1) + 1) + 1) + 1) + 1) + 1) + 1) + 1) + 1) + 1) + 1) + 1)))) ((((((((((((((((((((((((((((((((((((((((((((((((((((((((((((((((([] : List va_E) ++ [eJ E.2.2.1 24]) ++ [eI E.2.2.1 24]) ++ [eI E.2.2.1 24]) ++ [eZ E.2.2.1 24]) ++ [eJ E.2.2.1 16]) ++ [eI E.2.2.1 16]) ++ [eI E.2.2.1 16]) ++ [eI E.2.2.1 60]) ++ [eI E.2.2.1 60]) ++ [eI E.2.2.1 30]) ++ [eI E.2.2.1 30]) ++ [eI E.2.2.1 30]) ++ [eI E.2.2.1 130]) ++ [eI E.2.2.1 130]) ++ [eJ E.2.2.1 24]) ++ [eI E.2.2.1 24]) ++ [eI E.2.2.1 24]) ++ [eZ E.2.2.1 24]) ++ [eJ E.2.2.1 16]) ++ [eI E.2.2.1 16]) ++ [eI E.2.2.1 16]) ++ [eI E.2.2.1 60]) ++ [eI E.2.2.1 60]) ++ [eI E.2.2.1 30]) ++ [eI E.2.2.1 30]) ++ [eI E.2.2.1 30]) ++ [eI E.2.2.1 130]) ++ [eI E.2.2.1 130]) ++ [eI E.2.2.1 1200]) ++ [eI E.2.2.1 106]) ++ [eI E.2.2.1 106]) ++ [eI E.2.2.1 106]) ++ [eI E.2.2.1 24]) ++ [eZ E.2.2.1 576]) ++ [eI E.2.2.1 24]) ++ [eZ E.2.2.1 24]) ++ [eI E.2.2.1 24]) ++ [eI E.2.2.1 24]) ++ [eI E.2.2.1 48]) ++ [eJ E.2.2.1 2880]) ++ [eI E.2.2.1 48]) ++ [eI E.2.2.1 24]) ++ [eI E.2.2.1 24]) ++ [eI E.2.2.1 24]) ++ [eZ E.2.2.1 24]) ++ [eZ E.2.2.1 24]) ++ [eI E.2.2.1 24]) ++ [eJ E.2.2.1 24]) ++ [eJ E.2.2.1 24]) ++ [eI E.2.2.1 24]) ++ [eJ E.2.2.1 24]) ++ [eJ E.2.2.1 24]) ++ [eI E.2.2.1 24]) ++ [eJ E.2.2.1 256]) ++ [eJ E.2.2.1 256]) ++ [eZ E.2.2.1 256]) ++ [eJ E.2.2.1 16]) ++ [eJ E.2.2.1 16]) ++ [eI E.2.2.1 16]) ++ [eI E.2.2.1 16]) ++ [eI E.2.2.1 8]) ++ [eI E.2.2.1 8]) ++ [eJ E.2.2.1 2400]) ++ [eJ E.2.2.1 300]))
  have hR : ([] : List va_E).length = 0 := rfl
  have hF : dX11.length = 101 := rfl
  refine n_aload_n dX11_init_0 rfl 0 rfl ?_
  refine n_objInit dX11_init_1 ⟨(gm 1226 (by decide +kernel) rfl), gm_oi⟩ (Nat.le_of_ble_eq_true rfl) (Nat.le_of_ble_eq_true rfl) (Nat.le_of_ble_eq_true rfl) ?_
  refine n_aload_n dX11_init_4 rfl 0 rfl ?_
  refine n_bipush dX11_init_5 (v := 24) (by decide) ?_
  refine n_naJ (N' := 24) hb hR hF dX11_init_7 dX11_init_9 (by decide +kernel) fn_X11_7 (by decide) (by omega) (Nat.le_of_ble_eq_true rfl) (Nat.le_of_ble_eq_true rfl) (fun hR hF => ?_)
  refine n_aload_n dX11_init_12 rfl 0 rfl ?_
  refine n_bipush dX11_init_13 (v := 24) (by decide) ?_
  refine n_naI (N' := 24) hb hR hF dX11_init_15 dX11_init_17 (by decide +kernel) fn_X11_13 (by decide) (by omega) (Nat.le_of_ble_eq_true rfl) (Nat.le_of_ble_eq_true rfl) (fun hR hF => ?_)
  refine n_aload_n dX11_init_20 rfl 0 rfl ?_
  refine n_bipush dX11_init_21 (v := 24) (by decide) ?_
  refine n_naI (N' := 24) hb hR hF dX11_init_23 dX11_init_25 (by decide +kernel) fn_X11_17 (by decide) (by omega) (Nat.le_of_ble_eq_true rfl) (Nat.le_of_ble_eq_true rfl) (fun hR hF => ?_)
  refine n_aload_n dX11_init_28 rfl 0 rfl ?_
  refine n_bipush dX11_init_29 (v := 24) (by decide) ?_
  refine n_naZ (N' := 24) hb hR hF dX11_init_31 dX11_init_33 (by decide +kernel) fn_X11_20 (by decide) (by omega) (Nat.le_of_ble_eq_true rfl) (Nat.le_of_ble_eq_true rfl) (fun hR hF => ?_)
  refine n_aload_n dX11_init_36 rfl 0 rfl ?_
  refine n_bipush dX11_init_37 (v := 16) (by decide) ?_
  refine n_naJ (N' := 16) hb hR hF dX11_init_39 dX11_init_41 (by decide +kernel) fn_X11_24 (by decide) (by omega) (Nat.le_of_ble_eq_true rfl) (Nat.le_of_ble_eq_true rfl) (fun hR hF => ?_)
  refine n_aload_n dX11_init_44 rfl 0 rfl ?_
  refine n_bipush dX11_init_45 (v := 16) (by decide) ?_
  refine n_naI (N' := 16) hb hR hF dX11_init_47 dX11_init_49 (by decide +kernel) fn_X11_27 (by decide) (by omega) (Nat.le_of_ble_eq_true rfl) (Nat.le_of_ble_eq_true rfl) (fun hR hF => ?_)
  refine n_aload_n dX11_init_52 rfl 0 rfl ?_
  refine n_bipush dX11_init_53 (v := 16) (by decide) ?_
  refine n_naI (N' := 16) hb hR hF dX11_init_55 dX11_init_57 (by decide +kernel) fn_X11_30 (by decide) (by omega) (Nat.le_of_ble_eq_true rfl) (Nat.le_of_ble_eq_true rfl) (fun hR hF => ?_)
  refine n_aload_n dX11_init_60 rfl 0 rfl ?_
  refine n_bipush dX11_init_61 (v := 60) (by decide) ?_
  refine n_naI (N' := 60) hb hR hF dX11_init_63 dX11_init_65 (by decide +kernel) fn_X11_33 (by decide) (by omega) (Nat.le_of_ble_eq_true rfl) (Nat.le_of_ble_eq_true rfl) (fun hR hF => ?_)
  refine n_aload_n dX11_init_68 rfl 0 rfl ?_
  refine n_bipush dX11_init_69 (v := 60) (by decide) ?_
  refine n_naI (N' := 60) hb hR hF dX11_init_71 dX11_init_73 (by decide +kernel) fn_X11_36 (by decide) (by omega) (Nat.le_of_ble_eq_true rfl) (Nat.le_of_ble_eq_true rfl) (fun hR hF => ?_)
  refine n_aload_n dX11_init_76 rfl 0 rfl ?_
  refine n_bipush dX11_init_77 (v := 30) (by decide) ?_
  refine n_naI (N' := 30) hb hR hF dX11_init_79 dX11_init_81 (by decide +kernel) fn_X11_39 (by decide) (by omega) (Nat.le_of_ble_eq_true rfl) (Nat.le_of_ble_eq_true rfl) (fun hR hF => ?_)
  refine n_aload_n dX11_init_84 rfl 0 rfl ?_
  refine n_bipush dX11_init_85 (v := 30) (by decide) ?_
  refine n_naI (N' := 30) hb hR hF dX11_init_87 dX11_init_89 (by decide +kernel) fn_X11_42 (by decide) (by omega) (Nat.le_of_ble_eq_true rfl) (Nat.le_of_ble_eq_true rfl) (fun hR hF => ?_)
  refine n_aload_n dX11_init_92 rfl 0 rfl ?_
  refine n_bipush dX11_init_93 (v := 30) (by decide) ?_
  refine n_naI (N' := 30) hb hR hF dX11_init_95 dX11_init_97 (by decide +kernel) fn_X11_45 (by decide) (by omega) (Nat.le_of_ble_eq_true rfl) (Nat.le_of_ble_eq_true rfl) (fun hR hF => ?_)
  refine n_aload_n dX11_init_100 rfl 0 rfl ?_
  refine n_sipush dX11_init_101 (v := 130) (by decide) ?_
  refine n_naI (N' := 130) hb hR hF dX11_init_104 dX11_init_106 (by decide +kernel) fn_X11_48 (by decide) (by omega) (Nat.le_of_ble_eq_true rfl) (Nat.le_of_ble_eq_true rfl) (fun hR hF => ?_)
  refine n_aload_n dX11_init_109 rfl 0 rfl ?_
  refine n_sipush dX11_init_110 (v := 130) (by decide) ?_
  refine n_naI (N' := 130) hb hR hF dX11_init_113 dX11_init_115 (by decide +kernel) fn_X11_51 (by decide) (by omega) (Nat.le_of_ble_eq_true rfl) (Nat.le_of_ble_eq_true rfl) (fun hR hF => ?_)
  refine n_aload_n dX11_init_118 rfl 0 rfl ?_
  refine n_iconst dX11_init_119 (v := -1) (by decide) ?_
  refine n_fI hb hF dX11_init_120 fn_X11_54 (by decide) (fun hF => ?_)
  refine n_aload_n dX11_init_123 rfl 0 rfl ?_
  refine n_iconst dX11_init_124 (v := -1) (by decide) ?_
  refine n_fI hb hF dX11_init_125 fn_X11_58 (by decide) (fun hF => ?_)
  refine n_aload_n dX11_init_128 rfl 0 rfl ?_
  refine n_bipush dX11_init_129 (v := 24) (by decide) ?_
  refine n_naJ (N' := 24) hb hR hF dX11_init_131 dX11_init_133 (by decide +kernel) fn_X11_61 (by decide) (by omega) (Nat.le_of_ble_eq_true rfl) (Nat.le_of_ble_eq_true rfl) (fun hR hF => ?_)
  refine n_aload_n dX11_init_136 rfl 0 rfl ?_
  refine n_bipush dX11_init_137 (v := 24) (by decide) ?_
  refine n_naI (N' := 24) hb hR hF dX11_init_139 dX11_init_141 (by decide +kernel) fn_X11_64 (by decide) (by omega) (Nat.le_of_ble_eq_true rfl) (Nat.le_of_ble_eq_true rfl) (fun hR hF => ?_)
  refine n_aload_n dX11_init_144 rfl 0 rfl ?_
  refine n_bipush dX11_init_145 (v := 24) (by decide) ?_
  refine n_naI (N' := 24) hb hR hF dX11_init_147 dX11_init_149 (by decide +kernel) fn_X11_67 (by decide) (by omega) (Nat.le_of_ble_eq_true rfl) (Nat.le_of_ble_eq_true rfl) (fun hR hF => ?_)
  refine n_aload_n dX11_init_152 rfl 0 rfl ?_
  refine n_bipush dX11_init_153 (v := 24) (by decide) ?_
  refine n_naZ (N' := 24) hb hR hF dX11_init_155 dX11_init_157 (by decide +kernel) fn_X11_70 (by decide) (by omega) (Nat.le_of_ble_eq_true rfl) (Nat.le_of_ble_eq_true rfl) (fun hR hF => ?_)
  refine n_aload_n dX11_init_160 rfl 0 rfl ?_
  refine n_bipush dX11_init_161 (v := 16) (by decide) ?_
  refine n_naJ (N' := 16) hb hR hF dX11_init_163 dX11_init_165 (by decide +kernel) fn_X11_73 (by decide) (by omega) (Nat.le_of_ble_eq_true rfl) (Nat.le_of_ble_eq_true rfl) (fun hR hF => ?_)
  refine n_aload_n dX11_init_168 rfl 0 rfl ?_
  refine n_bipush dX11_init_169 (v := 16) (by decide) ?_
  refine n_naI (N' := 16) hb hR hF dX11_init_171 dX11_init_173 (by decide +kernel) fn_X11_76 (by decide) (by omega) (Nat.le_of_ble_eq_true rfl) (Nat.le_of_ble_eq_true rfl) (fun hR hF => ?_)
  refine n_aload_n dX11_init_176 rfl 0 rfl ?_
  refine n_bipush dX11_init_177 (v := 16) (by decide) ?_
  refine n_naI (N' := 16) hb hR hF dX11_init_179 dX11_init_181 (by decide +kernel) fn_X11_79 (by decide) (by omega) (Nat.le_of_ble_eq_true rfl) (Nat.le_of_ble_eq_true rfl) (fun hR hF => ?_)
  refine n_aload_n dX11_init_184 rfl 0 rfl ?_
  refine n_bipush dX11_init_185 (v := 60) (by decide) ?_
  refine n_naI (N' := 60) hb hR hF dX11_init_187 dX11_init_189 (by decide +kernel) fn_X11_82 (by decide) (by omega) (Nat.le_of_ble_eq_true rfl) (Nat.le_of_ble_eq_true rfl) (fun hR hF => ?_)
  refine n_aload_n dX11_init_192 rfl 0 rfl ?_
  refine n_bipush dX11_init_193 (v := 60) (by decide) ?_
  refine n_naI (N' := 60) hb hR hF dX11_init_195 dX11_init_197 (by decide +kernel) fn_X11_85 (by decide) (by omega) (Nat.le_of_ble_eq_true rfl) (Nat.le_of_ble_eq_true rfl) (fun hR hF => ?_)
  refine n_aload_n dX11_init_200 rfl 0 rfl ?_
  refine n_bipush dX11_init_201 (v := 30) (by decide) ?_
  refine n_naI (N' := 30) hb hR hF dX11_init_203 dX11_init_205 (by decide +kernel) fn_X11_88 (by decide) (by omega) (Nat.le_of_ble_eq_true rfl) (Nat.le_of_ble_eq_true rfl) (fun hR hF => ?_)
  refine n_aload_n dX11_init_208 rfl 0 rfl ?_
  refine n_bipush dX11_init_209 (v := 30) (by decide) ?_
  refine n_naI (N' := 30) hb hR hF dX11_init_211 dX11_init_213 (by decide +kernel) fn_X11_91 (by decide) (by omega) (Nat.le_of_ble_eq_true rfl) (Nat.le_of_ble_eq_true rfl) (fun hR hF => ?_)
  refine n_aload_n dX11_init_216 rfl 0 rfl ?_
  refine n_bipush dX11_init_217 (v := 30) (by decide) ?_
  refine n_naI (N' := 30) hb hR hF dX11_init_219 dX11_init_221 (by decide +kernel) fn_X11_94 (by decide) (by omega) (Nat.le_of_ble_eq_true rfl) (Nat.le_of_ble_eq_true rfl) (fun hR hF => ?_)
  refine n_aload_n dX11_init_224 rfl 0 rfl ?_
  refine n_sipush dX11_init_225 (v := 130) (by decide) ?_
  refine n_naI (N' := 130) hb hR hF dX11_init_228 dX11_init_230 (by decide +kernel) fn_X11_97 (by decide) (by omega) (Nat.le_of_ble_eq_true rfl) (Nat.le_of_ble_eq_true rfl) (fun hR hF => ?_)
  refine n_aload_n dX11_init_233 rfl 0 rfl ?_
  refine n_sipush dX11_init_234 (v := 130) (by decide) ?_
  refine n_naI (N' := 130) hb hR hF dX11_init_237 dX11_init_239 (by decide +kernel) fn_X11_100 (by decide) (by omega) (Nat.le_of_ble_eq_true rfl) (Nat.le_of_ble_eq_true rfl) (fun hR hF => ?_)
  refine n_aload_n dX11_init_242 rfl 0 rfl ?_
  refine n_sipush dX11_init_243 (v := 1200) (by decide) ?_
  refine n_naI (N' := 1200) hb hR hF dX11_init_246 dX11_init_248 (by decide +kernel) fn_X11_103 (by decide) (by omega) (Nat.le_of_ble_eq_true rfl) (Nat.le_of_ble_eq_true rfl) (fun hR hF => ?_)
  refine n_aload_n dX11_init_251 rfl 0 rfl ?_
  refine n_ldc dX11_init_252 (v := -1000000) (gm 1227 (by decide +kernel) rfl) ?_
  refine n_fI hb hF dX11_init_254 fn_X11_107 (by decide) (fun hF => ?_)
  refine n_aload_n dX11_init_257 rfl 0 rfl ?_
  refine n_bipush dX11_init_258 (v := 106) (by decide) ?_
  refine n_naI (N' := 106) hb hR hF dX11_init_260 dX11_init_262 (by decide +kernel) fn_X11_110 (by decide) (by omega) (Nat.le_of_ble_eq_true rfl) (Nat.le_of_ble_eq_true rfl) (fun hR hF => ?_)
  refine n_aload_n dX11_init_265 rfl 0 rfl ?_
  refine n_bipush dX11_init_266 (v := 106) (by decide) ?_
  refine n_naI (N' := 106) hb hR hF dX11_init_268 dX11_init_270 (by decide +kernel) fn_X11_113 (by decide) (by omega) (Nat.le_of_ble_eq_true rfl) (Nat.le_of_ble_eq_true rfl) (fun hR hF => ?_)
  refine n_aload_n dX11_init_273 rfl 0 rfl ?_
  refine n_bipush dX11_init_274 (v := 106) (by decide) ?_
  refine n_naI (N' := 106) hb hR hF dX11_init_276 dX11_init_278 (by decide +kernel) fn_X11_116 (by decide) (by omega) (Nat.le_of_ble_eq_true rfl) (Nat.le_of_ble_eq_true rfl) (fun hR hF => ?_)
  refine n_aload_n dX11_init_281 rfl 0 rfl ?_
  refine n_bipush dX11_init_282 (v := 24) (by decide) ?_
  refine n_naI (N' := 24) hb hR hF dX11_init_284 dX11_init_286 (by decide +kernel) fn_X11_119 (by decide) (by omega) (Nat.le_of_ble_eq_true rfl) (Nat.le_of_ble_eq_true rfl) (fun hR hF => ?_)
  refine n_aload_n dX11_init_289 rfl 0 rfl ?_
  refine n_sipush dX11_init_290 (v := 576) (by decide) ?_
  refine n_naZ (N' := 576) hb hR hF dX11_init_293 dX11_init_295 (by decide +kernel) fn_X11_122 (by decide) (by omega) (Nat.le_of_ble_eq_true rfl) (Nat.le_of_ble_eq_true rfl) (fun hR hF => ?_)
  refine n_aload_n dX11_init_298 rfl 0 rfl ?_
  refine n_bipush dX11_init_299 (v := 24) (by decide) ?_
  refine n_naI (N' := 24) hb hR hF dX11_init_301 dX11_init_303 (by decide +kernel) fn_X11_125 (by decide) (by omega) (Nat.le_of_ble_eq_true rfl) (Nat.le_of_ble_eq_true rfl) (fun hR hF => ?_)
  refine n_aload_n dX11_init_306 rfl 0 rfl ?_
  refine n_bipush dX11_init_307 (v := 24) (by decide) ?_
  refine n_naZ (N' := 24) hb hR hF dX11_init_309 dX11_init_311 (by decide +kernel) fn_X11_128 (by decide) (by omega) (Nat.le_of_ble_eq_true rfl) (Nat.le_of_ble_eq_true rfl) (fun hR hF => ?_)
  refine n_aload_n dX11_init_314 rfl 0 rfl ?_
  refine n_bipush dX11_init_315 (v := 24) (by decide) ?_
  refine n_naI (N' := 24) hb hR hF dX11_init_317 dX11_init_319 (by decide +kernel) fn_X11_131 (by decide) (by omega) (Nat.le_of_ble_eq_true rfl) (Nat.le_of_ble_eq_true rfl) (fun hR hF => ?_)
  refine n_aload_n dX11_init_322 rfl 0 rfl ?_
  refine n_bipush dX11_init_323 (v := 24) (by decide) ?_
  refine n_naI (N' := 24) hb hR hF dX11_init_325 dX11_init_327 (by decide +kernel) fn_X11_134 (by decide) (by omega) (Nat.le_of_ble_eq_true rfl) (Nat.le_of_ble_eq_true rfl) (fun hR hF => ?_)
  refine n_aload_n dX11_init_330 rfl 0 rfl ?_
  refine n_bipush dX11_init_331 (v := 48) (by decide) ?_
  refine n_naI (N' := 48) hb hR hF dX11_init_333 dX11_init_335 (by decide +kernel) fn_X11_137 (by decide) (by omega) (Nat.le_of_ble_eq_true rfl) (Nat.le_of_ble_eq_true rfl) (fun hR hF => ?_)
  refine n_aload_n dX11_init_338 rfl 0 rfl ?_
  refine n_sipush dX11_init_339 (v := 2880) (by decide) ?_
  refine n_naJ (N' := 2880) hb hR hF dX11_init_342 dX11_init_344 (by decide +kernel) fn_X11_140 (by decide) (by omega) (Nat.le_of_ble_eq_true rfl) (Nat.le_of_ble_eq_true rfl) (fun hR hF => ?_)
  refine n_aload_n dX11_init_347 rfl 0 rfl ?_
  refine n_bipush dX11_init_348 (v := 48) (by decide) ?_
  refine n_naI (N' := 48) hb hR hF dX11_init_350 dX11_init_352 (by decide +kernel) fn_X11_143 (by decide) (by omega) (Nat.le_of_ble_eq_true rfl) (Nat.le_of_ble_eq_true rfl) (fun hR hF => ?_)
  refine n_aload_n dX11_init_355 rfl 0 rfl ?_
  refine n_bipush dX11_init_356 (v := 24) (by decide) ?_
  refine n_naI (N' := 24) hb hR hF dX11_init_358 dX11_init_360 (by decide +kernel) fn_X11_146 (by decide) (by omega) (Nat.le_of_ble_eq_true rfl) (Nat.le_of_ble_eq_true rfl) (fun hR hF => ?_)
  refine n_aload_n dX11_init_363 rfl 0 rfl ?_
  refine n_bipush dX11_init_364 (v := 24) (by decide) ?_
  refine n_naI (N' := 24) hb hR hF dX11_init_366 dX11_init_368 (by decide +kernel) fn_X11_149 (by decide) (by omega) (Nat.le_of_ble_eq_true rfl) (Nat.le_of_ble_eq_true rfl) (fun hR hF => ?_)
  refine n_aload_n dX11_init_371 rfl 0 rfl ?_
  refine n_bipush dX11_init_372 (v := 24) (by decide) ?_
  refine n_naI (N' := 24) hb hR hF dX11_init_374 dX11_init_376 (by decide +kernel) fn_X11_152 (by decide) (by omega) (Nat.le_of_ble_eq_true rfl) (Nat.le_of_ble_eq_true rfl) (fun hR hF => ?_)
  refine n_aload_n dX11_init_379 rfl 0 rfl ?_
  refine n_bipush dX11_init_380 (v := 24) (by decide) ?_
  refine n_naZ (N' := 24) hb hR hF dX11_init_382 dX11_init_384 (by decide +kernel) fn_X11_155 (by decide) (by omega) (Nat.le_of_ble_eq_true rfl) (Nat.le_of_ble_eq_true rfl) (fun hR hF => ?_)
  refine n_aload_n dX11_init_387 rfl 0 rfl ?_
  refine n_bipush dX11_init_388 (v := 24) (by decide) ?_
  refine n_naZ (N' := 24) hb hR hF dX11_init_390 dX11_init_392 (by decide +kernel) fn_X11_158 (by decide) (by omega) (Nat.le_of_ble_eq_true rfl) (Nat.le_of_ble_eq_true rfl) (fun hR hF => ?_)
  refine n_aload_n dX11_init_395 rfl 0 rfl ?_
  refine n_bipush dX11_init_396 (v := 24) (by decide) ?_
  refine n_naI (N' := 24) hb hR hF dX11_init_398 dX11_init_400 (by decide +kernel) fn_X11_161 (by decide) (by omega) (Nat.le_of_ble_eq_true rfl) (Nat.le_of_ble_eq_true rfl) (fun hR hF => ?_)
  refine n_aload_n dX11_init_403 rfl 0 rfl ?_
  refine n_bipush dX11_init_404 (v := 24) (by decide) ?_
  refine n_naJ (N' := 24) hb hR hF dX11_init_406 dX11_init_408 (by decide +kernel) fn_X11_164 (by decide) (by omega) (Nat.le_of_ble_eq_true rfl) (Nat.le_of_ble_eq_true rfl) (fun hR hF => ?_)
  refine n_aload_n dX11_init_411 rfl 0 rfl ?_
  refine n_bipush dX11_init_412 (v := 24) (by decide) ?_
  refine n_naJ (N' := 24) hb hR hF dX11_init_414 dX11_init_416 (by decide +kernel) fn_X11_167 (by decide) (by omega) (Nat.le_of_ble_eq_true rfl) (Nat.le_of_ble_eq_true rfl) (fun hR hF => ?_)
  refine n_aload_n dX11_init_419 rfl 0 rfl ?_
  refine n_bipush dX11_init_420 (v := 24) (by decide) ?_
  refine n_naI (N' := 24) hb hR hF dX11_init_422 dX11_init_424 (by decide +kernel) fn_X11_170 (by decide) (by omega) (Nat.le_of_ble_eq_true rfl) (Nat.le_of_ble_eq_true rfl) (fun hR hF => ?_)
  refine n_aload_n dX11_init_427 rfl 0 rfl ?_
  refine n_bipush dX11_init_428 (v := 24) (by decide) ?_
  refine n_naJ (N' := 24) hb hR hF dX11_init_430 dX11_init_432 (by decide +kernel) fn_X11_173 (by decide) (by omega) (Nat.le_of_ble_eq_true rfl) (Nat.le_of_ble_eq_true rfl) (fun hR hF => ?_)
  refine n_aload_n dX11_init_435 rfl 0 rfl ?_
  refine n_bipush dX11_init_436 (v := 24) (by decide) ?_
  refine n_naJ (N' := 24) hb hR hF dX11_init_438 dX11_init_440 (by decide +kernel) fn_X11_176 (by decide) (by omega) (Nat.le_of_ble_eq_true rfl) (Nat.le_of_ble_eq_true rfl) (fun hR hF => ?_)
  refine n_aload_n dX11_init_443 rfl 0 rfl ?_
  refine n_bipush dX11_init_444 (v := 24) (by decide) ?_
  refine n_naI (N' := 24) hb hR hF dX11_init_446 dX11_init_448 (by decide +kernel) fn_X11_179 (by decide) (by omega) (Nat.le_of_ble_eq_true rfl) (Nat.le_of_ble_eq_true rfl) (fun hR hF => ?_)
  refine n_aload_n dX11_init_451 rfl 0 rfl ?_
  refine n_iconst dX11_init_452 (v := -1) (by decide) ?_
  refine n_fI hb hF dX11_init_453 fn_X11_182 (by decide) (fun hF => ?_)
  refine n_aload_n dX11_init_456 rfl 0 rfl ?_
  refine n_sipush dX11_init_457 (v := 256) (by decide) ?_
  refine n_naJ (N' := 256) hb hR hF dX11_init_460 dX11_init_462 (by decide +kernel) fn_X11_185 (by decide) (by omega) (Nat.le_of_ble_eq_true rfl) (Nat.le_of_ble_eq_true rfl) (fun hR hF => ?_)
  refine n_aload_n dX11_init_465 rfl 0 rfl ?_
  refine n_sipush dX11_init_466 (v := 256) (by decide) ?_
  refine n_naJ (N' := 256) hb hR hF dX11_init_469 dX11_init_471 (by decide +kernel) fn_X11_188 (by decide) (by omega) (Nat.le_of_ble_eq_true rfl) (Nat.le_of_ble_eq_true rfl) (fun hR hF => ?_)
  refine n_aload_n dX11_init_474 rfl 0 rfl ?_
  refine n_sipush dX11_init_475 (v := 256) (by decide) ?_
  refine n_naZ (N' := 256) hb hR hF dX11_init_478 dX11_init_480 (by decide +kernel) fn_X11_191 (by decide) (by omega) (Nat.le_of_ble_eq_true rfl) (Nat.le_of_ble_eq_true rfl) (fun hR hF => ?_)
  refine n_aload_n dX11_init_483 rfl 0 rfl ?_
  refine n_bipush dX11_init_484 (v := 16) (by decide) ?_
  refine n_naJ (N' := 16) hb hR hF dX11_init_486 dX11_init_488 (by decide +kernel) fn_X11_194 (by decide) (by omega) (Nat.le_of_ble_eq_true rfl) (Nat.le_of_ble_eq_true rfl) (fun hR hF => ?_)
  refine n_aload_n dX11_init_491 rfl 0 rfl ?_
  refine n_bipush dX11_init_492 (v := 16) (by decide) ?_
  refine n_naJ (N' := 16) hb hR hF dX11_init_494 dX11_init_496 (by decide +kernel) fn_X11_197 (by decide) (by omega) (Nat.le_of_ble_eq_true rfl) (Nat.le_of_ble_eq_true rfl) (fun hR hF => ?_)
  refine n_aload_n dX11_init_499 rfl 0 rfl ?_
  refine n_bipush dX11_init_500 (v := 16) (by decide) ?_
  refine n_naI (N' := 16) hb hR hF dX11_init_502 dX11_init_504 (by decide +kernel) fn_X11_200 (by decide) (by omega) (Nat.le_of_ble_eq_true rfl) (Nat.le_of_ble_eq_true rfl) (fun hR hF => ?_)
  refine n_aload_n dX11_init_507 rfl 0 rfl ?_
  refine n_bipush dX11_init_508 (v := 16) (by decide) ?_
  refine n_naI (N' := 16) hb hR hF dX11_init_510 dX11_init_512 (by decide +kernel) fn_X11_203 (by decide) (by omega) (Nat.le_of_ble_eq_true rfl) (Nat.le_of_ble_eq_true rfl) (fun hR hF => ?_)
  refine n_aload_n dX11_init_515 rfl 0 rfl ?_
  refine n_bipush dX11_init_516 (v := 8) (by decide) ?_
  refine n_naI (N' := 8) hb hR hF dX11_init_518 dX11_init_520 (by decide +kernel) fn_X11_206 (by decide) (by omega) (Nat.le_of_ble_eq_true rfl) (Nat.le_of_ble_eq_true rfl) (fun hR hF => ?_)
  refine n_aload_n dX11_init_523 rfl 0 rfl ?_
  refine n_bipush dX11_init_524 (v := 8) (by decide) ?_
  refine n_naI (N' := 8) hb hR hF dX11_init_526 dX11_init_528 (by decide +kernel) fn_X11_209 (by decide) (by omega) (Nat.le_of_ble_eq_true rfl) (Nat.le_of_ble_eq_true rfl) (fun hR hF => ?_)
  refine n_aload_n dX11_init_531 rfl 0 rfl ?_
  refine n_sipush dX11_init_532 (v := 2400) (by decide) ?_
  refine n_naJ (N' := 2400) hb hR hF dX11_init_535 dX11_init_537 (by decide +kernel) fn_X11_212 (by decide) (by omega) (Nat.le_of_ble_eq_true rfl) (Nat.le_of_ble_eq_true rfl) (fun hR hF => ?_)
  refine n_aload_n dX11_init_540 rfl 0 rfl ?_
  refine n_sipush dX11_init_541 (v := 300) (by decide) ?_
  refine n_naJ (N' := 300) hb hR hF dX11_init_544 dX11_init_546 (by decide +kernel) fn_X11_215 (by decide) (by omega) (Nat.le_of_ble_eq_true rfl) (Nat.le_of_ble_eq_true rfl) (fun hR hF => ?_)
  exact n_vret dX11_init_549 rfl (Nat.le_of_ble_eq_true rfl) (Nat.le_of_ble_eq_true rfl)
