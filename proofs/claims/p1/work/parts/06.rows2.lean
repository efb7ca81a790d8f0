theorem dX11_init_34 : decode cX11_init 34 = .ok (.aload_n 0, 1) := by decide +kernel
theorem dX11_init_35 : decode cX11_init 35 = .ok (.iconst 2, 1) := by decide +kernel
theorem dX11_init_36 : decode cX11_init 36 = .ok (.newarray .int, 2) := by decide +kernel
theorem dX11_init_38 : decode cX11_init 38 = .ok (.putfield 24, 3) := by decide +kernel
theorem dX11_init_41 : decode cX11_init 41 = .ok (.aload_n 0, 1) := by decide +kernel
theorem dX11_init_42 : decode cX11_init 42 = .ok (.iconst 2, 1) := by decide +kernel
theorem dX11_init_43 : decode cX11_init 43 = .ok (.newarray .int, 2) := by decide +kernel
theorem dX11_init_45 : decode cX11_init 45 = .ok (.putfield 27, 3) := by decide +kernel
theorem dX11_init_48 : decode cX11_init 48 = .ok (.aload_n 0, 1) := by decide +kernel
theorem dX11_init_49 : decode cX11_init 49 = .ok (.iconst 2, 1) := by decide +kernel
theorem dX11_init_50 : decode cX11_init 50 = .ok (.newarray .int, 2) := by decide +kernel
theorem dX11_init_52 : decode cX11_init 52 = .ok (.putfield 30, 3) := by decide +kernel
theorem dX11_init_55 : decode cX11_init 55 = .ok (.aload_n 0, 1) := by decide +kernel
theorem dX11_init_56 : decode cX11_init 56 = .ok (.iconst 2, 1) := by decide +kernel
theorem dX11_init_57 : decode cX11_init 57 = .ok (.newarray .int, 2) := by decide +kernel
theorem dX11_init_59 : decode cX11_init 59 = .ok (.putfield 33, 3) := by decide +kernel
theorem dX11_init_62 : decode cX11_init 62 = .ok (.aload_n 0, 1) := by decide +kernel
theorem dX11_init_63 : decode cX11_init 63 = .ok (.iconst 2, 1) := by decide +kernel
theorem dX11_init_64 : decode cX11_init 64 = .ok (.newarray .int, 2) := by decide +kernel
theorem dX11_init_66 : decode cX11_init 66 = .ok (.putfield 36, 3) := by decide +kernel
theorem dX11_init_69 : decode cX11_init 69 = .ok (.aload_n 0, 1) := by decide +kernel
theorem dX11_init_70 : decode cX11_init 70 = .ok (.bipush 12, 2) := by decide +kernel
theorem dX11_init_72 : decode cX11_init 72 = .ok (.newarray .int, 2) := by decide +kernel
theorem dX11_init_74 : decode cX11_init 74 = .ok (.putfield 39, 3) := by decide +kernel
theorem dX11_init_77 : decode cX11_init 77 = .ok (.aload_n 0, 1) := by decide +kernel
theorem dX11_init_78 : decode cX11_init 78 = .ok (.bipush 48, 2) := by decide +kernel
theorem dX11_init_80 : decode cX11_init 80 = .ok (.newarray .int, 2) := by decide +kernel
theorem dX11_init_82 : decode cX11_init 82 = .ok (.putfield 42, 3) := by decide +kernel
theorem dX11_init_85 : decode cX11_init 85 = .ok (.aload_n 0, 1) := by decide +kernel
theorem dX11_init_86 : decode cX11_init 86 = .ok (.sipush 384, 3) := by decide +kernel
theorem dX11_init_89 : decode cX11_init 89 = .ok (.newarray .int, 2) := by decide +kernel
theorem dX11_init_91 : decode cX11_init 91 = .ok (.putfield 45, 3) := by decide +kernel
theorem dX11_init_94 : decode cX11_init 94 = .ok (.aload_n 0, 1) := by decide +kernel
theorem dX11_init_95 : decode cX11_init 95 = .ok (.bipush 48, 2) := by decide +kernel
theorem dX11_init_97 : decode cX11_init 97 = .ok (.newarray .int, 2) := by decide +kernel
theorem dX11_init_99 : decode cX11_init 99 = .ok (.putfield 48, 3) := by decide +kernel
theorem dX11_init_102 : decode cX11_init 102 = .ok (.aload_n 0, 1) := by decide +kernel
theorem dX11_init_103 : decode cX11_init 103 = .ok (.bipush 48, 2) := by decide +kernel
theorem dX11_init_105 : decode cX11_init 105 = .ok (.newarray .int, 2) := by decide +kernel
theorem dX11_init_107 : decode cX11_init 107 = .ok (.putfield 51, 3) := by decide +kernel
theorem dX11_init_110 : decode cX11_init 110 = .ok (.aload_n 0, 1) := by decide +kernel
theorem dX11_init_111 : decode cX11_init 111 = .ok (.sipush 192, 3) := by decide +kernel
theorem dX11_init_114 : decode cX11_init 114 = .ok (.newarray .int, 2) := by decide +kernel
theorem dX11_init_116 : decode cX11_init 116 = .ok (.putfield 54, 3) := by decide +kernel
theorem dX11_init_119 : decode cX11_init 119 = .ok (.aload_n 0, 1) := by decide +kernel
theorem dX11_init_120 : decode cX11_init 120 = .ok (.sipush 192, 3) := by decide +kernel
theorem dX11_init_123 : decode cX11_init 123 = .ok (.newarray .int, 2) := by decide +kernel
theorem dX11_init_125 : decode cX11_init 125 = .ok (.putfield 57, 3) := by decide +kernel
theorem dX11_init_128 : decode cX11_init 128 = .ok (.aload_n 0, 1) := by decide +kernel
theorem dX11_init_129 : decode cX11_init 129 = .ok (.sipush 128, 3) := by decide +kernel
theorem dX11_init_132 : decode cX11_init 132 = .ok (.newarray .boolean, 2) := by decide +kernel
theorem dX11_init_134 : decode cX11_init 134 = .ok (.putfield 60, 3) := by decide +kernel
theorem dX11_init_137 : decode cX11_init 137 = .ok (.aload_n 0, 1) := by decide +kernel
theorem dX11_init_138 : decode cX11_init 138 = .ok (.iconst 2, 1) := by decide +kernel
theorem dX11_init_139 : decode cX11_init 139 = .ok (.newarray .boolean, 2) := by decide +kernel
theorem dX11_init_141 : decode cX11_init 141 = .ok (.putfield 64, 3) := by decide +kernel
theorem dX11_init_144 : decode cX11_init 144 = .ok (.aload_n 0, 1) := by decide +kernel
theorem dX11_init_145 : decode cX11_init 145 = .ok (.bipush 16, 2) := by decide +kernel
theorem dX11_init_147 : decode cX11_init 147 = .ok (.newarray .long, 2) := by decide +kernel
theorem dX11_init_149 : decode cX11_init 149 = .ok (.putfield 67, 3) := by decide +kernel
theorem dX11_init_152 : decode cX11_init 152 = .ok (.aload_n 0, 1) := by decide +kernel
theorem dX11_init_153 : decode cX11_init 153 = .ok (.bipush 16, 2) := by decide +kernel
theorem dX11_init_155 : decode cX11_init 155 = .ok (.newarray .long, 2) := by decide +kernel
theorem dX11_init_157 : decode cX11_init 157 = .ok (.putfield 71, 3) := by decide +kernel
theorem dX11_init_160 : decode cX11_init 160 = .ok (.aload_n 0, 1) := by decide +kernel
theorem dX11_init_161 : decode cX11_init 161 = .ok (.sipush 192, 3) := by decide +kernel
theorem dX11_init_164 : decode cX11_init 164 = .ok (.newarray .long, 2) := by decide +kernel
theorem dX11_init_166 : decode cX11_init 166 = .ok (.putfield 74, 3) := by decide +kernel
theorem dX11_init_169 : decode cX11_init 169 = .ok (.aload_n 0, 1) := by decide +kernel
theorem dX11_init_170 : decode cX11_init 170 = .ok (.bipush 6, 2) := by decide +kernel
theorem dX11_init_172 : decode cX11_init 172 = .ok (.newarray .int, 2) := by decide +kernel
theorem dX11_init_174 : decode cX11_init 174 = .ok (.putfield 77, 3) := by decide +kernel
theorem dX11_init_177 : decode cX11_init 177 = .ok (.aload_n 0, 1) := by decide +kernel
theorem dX11_init_178 : decode cX11_init 178 = .ok (.bipush 56, 2) := by decide +kernel
theorem dX11_init_180 : decode cX11_init 180 = .ok (.newarray .int, 2) := by decide +kernel
theorem dX11_init_182 : decode cX11_init 182 = .ok (.putfield 80, 3) := by decide +kernel
theorem dX11_init_185 : decode cX11_init 185 = .ok (.aload_n 0, 1) := by decide +kernel
theorem dX11_init_186 : decode cX11_init 186 = .ok (.sipush 448, 3) := by decide +kernel
theorem dX11_init_189 : decode cX11_init 189 = .ok (.newarray .long, 2) := by decide +kernel
theorem dX11_init_191 : decode cX11_init 191 = .ok (.putfield 83, 3) := by decide +kernel
theorem dX11_init_194 : decode cX11_init 194 = .ok (.aload_n 0, 1) := by decide +kernel
theorem dX11_init_195 : decode cX11_init 195 = .ok (.bipush 7, 2) := by decide +kernel
theorem dX11_init_197 : decode cX11_init 197 = .ok (.newarray .long, 2) := by decide +kernel
theorem dX11_init_199 : decode cX11_init 199 = .ok (.putfield 86, 3) := by decide +kernel
theorem dX11_init_202 : decode cX11_init 202 = .ok (.aload_n 0, 1) := by decide +kernel
theorem dX11_init_203 : decode cX11_init 203 = .ok (.bipush 7, 2) := by decide +kernel
theorem dX11_init_205 : decode cX11_init 205 = .ok (.newarray .long, 2) := by decide +kernel
theorem dX11_init_207 : decode cX11_init 207 = .ok (.putfield 89, 3) := by decide +kernel
theorem dX11_init_210 : decode cX11_init 210 = .ok (.aload_n 0, 1) := by decide +kernel
theorem dX11_init_211 : decode cX11_init 211 = .ok (.bipush 6, 2) := by decide +kernel
theorem dX11_init_213 : decode cX11_init 213 = .ok (.newarray .int, 2) := by decide +kernel
theorem dX11_init_215 : decode cX11_init 215 = .ok (.putfield 92, 3) := by decide +kernel
theorem dX11_init_218 : decode cX11_init 218 = .ok (.aload_n 0, 1) := by decide +kernel
theorem dX11_init_219 : decode cX11_init 219 = .ok (.bipush 6, 2) := by decide +kernel
theorem dX11_init_221 : decode cX11_init 221 = .ok (.newarray .int, 2) := by decide +kernel
theorem dX11_init_223 : decode cX11_init 223 = .ok (.putfield 95, 3) := by decide +kernel
theorem dX11_init_226 : decode cX11_init 226 = .ok (.aload_n 0, 1) := by decide +kernel
theorem dX11_init_227 : decode cX11_init 227 = .ok (.bipush 6, 2) := by decide +kernel
theorem dX11_init_229 : decode cX11_init 229 = .ok (.newarray .int, 2) := by decide +kernel
theorem dX11_init_231 : decode cX11_init 231 = .ok (.dup, 1) := by decide +kernel
theorem dX11_init_232 : decode cX11_init 232 = .ok (.iconst 0, 1) := by decide +kernel
theorem dX11_init_233 : decode cX11_init 233 = .ok (.iconst (-1), 1) := by decide +kernel
theorem dX11_init_234 : decode cX11_init 234 = .ok (.iastore, 1) := by decide +kernel
theorem dX11_init_235 : decode cX11_init 235 = .ok (.dup, 1) := by decide +kernel
theorem dX11_init_236 : decode cX11_init 236 = .ok (.iconst 1, 1) := by decide +kernel
theorem dX11_init_237 : decode cX11_init 237 = .ok (.iconst (-1), 1) := by decide +kernel
theorem dX11_init_238 : decode cX11_init 238 = .ok (.iastore, 1) := by decide +kernel
theorem dX11_init_239 : decode cX11_init 239 = .ok (.dup, 1) := by decide +kernel
theorem dX11_init_240 : decode cX11_init 240 = .ok (.iconst 2, 1) := by decide +kernel
theorem dX11_init_241 : decode cX11_init 241 = .ok (.iconst (-1), 1) := by decide +kernel
theorem dX11_init_242 : decode cX11_init 242 = .ok (.iastore, 1) := by decide +kernel
theorem dX11_init_243 : decode cX11_init 243 = .ok (.dup, 1) := by decide +kernel
theorem dX11_init_244 : decode cX11_init 244 = .ok (.iconst 3, 1) := by decide +kernel
theorem dX11_init_245 : decode cX11_init 245 = .ok (.iconst (-1), 1) := by decide +kernel
theorem dX11_init_246 : decode cX11_init 246 = .ok (.iastore, 1) := by decide +kernel
theorem dX11_init_247 : decode cX11_init 247 = .ok (.dup, 1) := by decide +kernel
theorem dX11_init_248 : decode cX11_init 248 = .ok (.iconst 4, 1) := by decide +kernel
theorem dX11_init_249 : decode cX11_init 249 = .ok (.iconst (-1), 1) := by decide +kernel
theorem dX11_init_250 : decode cX11_init 250 = .ok (.iastore, 1) := by decide +kernel
theorem dX11_init_251 : decode cX11_init 251 = .ok (.dup, 1) := by decide +kernel
theorem dX11_init_252 : decode cX11_init 252 = .ok (.iconst 5, 1) := by decide +kernel
theorem dX11_init_253 : decode cX11_init 253 = .ok (.iconst (-1), 1) := by decide +kernel
theorem dX11_init_254 : decode cX11_init 254 = .ok (.iastore, 1) := by decide +kernel
theorem dX11_init_255 : decode cX11_init 255 = .ok (.putfield 98, 3) := by decide +kernel
theorem dX11_init_258 : decode cX11_init 258 = .ok (.aload_n 0, 1) := by decide +kernel
theorem dX11_init_259 : decode cX11_init 259 = .ok (.bipush 40, 2) := by decide +kernel
theorem dX11_init_261 : decode cX11_init 261 = .ok (.newarray .int, 2) := by decide +kernel
theorem dX11_init_263 : decode cX11_init 263 = .ok (.putfield 101, 3) := by decide +kernel
theorem dX11_init_266 : decode cX11_init 266 = .ok (.aload_n 0, 1) := by decide +kernel
theorem dX11_init_267 : decode cX11_init 267 = .ok (.bipush 40, 2) := by decide +kernel
theorem dX11_init_269 : decode cX11_init 269 = .ok (.newarray .int, 2) := by decide +kernel
theorem dX11_init_271 : decode cX11_init 271 = .ok (.putfield 104, 3) := by decide +kernel
theorem dX11_init_274 : decode cX11_init 274 = .ok (.aload_n 0, 1) := by decide +kernel
theorem dX11_init_275 : decode cX11_init 275 = .ok (.sipush 3001, 3) := by decide +kernel
theorem dX11_init_278 : decode cX11_init 278 = .ok (.newarray .int, 2) := by decide +kernel
theorem dX11_init_280 : decode cX11_init 280 = .ok (.putfield 107, 3) := by decide +kernel
theorem dX11_init_283 : decode cX11_init 283 = .ok (.aload_n 0, 1) := by decide +kernel
theorem dX11_init_284 : decode cX11_init 284 = .ok (.sipush 9003, 3) := by decide +kernel
theorem dX11_init_287 : decode cX11_init 287 = .ok (.newarray .int, 2) := by decide +kernel
theorem dX11_init_289 : decode cX11_init 289 = .ok (.putfield 110, 3) := by decide +kernel
theorem dX11_init_292 : decode cX11_init 292 = .ok (.aload_n 0, 1) := by decide +kernel
theorem dX11_init_293 : decode cX11_init 293 = .ok (.sipush 3001, 3) := by decide +kernel
theorem dX11_init_296 : decode cX11_init 296 = .ok (.newarray .int, 2) := by decide +kernel
theorem dX11_init_298 : decode cX11_init 298 = .ok (.putfield 113, 3) := by decide +kernel
theorem dX11_init_301 : decode cX11_init 301 = .ok (.aload_n 0, 1) := by decide +kernel
theorem dX11_init_302 : decode cX11_init 302 = .ok (.sipush 3001, 3) := by decide +kernel
theorem dX11_init_305 : decode cX11_init 305 = .ok (.newarray .int, 2) := by decide +kernel
theorem dX11_init_307 : decode cX11_init 307 = .ok (.putfield 116, 3) := by decide +kernel
theorem dX11_init_310 : decode cX11_init 310 = .ok (.aload_n 0, 1) := by decide +kernel
theorem dX11_init_311 : decode cX11_init 311 = .ok (.bipush 7, 2) := by decide +kernel
theorem dX11_init_313 : decode cX11_init 313 = .ok (.newarray .int, 2) := by decide +kernel
theorem dX11_init_315 : decode cX11_init 315 = .ok (.putfield 119, 3) := by decide +kernel
theorem dX11_init_318 : decode cX11_init 318 = .ok (.aload_n 0, 1) := by decide +kernel
theorem dX11_init_319 : decode cX11_init 319 = .ok (.bipush 6, 2) := by decide +kernel
theorem dX11_init_321 : decode cX11_init 321 = .ok (.newarray .int, 2) := by decide +kernel
theorem dX11_init_323 : decode cX11_init 323 = .ok (.putfield 122, 3) := by decide +kernel
theorem dX11_init_326 : decode cX11_init 326 = .ok (.aload_n 0, 1) := by decide +kernel
theorem dX11_init_327 : decode cX11_init 327 = .ok (.iconst (-1), 1) := by decide +kernel
theorem dX11_init_328 : decode cX11_init 328 = .ok (.putfield 125, 3) := by decide +kernel
theorem dX11_init_331 : decode cX11_init 331 = .ok (.aload_n 0, 1) := by decide +kernel
theorem dX11_init_332 : decode cX11_init 332 = .ok (.bipush 6, 2) := by decide +kernel
theorem dX11_init_334 : decode cX11_init 334 = .ok (.newarray .int, 2) := by decide +kernel
theorem dX11_init_336 : decode cX11_init 336 = .ok (.putfield 128, 3) := by decide +kernel
theorem dX11_init_339 : decode cX11_init 339 = .ok (.aload_n 0, 1) := by decide +kernel
theorem dX11_init_340 : decode cX11_init 340 = .ok (.bipush 8, 2) := by decide +kernel
theorem dX11_init_342 : decode cX11_init 342 = .ok (.newarray .int, 2) := by decide +kernel
theorem dX11_init_344 : decode cX11_init 344 = .ok (.putfield 131, 3) := by decide +kernel
theorem dX11_init_347 : decode cX11_init 347 = .ok (.aload_n 0, 1) := by decide +kernel
theorem dX11_init_348 : decode cX11_init 348 = .ok (.bipush 30, 2) := by decide +kernel
theorem dX11_init_350 : decode cX11_init 350 = .ok (.newarray .int, 2) := by decide +kernel
theorem dX11_init_352 : decode cX11_init 352 = .ok (.putfield 134, 3) := by decide +kernel
theorem dX11_init_355 : decode cX11_init 355 = .ok (.aload_n 0, 1) := by decide +kernel
theorem dX11_init_356 : decode cX11_init 356 = .ok (.bipush 30, 2) := by decide +kernel
theorem dX11_init_358 : decode cX11_init 358 = .ok (.newarray .int, 2) := by decide +kernel
theorem dX11_init_360 : decode cX11_init 360 = .ok (.putfield 137, 3) := by decide +kernel
theorem dX11_init_363 : decode cX11_init 363 = .ok (.aload_n 0, 1) := by decide +kernel
theorem dX11_init_364 : decode cX11_init 364 = .ok (.bipush 30, 2) := by decide +kernel
theorem dX11_init_366 : decode cX11_init 366 = .ok (.newarray .int, 2) := by decide +kernel
theorem dX11_init_368 : decode cX11_init 368 = .ok (.putfield 140, 3) := by decide +kernel
theorem dX11_init_371 : decode cX11_init 371 = .ok (.aload_n 0, 1) := by decide +kernel
theorem dX11_init_372 : decode cX11_init 372 = .ok (.bipush 30, 2) := by decide +kernel
theorem dX11_init_374 : decode cX11_init 374 = .ok (.newarray .int, 2) := by decide +kernel
theorem dX11_init_376 : decode cX11_init 376 = .ok (.putfield 143, 3) := by decide +kernel
theorem dX11_init_379 : decode cX11_init 379 = .ok (.aload_n 0, 1) := by decide +kernel
theorem dX11_init_380 : decode cX11_init 380 = .ok (.bipush 30, 2) := by decide +kernel
theorem dX11_init_382 : decode cX11_init 382 = .ok (.newarray .boolean, 2) := by decide +kernel
theorem dX11_init_384 : decode cX11_init 384 = .ok (.putfield 146, 3) := by decide +kernel
theorem dX11_init_387 : decode cX11_init 387 = .ok (.aload_n 0, 1) := by decide +kernel
theorem dX11_init_388 : decode cX11_init 388 = .ok (.iconst 3, 1) := by decide +kernel
theorem dX11_init_389 : decode cX11_init 389 = .ok (.newarray .int, 2) := by decide +kernel
theorem dX11_init_391 : decode cX11_init 391 = .ok (.putfield 149, 3) := by decide +kernel
theorem dX11_init_394 : decode cX11_init 394 = .ok (.aload_n 0, 1) := by decide +kernel
theorem dX11_init_395 : decode cX11_init 395 = .ok (.bipush 18, 2) := by decide +kernel
theorem dX11_init_397 : decode cX11_init 397 = .ok (.newarray .int, 2) := by decide +kernel
theorem dX11_init_399 : decode cX11_init 399 = .ok (.putfield 152, 3) := by decide +kernel
theorem dX11_init_402 : decode cX11_init 402 = .ok (.aload_n 0, 1) := by decide +kernel
theorem dX11_init_403 : decode cX11_init 403 = .ok (.bipush 18, 2) := by decide +kernel
theorem dX11_init_405 : decode cX11_init 405 = .ok (.newarray .int, 2) := by decide +kernel
theorem dX11_init_407 : decode cX11_init 407 = .ok (.putfield 155, 3) := by decide +kernel
theorem dX11_init_410 : decode cX11_init 410 = .ok (.aload_n 0, 1) := by decide +kernel
theorem dX11_init_411 : decode cX11_init 411 = .ok (.invokevirtual 158, 3) := by decide +kernel
theorem dX11_init_414 : decode cX11_init 414 = .ok (.aload_n 0, 1) := by decide +kernel
theorem dX11_init_415 : decode cX11_init 415 = .ok (.invokevirtual 161, 3) := by decide +kernel
theorem dX11_init_418 : decode cX11_init 418 = .ok (.iconst 0, 1) := by decide +kernel
theorem dX11_init_419 : decode cX11_init 419 = .ok (.istore_n 1, 1) := by decide +kernel
theorem dX11_init_420 : decode cX11_init 420 = .ok (.iload_n 1, 1) := by decide +kernel
theorem dX11_init_421 : decode cX11_init 421 = .ok (.iconst 3, 1) := by decide +kernel
theorem dX11_init_422 : decode cX11_init 422 = .ok (.if_icmp .ge 16, 3) := by decide +kernel
theorem dX11_init_425 : decode cX11_init 425 = .ok (.aload_n 0, 1) := by decide +kernel
theorem dX11_init_426 : decode cX11_init 426 = .ok (.getfield 149, 3) := by decide +kernel
theorem dX11_init_429 : decode cX11_init 429 = .ok (.iload_n 1, 1) := by decide +kernel
theorem dX11_init_430 : decode cX11_init 430 = .ok (.iconst (-1), 1) := by decide +kernel
theorem dX11_init_431 : decode cX11_init 431 = .ok (.iastore, 1) := by decide +kernel
theorem dX11_init_432 : decode cX11_init 432 = .ok (.iinc 1 1, 3) := by decide +kernel
theorem dX11_init_435 : decode cX11_init 435 = .ok (.goto (-15), 3) := by decide +kernel
theorem dX11_init_438 : decode cX11_init 438 = .ok (.return_, 1) := by decide +kernel
theorem dX11_sign_0 : decode cX11_sign 0 = .ok (.iload_n 1, 1) := by decide +kernel
theorem dX11_sign_1 : decode cX11_sign 1 = .ok (.aload_n 0, 1) := by decide +kernel
theorem dX11_sign_2 : decode cX11_sign 2 = .ok (.getfield 164, 3) := by decide +kernel
theorem dX11_sign_5 : decode cX11_sign 5 = .ok (.if_icmp .ge 16, 3) := by decide +kernel
theorem dX11_sign_21 : decode cX11_sign 21 = .ok (.iconst 0, 1) := by decide +kernel
theorem dX11_sign_22 : decode cX11_sign 22 = .ok (.ireturn, 1) := by decide +kernel
theorem dX11_isGood_0 : decode cX11_isGood 0 = .ok (.aload_n 0, 1) := by decide +kernel
theorem dX11_isGood_1 : decode cX11_isGood 1 = .ok (.getfield 167, 3) := by decide +kernel
theorem dX11_isGood_4 : decode cX11_isGood 4 = .ok (.ifCond .ne 7, 3) := by decide +kernel
theorem dX11_isGood_7 : decode cX11_isGood 7 = .ok (.iconst 1, 1) := by decide +kernel
theorem dX11_isGood_8 : decode cX11_isGood 8 = .ok (.goto 4, 3) := by decide +kernel
theorem dX11_isGood_12 : decode cX11_isGood 12 = .ok (.ireturn, 1) := by decide +kernel
set_option maxRecDepth 20000 in
theorem ggX11_goOn_X11_sign : GoodIn wsX11_goOn wsX11_sign := goodIn_r _ [11, 3, 12, 28, 29, 30, 31, 32, 33, 34, 35, 36, 37, 38, 39, 40, 41, 42, 43, 44, 45, 46, 47, 48, 49, 50, 51, 52, 53, 54, 55, 56, 57, 58, 59, 60, 61, 62, 63, 64, 65, 66, 67, 68, 69, 70, 71, 72, 73, 74, 75, 76, 77, 78, 79, 80, 81, 82, 83, 84, 85, 86, 87, 88, 89, 90, 91, 92, 93, 94, 95, 96, 97, 98] (by decide +kernel) (by decide +kernel)
set_option maxRecDepth 20000 in
theorem gX11_goOn_X11_sign : GoodIn wsX11_goOn (wsV RX11 188 RX11 yX11_sign wsX11_sign) := goodIn_app (goodIn_of _ (by decide +kernel)) ggX11_goOn_X11_sign
theorem dX11_goOn_0 : decode cX11_goOn 0 = .ok (.aload_n 0, 1) := by decide +kernel
theorem dX11_goOn_1 : decode cX11_goOn 1 = .ok (.aload_n 0, 1) := by decide +kernel
theorem dX11_goOn_2 : decode cX11_goOn 2 = .ok (.getfield 182, 3) := by decide +kernel
theorem dX11_goOn_5 : decode cX11_goOn 5 = .ok (.putfield 185, 3) := by decide +kernel
theorem dX11_goOn_8 : decode cX11_goOn 8 = .ok (.aload_n 0, 1) := by decide +kernel
theorem dX11_goOn_9 : decode cX11_goOn 9 = .ok (.getfield 185, 3) := by decide +kernel
theorem dX11_goOn_12 : decode cX11_goOn 12 = .ok (.aload_n 0, 1) := by decide +kernel
theorem dX11_goOn_13 : decode cX11_goOn 13 = .ok (.getfield 164, 3) := by decide +kernel
theorem dX11_goOn_16 : decode cX11_goOn 16 = .ok (.if_icmp .ge 42, 3) := by decide +kernel
theorem dX11_goOn_58 : decode cX11_goOn 58 = .ok (.aload_n 0, 1) := by decide +kernel
theorem dX11_goOn_59 : decode cX11_goOn 59 = .ok (.aload_n 0, 1) := by decide +kernel
theorem dX11_goOn_60 : decode cX11_goOn 60 = .ok (.getfield 185, 3) := by decide +kernel
theorem dX11_goOn_63 : decode cX11_goOn 63 = .ok (.invokevirtual 188, 3) := by decide +kernel
theorem dX11_goOn_66 : decode cX11_goOn 66 = .ok (.istore_n 1, 1) := by decide +kernel
theorem dX11_goOn_67 : decode cX11_goOn 67 = .ok (.aload_n 0, 1) := by decide +kernel
theorem dX11_goOn_68 : decode cX11_goOn 68 = .ok (.aload_n 0, 1) := by decide +kernel
theorem dX11_goOn_69 : decode cX11_goOn 69 = .ok (.getfield 185, 3) := by decide +kernel
theorem dX11_goOn_72 : decode cX11_goOn 72 = .ok (.iconst 1, 1) := by decide +kernel
theorem dX11_goOn_73 : decode cX11_goOn 73 = .ok (.iadd, 1) := by decide +kernel
theorem dX11_goOn_74 : decode cX11_goOn 74 = .ok (.putfield 182, 3) := by decide +kernel
theorem dX11_goOn_77 : decode cX11_goOn 77 = .ok (.aload_n 0, 1) := by decide +kernel
theorem dX11_goOn_78 : decode cX11_goOn 78 = .ok (.getfield 185, 3) := by decide +kernel
theorem dX11_goOn_81 : decode cX11_goOn 81 = .ok (.aload_n 0, 1) := by decide +kernel
theorem dX11_goOn_82 : decode cX11_goOn 82 = .ok (.getfield 164, 3) := by decide +kernel
theorem dX11_goOn_85 : decode cX11_goOn 85 = .ok (.if_icmp .lt 27, 3) := by decide +kernel
theorem dX11_goOn_88 : decode cX11_goOn 88 = .ok (.aload_n 0, 1) := by decide +kernel
theorem dX11_goOn_89 : decode cX11_goOn 89 = .ok (.iconst 0, 1) := by decide +kernel
theorem dX11_goOn_90 : decode cX11_goOn 90 = .ok (.putfield 192, 3) := by decide +kernel
theorem dX11_goOn_93 : decode cX11_goOn 93 = .ok (.aload_n 0, 1) := by decide +kernel
theorem dX11_goOn_94 : decode cX11_goOn 94 = .ok (.aload_n 0, 1) := by decide +kernel
theorem dX11_goOn_95 : decode cX11_goOn 95 = .ok (.getfield 164, 3) := by decide +kernel
theorem dX11_goOn_98 : decode cX11_goOn 98 = .ok (.putfield 185, 3) := by decide +kernel
theorem dX11_goOn_101 : decode cX11_goOn 101 = .ok (.aload_n 0, 1) := by decide +kernel
theorem dX11_goOn_102 : decode cX11_goOn 102 = .ok (.aload_n 0, 1) := by decide +kernel
theorem dX11_goOn_103 : decode cX11_goOn 103 = .ok (.getfield 164, 3) := by decide +kernel
theorem dX11_goOn_106 : decode cX11_goOn 106 = .ok (.putfield 182, 3) := by decide +kernel
theorem dX11_goOn_109 : decode cX11_goOn 109 = .ok (.goto 273, 3) := by decide +kernel
theorem dX11_goOn_382 : decode cX11_goOn 382 = .ok (.return_, 1) := by decide +kernel
theorem dX11_clearBank_0 : decode cX11_clearBank 0 = .ok (.aload_n 0, 1) := by decide +kernel
theorem dX11_clearBank_1 : decode cX11_clearBank 1 = .ok (.getfield 20, 3) := by decide +kernel
theorem dX11_clearBank_4 : decode cX11_clearBank 4 = .ok (.aload_n 0, 1) := by decide +kernel
theorem dX11_clearBank_5 : decode cX11_clearBank 5 = .ok (.getfield 227, 3) := by decide +kernel
theorem dX11_clearBank_8 : decode cX11_clearBank 8 = .ok (.iconst 0, 1) := by decide +kernel
theorem dX11_clearBank_9 : decode cX11_clearBank 9 = .ok (.iastore, 1) := by decide +kernel
theorem dX11_clearBank_10 : decode cX11_clearBank 10 = .ok (.aload_n 0, 1) := by decide +kernel
theorem dX11_clearBank_11 : decode cX11_clearBank 11 = .ok (.getfield 24, 3) := by decide +kernel
theorem dX11_clearBank_14 : decode cX11_clearBank 14 = .ok (.aload_n 0, 1) := by decide +kernel
theorem dX11_clearBank_15 : decode cX11_clearBank 15 = .ok (.getfield 227, 3) := by decide +kernel
theorem dX11_clearBank_18 : decode cX11_clearBank 18 = .ok (.iconst 0, 1) := by decide +kernel
theorem dX11_clearBank_19 : decode cX11_clearBank 19 = .ok (.iastore, 1) := by decide +kernel
theorem dX11_clearBank_20 : decode cX11_clearBank 20 = .ok (.aload_n 0, 1) := by decide +kernel
theorem dX11_clearBank_21 : decode cX11_clearBank 21 = .ok (.getfield 27, 3) := by decide +kernel
theorem dX11_clearBank_24 : decode cX11_clearBank 24 = .ok (.aload_n 0, 1) := by decide +kernel
theorem dX11_clearBank_25 : decode cX11_clearBank 25 = .ok (.getfield 227, 3) := by decide +kernel
theorem dX11_clearBank_28 : decode cX11_clearBank 28 = .ok (.iconst 0, 1) := by decide +kernel
theorem dX11_clearBank_29 : decode cX11_clearBank 29 = .ok (.iastore, 1) := by decide +kernel
theorem dX11_clearBank_30 : decode cX11_clearBank 30 = .ok (.aload_n 0, 1) := by decide +kernel
theorem dX11_clearBank_31 : decode cX11_clearBank 31 = .ok (.getfield 30, 3) := by decide +kernel
theorem dX11_clearBank_34 : decode cX11_clearBank 34 = .ok (.aload_n 0, 1) := by decide +kernel
theorem dX11_clearBank_35 : decode cX11_clearBank 35 = .ok (.getfield 227, 3) := by decide +kernel
theorem dX11_clearBank_38 : decode cX11_clearBank 38 = .ok (.iconst 0, 1) := by decide +kernel
theorem dX11_clearBank_39 : decode cX11_clearBank 39 = .ok (.iastore, 1) := by decide +kernel
theorem dX11_clearBank_40 : decode cX11_clearBank 40 = .ok (.aload_n 0, 1) := by decide +kernel
theorem dX11_clearBank_41 : decode cX11_clearBank 41 = .ok (.getfield 33, 3) := by decide +kernel
theorem dX11_clearBank_44 : decode cX11_clearBank 44 = .ok (.aload_n 0, 1) := by decide +kernel
theorem dX11_clearBank_45 : decode cX11_clearBank 45 = .ok (.getfield 227, 3) := by decide +kernel
theorem dX11_clearBank_48 : decode cX11_clearBank 48 = .ok (.iconst 3, 1) := by decide +kernel
theorem dX11_clearBank_49 : decode cX11_clearBank 49 = .ok (.iastore, 1) := by decide +kernel
theorem dX11_clearBank_50 : decode cX11_clearBank 50 = .ok (.aload_n 0, 1) := by decide +kernel
theorem dX11_clearBank_51 : decode cX11_clearBank 51 = .ok (.getfield 36, 3) := by decide +kernel
theorem dX11_clearBank_54 : decode cX11_clearBank 54 = .ok (.aload_n 0, 1) := by decide +kernel
theorem dX11_clearBank_55 : decode cX11_clearBank 55 = .ok (.getfield 227, 3) := by decide +kernel
theorem dX11_clearBank_58 : decode cX11_clearBank 58 = .ok (.iconst 0, 1) := by decide +kernel
theorem dX11_clearBank_59 : decode cX11_clearBank 59 = .ok (.iastore, 1) := by decide +kernel
theorem dX11_clearBank_60 : decode cX11_clearBank 60 = .ok (.aload_n 0, 1) := by decide +kernel
theorem dX11_clearBank_61 : decode cX11_clearBank 61 = .ok (.getfield 64, 3) := by decide +kernel
theorem dX11_clearBank_64 : decode cX11_clearBank 64 = .ok (.aload_n 0, 1) := by decide +kernel
theorem dX11_clearBank_65 : decode cX11_clearBank 65 = .ok (.getfield 227, 3) := by decide +kernel
theorem dX11_clearBank_68 : decode cX11_clearBank 68 = .ok (.iconst 0, 1) := by decide +kernel
theorem dX11_clearBank_69 : decode cX11_clearBank 69 = .ok (.bastore, 1) := by decide +kernel
theorem dX11_clearBank_70 : decode cX11_clearBank 70 = .ok (.bipush 64, 2) := by decide +kernel
theorem dX11_clearBank_72 : decode cX11_clearBank 72 = .ok (.aload_n 0, 1) := by decide +kernel
theorem dX11_clearBank_73 : decode cX11_clearBank 73 = .ok (.getfield 227, 3) := by decide +kernel
theorem dX11_clearBank_76 : decode cX11_clearBank 76 = .ok (.imul, 1) := by decide +kernel
theorem dX11_clearBank_77 : decode cX11_clearBank 77 = .ok (.istore_n 1, 1) := by decide +kernel
theorem dX11_clearBank_78 : decode cX11_clearBank 78 = .ok (.iload_n 1, 1) := by decide +kernel
theorem dX11_clearBank_79 : decode cX11_clearBank 79 = .ok (.bipush 64, 2) := by decide +kernel
theorem dX11_clearBank_81 : decode cX11_clearBank 81 = .ok (.aload_n 0, 1) := by decide +kernel
theorem dX11_clearBank_82 : decode cX11_clearBank 82 = .ok (.getfield 227, 3) := by decide +kernel
theorem dX11_clearBank_85 : decode cX11_clearBank 85 = .ok (.imul, 1) := by decide +kernel
theorem dX11_clearBank_86 : decode cX11_clearBank 86 = .ok (.bipush 64, 2) := by decide +kernel
theorem dX11_clearBank_88 : decode cX11_clearBank 88 = .ok (.iadd, 1) := by decide +kernel
theorem dX11_clearBank_89 : decode cX11_clearBank 89 = .ok (.if_icmp .ge 16, 3) := by decide +kernel
theorem dX11_clearBank_92 : decode cX11_clearBank 92 = .ok (.aload_n 0, 1) := by decide +kernel
theorem dX11_clearBank_93 : decode cX11_clearBank 93 = .ok (.getfield 60, 3) := by decide +kernel
theorem dX11_clearBank_96 : decode cX11_clearBank 96 = .ok (.iload_n 1, 1) := by decide +kernel
theorem dX11_clearBank_97 : decode cX11_clearBank 97 = .ok (.iconst 0, 1) := by decide +kernel
theorem dX11_clearBank_98 : decode cX11_clearBank 98 = .ok (.bastore, 1) := by decide +kernel
theorem dX11_clearBank_99 : decode cX11_clearBank 99 = .ok (.iinc 1 1, 3) := by decide +kernel
theorem dX11_clearBank_102 : decode cX11_clearBank 102 = .ok (.goto (-24), 3) := by decide +kernel
theorem dX11_clearBank_105 : decode cX11_clearBank 105 = .ok (.return_, 1) := by decide +kernel
set_option maxRecDepth 20000 in
theorem ggX11_port_X11_clearBank : GoodIn wsX11_port wsX11_clearBank := goodIn_r _ [21, 16, 9, 22, 23, 24, 25, 26, 27, 28, 153, 154, 155, 156, 157, 158, 159, 160, 161, 162, 163, 164, 165, 166, 167, 168, 169, 170, 171, 172, 173, 174, 175, 176, 177, 178, 179, 180, 181, 182, 183, 184, 185, 186, 187, 188, 189, 190, 191, 192, 193, 194, 195, 196, 197, 198, 199, 200, 201, 202, 203, 204, 205, 206, 207, 208, 209, 210, 211, 212, 213, 214, 215, 216, 217, 218, 219, 220, 221, 222, 223] (by decide +kernel) (by decide +kernel)
set_option maxRecDepth 20000 in
theorem gX11_port_X11_clearBank : GoodIn wsX11_port (wsV RX11 158 RX11 yX11_clearBank wsX11_clearBank) := goodIn_app (goodIn_of _ (by decide +kernel)) ggX11_port_X11_clearBank
set_option maxRecDepth 20000 in
theorem ggX11_port_X11_goOn : GoodIn wsX11_port wsX11_goOn := goodIn_r _ [32, 7, 33, 4, 10, 34, 35, 36, 37, 38, 20, 39, 5, 40, 41, 42, 43, 44, 45, 46, 47, 48, 49, 50, 51, 52, 53, 54, 153, 154, 155, 156, 157, 158, 159, 160, 161, 162, 163, 164, 165, 166, 167, 168, 169, 170, 171, 172, 173, 174, 175, 176, 177, 178, 179, 180, 181, 182, 183, 184, 185, 186, 187, 188, 189, 190, 191, 192, 193, 194, 195, 196, 197, 198, 199, 200, 201, 202, 203, 204, 205, 206, 207, 208, 209, 210, 211, 212, 213, 214, 215, 216, 217, 218, 219, 220, 221, 222, 223] (by decide +kernel) (by decide +kernel)
set_option maxRecDepth 20000 in
theorem gX11_port_X11_goOn : GoodIn wsX11_port (wsV RX11 221 RX11 yX11_goOn wsX11_goOn) := goodIn_app (goodIn_of _ (by decide +kernel)) ggX11_port_X11_goOn
set_option maxRecDepth 20000 in
theorem ggX11_port_X11_isGood : GoodIn wsX11_port wsX11_isGood := goodIn_r _ [58, 1, 153, 154, 155, 156, 157, 158, 159, 160, 161, 162, 163, 164, 165, 166, 167, 168, 169, 170, 171, 172, 173, 174, 175, 176, 177, 178, 179, 180, 181, 182, 183, 184, 185, 186, 187, 188, 189, 190, 191, 192, 193, 194, 195, 196, 197, 198, 199, 200, 201, 202, 203, 204, 205, 206, 207, 208, 209, 210, 211, 212, 213, 214, 215, 216, 217, 218, 219, 220, 221, 222, 223] (by decide +kernel) (by decide +kernel)
set_option maxRecDepth 20000 in
theorem gX11_port_X11_isGood : GoodIn wsX11_port (wsV RX11 217 RX11 yX11_isGood wsX11_isGood) := goodIn_app (goodIn_of _ (by decide +kernel)) ggX11_port_X11_isGood
set_option maxRecDepth 20000 in
theorem ggX11_port_X11_settle : GoodIn wsX11_port wsX11_settle := goodIn_r _ [139, 9, 24, 128, 129, 130, 127, 140, 89, 90, 91, 20, 92, 16, 83, 93, 94, 95, 96, 23, 97, 75, 76, 77, 78, 1, 2, 153, 154, 155, 156, 157, 158, 159, 160, 161, 162, 163, 164, 165, 166, 167, 168, 169, 170, 171, 172, 173, 174, 175, 176, 177, 178, 179, 180, 181, 182, 183, 184, 185, 186, 187, 188, 189, 190, 191, 192, 193, 194, 195, 196, 197, 198, 199, 200, 201, 202, 203, 204, 205, 206, 207, 208, 209, 210, 211, 212, 213, 214, 215, 216, 217, 218, 219, 220, 221, 222, 223] (by decide +kernel) (by decide +kernel)
set_option maxRecDepth 20000 in
theorem gX11_port_X11_settle : GoodIn wsX11_port (wsV RX11 239 RX11 yX11_settle wsX11_settle) := goodIn_app (goodIn_of _ (by decide +kernel)) ggX11_port_X11_settle
set_option maxRecDepth 20000 in
theorem ggX11_port_X11_begin : GoodIn wsX11_port wsX11_begin := goodIn_r _ [144, 145, 146, 147, 148, 149, 150, 151, 20, 152, 26, 8, 135, 153, 154, 155, 156, 157, 158, 159, 160, 161, 162, 163, 164, 165, 166, 167, 168, 169, 170, 171, 172, 173, 174, 175, 176, 177, 178, 179, 180, 181, 182, 183, 184, 185, 186, 187, 188, 189, 190, 191, 192, 193, 194, 195, 196, 197, 198, 199, 200, 201, 202, 203, 204, 205, 206, 207, 208, 209, 210, 211, 212, 213, 214, 215, 216, 217, 218, 219, 220, 221, 222, 223] (by decide +kernel) (by decide +kernel)
set_option maxRecDepth 20000 in
theorem gX11_port_X11_begin : GoodIn wsX11_port (wsV RX11 161 RX11 yX11_begin wsX11_begin) := goodIn_app (goodIn_of _ (by decide +kernel)) ggX11_port_X11_begin
theorem dX11_port_0 : decode cX11_port 0 = .ok (.aload_n 0, 1) := by decide +kernel
theorem dX11_port_1 : decode cX11_port 1 = .ok (.iconst 0, 1) := by decide +kernel
theorem dX11_port_2 : decode cX11_port 2 = .ok (.putfield 167, 3) := by decide +kernel
theorem dX11_port_5 : decode cX11_port 5 = .ok (.aload_n 0, 1) := by decide +kernel
theorem dX11_port_6 : decode cX11_port 6 = .ok (.iconst (-1), 1) := by decide +kernel
theorem dX11_port_7 : decode cX11_port 7 = .ok (.putfield 16, 3) := by decide +kernel
theorem dX11_port_10 : decode cX11_port 10 = .ok (.aload_n 0, 1) := by decide +kernel
theorem dX11_port_11 : decode cX11_port 11 = .ok (.aload_n 0, 1) := by decide +kernel
theorem dX11_port_12 : decode cX11_port 12 = .ok (.getfield 230, 3) := by decide +kernel
theorem dX11_port_15 : decode cX11_port 15 = .ok (.putfield 164, 3) := by decide +kernel
theorem dX11_port_18 : decode cX11_port 18 = .ok (.iconst 0, 1) := by decide +kernel
theorem dX11_port_19 : decode cX11_port 19 = .ok (.istore_n 1, 1) := by decide +kernel
theorem dX11_port_20 : decode cX11_port 20 = .ok (.iload_n 1, 1) := by decide +kernel
theorem dX11_port_21 : decode cX11_port 21 = .ok (.aload_n 0, 1) := by decide +kernel
theorem dX11_port_22 : decode cX11_port 22 = .ok (.getfield 164, 3) := by decide +kernel
theorem dX11_port_25 : decode cX11_port 25 = .ok (.if_icmp .ge 21, 3) := by decide +kernel
theorem dX11_port_46 : decode cX11_port 46 = .ok (.aload_n 0, 1) := by decide +kernel
theorem dX11_port_47 : decode cX11_port 47 = .ok (.iconst 0, 1) := by decide +kernel
theorem dX11_port_48 : decode cX11_port 48 = .ok (.putfield 230, 3) := by decide +kernel
theorem dX11_port_51 : decode cX11_port 51 = .ok (.aload_n 0, 1) := by decide +kernel
theorem dX11_port_52 : decode cX11_port 52 = .ok (.iconst 0, 1) := by decide +kernel
theorem dX11_port_53 : decode cX11_port 53 = .ok (.putfield 182, 3) := by decide +kernel
theorem dX11_port_56 : decode cX11_port 56 = .ok (.aload_n 0, 1) := by decide +kernel
theorem dX11_port_57 : decode cX11_port 57 = .ok (.iconst 1, 1) := by decide +kernel
theorem dX11_port_58 : decode cX11_port 58 = .ok (.aload_n 0, 1) := by decide +kernel
theorem dX11_port_59 : decode cX11_port 59 = .ok (.getfield 233, 3) := by decide +kernel
theorem dX11_port_62 : decode cX11_port 62 = .ok (.isub, 1) := by decide +kernel
theorem dX11_port_63 : decode cX11_port 63 = .ok (.putfield 227, 3) := by decide +kernel
theorem dX11_port_66 : decode cX11_port 66 = .ok (.aload_n 0, 1) := by decide +kernel
theorem dX11_port_67 : decode cX11_port 67 = .ok (.invokevirtual 158, 3) := by decide +kernel
theorem dX11_port_70 : decode cX11_port 70 = .ok (.aload_n 0, 1) := by decide +kernel
theorem dX11_port_71 : decode cX11_port 71 = .ok (.invokevirtual 221, 3) := by decide +kernel
theorem dX11_port_74 : decode cX11_port 74 = .ok (.aload_n 0, 1) := by decide +kernel
theorem dX11_port_75 : decode cX11_port 75 = .ok (.invokevirtual 217, 3) := by decide +kernel
theorem dX11_port_78 : decode cX11_port 78 = .ok (.ifCond .eq 17, 3) := by decide +kernel
theorem dX11_port_81 : decode cX11_port 81 = .ok (.aload_n 0, 1) := by decide +kernel
theorem dX11_port_82 : decode cX11_port 82 = .ok (.getfield 192, 3) := by decide +kernel
theorem dX11_port_85 : decode cX11_port 85 = .ok (.ifCond .eq 10, 3) := by decide +kernel
theorem dX11_port_95 : decode cX11_port 95 = .ok (.aload_n 0, 1) := by decide +kernel
theorem dX11_port_96 : decode cX11_port 96 = .ok (.invokevirtual 217, 3) := by decide +kernel
theorem dX11_port_99 : decode cX11_port 99 = .ok (.ifCond .eq 7, 3) := by decide +kernel
theorem dX11_port_102 : decode cX11_port 102 = .ok (.aload_n 0, 1) := by decide +kernel
theorem dX11_port_103 : decode cX11_port 103 = .ok (.invokevirtual 239, 3) := by decide +kernel
theorem dX11_port_106 : decode cX11_port 106 = .ok (.aload_n 0, 1) := by decide +kernel
theorem dX11_port_107 : decode cX11_port 107 = .ok (.invokevirtual 217, 3) := by decide +kernel
theorem dX11_port_110 : decode cX11_port 110 = .ok (.ifCond .ne 5, 3) := by decide +kernel
theorem dX11_port_115 : decode cX11_port 115 = .ok (.aload_n 0, 1) := by decide +kernel
theorem dX11_port_116 : decode cX11_port 116 = .ok (.aload_n 0, 1) := by decide +kernel
theorem dX11_port_117 : decode cX11_port 117 = .ok (.getfield 227, 3) := by decide +kernel
theorem dX11_port_120 : decode cX11_port 120 = .ok (.putfield 233, 3) := by decide +kernel
theorem dX11_port_123 : decode cX11_port 123 = .ok (.aload_n 0, 1) := by decide +kernel
theorem dX11_port_124 : decode cX11_port 124 = .ok (.lconst 0, 1) := by decide +kernel
theorem dX11_port_125 : decode cX11_port 125 = .ok (.putfield 242, 3) := by decide +kernel
theorem dX11_port_128 : decode cX11_port 128 = .ok (.aload_n 0, 1) := by decide +kernel
theorem dX11_port_129 : decode cX11_port 129 = .ok (.invokevirtual 161, 3) := by decide +kernel
theorem dX11_port_132 : decode cX11_port 132 = .ok (.iconst 0, 1) := by decide +kernel
theorem dX11_port_133 : decode cX11_port 133 = .ok (.istore_n 1, 1) := by decide +kernel
theorem dX11_port_134 : decode cX11_port 134 = .ok (.iload_n 1, 1) := by decide +kernel
theorem dX11_port_135 : decode cX11_port 135 = .ok (.bipush 6, 2) := by decide +kernel
theorem dX11_port_137 : decode cX11_port 137 = .ok (.if_icmp .ge 16, 3) := by decide +kernel
theorem dX11_port_140 : decode cX11_port 140 = .ok (.aload_n 0, 1) := by decide +kernel
theorem dX11_port_141 : decode cX11_port 141 = .ok (.getfield 98, 3) := by decide +kernel
theorem dX11_port_144 : decode cX11_port 144 = .ok (.iload_n 1, 1) := by decide +kernel
theorem dX11_port_145 : decode cX11_port 145 = .ok (.iconst (-1), 1) := by decide +kernel
theorem dX11_port_146 : decode cX11_port 146 = .ok (.iastore, 1) := by decide +kernel
theorem dX11_port_147 : decode cX11_port 147 = .ok (.iinc 1 1, 3) := by decide +kernel
theorem dX11_port_150 : decode cX11_port 150 = .ok (.goto (-16), 3) := by decide +kernel
theorem dX11_port_153 : decode cX11_port 153 = .ok (.aload_n 0, 1) := by decide +kernel
theorem dX11_port_154 : decode cX11_port 154 = .ok (.iconst 0, 1) := by decide +kernel
theorem dX11_port_155 : decode cX11_port 155 = .ok (.putfield 245, 3) := by decide +kernel
theorem dX11_port_158 : decode cX11_port 158 = .ok (.aload_n 0, 1) := by decide +kernel
theorem dX11_port_159 : decode cX11_port 159 = .ok (.iconst 0, 1) := by decide +kernel
theorem dX11_port_160 : decode cX11_port 160 = .ok (.putfield 248, 3) := by decide +kernel
theorem dX11_port_163 : decode cX11_port 163 = .ok (.iconst 0, 1) := by decide +kernel
theorem dX11_port_164 : decode cX11_port 164 = .ok (.istore_n 1, 1) := by decide +kernel
theorem dX11_port_165 : decode cX11_port 165 = .ok (.iload_n 1, 1) := by decide +kernel
theorem dX11_port_166 : decode cX11_port 166 = .ok (.iconst 3, 1) := by decide +kernel
theorem dX11_port_167 : decode cX11_port 167 = .ok (.if_icmp .ge 16, 3) := by decide +kernel
theorem dX11_port_170 : decode cX11_port 170 = .ok (.aload_n 0, 1) := by decide +kernel
theorem dX11_port_171 : decode cX11_port 171 = .ok (.getfield 149, 3) := by decide +kernel
theorem dX11_port_174 : decode cX11_port 174 = .ok (.iload_n 1, 1) := by decide +kernel
theorem dX11_port_175 : decode cX11_port 175 = .ok (.iconst (-1), 1) := by decide +kernel
theorem dX11_port_176 : decode cX11_port 176 = .ok (.iastore, 1) := by decide +kernel
theorem dX11_port_177 : decode cX11_port 177 = .ok (.iinc 1 1, 3) := by decide +kernel
theorem dX11_port_180 : decode cX11_port 180 = .ok (.goto (-15), 3) := by decide +kernel
theorem dX11_port_183 : decode cX11_port 183 = .ok (.aload_n 0, 1) := by decide +kernel
theorem dX11_port_184 : decode cX11_port 184 = .ok (.getfield 20, 3) := by decide +kernel
theorem dX11_port_187 : decode cX11_port 187 = .ok (.aload_n 0, 1) := by decide +kernel
theorem dX11_port_188 : decode cX11_port 188 = .ok (.getfield 233, 3) := by decide +kernel
theorem dX11_port_191 : decode cX11_port 191 = .ok (.iaload, 1) := by decide +kernel
theorem dX11_port_192 : decode cX11_port 192 = .ok (.ireturn, 1) := by decide +kernel
theorem dX11_settle_0 : decode cX11_settle 0 = .ok (.bipush 24, 2) := by decide +kernel
theorem dX11_settle_2 : decode cX11_settle 2 = .ok (.aload_n 0, 1) := by decide +kernel
theorem dX11_settle_3 : decode cX11_settle 3 = .ok (.getfield 227, 3) := by decide +kernel
theorem dX11_settle_6 : decode cX11_settle 6 = .ok (.imul, 1) := by decide +kernel
theorem dX11_settle_7 : decode cX11_settle 7 = .ok (.istore_n 1, 1) := by decide +kernel
theorem dX11_settle_8 : decode cX11_settle 8 = .ok (.iload_n 1, 1) := by decide +kernel
theorem dX11_settle_9 : decode cX11_settle 9 = .ok (.bipush 24, 2) := by decide +kernel
theorem dX11_settle_11 : decode cX11_settle 11 = .ok (.aload_n 0, 1) := by decide +kernel
theorem dX11_settle_12 : decode cX11_settle 12 = .ok (.getfield 227, 3) := by decide +kernel
theorem dX11_settle_15 : decode cX11_settle 15 = .ok (.imul, 1) := by decide +kernel
theorem dX11_settle_16 : decode cX11_settle 16 = .ok (.aload_n 0, 1) := by decide +kernel
theorem dX11_settle_17 : decode cX11_settle 17 = .ok (.getfield 30, 3) := by decide +kernel
theorem dX11_settle_20 : decode cX11_settle 20 = .ok (.aload_n 0, 1) := by decide +kernel
theorem dX11_settle_21 : decode cX11_settle 21 = .ok (.getfield 227, 3) := by decide +kernel
theorem dX11_settle_24 : decode cX11_settle 24 = .ok (.iaload, 1) := by decide +kernel
theorem dX11_settle_25 : decode cX11_settle 25 = .ok (.iadd, 1) := by decide +kernel
theorem dX11_settle_26 : decode cX11_settle 26 = .ok (.if_icmp .ge 138, 3) := by decide +kernel
theorem dX11_settle_164 : decode cX11_settle 164 = .ok (.return_, 1) := by decide +kernel
theorem dX11_fault_0 : decode cX11_fault 0 = .ok (.iload_n 1, 1) := by decide +kernel
theorem dX11_fault_1 : decode cX11_fault 1 = .ok (.ifCond .ne 10, 3) := by decide +kernel
theorem dX11_fault_4 : decode cX11_fault 4 = .ok (.aload_n 0, 1) := by decide +kernel
theorem dX11_fault_5 : decode cX11_fault 5 = .ok (.getfield 167, 3) := by decide +kernel
theorem dX11_fault_8 : decode cX11_fault 8 = .ok (.goto 16, 3) := by decide +kernel
theorem dX11_fault_11 : decode cX11_fault 11 = .ok (.iload_n 1, 1) := by decide +kernel
theorem dX11_fault_12 : decode cX11_fault 12 = .ok (.iconst 1, 1) := by decide +kernel
theorem dX11_fault_13 : decode cX11_fault 13 = .ok (.if_icmp .ne 10, 3) := by decide +kernel
theorem dX11_fault_16 : decode cX11_fault 16 = .ok (.aload_n 0, 1) := by decide +kernel
theorem dX11_fault_17 : decode cX11_fault 17 = .ok (.getfield 16, 3) := by decide +kernel
theorem dX11_fault_20 : decode cX11_fault 20 = .ok (.goto 4, 3) := by decide +kernel
theorem dX11_fault_23 : decode cX11_fault 23 = .ok (.iconst (-1), 1) := by decide +kernel
theorem dX11_fault_24 : decode cX11_fault 24 = .ok (.ireturn, 1) := by decide +kernel
theorem dX11_isIn_0 : decode cX11_isIn 0 = .ok (.iload_n 0, 1) := by decide +kernel
theorem dX11_isIn_1 : decode cX11_isIn 1 = .ok (.iload_n 1, 1) := by decide +kernel
theorem dX11_isIn_2 : decode cX11_isIn 2 = .ok (.if_icmp .lt 12, 3) := by decide +kernel
theorem dX11_isIn_5 : decode cX11_isIn 5 = .ok (.iload_n 0, 1) := by decide +kernel
theorem dX11_isIn_6 : decode cX11_isIn 6 = .ok (.iload_n 2, 1) := by decide +kernel
theorem dX11_isIn_7 : decode cX11_isIn 7 = .ok (.if_icmp .gt 7, 3) := by decide +kernel
theorem dX11_isIn_10 : decode cX11_isIn 10 = .ok (.iconst 1, 1) := by decide +kernel
theorem dX11_isIn_11 : decode cX11_isIn 11 = .ok (.goto 4, 3) := by decide +kernel
theorem dX11_isIn_14 : decode cX11_isIn 14 = .ok (.iconst 0, 1) := by decide +kernel
theorem dX11_isIn_15 : decode cX11_isIn 15 = .ok (.ireturn, 1) := by decide +kernel
set_option maxRecDepth 20000 in
theorem ggX11_isWordOf_X11_isIn : GoodIn wsX11_isWordOf wsX11_isIn := goodIn_r _ [6] (by decide +kernel) (by decide +kernel)
set_option maxRecDepth 20000 in
theorem gX11_isWordOf_X11_isIn : GoodIn wsX11_isWordOf (va_wsS RX11 298 yX11_isIn wsX11_isIn) := goodIn_app (goodIn_of _ (by decide +kernel)) ggX11_isWordOf_X11_isIn
theorem dX11_isWordOf_0 : decode cX11_isWordOf 0 = .ok (.iload_n 1, 1) := by decide +kernel
theorem dX11_isWordOf_1 : decode cX11_isWordOf 1 = .ok (.iconst 0, 1) := by decide +kernel
theorem dX11_isWordOf_2 : decode cX11_isWordOf 2 = .ok (.aload_n 0, 1) := by decide +kernel
theorem dX11_isWordOf_3 : decode cX11_isWordOf 3 = .ok (.getfield 20, 3) := by decide +kernel
theorem dX11_isWordOf_6 : decode cX11_isWordOf 6 = .ok (.aload_n 0, 1) := by decide +kernel
theorem dX11_isWordOf_7 : decode cX11_isWordOf 7 = .ok (.getfield 233, 3) := by decide +kernel
theorem dX11_isWordOf_10 : decode cX11_isWordOf 10 = .ok (.iaload, 1) := by decide +kernel
theorem dX11_isWordOf_11 : decode cX11_isWordOf 11 = .ok (.iconst 1, 1) := by decide +kernel
theorem dX11_isWordOf_12 : decode cX11_isWordOf 12 = .ok (.isub, 1) := by decide +kernel
theorem dX11_isWordOf_13 : decode cX11_isWordOf 13 = .ok (.invokestatic 298, 3) := by decide +kernel
theorem dX11_isWordOf_16 : decode cX11_isWordOf 16 = .ok (.ireturn, 1) := by decide +kernel
set_option maxRecDepth 20000 in
theorem ggX11_isGuild_X11_isIn : GoodIn wsX11_isGuild wsX11_isIn := goodIn_r _ [4] (by decide +kernel) (by decide +kernel)
set_option maxRecDepth 20000 in
theorem gX11_isGuild_X11_isIn : GoodIn wsX11_isGuild (va_wsS RX11 298 yX11_isIn wsX11_isIn) := goodIn_app (goodIn_of _ (by decide +kernel)) ggX11_isGuild_X11_isIn
theorem dX11_isGuild_0 : decode cX11_isGuild 0 = .ok (.iload_n 0, 1) := by decide +kernel
theorem dX11_isGuild_1 : decode cX11_isGuild 1 = .ok (.iconst 0, 1) := by decide +kernel
theorem dX11_isGuild_2 : decode cX11_isGuild 2 = .ok (.iconst 2, 1) := by decide +kernel
theorem dX11_isGuild_3 : decode cX11_isGuild 3 = .ok (.invokestatic 298, 3) := by decide +kernel
theorem dX11_isGuild_6 : decode cX11_isGuild 6 = .ok (.ireturn, 1) := by decide +kernel
theorem dX11_longOf_0 : decode cX11_longOf 0 = .ok (.aload_n 0, 1) := by decide +kernel
theorem dX11_longOf_1 : decode cX11_longOf 1 = .ok (.getfield 33, 3) := by decide +kernel
theorem dX11_longOf_4 : decode cX11_longOf 4 = .ok (.aload_n 0, 1) := by decide +kernel
theorem dX11_longOf_5 : decode cX11_longOf 5 = .ok (.getfield 233, 3) := by decide +kernel
theorem dX11_longOf_8 : decode cX11_longOf 8 = .ok (.iaload, 1) := by decide +kernel
theorem dX11_longOf_9 : decode cX11_longOf 9 = .ok (.ireturn, 1) := by decide +kernel
set_option maxRecDepth 20000 in
theorem ggX11_isPlace_X11_longOf : GoodIn wsX11_isPlace wsX11_longOf := goodIn_r _ [5, 6, 7, 11, 12, 13, 14, 15, 16, 17, 18, 19, 20, 21, 22, 23, 24, 25, 26, 27, 28, 29, 30, 31, 32, 33, 34, 35, 36, 37, 38, 39, 40, 41, 42, 43, 44, 45, 46, 47, 48, 49, 50, 51, 52, 53, 54, 55, 56, 57, 58, 59, 60, 61, 62, 63, 64, 65, 66, 67, 68, 69, 70, 71, 72, 73, 74, 75, 76, 77, 78, 79, 80, 81] (by decide +kernel) (by decide +kernel)
set_option maxRecDepth 20000 in
theorem gX11_isPlace_X11_longOf : GoodIn wsX11_isPlace (wsV RX11 302 RX11 yX11_longOf wsX11_longOf) := goodIn_app (goodIn_of _ (by decide +kernel)) ggX11_isPlace_X11_longOf
set_option maxRecDepth 20000 in
theorem ggX11_isPlace_X11_isIn : GoodIn wsX11_isPlace wsX11_isIn := goodIn_r _ [10] (by decide +kernel) (by decide +kernel)
set_option maxRecDepth 20000 in
theorem gX11_isPlace_X11_isIn : GoodIn wsX11_isPlace (va_wsS RX11 298 yX11_isIn wsX11_isIn) := goodIn_app (goodIn_of _ (by decide +kernel)) ggX11_isPlace_X11_isIn
theorem dX11_isPlace_0 : decode cX11_isPlace 0 = .ok (.iload_n 1, 1) := by decide +kernel
theorem dX11_isPlace_1 : decode cX11_isPlace 1 = .ok (.iconst 0, 1) := by decide +kernel
theorem dX11_isPlace_2 : decode cX11_isPlace 2 = .ok (.aload_n 0, 1) := by decide +kernel
theorem dX11_isPlace_3 : decode cX11_isPlace 3 = .ok (.invokevirtual 302, 3) := by decide +kernel
theorem dX11_isPlace_6 : decode cX11_isPlace 6 = .ok (.iconst 1, 1) := by decide +kernel
theorem dX11_isPlace_7 : decode cX11_isPlace 7 = .ok (.isub, 1) := by decide +kernel
theorem dX11_isPlace_8 : decode cX11_isPlace 8 = .ok (.invokestatic 298, 3) := by decide +kernel
theorem dX11_isPlace_11 : decode cX11_isPlace 11 = .ok (.ireturn, 1) := by decide +kernel
set_option maxRecDepth 20000 in
theorem ggX11_worth_X11_isWordOf : GoodIn wsX11_worth wsX11_isWordOf := goodIn_r _ [8, 9, 2, 10, 11, 7, 12, 16, 17, 18, 19, 20, 21, 22, 23, 24, 25, 26, 27, 28, 29, 30, 31, 32, 33, 34, 35, 36, 37, 38, 39, 40, 41, 42, 43, 44, 45, 46, 47, 48, 49, 50, 51, 52, 53, 54, 55, 56, 57, 58, 59, 60, 61, 62, 63, 64, 65, 66, 67, 68, 69, 70, 71, 72, 73, 74, 75, 76, 77, 78, 79, 80, 81, 82, 83, 84, 85, 86] (by decide +kernel) (by decide +kernel)
set_option maxRecDepth 20000 in
theorem gX11_worth_X11_isWordOf : GoodIn wsX11_worth (wsV RX11 305 RX11 yX11_isWordOf wsX11_isWordOf) := goodIn_app (goodIn_of _ (by decide +kernel)) ggX11_worth_X11_isWordOf
theorem dX11_worth_0 : decode cX11_worth 0 = .ok (.aload_n 0, 1) := by decide +kernel
theorem dX11_worth_1 : decode cX11_worth 1 = .ok (.iload_n 1, 1) := by decide +kernel
theorem dX11_worth_2 : decode cX11_worth 2 = .ok (.invokevirtual 305, 3) := by decide +kernel
theorem dX11_worth_5 : decode cX11_worth 5 = .ok (.ifCond .eq 31, 3) := by decide +kernel
theorem dX11_worth_36 : decode cX11_worth 36 = .ok (.ldc_w 311, 3) := by decide +kernel
theorem dX11_worth_39 : decode cX11_worth 39 = .ok (.ireturn, 1) := by decide +kernel
set_option maxRecDepth 20000 in
theorem ggX11_behind_X11_isWordOf : GoodIn wsX11_behind wsX11_isWordOf := goodIn_r _ [6, 7, 8, 9, 10, 5, 11, 21, 22, 23, 24, 25, 26, 27, 28, 29, 30, 31, 32, 33, 34, 35, 36, 37, 38, 39, 40, 41, 42, 43, 44, 45, 46, 47, 48, 49, 50, 51, 52, 53, 54, 55, 56, 57, 58, 59, 60, 61, 62, 63, 64, 65, 66, 67, 68, 69, 70, 71, 72, 73, 74, 75, 76, 77, 78, 79, 80, 81, 82, 83, 84, 85, 86, 87, 88, 89, 90, 91] (by decide +kernel) (by decide +kernel)
set_option maxRecDepth 20000 in
theorem gX11_behind_X11_isWordOf : GoodIn wsX11_behind (wsV RX11 305 RX11 yX11_isWordOf wsX11_isWordOf) := goodIn_app (goodIn_of _ (by decide +kernel)) ggX11_behind_X11_isWordOf
theorem dX11_behind_0 : decode cX11_behind 0 = .ok (.aload_n 0, 1) := by decide +kernel
theorem dX11_behind_1 : decode cX11_behind 1 = .ok (.iload_n 1, 1) := by decide +kernel
theorem dX11_behind_2 : decode cX11_behind 2 = .ok (.invokevirtual 305, 3) := by decide +kernel
theorem dX11_behind_5 : decode cX11_behind 5 = .ok (.ifCond .eq 28, 3) := by decide +kernel
theorem dX11_behind_33 : decode cX11_behind 33 = .ok (.ldc_w 311, 3) := by decide +kernel
theorem dX11_behind_36 : decode cX11_behind 36 = .ok (.ireturn, 1) := by decide +kernel
theorem dX11_isRead_0 : decode cX11_isRead 0 = .ok (.aload_n 0, 1) := by decide +kernel
theorem dX11_isRead_1 : decode cX11_isRead 1 = .ok (.getfield 27, 3) := by decide +kernel
theorem dX11_isRead_4 : decode cX11_isRead 4 = .ok (.aload_n 0, 1) := by decide +kernel
theorem dX11_isRead_5 : decode cX11_isRead 5 = .ok (.getfield 233, 3) := by decide +kernel
theorem dX11_isRead_8 : decode cX11_isRead 8 = .ok (.iaload, 1) := by decide +kernel
theorem dX11_isRead_9 : decode cX11_isRead 9 = .ok (.ifCond .eq 7, 3) := by decide +kernel
theorem dX11_isRead_16 : decode cX11_isRead 16 = .ok (.iconst 0, 1) := by decide +kernel
theorem dX11_isRead_17 : decode cX11_isRead 17 = .ok (.ireturn, 1) := by decide +kernel
theorem dX11_readingsOf_0 : decode cX11_readingsOf 0 = .ok (.aload_n 0, 1) := by decide +kernel
theorem dX11_readingsOf_1 : decode cX11_readingsOf 1 = .ok (.getfield 27, 3) := by decide +kernel
theorem dX11_readingsOf_4 : decode cX11_readingsOf 4 = .ok (.aload_n 0, 1) := by decide +kernel
theorem dX11_readingsOf_5 : decode cX11_readingsOf 5 = .ok (.getfield 233, 3) := by decide +kernel
theorem dX11_readingsOf_8 : decode cX11_readingsOf 8 = .ok (.iaload, 1) := by decide +kernel
theorem dX11_readingsOf_9 : decode cX11_readingsOf 9 = .ok (.ifCond .eq 7, 3) := by decide +kernel
theorem dX11_readingsOf_16 : decode cX11_readingsOf 16 = .ok (.lconst 0, 1) := by decide +kernel
theorem dX11_readingsOf_17 : decode cX11_readingsOf 17 = .ok (.lreturn, 1) := by decide +kernel
theorem dX11_toldTurn_0 : decode cX11_toldTurn 0 = .ok (.aload_n 0, 1) := by decide +kernel
theorem dX11_toldTurn_1 : decode cX11_toldTurn 1 = .ok (.getfield 36, 3) := by decide +kernel
theorem dX11_toldTurn_4 : decode cX11_toldTurn 4 = .ok (.aload_n 0, 1) := by decide +kernel
theorem dX11_toldTurn_5 : decode cX11_toldTurn 5 = .ok (.getfield 233, 3) := by decide +kernel
theorem dX11_toldTurn_8 : decode cX11_toldTurn 8 = .ok (.iaload, 1) := by decide +kernel
theorem dX11_toldTurn_9 : decode cX11_toldTurn 9 = .ok (.ifCond .ne 9, 3) := by decide +kernel
theorem dX11_toldTurn_12 : decode cX11_toldTurn 12 = .ok (.iload_n 1, 1) := by decide +kernel
theorem dX11_toldTurn_13 : decode cX11_toldTurn 13 = .ok (.iconst 3, 1) := by decide +kernel
theorem dX11_toldTurn_14 : decode cX11_toldTurn 14 = .ok (.irem, 1) := by decide +kernel
theorem dX11_toldTurn_15 : decode cX11_toldTurn 15 = .ok (.goto 27, 3) := by decide +kernel
theorem dX11_toldTurn_42 : decode cX11_toldTurn 42 = .ok (.ireturn, 1) := by decide +kernel
set_option maxRecDepth 20000 in
theorem ggX11_begin_X11_toldTurn : GoodIn wsX11_begin wsX11_toldTurn := goodIn_r _ [9, 10, 11, 12, 13, 14, 15, 16, 17, 18, 19, 20, 21, 22, 23, 24, 25, 26, 27, 28, 29, 30, 31, 32, 33, 34, 35, 36, 37, 38, 39, 40, 41, 42, 43, 44, 45, 46, 47, 48, 49, 50, 51, 52, 53, 54, 55, 56, 57, 58, 59, 60, 61, 62, 63, 64, 65, 66, 67, 68, 69, 70, 71, 72, 73, 74, 75, 76, 77, 78, 79, 80, 81, 82, 83] (by decide +kernel) (by decide +kernel)
set_option maxRecDepth 20000 in
theorem gX11_begin_X11_toldTurn : GoodIn wsX11_begin (wsV RX11 345 RX11 yX11_toldTurn wsX11_toldTurn) := goodIn_app (goodIn_of _ (by decide +kernel)) ggX11_begin_X11_toldTurn
theorem dX11_begin_0 : decode cX11_begin 0 = .ok (.aload_n 0, 1) := by decide +kernel
theorem dX11_begin_1 : decode cX11_begin 1 = .ok (.iconst 0, 1) := by decide +kernel
theorem dX11_begin_2 : decode cX11_begin 2 = .ok (.putfield 336, 3) := by decide +kernel
theorem dX11_begin_5 : decode cX11_begin 5 = .ok (.aload_n 0, 1) := by decide +kernel
theorem dX11_begin_6 : decode cX11_begin 6 = .ok (.iconst 0, 1) := by decide +kernel
theorem dX11_begin_7 : decode cX11_begin 7 = .ok (.putfield 339, 3) := by decide +kernel
theorem dX11_begin_10 : decode cX11_begin 10 = .ok (.aload_n 0, 1) := by decide +kernel
theorem dX11_begin_11 : decode cX11_begin 11 = .ok (.iconst 0, 1) := by decide +kernel
theorem dX11_begin_12 : decode cX11_begin 12 = .ok (.putfield 342, 3) := by decide +kernel
theorem dX11_begin_15 : decode cX11_begin 15 = .ok (.iconst 0, 1) := by decide +kernel
theorem dX11_begin_16 : decode cX11_begin 16 = .ok (.istore_n 1, 1) := by decide +kernel
theorem dX11_begin_17 : decode cX11_begin 17 = .ok (.iload_n 1, 1) := by decide +kernel
theorem dX11_begin_18 : decode cX11_begin 18 = .ok (.bipush 6, 2) := by decide +kernel
theorem dX11_begin_20 : decode cX11_begin 20 = .ok (.if_icmp .ge 20, 3) := by decide +kernel
theorem dX11_begin_23 : decode cX11_begin 23 = .ok (.aload_n 0, 1) := by decide +kernel
theorem dX11_begin_24 : decode cX11_begin 24 = .ok (.getfield 95, 3) := by decide +kernel
theorem dX11_begin_27 : decode cX11_begin 27 = .ok (.iload_n 1, 1) := by decide +kernel
theorem dX11_begin_28 : decode cX11_begin 28 = .ok (.aload_n 0, 1) := by decide +kernel
theorem dX11_begin_29 : decode cX11_begin 29 = .ok (.iload_n 1, 1) := by decide +kernel
theorem dX11_begin_30 : decode cX11_begin 30 = .ok (.invokevirtual 345, 3) := by decide +kernel
theorem dX11_begin_33 : decode cX11_begin 33 = .ok (.iastore, 1) := by decide +kernel
theorem dX11_begin_34 : decode cX11_begin 34 = .ok (.iinc 1 1, 3) := by decide +kernel
theorem dX11_begin_37 : decode cX11_begin 37 = .ok (.goto (-20), 3) := by decide +kernel
theorem dX11_begin_40 : decode cX11_begin 40 = .ok (.return_, 1) := by decide +kernel
set_option maxRecDepth 20000 in
theorem ggX11_canGoOn_X11_longOf : GoodIn wsX11_canGoOn wsX11_longOf := goodIn_r _ [6, 7, 8, 31, 32, 33, 34, 35, 36, 37, 38, 39, 40, 41, 42, 43, 44, 45, 46, 47, 48, 49, 50, 51, 52, 53, 54, 55, 56, 57, 58, 59, 60, 61, 62, 63, 64, 65, 66, 67, 68, 69, 70, 71, 72, 73, 74, 75, 76, 77, 78, 79, 80, 81, 82, 83, 84, 85, 86, 87, 88, 89, 90, 91, 92, 93, 94, 95, 96, 97, 98, 99, 100, 101] (by decide +kernel) (by decide +kernel)
set_option maxRecDepth 20000 in
theorem gX11_canGoOn_X11_longOf : GoodIn wsX11_canGoOn (wsV RX11 302 RX11 yX11_longOf wsX11_longOf) := goodIn_app (goodIn_of _ (by decide +kernel)) ggX11_canGoOn_X11_longOf
set_option maxRecDepth 20000 in
theorem ggX11_canGoOn_X11_isRead : GoodIn wsX11_canGoOn wsX11_isRead := goodIn_r _ [12, 13, 8, 14, 15, 16, 17, 5, 18, 19, 20, 21, 22, 23, 24, 25, 26, 27, 28, 29, 30, 1, 31, 32, 33, 34, 35, 36, 37, 38, 39, 40, 41, 42, 43, 44, 45, 46, 47, 48, 49, 50, 51, 52, 53, 54, 55, 56, 57, 58, 59, 60, 61, 62, 63, 64, 65, 66, 67, 68, 69, 70, 71, 72, 73, 74, 75, 76, 77, 78, 79, 80, 81, 82, 83, 84, 85, 86, 87, 88, 89, 90, 91, 92, 93, 94, 95, 96, 97, 98, 99, 100, 101] (by decide +kernel) (by decide +kernel)
set_option maxRecDepth 20000 in
theorem gX11_canGoOn_X11_isRead : GoodIn wsX11_canGoOn (wsV RX11 348 RX11 yX11_isRead wsX11_isRead) := goodIn_app (goodIn_of _ (by decide +kernel)) ggX11_canGoOn_X11_isRead
theorem dX11_canGoOn_0 : decode cX11_canGoOn 0 = .ok (.iload_n 1, 1) := by decide +kernel
theorem dX11_canGoOn_1 : decode cX11_canGoOn 1 = .ok (.istore_n 2, 1) := by decide +kernel
theorem dX11_canGoOn_2 : decode cX11_canGoOn 2 = .ok (.iload_n 2, 1) := by decide +kernel
theorem dX11_canGoOn_3 : decode cX11_canGoOn 3 = .ok (.aload_n 0, 1) := by decide +kernel
theorem dX11_canGoOn_4 : decode cX11_canGoOn 4 = .ok (.invokevirtual 302, 3) := by decide +kernel
theorem dX11_canGoOn_7 : decode cX11_canGoOn 7 = .ok (.if_icmp .ge 16, 3) := by decide +kernel
theorem dX11_canGoOn_10 : decode cX11_canGoOn 10 = .ok (.aload_n 0, 1) := by decide +kernel
theorem dX11_canGoOn_11 : decode cX11_canGoOn 11 = .ok (.getfield 77, 3) := by decide +kernel
theorem dX11_canGoOn_14 : decode cX11_canGoOn 14 = .ok (.iload_n 2, 1) := by decide +kernel
theorem dX11_canGoOn_15 : decode cX11_canGoOn 15 = .ok (.iconst (-1), 1) := by decide +kernel
theorem dX11_canGoOn_16 : decode cX11_canGoOn 16 = .ok (.iastore, 1) := by decide +kernel
theorem dX11_canGoOn_17 : decode cX11_canGoOn 17 = .ok (.iinc 2 1, 3) := by decide +kernel
theorem dX11_canGoOn_20 : decode cX11_canGoOn 20 = .ok (.goto (-18), 3) := by decide +kernel
theorem dX11_canGoOn_23 : decode cX11_canGoOn 23 = .ok (.iload_n 1, 1) := by decide +kernel
theorem dX11_canGoOn_24 : decode cX11_canGoOn 24 = .ok (.aload_n 0, 1) := by decide +kernel
theorem dX11_canGoOn_25 : decode cX11_canGoOn 25 = .ok (.invokevirtual 302, 3) := by decide +kernel
theorem dX11_canGoOn_28 : decode cX11_canGoOn 28 = .ok (.if_icmp .gt 18, 3) := by decide +kernel
theorem dX11_canGoOn_31 : decode cX11_canGoOn 31 = .ok (.aload_n 0, 1) := by decide +kernel
theorem dX11_canGoOn_32 : decode cX11_canGoOn 32 = .ok (.aload_n 0, 1) := by decide +kernel
theorem dX11_canGoOn_33 : decode cX11_canGoOn 33 = .ok (.invokevirtual 302, 3) := by decide +kernel
theorem dX11_canGoOn_36 : decode cX11_canGoOn 36 = .ok (.invokevirtual 348, 3) := by decide +kernel
theorem dX11_canGoOn_39 : decode cX11_canGoOn 39 = .ok (.ifCond .eq 7, 3) := by decide +kernel
theorem dX11_canGoOn_46 : decode cX11_canGoOn 46 = .ok (.iconst 0, 1) := by decide +kernel
theorem dX11_canGoOn_47 : decode cX11_canGoOn 47 = .ok (.ireturn, 1) := by decide +kernel
theorem dX11_tryRow_0 : decode cX11_tryRow 0 = .ok (.iconst 0, 1) := by decide +kernel
theorem dX11_tryRow_1 : decode cX11_tryRow 1 = .ok (.istore_n 1, 1) := by decide +kernel
theorem dX11_tryRow_2 : decode cX11_tryRow 2 = .ok (.iload_n 1, 1) := by decide +kernel
theorem dX11_tryRow_3 : decode cX11_tryRow 3 = .ok (.aload_n 0, 1) := by decide +kernel
theorem dX11_tryRow_4 : decode cX11_tryRow 4 = .ok (.getfield 336, 3) := by decide +kernel
theorem dX11_tryRow_7 : decode cX11_tryRow 7 = .ok (.if_icmp .ge 21, 3) := by decide +kernel
theorem dX11_tryRow_28 : decode cX11_tryRow 28 = .ok (.return_, 1) := by decide +kernel
set_option maxRecDepth 20000 in
theorem ggX11_turn_X11_isPlace : GoodIn wsX11_turn wsX11_isPlace := goodIn_r _ [6, 7, 8, 9, 5, 10, 11, 12, 13, 14, 15, 16, 17, 18, 19, 20, 21, 22, 23, 24, 25, 26, 27, 28, 29, 30, 31, 32, 33, 34, 35, 36, 37, 38, 39, 40, 41, 42, 43, 44, 45, 46, 47, 48, 49, 50, 51, 52, 53, 54, 55, 56, 57, 58, 59, 60, 61, 62, 63, 64, 65, 66, 67, 68, 69, 70, 71, 72, 73, 74, 75, 76, 77, 78, 79, 80, 81, 82, 83, 84, 85, 86] (by decide +kernel) (by decide +kernel)
set_option maxRecDepth 20000 in
theorem gX11_turn_X11_isPlace : GoodIn wsX11_turn (wsV RX11 357 RX11 yX11_isPlace wsX11_isPlace) := goodIn_app (goodIn_of _ (by decide +kernel)) ggX11_turn_X11_isPlace
theorem dX11_turn_0 : decode cX11_turn 0 = .ok (.aload_n 0, 1) := by decide +kernel
theorem dX11_turn_1 : decode cX11_turn 1 = .ok (.iload_n 1, 1) := by decide +kernel
theorem dX11_turn_2 : decode cX11_turn 2 = .ok (.invokevirtual 357, 3) := by decide +kernel
theorem dX11_turn_5 : decode cX11_turn 5 = .ok (.ifCond .eq 12, 3) := by decide +kernel
theorem dX11_turn_8 : decode cX11_turn 8 = .ok (.aload_n 0, 1) := by decide +kernel
theorem dX11_turn_9 : decode cX11_turn 9 = .ok (.getfield 95, 3) := by decide +kernel
theorem dX11_turn_12 : decode cX11_turn 12 = .ok (.iload_n 1, 1) := by decide +kernel
theorem dX11_turn_13 : decode cX11_turn 13 = .ok (.iaload, 1) := by decide +kernel
theorem dX11_turn_14 : decode cX11_turn 14 = .ok (.goto 4, 3) := by decide +kernel
theorem dX11_turn_17 : decode cX11_turn 17 = .ok (.iconst (-1), 1) := by decide +kernel
theorem dX11_turn_18 : decode cX11_turn 18 = .ok (.ireturn, 1) := by decide +kernel
set_option maxRecDepth 20000 in
theorem ggX11_word_X11_isIn : GoodIn wsX11_word wsX11_isIn := goodIn_r _ [6] (by decide +kernel) (by decide +kernel)
set_option maxRecDepth 20000 in
theorem gX11_word_X11_isIn : GoodIn wsX11_word (va_wsS RX11 298 yX11_isIn wsX11_isIn) := goodIn_app (goodIn_of _ (by decide +kernel)) ggX11_word_X11_isIn
theorem dX11_word_0 : decode cX11_word 0 = .ok (.iload_n 1, 1) := by decide +kernel
theorem dX11_word_1 : decode cX11_word 1 = .ok (.iconst 0, 1) := by decide +kernel
theorem dX11_word_2 : decode cX11_word 2 = .ok (.aload_n 0, 1) := by decide +kernel
theorem dX11_word_3 : decode cX11_word 3 = .ok (.getfield 336, 3) := by decide +kernel
theorem dX11_word_6 : decode cX11_word 6 = .ok (.iconst 1, 1) := by decide +kernel
theorem dX11_word_7 : decode cX11_word 7 = .ok (.isub, 1) := by decide +kernel
theorem dX11_word_8 : decode cX11_word 8 = .ok (.invokestatic 298, 3) := by decide +kernel
theorem dX11_word_11 : decode cX11_word 11 = .ok (.ifCond .eq 12, 3) := by decide +kernel
theorem dX11_word_23 : decode cX11_word 23 = .ok (.iconst (-1), 1) := by decide +kernel
theorem dX11_word_24 : decode cX11_word 24 = .ok (.ireturn, 1) := by decide +kernel
theorem dX11_next_0 : decode cX11_next 0 = .ok (.iconst 0, 1) := by decide +kernel
theorem dX11_next_1 : decode cX11_next 1 = .ok (.istore_n 1, 1) := by decide +kernel
theorem dX11_next_2 : decode cX11_next 2 = .ok (.iconst 0, 1) := by decide +kernel
theorem dX11_next_3 : decode cX11_next 3 = .ok (.istore_n 2, 1) := by decide +kernel
theorem dX11_next_4 : decode cX11_next 4 = .ok (.iload_n 2, 1) := by decide +kernel
theorem dX11_next_5 : decode cX11_next 5 = .ok (.aload_n 0, 1) := by decide +kernel
theorem dX11_next_6 : decode cX11_next 6 = .ok (.getfield 20, 3) := by decide +kernel
theorem dX11_next_9 : decode cX11_next 9 = .ok (.aload_n 0, 1) := by decide +kernel
theorem dX11_next_10 : decode cX11_next 10 = .ok (.getfield 233, 3) := by decide +kernel
theorem dX11_next_13 : decode cX11_next 13 = .ok (.iaload, 1) := by decide +kernel
theorem dX11_next_14 : decode cX11_next 14 = .ok (.if_icmp .ge 27, 3) := by decide +kernel
theorem dX11_next_41 : decode cX11_next 41 = .ok (.iload_n 1, 1) := by decide +kernel
theorem dX11_next_42 : decode cX11_next 42 = .ok (.ireturn, 1) := by decide +kernel
set_option maxRecDepth 20000 in
theorem ggX11_readings_X11_tryRow : GoodIn wsX11_readings wsX11_tryRow := goodIn_r _ [6, 1, 7, 8, 30, 31, 32, 33, 34, 35, 36, 37, 38, 39, 40, 41, 42, 43, 44, 45, 46, 47, 48, 49, 50, 51, 52, 53, 54, 55, 56, 57, 58, 59, 60, 61, 62, 63, 64, 65, 66, 67, 68, 69, 70, 71, 72, 73, 74, 75, 76, 77, 78, 79, 80, 81, 82, 83, 84, 85, 86, 87, 88, 89, 90, 91, 92, 93, 94, 95, 96, 97, 98, 99, 100] (by decide +kernel) (by decide +kernel)
set_option maxRecDepth 20000 in
theorem gX11_readings_X11_tryRow : GoodIn wsX11_readings (wsV RX11 351 RX11 yX11_tryRow wsX11_tryRow) := goodIn_app (goodIn_of _ (by decide +kernel)) ggX11_readings_X11_tryRow
set_option maxRecDepth 20000 in
theorem ggX11_readings_X11_readingsOf : GoodIn wsX11_readings wsX11_readingsOf := goodIn_r _ [12, 13, 14, 15, 16, 17, 18, 19, 20, 5, 21, 22, 23, 24, 25, 7, 26, 27, 28, 29, 30, 31, 32, 33, 34, 35, 36, 37, 38, 39, 40, 41, 42, 43, 44, 45, 46, 47, 48, 49, 50, 51, 52, 53, 54, 55, 56, 57, 58, 59, 60, 61, 62, 63, 64, 65, 66, 67, 68, 69, 70, 71, 72, 73, 74, 75, 76, 77, 78, 79, 80, 81, 82, 83, 84, 85, 86, 87, 88, 89, 90, 91, 92, 93, 94, 95, 96, 97, 98, 99, 100] (by decide +kernel) (by decide +kernel)
set_option maxRecDepth 20000 in
theorem gX11_readings_X11_readingsOf : GoodIn wsX11_readings (wsV RX11 363 RX11 yX11_readingsOf wsX11_readingsOf) := goodIn_app (goodIn_of _ (by decide +kernel)) ggX11_readings_X11_readingsOf
theorem dX11_readings_0 : decode cX11_readings 0 = .ok (.aload_n 0, 1) := by decide +kernel
theorem dX11_readings_1 : decode cX11_readings 1 = .ok (.invokevirtual 351, 3) := by decide +kernel
theorem dX11_readings_4 : decode cX11_readings 4 = .ok (.aload_n 0, 1) := by decide +kernel
theorem dX11_readings_5 : decode cX11_readings 5 = .ok (.aload_n 0, 1) := by decide +kernel
theorem dX11_readings_6 : decode cX11_readings 6 = .ok (.getfield 336, 3) := by decide +kernel
theorem dX11_readings_9 : decode cX11_readings 9 = .ok (.invokevirtual 363, 3) := by decide +kernel
theorem dX11_readings_12 : decode cX11_readings 12 = .ok (.l2i, 1) := by decide +kernel
theorem dX11_readings_13 : decode cX11_readings 13 = .ok (.ireturn, 1) := by decide +kernel
theorem dX11_meansOf_0 : decode cX11_meansOf 0 = .ok (.iconst 0, 1) := by decide +kernel
theorem dX11_meansOf_1 : decode cX11_meansOf 1 = .ok (.istore_n 3, 1) := by decide +kernel
theorem dX11_meansOf_2 : decode cX11_meansOf 2 = .ok (.iconst 0, 1) := by decide +kernel
theorem dX11_meansOf_3 : decode cX11_meansOf 3 = .ok (.istore 4, 2) := by decide +kernel
theorem dX11_meansOf_5 : decode cX11_meansOf 5 = .ok (.iload 4, 2) := by decide +kernel
theorem dX11_meansOf_7 : decode cX11_meansOf 7 = .ok (.iload_n 1, 1) := by decide +kernel
theorem dX11_meansOf_8 : decode cX11_meansOf 8 = .ok (.if_icmp .ge 67, 3) := by decide +kernel
theorem dX11_meansOf_75 : decode cX11_meansOf 75 = .ok (.iload_n 3, 1) := by decide +kernel
theorem dX11_meansOf_76 : decode cX11_meansOf 76 = .ok (.ireturn, 1) := by decide +kernel
set_option maxRecDepth 20000 in
theorem ggX11_means_X11_isGuild : GoodIn wsX11_means wsX11_isGuild := goodIn_r _ [6, 7, 8, 5, 9] (by decide +kernel) (by decide +kernel)
set_option maxRecDepth 20000 in
theorem gX11_means_X11_isGuild : GoodIn wsX11_means (va_wsS RX11 308 yX11_isGuild wsX11_isGuild) := goodIn_app (goodIn_of _ (by decide +kernel)) ggX11_means_X11_isGuild
set_option maxRecDepth 20000 in
theorem ggX11_means_X11_tryRow : GoodIn wsX11_means wsX11_tryRow := goodIn_r _ [13, 2, 14, 15, 28, 29, 30, 31, 32, 33, 34, 35, 36, 37, 38, 39, 40, 41, 42, 43, 44, 45, 46, 47, 48, 49, 50, 51, 52, 53, 54, 55, 56, 57, 58, 59, 60, 61, 62, 63, 64, 65, 66, 67, 68, 69, 70, 71, 72, 73, 74, 75, 76, 77, 78, 79, 80, 81, 82, 83, 84, 85, 86, 87, 88, 89, 90, 91, 92, 93, 94, 95, 96, 97, 98] (by decide +kernel) (by decide +kernel)
set_option maxRecDepth 20000 in
theorem gX11_means_X11_tryRow : GoodIn wsX11_means (wsV RX11 351 RX11 yX11_tryRow wsX11_tryRow) := goodIn_app (goodIn_of _ (by decide +kernel)) ggX11_means_X11_tryRow
set_option maxRecDepth 20000 in
theorem ggX11_means_X11_meansOf : GoodIn wsX11_means wsX11_meansOf := goodIn_r _ [19, 20, 21, 14, 22, 23, 24, 5, 25, 26, 27, 28, 29, 30, 31, 32, 33, 34, 35, 36, 37, 38, 39, 40, 41, 42, 43, 44, 45, 46, 47, 48, 49, 50, 51, 52, 53, 54, 55, 56, 57, 58, 59, 60, 61, 62, 63, 64, 65, 66, 67, 68, 69, 70, 71, 72, 73, 74, 75, 76, 77, 78, 79, 80, 81, 82, 83, 84, 85, 86, 87, 88, 89, 90, 91, 92, 93, 94, 95, 96, 97, 98] (by decide +kernel) (by decide +kernel)
set_option maxRecDepth 20000 in
theorem gX11_means_X11_meansOf : GoodIn wsX11_means (wsV RX11 367 RX11 yX11_meansOf wsX11_meansOf) := goodIn_app (goodIn_of _ (by decide +kernel)) ggX11_means_X11_meansOf
theorem dX11_means_0 : decode cX11_means 0 = .ok (.iload_n 1, 1) := by decide +kernel
theorem dX11_means_1 : decode cX11_means 1 = .ok (.invokestatic 308, 3) := by decide +kernel
theorem dX11_means_4 : decode cX11_means 4 = .ok (.ifCond .ne 7, 3) := by decide +kernel
theorem dX11_means_7 : decode cX11_means 7 = .ok (.ldc_w 311, 3) := by decide +kernel
theorem dX11_means_10 : decode cX11_means 10 = .ok (.ireturn, 1) := by decide +kernel
theorem dX11_means_11 : decode cX11_means 11 = .ok (.aload_n 0, 1) := by decide +kernel
theorem dX11_means_12 : decode cX11_means 12 = .ok (.invokevirtual 351, 3) := by decide +kernel
theorem dX11_means_15 : decode cX11_means 15 = .ok (.aload_n 0, 1) := by decide +kernel
theorem dX11_means_16 : decode cX11_means 16 = .ok (.aload_n 0, 1) := by decide +kernel
theorem dX11_means_17 : decode cX11_means 17 = .ok (.getfield 336, 3) := by decide +kernel
theorem dX11_means_20 : decode cX11_means 20 = .ok (.iload_n 1, 1) := by decide +kernel
theorem dX11_means_21 : decode cX11_means 21 = .ok (.invokevirtual 367, 3) := by decide +kernel
theorem dX11_means_24 : decode cX11_means 24 = .ok (.ireturn, 1) := by decide +kernel
theorem dX11_keepAct_0 : decode cX11_keepAct 0 = .ok (.aload_n 0, 1) := by decide +kernel
theorem dX11_keepAct_1 : decode cX11_keepAct 1 = .ok (.getfield 339, 3) := by decide +kernel
theorem dX11_keepAct_4 : decode cX11_keepAct 4 = .ok (.bipush 40, 2) := by decide +kernel
theorem dX11_keepAct_6 : decode cX11_keepAct 6 = .ok (.if_icmp .ne 55, 3) := by decide +kernel
theorem dX11_keepAct_61 : decode cX11_keepAct 61 = .ok (.aload_n 0, 1) := by decide +kernel
theorem dX11_keepAct_62 : decode cX11_keepAct 62 = .ok (.getfield 101, 3) := by decide +kernel
theorem dX11_keepAct_65 : decode cX11_keepAct 65 = .ok (.aload_n 0, 1) := by decide +kernel
theorem dX11_keepAct_66 : decode cX11_keepAct 66 = .ok (.getfield 339, 3) := by decide +kernel
theorem dX11_keepAct_69 : decode cX11_keepAct 69 = .ok (.iload_n 1, 1) := by decide +kernel
theorem dX11_keepAct_70 : decode cX11_keepAct 70 = .ok (.iastore, 1) := by decide +kernel
theorem dX11_keepAct_71 : decode cX11_keepAct 71 = .ok (.aload_n 0, 1) := by decide +kernel
theorem dX11_keepAct_72 : decode cX11_keepAct 72 = .ok (.getfield 104, 3) := by decide +kernel
theorem dX11_keepAct_75 : decode cX11_keepAct 75 = .ok (.aload_n 0, 1) := by decide +kernel
theorem dX11_keepAct_76 : decode cX11_keepAct 76 = .ok (.getfield 339, 3) := by decide +kernel
theorem dX11_keepAct_79 : decode cX11_keepAct 79 = .ok (.iload_n 2, 1) := by decide +kernel
theorem dX11_keepAct_80 : decode cX11_keepAct 80 = .ok (.iastore, 1) := by decide +kernel
theorem dX11_keepAct_81 : decode cX11_keepAct 81 = .ok (.aload_n 0, 1) := by decide +kernel
theorem dX11_keepAct_82 : decode cX11_keepAct 82 = .ok (.dup, 1) := by decide +kernel
theorem dX11_keepAct_83 : decode cX11_keepAct 83 = .ok (.getfield 339, 3) := by decide +kernel
theorem dX11_keepAct_86 : decode cX11_keepAct 86 = .ok (.iconst 1, 1) := by decide +kernel
theorem dX11_keepAct_87 : decode cX11_keepAct 87 = .ok (.iadd, 1) := by decide +kernel
theorem dX11_keepAct_88 : decode cX11_keepAct 88 = .ok (.putfield 339, 3) := by decide +kernel
theorem dX11_keepAct_91 : decode cX11_keepAct 91 = .ok (.aload_n 0, 1) := by decide +kernel
theorem dX11_keepAct_92 : decode cX11_keepAct 92 = .ok (.iconst 0, 1) := by decide +kernel
theorem dX11_keepAct_93 : decode cX11_keepAct 93 = .ok (.putfield 342, 3) := by decide +kernel
theorem dX11_keepAct_96 : decode cX11_keepAct 96 = .ok (.return_, 1) := by decide +kernel
set_option maxRecDepth 20000 in
theorem ggX11_write_X11_isWordOf : GoodIn wsX11_write wsX11_isWordOf := goodIn_r _ [7, 8, 9, 10, 11, 6, 12, 61, 62, 63, 64, 65, 66, 67, 68, 69, 70, 71, 72, 73, 74, 75, 76, 77, 78, 79, 80, 81, 82, 83, 84, 85, 86, 87, 88, 89, 90, 91, 92, 93, 94, 95, 96, 97, 98, 99, 100, 101, 102, 103, 104, 105, 106, 107, 108, 109, 110, 111, 112, 113, 114, 115, 116, 117, 118, 119, 120, 121, 122, 123, 124, 125, 126, 127, 128, 129, 130, 131] (by decide +kernel) (by decide +kernel)
set_option maxRecDepth 20000 in
theorem gX11_write_X11_isWordOf : GoodIn wsX11_write (wsV RX11 305 RX11 yX11_isWordOf wsX11_isWordOf) := goodIn_app (goodIn_of _ (by decide +kernel)) ggX11_write_X11_isWordOf
theorem dX11_write_0 : decode cX11_write 0 = .ok (.aload_n 0, 1) := by decide +kernel
theorem dX11_write_1 : decode cX11_write 1 = .ok (.iload_n 1, 1) := by decide +kernel
theorem dX11_write_2 : decode cX11_write 2 = .ok (.invokevirtual 305, 3) := by decide +kernel
theorem dX11_write_5 : decode cX11_write 5 = .ok (.ifCond .eq 11, 3) := by decide +kernel
theorem dX11_write_16 : decode cX11_write 16 = .ok (.iconst (-1), 1) := by decide +kernel
theorem dX11_write_17 : decode cX11_write 17 = .ok (.ireturn, 1) := by decide +kernel
set_option maxRecDepth 20000 in
theorem ggX11_sell_X11_longOf : GoodIn wsX11_sell wsX11_longOf := goodIn_r _ [7, 8, 9, 24, 25, 26, 27, 28, 29, 30, 31, 32, 33, 34, 35, 36, 37, 38, 39, 40, 41, 42, 43, 44, 45, 46, 47, 48, 49, 50, 51, 52, 53, 54, 55, 56, 57, 58, 59, 60, 61, 62, 63, 64, 65, 66, 67, 68, 69, 70, 71, 72, 73, 74, 75, 76, 77, 78, 79, 80, 81, 82, 83, 84, 85, 86, 87, 88, 89, 90, 91, 92, 93, 94] (by decide +kernel) (by decide +kernel)
set_option maxRecDepth 20000 in
theorem gX11_sell_X11_longOf : GoodIn wsX11_sell (wsV RX11 302 RX11 yX11_longOf wsX11_longOf) := goodIn_app (goodIn_of _ (by decide +kernel)) ggX11_sell_X11_longOf
set_option maxRecDepth 20000 in
theorem ggX11_sell_X11_isIn : GoodIn wsX11_sell wsX11_isIn := goodIn_r _ [12] (by decide +kernel) (by decide +kernel)
set_option maxRecDepth 20000 in
theorem gX11_sell_X11_isIn : GoodIn wsX11_sell (va_wsS RX11 298 yX11_isIn wsX11_isIn) := goodIn_app (goodIn_of _ (by decide +kernel)) ggX11_sell_X11_isIn
set_option maxRecDepth 20000 in
theorem ggX11_sell_X11_isGuild : GoodIn wsX11_sell wsX11_isGuild := goodIn_r _ [15, 10, 11, 6, 12] (by decide +kernel) (by decide +kernel)
set_option maxRecDepth 20000 in
theorem gX11_sell_X11_isGuild : GoodIn wsX11_sell (va_wsS RX11 308 yX11_isGuild wsX11_isGuild) := goodIn_app (goodIn_of _ (by decide +kernel)) ggX11_sell_X11_isGuild
set_option maxRecDepth 20000 in
theorem ggX11_sell_X11_keepAct : GoodIn wsX11_sell wsX11_keepAct := goodIn_r _ [19, 20, 21, 22, 23, 24, 25, 26, 27, 28, 29, 30, 31, 32, 33, 34, 35, 36, 37, 38, 39, 40, 41, 42, 43, 44, 45, 46, 47, 48, 49, 50, 51, 52, 53, 54, 55, 56, 57, 58, 59, 60, 61, 62, 63, 64, 65, 66, 67, 68, 69, 70, 71, 72, 73, 74, 75, 76, 77, 78, 79, 80, 81, 82, 83, 84, 85, 86, 87, 88, 89, 90, 91, 92, 93, 94] (by decide +kernel) (by decide +kernel)
set_option maxRecDepth 20000 in
theorem gX11_sell_X11_keepAct : GoodIn wsX11_sell (wsV RX11 370 RX11 yX11_keepAct wsX11_keepAct) := goodIn_app (goodIn_of _ (by decide +kernel)) ggX11_sell_X11_keepAct
theorem dX11_sell_0 : decode cX11_sell 0 = .ok (.iload_n 1, 1) := by decide +kernel
theorem dX11_sell_1 : decode cX11_sell 1 = .ok (.aload_n 0, 1) := by decide +kernel
theorem dX11_sell_2 : decode cX11_sell 2 = .ok (.getfield 336, 3) := by decide +kernel
theorem dX11_sell_5 : decode cX11_sell 5 = .ok (.aload_n 0, 1) := by decide +kernel
theorem dX11_sell_6 : decode cX11_sell 6 = .ok (.invokevirtual 302, 3) := by decide +kernel
theorem dX11_sell_9 : decode cX11_sell 9 = .ok (.iconst 1, 1) := by decide +kernel
theorem dX11_sell_10 : decode cX11_sell 10 = .ok (.isub, 1) := by decide +kernel
theorem dX11_sell_11 : decode cX11_sell 11 = .ok (.invokestatic 298, 3) := by decide +kernel
theorem dX11_sell_14 : decode cX11_sell 14 = .ok (.ifCond .eq 10, 3) := by decide +kernel
theorem dX11_sell_17 : decode cX11_sell 17 = .ok (.iload_n 2, 1) := by decide +kernel
theorem dX11_sell_18 : decode cX11_sell 18 = .ok (.invokestatic 308, 3) := by decide +kernel
theorem dX11_sell_21 : decode cX11_sell 21 = .ok (.ifCond .ne 5, 3) := by decide +kernel
theorem dX11_sell_24 : decode cX11_sell 24 = .ok (.iconst (-1), 1) := by decide +kernel
theorem dX11_sell_25 : decode cX11_sell 25 = .ok (.ireturn, 1) := by decide +kernel
theorem dX11_sell_26 : decode cX11_sell 26 = .ok (.aload_n 0, 1) := by decide +kernel
theorem dX11_sell_27 : decode cX11_sell 27 = .ok (.getfield 95, 3) := by decide +kernel
theorem dX11_sell_30 : decode cX11_sell 30 = .ok (.iload_n 1, 1) := by decide +kernel
theorem dX11_sell_31 : decode cX11_sell 31 = .ok (.iaload, 1) := by decide +kernel
theorem dX11_sell_32 : decode cX11_sell 32 = .ok (.istore_n 3, 1) := by decide +kernel
theorem dX11_sell_33 : decode cX11_sell 33 = .ok (.aload_n 0, 1) := by decide +kernel
theorem dX11_sell_34 : decode cX11_sell 34 = .ok (.iload_n 1, 1) := by decide +kernel
theorem dX11_sell_35 : decode cX11_sell 35 = .ok (.iload_n 3, 1) := by decide +kernel
theorem dX11_sell_36 : decode cX11_sell 36 = .ok (.invokevirtual 370, 3) := by decide +kernel
theorem dX11_sell_39 : decode cX11_sell 39 = .ok (.aload_n 0, 1) := by decide +kernel
theorem dX11_sell_40 : decode cX11_sell 40 = .ok (.getfield 95, 3) := by decide +kernel
theorem dX11_sell_43 : decode cX11_sell 43 = .ok (.iload_n 1, 1) := by decide +kernel
theorem dX11_sell_44 : decode cX11_sell 44 = .ok (.iload_n 2, 1) := by decide +kernel
theorem dX11_sell_45 : decode cX11_sell 45 = .ok (.iastore, 1) := by decide +kernel
theorem dX11_sell_46 : decode cX11_sell 46 = .ok (.iload_n 3, 1) := by decide +kernel
theorem dX11_sell_47 : decode cX11_sell 47 = .ok (.ireturn, 1) := by decide +kernel
theorem dX11_undo_0 : decode cX11_undo 0 = .ok (.aload_n 0, 1) := by decide +kernel
theorem dX11_undo_1 : decode cX11_undo 1 = .ok (.getfield 339, 3) := by decide +kernel
theorem dX11_undo_4 : decode cX11_undo 4 = .ok (.ifCond .ne 5, 3) := by decide +kernel
theorem dX11_undo_7 : decode cX11_undo 7 = .ok (.iconst 0, 1) := by decide +kernel
theorem dX11_undo_8 : decode cX11_undo 8 = .ok (.ireturn, 1) := by decide +kernel
theorem dX11_redo_0 : decode cX11_redo 0 = .ok (.aload_n 0, 1) := by decide +kernel
theorem dX11_redo_1 : decode cX11_redo 1 = .ok (.getfield 342, 3) := by decide +kernel
theorem dX11_redo_4 : decode cX11_redo 4 = .ok (.ifCond .ne 5, 3) := by decide +kernel
theorem dX11_redo_7 : decode cX11_redo 7 = .ok (.iconst 0, 1) := by decide +kernel
theorem dX11_redo_8 : decode cX11_redo 8 = .ok (.ireturn, 1) := by decide +kernel
set_option maxRecDepth 20000 in
theorem ggX11_wipe_X11_begin : GoodIn wsX11_wipe wsX11_begin := goodIn_r _ [6, 1, 7, 8, 9, 10, 11, 12, 5, 13, 14, 15, 16, 17, 18, 19, 20, 21, 22, 23, 24, 25, 26, 27, 28, 29, 30, 31, 32, 33, 34, 35, 36, 37, 38, 39, 40, 41, 42, 43, 44, 45, 46, 47, 48, 49, 50, 51, 52, 53, 54, 55, 56, 57, 58, 59, 60, 61, 62, 63, 64, 65, 66, 67, 68, 69, 70, 71, 72, 73, 74, 75, 76, 77, 78, 79, 80, 81, 82, 83, 84, 85, 86, 87] (by decide +kernel) (by decide +kernel)
set_option maxRecDepth 20000 in
theorem gX11_wipe_X11_begin : GoodIn wsX11_wipe (wsV RX11 161 RX11 yX11_begin wsX11_begin) := goodIn_app (goodIn_of _ (by decide +kernel)) ggX11_wipe_X11_begin
theorem dX11_wipe_0 : decode cX11_wipe 0 = .ok (.aload_n 0, 1) := by decide +kernel
theorem dX11_wipe_1 : decode cX11_wipe 1 = .ok (.getfield 336, 3) := by decide +kernel
theorem dX11_wipe_4 : decode cX11_wipe 4 = .ok (.istore_n 1, 1) := by decide +kernel
theorem dX11_wipe_5 : decode cX11_wipe 5 = .ok (.aload_n 0, 1) := by decide +kernel
theorem dX11_wipe_6 : decode cX11_wipe 6 = .ok (.invokevirtual 161, 3) := by decide +kernel
theorem dX11_wipe_9 : decode cX11_wipe 9 = .ok (.iload_n 1, 1) := by decide +kernel
theorem dX11_wipe_10 : decode cX11_wipe 10 = .ok (.ireturn, 1) := by decide +kernel
theorem dX11_keyOf_0 : decode cX11_keyOf 0 = .ok (.iload_n 2, 1) := by decide +kernel
theorem dX11_keyOf_1 : decode cX11_keyOf 1 = .ok (.ifCond .eq 9, 3) := by decide +kernel
theorem dX11_keyOf_4 : decode cX11_keyOf 4 = .ok (.ldc2_w 376, 3) := by decide +kernel
theorem dX11_keyOf_7 : decode cX11_keyOf 7 = .ok (.goto 7, 3) := by decide +kernel
theorem dX11_keyOf_10 : decode cX11_keyOf 10 = .ok (.lconst 1, 1) := by decide +kernel
theorem dX11_keyOf_11 : decode cX11_keyOf 11 = .ok (.iload_n 1, 1) := by decide +kernel
theorem dX11_keyOf_12 : decode cX11_keyOf 12 = .ok (.i2l, 1) := by decide +kernel
theorem dX11_keyOf_13 : decode cX11_keyOf 13 = .ok (.ladd, 1) := by decide +kernel
theorem dX11_keyOf_14 : decode cX11_keyOf 14 = .ok (.lstore_n 3, 1) := by decide +kernel
theorem dX11_keyOf_15 : decode cX11_keyOf 15 = .ok (.iconst 0, 1) := by decide +kernel
theorem dX11_keyOf_16 : decode cX11_keyOf 16 = .ok (.istore 5, 2) := by decide +kernel
theorem dX11_keyOf_18 : decode cX11_keyOf 18 = .ok (.iload 5, 2) := by decide +kernel
theorem dX11_keyOf_20 : decode cX11_keyOf 20 = .ok (.bipush 6, 2) := by decide +kernel
theorem dX11_keyOf_22 : decode cX11_keyOf 22 = .ok (.if_icmp .ge 52, 3) := by decide +kernel
theorem dX11_keyOf_25 : decode cX11_keyOf 25 = .ok (.lload_n 3, 1) := by decide +kernel
theorem dX11_keyOf_26 : decode cX11_keyOf 26 = .ok (.ldc2_w 378, 3) := by decide +kernel
theorem dX11_keyOf_29 : decode cX11_keyOf 29 = .ok (.lmul, 1) := by decide +kernel
theorem dX11_keyOf_30 : decode cX11_keyOf 30 = .ok (.iload_n 2, 1) := by decide +kernel
theorem dX11_keyOf_31 : decode cX11_keyOf 31 = .ok (.ifCond .eq 15, 3) := by decide +kernel
theorem dX11_keyOf_34 : decode cX11_keyOf 34 = .ok (.iconst 1, 1) := by decide +kernel
theorem dX11_keyOf_35 : decode cX11_keyOf 35 = .ok (.aload_n 0, 1) := by decide +kernel
theorem dX11_keyOf_36 : decode cX11_keyOf 36 = .ok (.getfield 98, 3) := by decide +kernel
theorem dX11_keyOf_39 : decode cX11_keyOf 39 = .ok (.iload 5, 2) := by decide +kernel
theorem dX11_keyOf_41 : decode cX11_keyOf 41 = .ok (.iaload, 1) := by decide +kernel
theorem dX11_keyOf_42 : decode cX11_keyOf 42 = .ok (.iadd, 1) := by decide +kernel
theorem dX11_keyOf_43 : decode cX11_keyOf 43 = .ok (.goto 22, 3) := by decide +kernel
theorem dX11_keyOf_46 : decode cX11_keyOf 46 = .ok (.iload 5, 2) := by decide +kernel
theorem dX11_keyOf_48 : decode cX11_keyOf 48 = .ok (.iload_n 1, 1) := by decide +kernel
theorem dX11_keyOf_49 : decode cX11_keyOf 49 = .ok (.if_icmp .ge 15, 3) := by decide +kernel
theorem dX11_keyOf_64 : decode cX11_keyOf 64 = .ok (.iconst 0, 1) := by decide +kernel
theorem dX11_keyOf_65 : decode cX11_keyOf 65 = .ok (.i2l, 1) := by decide +kernel
theorem dX11_keyOf_66 : decode cX11_keyOf 66 = .ok (.ladd, 1) := by decide +kernel
theorem dX11_keyOf_67 : decode cX11_keyOf 67 = .ok (.lstore_n 3, 1) := by decide +kernel
theorem dX11_keyOf_68 : decode cX11_keyOf 68 = .ok (.iinc 5 1, 3) := by decide +kernel
theorem dX11_keyOf_71 : decode cX11_keyOf 71 = .ok (.goto (-53), 3) := by decide +kernel
theorem dX11_keyOf_74 : decode cX11_keyOf 74 = .ok (.lload_n 3, 1) := by decide +kernel
theorem dX11_keyOf_75 : decode cX11_keyOf 75 = .ok (.lreturn, 1) := by decide +kernel
set_option maxRecDepth 20000 in
theorem ggX11_layList_X11_keyOf : GoodIn wsX11_layList wsX11_keyOf := goodIn_r _ [13, 14, 15, 8, 5, 73, 74, 75, 76, 77, 78, 79, 80, 81, 82, 83, 84, 85, 86, 87, 88, 89, 90, 91, 92, 93, 94, 95, 96, 97, 98, 99, 100, 101, 102, 103, 104, 105, 106, 107, 108, 109, 110, 111, 112, 113, 114, 115, 116, 117, 118, 119, 120, 121, 122, 123, 124, 125, 126, 127, 128, 129, 130, 131, 132, 133, 134, 135, 136, 137, 138, 139, 140, 141, 142, 143] (by decide +kernel) (by decide +kernel)
set_option maxRecDepth 20000 in
theorem gX11_layList_X11_keyOf : GoodIn wsX11_layList (wsV RX11 383 RX11 yX11_keyOf wsX11_keyOf) := goodIn_app (goodIn_of _ (by decide +kernel)) ggX11_layList_X11_keyOf
set_option maxRecDepth 20000 in
theorem ggX11_layList_X11_isOnPath : GoodIn wsX11_layList wsX11_isOnPath := goodIn_r _ [19, 20, 5, 21, 22, 23, 12, 24, 25, 26, 27, 28, 29, 7, 30, 31, 32, 33, 34, 35, 36, 37, 38, 39, 40, 41, 42, 43, 44, 45, 46, 47, 48, 49, 50, 51, 73, 74, 75, 76, 77, 78, 79, 80, 81, 82, 83, 84, 85, 86, 87, 88, 89, 90, 91, 92, 93, 94, 95, 96, 97, 98, 99, 100, 101, 102, 103, 104, 105, 106, 107, 108, 109, 110, 111, 112, 113, 114, 115, 116, 117, 118, 119, 120, 121, 122, 123, 124, 125, 126, 127, 128, 129, 130, 131, 132, 133, 134, 135, 136, 137, 138, 139, 140, 141, 142, 143] (by decide +kernel) (by decide +kernel)
set_option maxRecDepth 20000 in
theorem gX11_layList_X11_isOnPath : GoodIn wsX11_layList (wsV RX11 396 RX11 yX11_isOnPath wsX11_isOnPath) := goodIn_app (goodIn_of _ (by decide +kernel)) ggX11_layList_X11_isOnPath
theorem dX11_layList_0 : decode cX11_layList 0 = .ok (.aload_n 0, 1) := by decide +kernel
theorem dX11_layList_1 : decode cX11_layList 1 = .ok (.iload_n 1, 1) := by decide +kernel
theorem dX11_layList_2 : decode cX11_layList 2 = .ok (.iload_n 2, 1) := by decide +kernel
theorem dX11_layList_3 : decode cX11_layList 3 = .ok (.invokevirtual 383, 3) := by decide +kernel
theorem dX11_layList_6 : decode cX11_layList 6 = .ok (.lstore_n 3, 1) := by decide +kernel
theorem dX11_layList_7 : decode cX11_layList 7 = .ok (.lload_n 3, 1) := by decide +kernel
theorem dX11_layList_8 : decode cX11_layList 8 = .ok (.aload_n 0, 1) := by decide +kernel
theorem dX11_layList_9 : decode cX11_layList 9 = .ok (.getfield 242, 3) := by decide +kernel
theorem dX11_layList_12 : decode cX11_layList 12 = .ok (.lcmp, 1) := by decide +kernel
theorem dX11_layList_13 : decode cX11_layList 13 = .ok (.ifCond .ne 19, 3) := by decide +kernel
theorem dX11_layList_32 : decode cX11_layList 32 = .ok (.aload_n 0, 1) := by decide +kernel
theorem dX11_layList_33 : decode cX11_layList 33 = .ok (.lload_n 3, 1) := by decide +kernel
theorem dX11_layList_34 : decode cX11_layList 34 = .ok (.putfield 242, 3) := by decide +kernel
theorem dX11_layList_37 : decode cX11_layList 37 = .ok (.aload_n 0, 1) := by decide +kernel
theorem dX11_layList_38 : decode cX11_layList 38 = .ok (.iconst 0, 1) := by decide +kernel
theorem dX11_layList_39 : decode cX11_layList 39 = .ok (.putfield 390, 3) := by decide +kernel
theorem dX11_layList_42 : decode cX11_layList 42 = .ok (.aload_n 0, 1) := by decide +kernel
theorem dX11_layList_43 : decode cX11_layList 43 = .ok (.iconst 0, 1) := by decide +kernel
theorem dX11_layList_44 : decode cX11_layList 44 = .ok (.putfield 387, 3) := by decide +kernel
theorem dX11_layList_47 : decode cX11_layList 47 = .ok (.aload_n 0, 1) := by decide +kernel
theorem dX11_layList_48 : decode cX11_layList 48 = .ok (.iload_n 1, 1) := by decide +kernel
theorem dX11_layList_49 : decode cX11_layList 49 = .ok (.putfield 393, 3) := by decide +kernel
theorem dX11_layList_52 : decode cX11_layList 52 = .ok (.aload_n 0, 1) := by decide +kernel
theorem dX11_layList_53 : decode cX11_layList 53 = .ok (.iload_n 1, 1) := by decide +kernel
theorem dX11_layList_54 : decode cX11_layList 54 = .ok (.invokevirtual 396, 3) := by decide +kernel
theorem dX11_layList_57 : decode cX11_layList 57 = .ok (.ifCond .ne 5, 3) := by decide +kernel
theorem dX11_layList_60 : decode cX11_layList 60 = .ok (.iconst 1, 1) := by decide +kernel
theorem dX11_layList_61 : decode cX11_layList 61 = .ok (.ireturn, 1) := by decide +kernel
set_option maxRecDepth 20000 in
theorem ggX11_isOnPath_X11_canGoOn : GoodIn wsX11_isOnPath wsX11_canGoOn := goodIn_r _ [7, 1, 8, 9, 10, 6, 11, 12, 13, 14, 15, 16, 17, 18, 19, 20, 21, 22, 23, 24, 25, 26, 27, 28, 29, 30, 31, 32, 33, 34, 35, 36, 37, 38, 39, 40, 41, 42, 43, 44, 45, 46, 47, 48, 49, 50, 51, 52, 53, 54, 55, 56, 57, 58, 59, 60, 61, 62, 63, 64, 65, 66, 67, 68, 69, 70, 71, 72, 73, 74, 75, 76, 77, 78, 79, 80, 81, 82, 83, 84, 85, 86, 87, 88, 89, 90, 91, 92, 93, 94, 95, 96, 97, 98, 99, 100, 101, 102, 103, 104, 105, 106] (by decide +kernel) (by decide +kernel)
set_option maxRecDepth 20000 in
theorem gX11_isOnPath_X11_canGoOn : GoodIn wsX11_isOnPath (wsV RX11 354 RX11 yX11_canGoOn wsX11_canGoOn) := goodIn_app (goodIn_of _ (by decide +kernel)) ggX11_isOnPath_X11_canGoOn
theorem dX11_isOnPath_0 : decode cX11_isOnPath 0 = .ok (.iconst 0, 1) := by decide +kernel
theorem dX11_isOnPath_1 : decode cX11_isOnPath 1 = .ok (.istore_n 2, 1) := by decide +kernel
theorem dX11_isOnPath_2 : decode cX11_isOnPath 2 = .ok (.iload_n 2, 1) := by decide +kernel
theorem dX11_isOnPath_3 : decode cX11_isOnPath 3 = .ok (.iload_n 1, 1) := by decide +kernel
theorem dX11_isOnPath_4 : decode cX11_isOnPath 4 = .ok (.if_icmp .ge 21, 3) := by decide +kernel
theorem dX11_isOnPath_25 : decode cX11_isOnPath 25 = .ok (.aload_n 0, 1) := by decide +kernel
theorem dX11_isOnPath_26 : decode cX11_isOnPath 26 = .ok (.iload_n 1, 1) := by decide +kernel
theorem dX11_isOnPath_27 : decode cX11_isOnPath 27 = .ok (.invokevirtual 354, 3) := by decide +kernel
theorem dX11_isOnPath_30 : decode cX11_isOnPath 30 = .ok (.ireturn, 1) := by decide +kernel
set_option maxRecDepth 20000 in
theorem ggX11_layFromRow_X11_layList : GoodIn wsX11_layFromRow wsX11_layList := goodIn_r _ [8, 9, 10, 11, 12, 2, 13, 14, 15, 16, 17, 18, 7, 19, 20, 21, 22, 23, 24, 25, 26, 27, 28, 29, 30, 31, 32, 33, 34, 35, 36, 37, 38, 39, 40, 41, 42, 43, 44, 45, 46, 47, 48, 49, 50, 51, 52, 53, 54, 55, 56, 57, 58, 59, 60, 61, 62, 63, 64, 65, 66, 67, 68, 69, 70, 71, 72, 73, 74, 75, 76, 77, 78, 79, 80, 81, 82, 83, 84, 85, 86, 87, 88, 89, 90, 91, 92, 93, 94, 95, 96, 97, 98, 99, 100, 101, 102, 103, 104, 105, 106, 107, 108, 109, 110, 111, 112, 113, 114, 115, 116, 117, 118, 119, 120, 121, 122, 123, 124, 125, 126, 127, 128, 129, 130, 131, 132, 133, 134, 135, 136, 137, 138, 139, 140, 141, 142, 143, 144, 145, 146, 147, 148, 149] (by decide +kernel) (by decide +kernel)
set_option maxRecDepth 20000 in
theorem gX11_layFromRow_X11_layList : GoodIn wsX11_layFromRow (wsV RX11 405 RX11 yX11_layList wsX11_layList) := goodIn_app (goodIn_of _ (by decide +kernel)) ggX11_layFromRow_X11_layList
theorem dX11_layFromRow_0 : decode cX11_layFromRow 0 = .ok (.iconst 0, 1) := by decide +kernel
theorem dX11_layFromRow_1 : decode cX11_layFromRow 1 = .ok (.istore_n 1, 1) := by decide +kernel
theorem dX11_layFromRow_2 : decode cX11_layFromRow 2 = .ok (.iload_n 1, 1) := by decide +kernel
theorem dX11_layFromRow_3 : decode cX11_layFromRow 3 = .ok (.aload_n 0, 1) := by decide +kernel
theorem dX11_layFromRow_4 : decode cX11_layFromRow 4 = .ok (.getfield 336, 3) := by decide +kernel
theorem dX11_layFromRow_7 : decode cX11_layFromRow 7 = .ok (.if_icmp .ge 21, 3) := by decide +kernel
theorem dX11_layFromRow_28 : decode cX11_layFromRow 28 = .ok (.aload_n 0, 1) := by decide +kernel
theorem dX11_layFromRow_29 : decode cX11_layFromRow 29 = .ok (.aload_n 0, 1) := by decide +kernel
theorem dX11_layFromRow_30 : decode cX11_layFromRow 30 = .ok (.getfield 336, 3) := by decide +kernel
theorem dX11_layFromRow_33 : decode cX11_layFromRow 33 = .ok (.iconst 0, 1) := by decide +kernel
theorem dX11_layFromRow_34 : decode cX11_layFromRow 34 = .ok (.invokevirtual 405, 3) := by decide +kernel
theorem dX11_layFromRow_37 : decode cX11_layFromRow 37 = .ok (.ireturn, 1) := by decide +kernel
set_option maxRecDepth 20000 in
theorem ggX11_layFromNone_X11_layList : GoodIn wsX11_layFromNone wsX11_layList := goodIn_r _ [5, 6, 7, 8, 9, 10, 11, 12, 13, 14, 15, 16, 4, 17, 18, 19, 20, 21, 22, 23, 24, 25, 26, 27, 28, 29, 30, 31, 32, 33, 34, 35, 36, 37, 38, 39, 40, 41, 42, 43, 44, 45, 46, 47, 48, 49, 50, 51, 52, 53, 54, 55, 56, 57, 58, 59, 60, 61, 62, 63, 64, 65, 66, 67, 68, 69, 70, 71, 72, 73, 74, 75, 76, 77, 78, 79, 80, 81, 82, 83, 84, 85, 86, 87, 88, 89, 90, 91, 92, 93, 94, 95, 96, 97, 98, 99, 100, 101, 102, 103, 104, 105, 106, 107, 108, 109, 110, 111, 112, 113, 114, 115, 116, 117, 118, 119, 120, 121, 122, 123, 124, 125, 126, 127, 128, 129, 130, 131, 132, 133, 134, 135, 136, 137, 138, 139, 140, 141, 142, 143, 144, 145, 146, 147] (by decide +kernel) (by decide +kernel)
set_option maxRecDepth 20000 in
theorem gX11_layFromNone_X11_layList : GoodIn wsX11_layFromNone (wsV RX11 405 RX11 yX11_layList wsX11_layList) := goodIn_app (goodIn_of _ (by decide +kernel)) ggX11_layFromNone_X11_layList
theorem dX11_layFromNone_0 : decode cX11_layFromNone 0 = .ok (.aload_n 0, 1) := by decide +kernel
theorem dX11_layFromNone_1 : decode cX11_layFromNone 1 = .ok (.iconst 0, 1) := by decide +kernel
theorem dX11_layFromNone_2 : decode cX11_layFromNone 2 = .ok (.iconst 0, 1) := by decide +kernel
theorem dX11_layFromNone_3 : decode cX11_layFromNone 3 = .ok (.invokevirtual 405, 3) := by decide +kernel
theorem dX11_layFromNone_6 : decode cX11_layFromNone 6 = .ok (.ireturn, 1) := by decide +kernel
set_option maxRecDepth 20000 in
theorem ggX11_plays_X11_longOf : GoodIn wsX11_plays wsX11_longOf := goodIn_r _ [9, 10, 11, 39, 40, 41, 42, 43, 44, 45, 46, 47, 48, 49, 50, 51, 52, 53, 54, 55, 56, 57, 58, 59, 60, 61, 62, 63, 64, 65, 66, 67, 68, 69, 70, 71, 72, 73, 74, 75, 76, 77, 78, 79, 80, 81, 82, 83, 84, 85, 86, 87, 88, 89, 90, 91, 92, 93, 94, 95, 96, 97, 98, 99, 100, 101, 102, 103, 104, 105, 106, 107, 108, 109] (by decide +kernel) (by decide +kernel)
set_option maxRecDepth 20000 in
theorem gX11_plays_X11_longOf : GoodIn wsX11_plays (wsV RX11 302 RX11 yX11_longOf wsX11_longOf) := goodIn_app (goodIn_of _ (by decide +kernel)) ggX11_plays_X11_longOf
theorem dX11_plays_0 : decode cX11_plays 0 = .ok (.aload_n 0, 1) := by decide +kernel
theorem dX11_plays_1 : decode cX11_plays 1 = .ok (.getfield 390, 3) := by decide +kernel
theorem dX11_plays_4 : decode cX11_plays 4 = .ok (.istore_n 2, 1) := by decide +kernel
theorem dX11_plays_5 : decode cX11_plays 5 = .ok (.iconst 0, 1) := by decide +kernel
theorem dX11_plays_6 : decode cX11_plays 6 = .ok (.istore_n 3, 1) := by decide +kernel
theorem dX11_plays_7 : decode cX11_plays 7 = .ok (.iload_n 3, 1) := by decide +kernel
theorem dX11_plays_8 : decode cX11_plays 8 = .ok (.iload_n 2, 1) := by decide +kernel
theorem dX11_plays_9 : decode cX11_plays 9 = .ok (.if_icmp .ge 16, 3) := by decide +kernel
theorem dX11_plays_25 : decode cX11_plays 25 = .ok (.aload_n 0, 1) := by decide +kernel
theorem dX11_plays_26 : decode cX11_plays 26 = .ok (.invokevirtual 302, 3) := by decide +kernel
theorem dX11_plays_29 : decode cX11_plays 29 = .ok (.iconst 1, 1) := by decide +kernel
theorem dX11_plays_30 : decode cX11_plays 30 = .ok (.isub, 1) := by decide +kernel
theorem dX11_plays_31 : decode cX11_plays 31 = .ok (.istore_n 3, 1) := by decide +kernel
