/-! ===== METHODS, by program ===== -/
/-! WindsparlourLaw.law([I)Z -/
theorem dL_law_0 : decode cL_law 0 = .ok (.new 8, 3) := by decide +kernel
theorem dL_law_3 : decode cL_law 3 = .ok (.dup, 1) := by decide +kernel
theorem dL_law_4 : decode cL_law 4 = .ok (.invokespecial 97, 3) := by decide +kernel
theorem dL_law_7 : decode cL_law 7 = .ok (.astore_n 1, 1) := by decide +kernel
theorem dL_law_8 : decode cL_law 8 = .ok (.new 98, 3) := by decide +kernel
theorem dL_law_11 : decode cL_law 11 = .ok (.dup, 1) := by decide +kernel
theorem dL_law_12 : decode cL_law 12 = .ok (.invokespecial 100, 3) := by decide +kernel
theorem dL_law_15 : decode cL_law 15 = .ok (.astore_n 2, 1) := by decide +kernel
theorem dL_law_16 : decode cL_law 16 = .ok (.new 14, 3) := by decide +kernel
theorem dL_law_19 : decode cL_law 19 = .ok (.dup, 1) := by decide +kernel
theorem dL_law_20 : decode cL_law 20 = .ok (.invokespecial 101, 3) := by decide +kernel
theorem dL_law_23 : decode cL_law 23 = .ok (.astore_n 3, 1) := by decide +kernel
theorem dL_law_24 : decode cL_law 24 = .ok (.iconst 0, 1) := by decide +kernel
theorem dL_law_25 : decode cL_law 25 = .ok (.istore 4, 2) := by decide +kernel
theorem dL_law_27 : decode cL_law 27 = .ok (.iload 4, 2) := by decide +kernel
theorem dL_law_29 : decode cL_law 29 = .ok (.aload_n 0, 1) := by decide +kernel
theorem dL_law_30 : decode cL_law 30 = .ok (.arraylength, 1) := by decide +kernel
theorem dL_law_31 : decode cL_law 31 = .ok (.iconst 4, 1) := by decide +kernel
theorem dL_law_32 : decode cL_law 32 = .ok (.isub, 1) := by decide +kernel
theorem dL_law_33 : decode cL_law 33 = .ok (.if_icmp .gt 835, 3) := by decide +kernel
theorem dL_law_36 : decode cL_law 36 = .ok (.aload_n 0, 1) := by decide +kernel
theorem dL_law_37 : decode cL_law 37 = .ok (.iload 4, 2) := by decide +kernel
theorem dL_law_39 : decode cL_law 39 = .ok (.iaload, 1) := by decide +kernel
theorem dL_law_40 : decode cL_law 40 = .ok (.bipush 31, 2) := by decide +kernel
theorem dL_law_42 : decode cL_law 42 = .ok (.iand, 1) := by decide +kernel
theorem dL_law_43 : decode cL_law 43 = .ok (.tableswitch 819 0 21 #[101, 141, 157, 185, 213, 265, 293, 309, 337, 377, 417, 457, 497, 525, 553, 581, 609, 685, 725, 738, 778, 806], 101) := by decide +kernel
theorem dL_law_144 : decode cL_law 144 = .ok (.aload_n 1, 1) := by decide +kernel
theorem dL_law_145 : decode cL_law 145 = .ok (.aload_n 0, 1) := by decide +kernel
theorem dL_law_146 : decode cL_law 146 = .ok (.iload 4, 2) := by decide +kernel
theorem dL_law_148 : decode cL_law 148 = .ok (.iconst 1, 1) := by decide +kernel
theorem dL_law_149 : decode cL_law 149 = .ok (.iadd, 1) := by decide +kernel
theorem dL_law_150 : decode cL_law 150 = .ok (.iaload, 1) := by decide +kernel
theorem dL_law_151 : decode cL_law 151 = .ok (.aload_n 0, 1) := by decide +kernel
theorem dL_law_152 : decode cL_law 152 = .ok (.iload 4, 2) := by decide +kernel
theorem dL_law_154 : decode cL_law 154 = .ok (.iconst 2, 1) := by decide +kernel
theorem dL_law_155 : decode cL_law 155 = .ok (.iadd, 1) := by decide +kernel
theorem dL_law_156 : decode cL_law 156 = .ok (.iaload, 1) := by decide +kernel
theorem dL_law_157 : decode cL_law 157 = .ok (.aload_n 3, 1) := by decide +kernel
theorem dL_law_158 : decode cL_law 158 = .ok (.invokestatic 102, 3) := by decide +kernel
theorem dL_law_161 : decode cL_law 161 = .ok (.istore 5, 2) := by decide +kernel
theorem dL_law_163 : decode cL_law 163 = .ok (.aload_n 2, 1) := by decide +kernel
theorem dL_law_164 : decode cL_law 164 = .ok (.aload_n 0, 1) := by decide +kernel
theorem dL_law_165 : decode cL_law 165 = .ok (.iload 4, 2) := by decide +kernel
theorem dL_law_167 : decode cL_law 167 = .ok (.iconst 1, 1) := by decide +kernel
theorem dL_law_168 : decode cL_law 168 = .ok (.iadd, 1) := by decide +kernel
theorem dL_law_169 : decode cL_law 169 = .ok (.iaload, 1) := by decide +kernel
theorem dL_law_170 : decode cL_law 170 = .ok (.aload_n 0, 1) := by decide +kernel
theorem dL_law_171 : decode cL_law 171 = .ok (.iload 4, 2) := by decide +kernel
theorem dL_law_173 : decode cL_law 173 = .ok (.iconst 2, 1) := by decide +kernel
theorem dL_law_174 : decode cL_law 174 = .ok (.iadd, 1) := by decide +kernel
theorem dL_law_175 : decode cL_law 175 = .ok (.iaload, 1) := by decide +kernel
theorem dL_law_176 : decode cL_law 176 = .ok (.invokevirtual 107, 3) := by decide +kernel
theorem dL_law_179 : decode cL_law 179 = .ok (.istore 6, 2) := by decide +kernel
theorem dL_law_181 : decode cL_law 181 = .ok (.goto 681, 3) := by decide +kernel
theorem dL_law_184 : decode cL_law 184 = .ok (.aload_n 1, 1) := by decide +kernel
theorem dL_law_185 : decode cL_law 185 = .ok (.aload_n 3, 1) := by decide +kernel
theorem dL_law_186 : decode cL_law 186 = .ok (.invokestatic 108, 3) := by decide +kernel
theorem dL_law_189 : decode cL_law 189 = .ok (.istore 5, 2) := by decide +kernel
theorem dL_law_191 : decode cL_law 191 = .ok (.aload_n 2, 1) := by decide +kernel
theorem dL_law_192 : decode cL_law 192 = .ok (.invokevirtual 111, 3) := by decide +kernel
theorem dL_law_195 : decode cL_law 195 = .ok (.istore 6, 2) := by decide +kernel
theorem dL_law_197 : decode cL_law 197 = .ok (.goto 665, 3) := by decide +kernel
theorem dL_law_200 : decode cL_law 200 = .ok (.aload_n 1, 1) := by decide +kernel
theorem dL_law_201 : decode cL_law 201 = .ok (.aload_n 0, 1) := by decide +kernel
theorem dL_law_202 : decode cL_law 202 = .ok (.iload 4, 2) := by decide +kernel
theorem dL_law_204 : decode cL_law 204 = .ok (.iconst 1, 1) := by decide +kernel
theorem dL_law_205 : decode cL_law 205 = .ok (.iadd, 1) := by decide +kernel
theorem dL_law_206 : decode cL_law 206 = .ok (.iaload, 1) := by decide +kernel
theorem dL_law_207 : decode cL_law 207 = .ok (.aload_n 3, 1) := by decide +kernel
theorem dL_law_208 : decode cL_law 208 = .ok (.invokestatic 112, 3) := by decide +kernel
theorem dL_law_211 : decode cL_law 211 = .ok (.istore 5, 2) := by decide +kernel
theorem dL_law_213 : decode cL_law 213 = .ok (.aload_n 2, 1) := by decide +kernel
theorem dL_law_214 : decode cL_law 214 = .ok (.aload_n 0, 1) := by decide +kernel
theorem dL_law_215 : decode cL_law 215 = .ok (.iload 4, 2) := by decide +kernel
theorem dL_law_217 : decode cL_law 217 = .ok (.iconst 1, 1) := by decide +kernel
theorem dL_law_218 : decode cL_law 218 = .ok (.iadd, 1) := by decide +kernel
theorem dL_law_219 : decode cL_law 219 = .ok (.iaload, 1) := by decide +kernel
theorem dL_law_220 : decode cL_law 220 = .ok (.invokevirtual 115, 3) := by decide +kernel
theorem dL_law_223 : decode cL_law 223 = .ok (.istore 6, 2) := by decide +kernel
theorem dL_law_225 : decode cL_law 225 = .ok (.goto 637, 3) := by decide +kernel
theorem dL_law_228 : decode cL_law 228 = .ok (.aload_n 1, 1) := by decide +kernel
theorem dL_law_229 : decode cL_law 229 = .ok (.aload_n 0, 1) := by decide +kernel
theorem dL_law_230 : decode cL_law 230 = .ok (.iload 4, 2) := by decide +kernel
theorem dL_law_232 : decode cL_law 232 = .ok (.iconst 1, 1) := by decide +kernel
theorem dL_law_233 : decode cL_law 233 = .ok (.iadd, 1) := by decide +kernel
theorem dL_law_234 : decode cL_law 234 = .ok (.iaload, 1) := by decide +kernel
theorem dL_law_235 : decode cL_law 235 = .ok (.aload_n 3, 1) := by decide +kernel
theorem dL_law_236 : decode cL_law 236 = .ok (.invokestatic 116, 3) := by decide +kernel
theorem dL_law_239 : decode cL_law 239 = .ok (.istore 5, 2) := by decide +kernel
theorem dL_law_241 : decode cL_law 241 = .ok (.aload_n 2, 1) := by decide +kernel
theorem dL_law_242 : decode cL_law 242 = .ok (.aload_n 0, 1) := by decide +kernel
theorem dL_law_243 : decode cL_law 243 = .ok (.iload 4, 2) := by decide +kernel
theorem dL_law_245 : decode cL_law 245 = .ok (.iconst 1, 1) := by decide +kernel
theorem dL_law_246 : decode cL_law 246 = .ok (.iadd, 1) := by decide +kernel
theorem dL_law_247 : decode cL_law 247 = .ok (.iaload, 1) := by decide +kernel
theorem dL_law_248 : decode cL_law 248 = .ok (.invokevirtual 118, 3) := by decide +kernel
theorem dL_law_251 : decode cL_law 251 = .ok (.istore 6, 2) := by decide +kernel
theorem dL_law_253 : decode cL_law 253 = .ok (.goto 609, 3) := by decide +kernel
theorem dL_law_256 : decode cL_law 256 = .ok (.aload_n 1, 1) := by decide +kernel
theorem dL_law_257 : decode cL_law 257 = .ok (.aload_n 0, 1) := by decide +kernel
theorem dL_law_258 : decode cL_law 258 = .ok (.iload 4, 2) := by decide +kernel
theorem dL_law_260 : decode cL_law 260 = .ok (.iconst 1, 1) := by decide +kernel
theorem dL_law_261 : decode cL_law 261 = .ok (.iadd, 1) := by decide +kernel
theorem dL_law_262 : decode cL_law 262 = .ok (.iaload, 1) := by decide +kernel
theorem dL_law_263 : decode cL_law 263 = .ok (.aload_n 0, 1) := by decide +kernel
theorem dL_law_264 : decode cL_law 264 = .ok (.iload 4, 2) := by decide +kernel
theorem dL_law_266 : decode cL_law 266 = .ok (.iconst 2, 1) := by decide +kernel
theorem dL_law_267 : decode cL_law 267 = .ok (.iadd, 1) := by decide +kernel
theorem dL_law_268 : decode cL_law 268 = .ok (.iaload, 1) := by decide +kernel
theorem dL_law_269 : decode cL_law 269 = .ok (.aload_n 0, 1) := by decide +kernel
theorem dL_law_270 : decode cL_law 270 = .ok (.iload 4, 2) := by decide +kernel
theorem dL_law_272 : decode cL_law 272 = .ok (.iconst 3, 1) := by decide +kernel
theorem dL_law_273 : decode cL_law 273 = .ok (.iadd, 1) := by decide +kernel
theorem dL_law_274 : decode cL_law 274 = .ok (.iaload, 1) := by decide +kernel
theorem dL_law_275 : decode cL_law 275 = .ok (.aload_n 3, 1) := by decide +kernel
theorem dL_law_276 : decode cL_law 276 = .ok (.invokestatic 119, 3) := by decide +kernel
theorem dL_law_279 : decode cL_law 279 = .ok (.istore 5, 2) := by decide +kernel
theorem dL_law_281 : decode cL_law 281 = .ok (.aload_n 2, 1) := by decide +kernel
theorem dL_law_282 : decode cL_law 282 = .ok (.aload_n 0, 1) := by decide +kernel
theorem dL_law_283 : decode cL_law 283 = .ok (.iload 4, 2) := by decide +kernel
theorem dL_law_285 : decode cL_law 285 = .ok (.iconst 1, 1) := by decide +kernel
theorem dL_law_286 : decode cL_law 286 = .ok (.iadd, 1) := by decide +kernel
theorem dL_law_287 : decode cL_law 287 = .ok (.iaload, 1) := by decide +kernel
theorem dL_law_288 : decode cL_law 288 = .ok (.aload_n 0, 1) := by decide +kernel
theorem dL_law_289 : decode cL_law 289 = .ok (.iload 4, 2) := by decide +kernel
theorem dL_law_291 : decode cL_law 291 = .ok (.iconst 2, 1) := by decide +kernel
theorem dL_law_292 : decode cL_law 292 = .ok (.iadd, 1) := by decide +kernel
theorem dL_law_293 : decode cL_law 293 = .ok (.iaload, 1) := by decide +kernel
theorem dL_law_294 : decode cL_law 294 = .ok (.aload_n 0, 1) := by decide +kernel
theorem dL_law_295 : decode cL_law 295 = .ok (.iload 4, 2) := by decide +kernel
theorem dL_law_297 : decode cL_law 297 = .ok (.iconst 3, 1) := by decide +kernel
theorem dL_law_298 : decode cL_law 298 = .ok (.iadd, 1) := by decide +kernel
theorem dL_law_299 : decode cL_law 299 = .ok (.iaload, 1) := by decide +kernel
theorem dL_law_300 : decode cL_law 300 = .ok (.invokevirtual 122, 3) := by decide +kernel
theorem dL_law_303 : decode cL_law 303 = .ok (.istore 6, 2) := by decide +kernel
theorem dL_law_305 : decode cL_law 305 = .ok (.goto 557, 3) := by decide +kernel
theorem dL_law_308 : decode cL_law 308 = .ok (.aload_n 1, 1) := by decide +kernel
theorem dL_law_309 : decode cL_law 309 = .ok (.aload_n 0, 1) := by decide +kernel
theorem dL_law_310 : decode cL_law 310 = .ok (.iload 4, 2) := by decide +kernel
theorem dL_law_312 : decode cL_law 312 = .ok (.iconst 1, 1) := by decide +kernel
theorem dL_law_313 : decode cL_law 313 = .ok (.iadd, 1) := by decide +kernel
theorem dL_law_314 : decode cL_law 314 = .ok (.iaload, 1) := by decide +kernel
theorem dL_law_315 : decode cL_law 315 = .ok (.aload_n 3, 1) := by decide +kernel
theorem dL_law_316 : decode cL_law 316 = .ok (.invokestatic 123, 3) := by decide +kernel
theorem dL_law_319 : decode cL_law 319 = .ok (.istore 5, 2) := by decide +kernel
theorem dL_law_321 : decode cL_law 321 = .ok (.aload_n 2, 1) := by decide +kernel
theorem dL_law_322 : decode cL_law 322 = .ok (.aload_n 0, 1) := by decide +kernel
theorem dL_law_323 : decode cL_law 323 = .ok (.iload 4, 2) := by decide +kernel
theorem dL_law_325 : decode cL_law 325 = .ok (.iconst 1, 1) := by decide +kernel
theorem dL_law_326 : decode cL_law 326 = .ok (.iadd, 1) := by decide +kernel
theorem dL_law_327 : decode cL_law 327 = .ok (.iaload, 1) := by decide +kernel
theorem dL_law_328 : decode cL_law 328 = .ok (.invokevirtual 125, 3) := by decide +kernel
theorem dL_law_331 : decode cL_law 331 = .ok (.istore 6, 2) := by decide +kernel
theorem dL_law_333 : decode cL_law 333 = .ok (.goto 529, 3) := by decide +kernel
theorem dL_law_336 : decode cL_law 336 = .ok (.aload_n 1, 1) := by decide +kernel
theorem dL_law_337 : decode cL_law 337 = .ok (.aload_n 3, 1) := by decide +kernel
theorem dL_law_338 : decode cL_law 338 = .ok (.invokestatic 126, 3) := by decide +kernel
theorem dL_law_341 : decode cL_law 341 = .ok (.istore 5, 2) := by decide +kernel
theorem dL_law_343 : decode cL_law 343 = .ok (.aload_n 2, 1) := by decide +kernel
theorem dL_law_344 : decode cL_law 344 = .ok (.invokevirtual 128, 3) := by decide +kernel
theorem dL_law_347 : decode cL_law 347 = .ok (.istore 6, 2) := by decide +kernel
theorem dL_law_349 : decode cL_law 349 = .ok (.goto 513, 3) := by decide +kernel
theorem dL_law_352 : decode cL_law 352 = .ok (.aload_n 1, 1) := by decide +kernel
theorem dL_law_353 : decode cL_law 353 = .ok (.aload_n 0, 1) := by decide +kernel
theorem dL_law_354 : decode cL_law 354 = .ok (.iload 4, 2) := by decide +kernel
theorem dL_law_356 : decode cL_law 356 = .ok (.iconst 1, 1) := by decide +kernel
theorem dL_law_357 : decode cL_law 357 = .ok (.iadd, 1) := by decide +kernel
theorem dL_law_358 : decode cL_law 358 = .ok (.iaload, 1) := by decide +kernel
theorem dL_law_359 : decode cL_law 359 = .ok (.aload_n 3, 1) := by decide +kernel
theorem dL_law_360 : decode cL_law 360 = .ok (.invokestatic 129, 3) := by decide +kernel
theorem dL_law_363 : decode cL_law 363 = .ok (.istore 5, 2) := by decide +kernel
theorem dL_law_365 : decode cL_law 365 = .ok (.aload_n 2, 1) := by decide +kernel
theorem dL_law_366 : decode cL_law 366 = .ok (.aload_n 0, 1) := by decide +kernel
theorem dL_law_367 : decode cL_law 367 = .ok (.iload 4, 2) := by decide +kernel
theorem dL_law_369 : decode cL_law 369 = .ok (.iconst 1, 1) := by decide +kernel
theorem dL_law_370 : decode cL_law 370 = .ok (.iadd, 1) := by decide +kernel
theorem dL_law_371 : decode cL_law 371 = .ok (.iaload, 1) := by decide +kernel
theorem dL_law_372 : decode cL_law 372 = .ok (.invokevirtual 131, 3) := by decide +kernel
theorem dL_law_375 : decode cL_law 375 = .ok (.istore 6, 2) := by decide +kernel
theorem dL_law_377 : decode cL_law 377 = .ok (.goto 485, 3) := by decide +kernel
theorem dL_law_380 : decode cL_law 380 = .ok (.aload_n 1, 1) := by decide +kernel
theorem dL_law_381 : decode cL_law 381 = .ok (.aload_n 0, 1) := by decide +kernel
theorem dL_law_382 : decode cL_law 382 = .ok (.iload 4, 2) := by decide +kernel
theorem dL_law_384 : decode cL_law 384 = .ok (.iconst 1, 1) := by decide +kernel
theorem dL_law_385 : decode cL_law 385 = .ok (.iadd, 1) := by decide +kernel
theorem dL_law_386 : decode cL_law 386 = .ok (.iaload, 1) := by decide +kernel
theorem dL_law_387 : decode cL_law 387 = .ok (.aload_n 0, 1) := by decide +kernel
theorem dL_law_388 : decode cL_law 388 = .ok (.iload 4, 2) := by decide +kernel
theorem dL_law_390 : decode cL_law 390 = .ok (.iconst 2, 1) := by decide +kernel
theorem dL_law_391 : decode cL_law 391 = .ok (.iadd, 1) := by decide +kernel
theorem dL_law_392 : decode cL_law 392 = .ok (.iaload, 1) := by decide +kernel
theorem dL_law_393 : decode cL_law 393 = .ok (.aload_n 3, 1) := by decide +kernel
theorem dL_law_394 : decode cL_law 394 = .ok (.invokestatic 132, 3) := by decide +kernel
theorem dL_law_397 : decode cL_law 397 = .ok (.istore 5, 2) := by decide +kernel
theorem dL_law_399 : decode cL_law 399 = .ok (.aload_n 2, 1) := by decide +kernel
theorem dL_law_400 : decode cL_law 400 = .ok (.aload_n 0, 1) := by decide +kernel
theorem dL_law_401 : decode cL_law 401 = .ok (.iload 4, 2) := by decide +kernel
theorem dL_law_403 : decode cL_law 403 = .ok (.iconst 1, 1) := by decide +kernel
theorem dL_law_404 : decode cL_law 404 = .ok (.iadd, 1) := by decide +kernel
theorem dL_law_405 : decode cL_law 405 = .ok (.iaload, 1) := by decide +kernel
theorem dL_law_406 : decode cL_law 406 = .ok (.aload_n 0, 1) := by decide +kernel
theorem dL_law_407 : decode cL_law 407 = .ok (.iload 4, 2) := by decide +kernel
theorem dL_law_409 : decode cL_law 409 = .ok (.iconst 2, 1) := by decide +kernel
theorem dL_law_410 : decode cL_law 410 = .ok (.iadd, 1) := by decide +kernel
theorem dL_law_411 : decode cL_law 411 = .ok (.iaload, 1) := by decide +kernel
theorem dL_law_412 : decode cL_law 412 = .ok (.invokevirtual 134, 3) := by decide +kernel
theorem dL_law_415 : decode cL_law 415 = .ok (.istore 6, 2) := by decide +kernel
theorem dL_law_417 : decode cL_law 417 = .ok (.goto 445, 3) := by decide +kernel
theorem dL_law_420 : decode cL_law 420 = .ok (.aload_n 1, 1) := by decide +kernel
theorem dL_law_421 : decode cL_law 421 = .ok (.aload_n 0, 1) := by decide +kernel
theorem dL_law_422 : decode cL_law 422 = .ok (.iload 4, 2) := by decide +kernel
theorem dL_law_424 : decode cL_law 424 = .ok (.iconst 1, 1) := by decide +kernel
theorem dL_law_425 : decode cL_law 425 = .ok (.iadd, 1) := by decide +kernel
theorem dL_law_426 : decode cL_law 426 = .ok (.iaload, 1) := by decide +kernel
theorem dL_law_427 : decode cL_law 427 = .ok (.aload_n 0, 1) := by decide +kernel
theorem dL_law_428 : decode cL_law 428 = .ok (.iload 4, 2) := by decide +kernel
theorem dL_law_430 : decode cL_law 430 = .ok (.iconst 2, 1) := by decide +kernel
theorem dL_law_431 : decode cL_law 431 = .ok (.iadd, 1) := by decide +kernel
theorem dL_law_432 : decode cL_law 432 = .ok (.iaload, 1) := by decide +kernel
theorem dL_law_433 : decode cL_law 433 = .ok (.aload_n 3, 1) := by decide +kernel
theorem dL_law_434 : decode cL_law 434 = .ok (.invokestatic 135, 3) := by decide +kernel
theorem dL_law_437 : decode cL_law 437 = .ok (.istore 5, 2) := by decide +kernel
theorem dL_law_439 : decode cL_law 439 = .ok (.aload_n 2, 1) := by decide +kernel
theorem dL_law_440 : decode cL_law 440 = .ok (.aload_n 0, 1) := by decide +kernel
theorem dL_law_441 : decode cL_law 441 = .ok (.iload 4, 2) := by decide +kernel
theorem dL_law_443 : decode cL_law 443 = .ok (.iconst 1, 1) := by decide +kernel
theorem dL_law_444 : decode cL_law 444 = .ok (.iadd, 1) := by decide +kernel
theorem dL_law_445 : decode cL_law 445 = .ok (.iaload, 1) := by decide +kernel
theorem dL_law_446 : decode cL_law 446 = .ok (.aload_n 0, 1) := by decide +kernel
theorem dL_law_447 : decode cL_law 447 = .ok (.iload 4, 2) := by decide +kernel
theorem dL_law_449 : decode cL_law 449 = .ok (.iconst 2, 1) := by decide +kernel
theorem dL_law_450 : decode cL_law 450 = .ok (.iadd, 1) := by decide +kernel
theorem dL_law_451 : decode cL_law 451 = .ok (.iaload, 1) := by decide +kernel
theorem dL_law_452 : decode cL_law 452 = .ok (.invokevirtual 137, 3) := by decide +kernel
theorem dL_law_455 : decode cL_law 455 = .ok (.istore 6, 2) := by decide +kernel
theorem dL_law_457 : decode cL_law 457 = .ok (.goto 405, 3) := by decide +kernel
theorem dL_law_460 : decode cL_law 460 = .ok (.aload_n 1, 1) := by decide +kernel
theorem dL_law_461 : decode cL_law 461 = .ok (.aload_n 0, 1) := by decide +kernel
theorem dL_law_462 : decode cL_law 462 = .ok (.iload 4, 2) := by decide +kernel
theorem dL_law_464 : decode cL_law 464 = .ok (.iconst 1, 1) := by decide +kernel
theorem dL_law_465 : decode cL_law 465 = .ok (.iadd, 1) := by decide +kernel
theorem dL_law_466 : decode cL_law 466 = .ok (.iaload, 1) := by decide +kernel
theorem dL_law_467 : decode cL_law 467 = .ok (.aload_n 0, 1) := by decide +kernel
theorem dL_law_468 : decode cL_law 468 = .ok (.iload 4, 2) := by decide +kernel
theorem dL_law_470 : decode cL_law 470 = .ok (.iconst 2, 1) := by decide +kernel
theorem dL_law_471 : decode cL_law 471 = .ok (.iadd, 1) := by decide +kernel
theorem dL_law_472 : decode cL_law 472 = .ok (.iaload, 1) := by decide +kernel
theorem dL_law_473 : decode cL_law 473 = .ok (.aload_n 3, 1) := by decide +kernel
theorem dL_law_474 : decode cL_law 474 = .ok (.invokestatic 138, 3) := by decide +kernel
theorem dL_law_477 : decode cL_law 477 = .ok (.istore 5, 2) := by decide +kernel
theorem dL_law_479 : decode cL_law 479 = .ok (.aload_n 2, 1) := by decide +kernel
theorem dL_law_480 : decode cL_law 480 = .ok (.aload_n 0, 1) := by decide +kernel
theorem dL_law_481 : decode cL_law 481 = .ok (.iload 4, 2) := by decide +kernel
theorem dL_law_483 : decode cL_law 483 = .ok (.iconst 1, 1) := by decide +kernel
theorem dL_law_484 : decode cL_law 484 = .ok (.iadd, 1) := by decide +kernel
theorem dL_law_485 : decode cL_law 485 = .ok (.iaload, 1) := by decide +kernel
theorem dL_law_486 : decode cL_law 486 = .ok (.aload_n 0, 1) := by decide +kernel
theorem dL_law_487 : decode cL_law 487 = .ok (.iload 4, 2) := by decide +kernel
theorem dL_law_489 : decode cL_law 489 = .ok (.iconst 2, 1) := by decide +kernel
theorem dL_law_490 : decode cL_law 490 = .ok (.iadd, 1) := by decide +kernel
theorem dL_law_491 : decode cL_law 491 = .ok (.iaload, 1) := by decide +kernel
theorem dL_law_492 : decode cL_law 492 = .ok (.invokevirtual 140, 3) := by decide +kernel
theorem dL_law_495 : decode cL_law 495 = .ok (.istore 6, 2) := by decide +kernel
theorem dL_law_497 : decode cL_law 497 = .ok (.goto 365, 3) := by decide +kernel
theorem dL_law_500 : decode cL_law 500 = .ok (.aload_n 1, 1) := by decide +kernel
theorem dL_law_501 : decode cL_law 501 = .ok (.aload_n 0, 1) := by decide +kernel
theorem dL_law_502 : decode cL_law 502 = .ok (.iload 4, 2) := by decide +kernel
theorem dL_law_504 : decode cL_law 504 = .ok (.iconst 1, 1) := by decide +kernel
theorem dL_law_505 : decode cL_law 505 = .ok (.iadd, 1) := by decide +kernel
theorem dL_law_506 : decode cL_law 506 = .ok (.iaload, 1) := by decide +kernel
theorem dL_law_507 : decode cL_law 507 = .ok (.aload_n 0, 1) := by decide +kernel
theorem dL_law_508 : decode cL_law 508 = .ok (.iload 4, 2) := by decide +kernel
theorem dL_law_510 : decode cL_law 510 = .ok (.iconst 2, 1) := by decide +kernel
theorem dL_law_511 : decode cL_law 511 = .ok (.iadd, 1) := by decide +kernel
theorem dL_law_512 : decode cL_law 512 = .ok (.iaload, 1) := by decide +kernel
theorem dL_law_513 : decode cL_law 513 = .ok (.aload_n 3, 1) := by decide +kernel
theorem dL_law_514 : decode cL_law 514 = .ok (.invokestatic 141, 3) := by decide +kernel
theorem dL_law_517 : decode cL_law 517 = .ok (.istore 5, 2) := by decide +kernel
theorem dL_law_519 : decode cL_law 519 = .ok (.aload_n 2, 1) := by decide +kernel
theorem dL_law_520 : decode cL_law 520 = .ok (.aload_n 0, 1) := by decide +kernel
theorem dL_law_521 : decode cL_law 521 = .ok (.iload 4, 2) := by decide +kernel
theorem dL_law_523 : decode cL_law 523 = .ok (.iconst 1, 1) := by decide +kernel
theorem dL_law_524 : decode cL_law 524 = .ok (.iadd, 1) := by decide +kernel
theorem dL_law_525 : decode cL_law 525 = .ok (.iaload, 1) := by decide +kernel
theorem dL_law_526 : decode cL_law 526 = .ok (.aload_n 0, 1) := by decide +kernel
theorem dL_law_527 : decode cL_law 527 = .ok (.iload 4, 2) := by decide +kernel
theorem dL_law_529 : decode cL_law 529 = .ok (.iconst 2, 1) := by decide +kernel
theorem dL_law_530 : decode cL_law 530 = .ok (.iadd, 1) := by decide +kernel
theorem dL_law_531 : decode cL_law 531 = .ok (.iaload, 1) := by decide +kernel
theorem dL_law_532 : decode cL_law 532 = .ok (.invokevirtual 143, 3) := by decide +kernel
theorem dL_law_535 : decode cL_law 535 = .ok (.istore 6, 2) := by decide +kernel
theorem dL_law_537 : decode cL_law 537 = .ok (.goto 325, 3) := by decide +kernel
theorem dL_law_540 : decode cL_law 540 = .ok (.aload_n 1, 1) := by decide +kernel
theorem dL_law_541 : decode cL_law 541 = .ok (.aload_n 0, 1) := by decide +kernel
theorem dL_law_542 : decode cL_law 542 = .ok (.iload 4, 2) := by decide +kernel
theorem dL_law_544 : decode cL_law 544 = .ok (.iconst 1, 1) := by decide +kernel
theorem dL_law_545 : decode cL_law 545 = .ok (.iadd, 1) := by decide +kernel
theorem dL_law_546 : decode cL_law 546 = .ok (.iaload, 1) := by decide +kernel
theorem dL_law_547 : decode cL_law 547 = .ok (.aload_n 3, 1) := by decide +kernel
theorem dL_law_548 : decode cL_law 548 = .ok (.invokestatic 144, 3) := by decide +kernel
theorem dL_law_551 : decode cL_law 551 = .ok (.istore 5, 2) := by decide +kernel
theorem dL_law_553 : decode cL_law 553 = .ok (.aload_n 2, 1) := by decide +kernel
theorem dL_law_554 : decode cL_law 554 = .ok (.aload_n 0, 1) := by decide +kernel
theorem dL_law_555 : decode cL_law 555 = .ok (.iload 4, 2) := by decide +kernel
theorem dL_law_557 : decode cL_law 557 = .ok (.iconst 1, 1) := by decide +kernel
theorem dL_law_558 : decode cL_law 558 = .ok (.iadd, 1) := by decide +kernel
theorem dL_law_559 : decode cL_law 559 = .ok (.iaload, 1) := by decide +kernel
theorem dL_law_560 : decode cL_law 560 = .ok (.invokevirtual 146, 3) := by decide +kernel
theorem dL_law_563 : decode cL_law 563 = .ok (.lstore 6, 2) := by decide +kernel
theorem dL_law_565 : decode cL_law 565 = .ok (.goto 297, 3) := by decide +kernel
theorem dL_law_568 : decode cL_law 568 = .ok (.aload_n 1, 1) := by decide +kernel
theorem dL_law_569 : decode cL_law 569 = .ok (.aload_n 0, 1) := by decide +kernel
theorem dL_law_570 : decode cL_law 570 = .ok (.iload 4, 2) := by decide +kernel
theorem dL_law_572 : decode cL_law 572 = .ok (.iconst 1, 1) := by decide +kernel
theorem dL_law_573 : decode cL_law 573 = .ok (.iadd, 1) := by decide +kernel
theorem dL_law_574 : decode cL_law 574 = .ok (.iaload, 1) := by decide +kernel
theorem dL_law_575 : decode cL_law 575 = .ok (.aload_n 3, 1) := by decide +kernel
theorem dL_law_576 : decode cL_law 576 = .ok (.invokestatic 147, 3) := by decide +kernel
theorem dL_law_579 : decode cL_law 579 = .ok (.istore 5, 2) := by decide +kernel
theorem dL_law_581 : decode cL_law 581 = .ok (.aload_n 2, 1) := by decide +kernel
theorem dL_law_582 : decode cL_law 582 = .ok (.aload_n 0, 1) := by decide +kernel
theorem dL_law_583 : decode cL_law 583 = .ok (.iload 4, 2) := by decide +kernel
theorem dL_law_585 : decode cL_law 585 = .ok (.iconst 1, 1) := by decide +kernel
theorem dL_law_586 : decode cL_law 586 = .ok (.iadd, 1) := by decide +kernel
theorem dL_law_587 : decode cL_law 587 = .ok (.iaload, 1) := by decide +kernel
theorem dL_law_588 : decode cL_law 588 = .ok (.invokevirtual 149, 3) := by decide +kernel
theorem dL_law_591 : decode cL_law 591 = .ok (.istore 6, 2) := by decide +kernel
theorem dL_law_593 : decode cL_law 593 = .ok (.goto 269, 3) := by decide +kernel
theorem dL_law_596 : decode cL_law 596 = .ok (.aload_n 1, 1) := by decide +kernel
theorem dL_law_597 : decode cL_law 597 = .ok (.aload_n 0, 1) := by decide +kernel
theorem dL_law_598 : decode cL_law 598 = .ok (.iload 4, 2) := by decide +kernel
theorem dL_law_600 : decode cL_law 600 = .ok (.iconst 1, 1) := by decide +kernel
theorem dL_law_601 : decode cL_law 601 = .ok (.iadd, 1) := by decide +kernel
theorem dL_law_602 : decode cL_law 602 = .ok (.iaload, 1) := by decide +kernel
theorem dL_law_603 : decode cL_law 603 = .ok (.aload_n 3, 1) := by decide +kernel
theorem dL_law_604 : decode cL_law 604 = .ok (.invokestatic 150, 3) := by decide +kernel
theorem dL_law_607 : decode cL_law 607 = .ok (.istore 5, 2) := by decide +kernel
theorem dL_law_609 : decode cL_law 609 = .ok (.aload_n 2, 1) := by decide +kernel
theorem dL_law_610 : decode cL_law 610 = .ok (.aload_n 0, 1) := by decide +kernel
theorem dL_law_611 : decode cL_law 611 = .ok (.iload 4, 2) := by decide +kernel
theorem dL_law_613 : decode cL_law 613 = .ok (.iconst 1, 1) := by decide +kernel
theorem dL_law_614 : decode cL_law 614 = .ok (.iadd, 1) := by decide +kernel
theorem dL_law_615 : decode cL_law 615 = .ok (.iaload, 1) := by decide +kernel
theorem dL_law_616 : decode cL_law 616 = .ok (.invokevirtual 152, 3) := by decide +kernel
theorem dL_law_619 : decode cL_law 619 = .ok (.astore 6, 2) := by decide +kernel
theorem dL_law_621 : decode cL_law 621 = .ok (.goto 241, 3) := by decide +kernel
theorem dL_law_624 : decode cL_law 624 = .ok (.aload_n 1, 1) := by decide +kernel
theorem dL_law_625 : decode cL_law 625 = .ok (.aload_n 0, 1) := by decide +kernel
theorem dL_law_626 : decode cL_law 626 = .ok (.iload 4, 2) := by decide +kernel
theorem dL_law_628 : decode cL_law 628 = .ok (.iconst 1, 1) := by decide +kernel
theorem dL_law_629 : decode cL_law 629 = .ok (.iadd, 1) := by decide +kernel
theorem dL_law_630 : decode cL_law 630 = .ok (.iaload, 1) := by decide +kernel
theorem dL_law_631 : decode cL_law 631 = .ok (.aload_n 3, 1) := by decide +kernel
theorem dL_law_632 : decode cL_law 632 = .ok (.invokestatic 153, 3) := by decide +kernel
theorem dL_law_635 : decode cL_law 635 = .ok (.istore 5, 2) := by decide +kernel
theorem dL_law_637 : decode cL_law 637 = .ok (.aload_n 2, 1) := by decide +kernel
theorem dL_law_638 : decode cL_law 638 = .ok (.aload_n 0, 1) := by decide +kernel
theorem dL_law_639 : decode cL_law 639 = .ok (.iload 4, 2) := by decide +kernel
theorem dL_law_641 : decode cL_law 641 = .ok (.iconst 1, 1) := by decide +kernel
theorem dL_law_642 : decode cL_law 642 = .ok (.iadd, 1) := by decide +kernel
theorem dL_law_643 : decode cL_law 643 = .ok (.iaload, 1) := by decide +kernel
theorem dL_law_644 : decode cL_law 644 = .ok (.invokevirtual 155, 3) := by decide +kernel
theorem dL_law_647 : decode cL_law 647 = .ok (.istore 6, 2) := by decide +kernel
theorem dL_law_649 : decode cL_law 649 = .ok (.goto 213, 3) := by decide +kernel
theorem dL_law_652 : decode cL_law 652 = .ok (.aload_n 1, 1) := by decide +kernel
theorem dL_law_653 : decode cL_law 653 = .ok (.aload_n 0, 1) := by decide +kernel
theorem dL_law_654 : decode cL_law 654 = .ok (.iload 4, 2) := by decide +kernel
theorem dL_law_656 : decode cL_law 656 = .ok (.iconst 1, 1) := by decide +kernel
theorem dL_law_657 : decode cL_law 657 = .ok (.iadd, 1) := by decide +kernel
theorem dL_law_658 : decode cL_law 658 = .ok (.iaload, 1) := by decide +kernel
theorem dL_law_659 : decode cL_law 659 = .ok (.aload_n 3, 1) := by decide +kernel
theorem dL_law_660 : decode cL_law 660 = .ok (.invokestatic 156, 3) := by decide +kernel
theorem dL_law_663 : decode cL_law 663 = .ok (.istore 5, 2) := by decide +kernel
theorem dL_law_665 : decode cL_law 665 = .ok (.aload_n 2, 1) := by decide +kernel
theorem dL_law_666 : decode cL_law 666 = .ok (.aload_n 0, 1) := by decide +kernel
theorem dL_law_667 : decode cL_law 667 = .ok (.iload 4, 2) := by decide +kernel
theorem dL_law_669 : decode cL_law 669 = .ok (.iconst 1, 1) := by decide +kernel
theorem dL_law_670 : decode cL_law 670 = .ok (.iadd, 1) := by decide +kernel
theorem dL_law_671 : decode cL_law 671 = .ok (.iaload, 1) := by decide +kernel
theorem dL_law_672 : decode cL_law 672 = .ok (.invokevirtual 158, 3) := by decide +kernel
theorem dL_law_675 : decode cL_law 675 = .ok (.dstore 6, 2) := by decide +kernel
theorem dL_law_677 : decode cL_law 677 = .ok (.aload_n 2, 1) := by decide +kernel
theorem dL_law_678 : decode cL_law 678 = .ok (.invokevirtual 159, 3) := by decide +kernel
theorem dL_law_681 : decode cL_law 681 = .ok (.iload 5, 2) := by decide +kernel
theorem dL_law_683 : decode cL_law 683 = .ok (.if_icmp .eq 5, 3) := by decide +kernel
theorem dL_law_686 : decode cL_law 686 = .ok (.iconst 0, 1) := by decide +kernel
theorem dL_law_687 : decode cL_law 687 = .ok (.ireturn, 1) := by decide +kernel
theorem dL_law_688 : decode cL_law 688 = .ok (.iload 5, 2) := by decide +kernel
theorem dL_law_690 : decode cL_law 690 = .ok (.ifCond .ne 35, 3) := by decide +kernel
theorem dL_law_693 : decode cL_law 693 = .ok (.aload_n 3, 1) := by decide +kernel
theorem dL_law_694 : decode cL_law 694 = .ok (.getfield 83, 3) := by decide +kernel
theorem dL_law_697 : decode cL_law 697 = .ok (.dload 6, 2) := by decide +kernel
theorem dL_law_699 : decode cL_law 699 = .ok (.dcmp .l, 1) := by decide +kernel
theorem dL_law_700 : decode cL_law 700 = .ok (.ifCond .eq 25, 3) := by decide +kernel
theorem dL_law_703 : decode cL_law 703 = .ok (.aload_n 3, 1) := by decide +kernel
theorem dL_law_704 : decode cL_law 704 = .ok (.getfield 83, 3) := by decide +kernel
theorem dL_law_707 : decode cL_law 707 = .ok (.aload_n 3, 1) := by decide +kernel
theorem dL_law_708 : decode cL_law 708 = .ok (.getfield 83, 3) := by decide +kernel
theorem dL_law_711 : decode cL_law 711 = .ok (.dcmp .l, 1) := by decide +kernel
theorem dL_law_712 : decode cL_law 712 = .ok (.ifCond .eq 11, 3) := by decide +kernel
theorem dL_law_715 : decode cL_law 715 = .ok (.dload 6, 2) := by decide +kernel
theorem dL_law_717 : decode cL_law 717 = .ok (.dload 6, 2) := by decide +kernel
theorem dL_law_719 : decode cL_law 719 = .ok (.dcmp .l, 1) := by decide +kernel
theorem dL_law_720 : decode cL_law 720 = .ok (.ifCond .ne 5, 3) := by decide +kernel
theorem dL_law_723 : decode cL_law 723 = .ok (.iconst 0, 1) := by decide +kernel
theorem dL_law_724 : decode cL_law 724 = .ok (.ireturn, 1) := by decide +kernel
theorem dL_law_725 : decode cL_law 725 = .ok (.goto 137, 3) := by decide +kernel
theorem dL_law_728 : decode cL_law 728 = .ok (.aload_n 1, 1) := by decide +kernel
theorem dL_law_729 : decode cL_law 729 = .ok (.aload_n 0, 1) := by decide +kernel
theorem dL_law_730 : decode cL_law 730 = .ok (.iload 4, 2) := by decide +kernel
theorem dL_law_732 : decode cL_law 732 = .ok (.iconst 1, 1) := by decide +kernel
theorem dL_law_733 : decode cL_law 733 = .ok (.iadd, 1) := by decide +kernel
theorem dL_law_734 : decode cL_law 734 = .ok (.iaload, 1) := by decide +kernel
theorem dL_law_735 : decode cL_law 735 = .ok (.aload_n 0, 1) := by decide +kernel
theorem dL_law_736 : decode cL_law 736 = .ok (.iload 4, 2) := by decide +kernel
theorem dL_law_738 : decode cL_law 738 = .ok (.iconst 2, 1) := by decide +kernel
theorem dL_law_739 : decode cL_law 739 = .ok (.iadd, 1) := by decide +kernel
theorem dL_law_740 : decode cL_law 740 = .ok (.iaload, 1) := by decide +kernel
theorem dL_law_741 : decode cL_law 741 = .ok (.aload_n 3, 1) := by decide +kernel
theorem dL_law_742 : decode cL_law 742 = .ok (.invokestatic 162, 3) := by decide +kernel
theorem dL_law_745 : decode cL_law 745 = .ok (.istore 5, 2) := by decide +kernel
theorem dL_law_747 : decode cL_law 747 = .ok (.aload_n 2, 1) := by decide +kernel
theorem dL_law_748 : decode cL_law 748 = .ok (.aload_n 0, 1) := by decide +kernel
theorem dL_law_749 : decode cL_law 749 = .ok (.iload 4, 2) := by decide +kernel
theorem dL_law_751 : decode cL_law 751 = .ok (.iconst 1, 1) := by decide +kernel
theorem dL_law_752 : decode cL_law 752 = .ok (.iadd, 1) := by decide +kernel
theorem dL_law_753 : decode cL_law 753 = .ok (.iaload, 1) := by decide +kernel
theorem dL_law_754 : decode cL_law 754 = .ok (.aload_n 0, 1) := by decide +kernel
theorem dL_law_755 : decode cL_law 755 = .ok (.iload 4, 2) := by decide +kernel
theorem dL_law_757 : decode cL_law 757 = .ok (.iconst 2, 1) := by decide +kernel
theorem dL_law_758 : decode cL_law 758 = .ok (.iadd, 1) := by decide +kernel
theorem dL_law_759 : decode cL_law 759 = .ok (.iaload, 1) := by decide +kernel
theorem dL_law_760 : decode cL_law 760 = .ok (.invokevirtual 164, 3) := by decide +kernel
theorem dL_law_763 : decode cL_law 763 = .ok (.istore 6, 2) := by decide +kernel
theorem dL_law_765 : decode cL_law 765 = .ok (.goto 97, 3) := by decide +kernel
theorem dL_law_768 : decode cL_law 768 = .ok (.aload_n 1, 1) := by decide +kernel
theorem dL_law_769 : decode cL_law 769 = .ok (.invokevirtual 165, 3) := by decide +kernel
theorem dL_law_772 : decode cL_law 772 = .ok (.pop, 1) := by decide +kernel
theorem dL_law_773 : decode cL_law 773 = .ok (.aload_n 2, 1) := by decide +kernel
theorem dL_law_774 : decode cL_law 774 = .ok (.invokevirtual 168, 3) := by decide +kernel
theorem dL_law_777 : decode cL_law 777 = .ok (.pop, 1) := by decide +kernel
theorem dL_law_778 : decode cL_law 778 = .ok (.goto 84, 3) := by decide +kernel
theorem dL_law_781 : decode cL_law 781 = .ok (.aload_n 1, 1) := by decide +kernel
theorem dL_law_782 : decode cL_law 782 = .ok (.aload_n 0, 1) := by decide +kernel
theorem dL_law_783 : decode cL_law 783 = .ok (.iload 4, 2) := by decide +kernel
theorem dL_law_785 : decode cL_law 785 = .ok (.iconst 1, 1) := by decide +kernel
theorem dL_law_786 : decode cL_law 786 = .ok (.iadd, 1) := by decide +kernel
theorem dL_law_787 : decode cL_law 787 = .ok (.iaload, 1) := by decide +kernel
theorem dL_law_788 : decode cL_law 788 = .ok (.aload_n 0, 1) := by decide +kernel
theorem dL_law_789 : decode cL_law 789 = .ok (.iload 4, 2) := by decide +kernel
theorem dL_law_791 : decode cL_law 791 = .ok (.iconst 2, 1) := by decide +kernel
theorem dL_law_792 : decode cL_law 792 = .ok (.iadd, 1) := by decide +kernel
theorem dL_law_793 : decode cL_law 793 = .ok (.iaload, 1) := by decide +kernel
theorem dL_law_794 : decode cL_law 794 = .ok (.aload_n 3, 1) := by decide +kernel
theorem dL_law_795 : decode cL_law 795 = .ok (.invokestatic 169, 3) := by decide +kernel
theorem dL_law_798 : decode cL_law 798 = .ok (.istore 5, 2) := by decide +kernel
theorem dL_law_800 : decode cL_law 800 = .ok (.aload_n 2, 1) := by decide +kernel
theorem dL_law_801 : decode cL_law 801 = .ok (.aload_n 0, 1) := by decide +kernel
theorem dL_law_802 : decode cL_law 802 = .ok (.iload 4, 2) := by decide +kernel
theorem dL_law_804 : decode cL_law 804 = .ok (.iconst 1, 1) := by decide +kernel
theorem dL_law_805 : decode cL_law 805 = .ok (.iadd, 1) := by decide +kernel
theorem dL_law_806 : decode cL_law 806 = .ok (.iaload, 1) := by decide +kernel
theorem dL_law_807 : decode cL_law 807 = .ok (.aload_n 0, 1) := by decide +kernel
theorem dL_law_808 : decode cL_law 808 = .ok (.iload 4, 2) := by decide +kernel
theorem dL_law_810 : decode cL_law 810 = .ok (.iconst 2, 1) := by decide +kernel
theorem dL_law_811 : decode cL_law 811 = .ok (.iadd, 1) := by decide +kernel
theorem dL_law_812 : decode cL_law 812 = .ok (.iaload, 1) := by decide +kernel
theorem dL_law_813 : decode cL_law 813 = .ok (.invokevirtual 171, 3) := by decide +kernel
theorem dL_law_816 : decode cL_law 816 = .ok (.istore 6, 2) := by decide +kernel
theorem dL_law_818 : decode cL_law 818 = .ok (.goto 44, 3) := by decide +kernel
theorem dL_law_821 : decode cL_law 821 = .ok (.aload_n 1, 1) := by decide +kernel
theorem dL_law_822 : decode cL_law 822 = .ok (.aload_n 0, 1) := by decide +kernel
theorem dL_law_823 : decode cL_law 823 = .ok (.iload 4, 2) := by decide +kernel
theorem dL_law_825 : decode cL_law 825 = .ok (.iconst 1, 1) := by decide +kernel
theorem dL_law_826 : decode cL_law 826 = .ok (.iadd, 1) := by decide +kernel
theorem dL_law_827 : decode cL_law 827 = .ok (.iaload, 1) := by decide +kernel
theorem dL_law_828 : decode cL_law 828 = .ok (.aload_n 3, 1) := by decide +kernel
theorem dL_law_829 : decode cL_law 829 = .ok (.invokestatic 172, 3) := by decide +kernel
theorem dL_law_832 : decode cL_law 832 = .ok (.istore 5, 2) := by decide +kernel
theorem dL_law_834 : decode cL_law 834 = .ok (.aload_n 2, 1) := by decide +kernel
theorem dL_law_835 : decode cL_law 835 = .ok (.aload_n 0, 1) := by decide +kernel
theorem dL_law_836 : decode cL_law 836 = .ok (.iload 4, 2) := by decide +kernel
theorem dL_law_838 : decode cL_law 838 = .ok (.iconst 1, 1) := by decide +kernel
theorem dL_law_839 : decode cL_law 839 = .ok (.iadd, 1) := by decide +kernel
theorem dL_law_840 : decode cL_law 840 = .ok (.iaload, 1) := by decide +kernel
theorem dL_law_841 : decode cL_law 841 = .ok (.invokevirtual 174, 3) := by decide +kernel
theorem dL_law_844 : decode cL_law 844 = .ok (.istore 6, 2) := by decide +kernel
theorem dL_law_846 : decode cL_law 846 = .ok (.goto 16, 3) := by decide +kernel
theorem dL_law_849 : decode cL_law 849 = .ok (.aload_n 1, 1) := by decide +kernel
theorem dL_law_850 : decode cL_law 850 = .ok (.invokevirtual 175, 3) := by decide +kernel
theorem dL_law_853 : decode cL_law 853 = .ok (.pop2, 1) := by decide +kernel
theorem dL_law_854 : decode cL_law 854 = .ok (.aload_n 2, 1) := by decide +kernel
theorem dL_law_855 : decode cL_law 855 = .ok (.invokevirtual 179, 3) := by decide +kernel
theorem dL_law_858 : decode cL_law 858 = .ok (.pop2, 1) := by decide +kernel
theorem dL_law_859 : decode cL_law 859 = .ok (.goto 3, 3) := by decide +kernel
theorem dL_law_862 : decode cL_law 862 = .ok (.iinc 4 4, 3) := by decide +kernel
theorem dL_law_865 : decode cL_law 865 = .ok (.goto (-838), 3) := by decide +kernel
theorem dL_law_868 : decode cL_law 868 = .ok (.iconst 1, 1) := by decide +kernel
theorem dL_law_869 : decode cL_law 869 = .ok (.ireturn, 1) := by decide +kernel
def f_L_law_27 (n : Nat) (a0 : Nat) (a1 : Nat) (a2 : Nat) (a3 : Nat) (i4 : Int32) (M : zM) : Option (Unit × zM) := match n with
  | 0 => none
  | n + 1 =>
    (gL M a0).bind fun v1 =>
    if ((v1 - ((4 : Int32)))) < i4 then
    some ((), M)
    else
    (lA 0 M a0 i4).bind fun v2 =>
    if ((v2 &&& ((31 : Int32)))) = 0 then
    (lA 0 M a0 ((i4 + ((1 : Int32))))).bind fun v152 =>
    (lA 0 M a0 ((i4 + ((2 : Int32))))).bind fun v153 =>
    (f_L_lay a1 v152 v153 a3 M).bind fun r154 =>
    (lA 0 r154.2 a0 ((i4 + ((1 : Int32))))).bind fun v155 =>
    (lA 0 r154.2 a0 ((i4 + ((2 : Int32))))).bind fun v156 =>
    if mK r154.2 a2 = 13 then
    (f_X7_lay a2 v155 v156 r154.2).bind fun r157 =>
    f_L_law_27 n a0 a1 a2 a3 ((i4 + (4 : Int32))) r157.2
    else none
    else
    if ((v2 &&& ((31 : Int32)))) = 1 then
    (f_L_draw a1 a3 M).bind fun r149 =>
    if mK r149.2 a2 = 13 then
    (f_X7_draw a2 r149.2).bind fun r150 =>
    f_L_law_27 n a0 a1 a2 a3 ((i4 + (4 : Int32))) r150.2
    else none
    else
    if ((v2 &&& ((31 : Int32)))) = 2 then
    (lA 0 M a0 ((i4 + ((1 : Int32))))).bind fun v144 =>
    (f_L_discard a1 v144 a3 M).bind fun r145 =>
    (lA 0 r145.2 a0 ((i4 + ((1 : Int32))))).bind fun v146 =>
    if mK r145.2 a2 = 13 then
    (f_X7_discard a2 v146 r145.2).bind fun r147 =>
    f_L_law_27 n a0 a1 a2 a3 ((i4 + (4 : Int32))) r147.2
    else none
    else
    if ((v2 &&& ((31 : Int32)))) = 3 then
    (lA 0 M a0 ((i4 + ((1 : Int32))))).bind fun v139 =>
    (f_L_call a1 v139 a3 M).bind fun r140 =>
    (lA 0 r140.2 a0 ((i4 + ((1 : Int32))))).bind fun v141 =>
    if mK r140.2 a2 = 13 then
    (f_X7_call a2 v141 r140.2).bind fun r142 =>
    f_L_law_27 n a0 a1 a2 a3 ((i4 + (4 : Int32))) r142.2
    else none
    else
    if ((v2 &&& ((31 : Int32)))) = 4 then
    (lA 0 M a0 ((i4 + ((1 : Int32))))).bind fun v130 =>
    (lA 0 M a0 ((i4 + ((2 : Int32))))).bind fun v131 =>
    (lA 0 M a0 ((i4 + ((3 : Int32))))).bind fun v132 =>
    (f_L_claim a1 v130 v131 v132 a3 M).bind fun r133 =>
    (lA 0 r133.2 a0 ((i4 + ((1 : Int32))))).bind fun v134 =>
    (lA 0 r133.2 a0 ((i4 + ((2 : Int32))))).bind fun v135 =>
    (lA 0 r133.2 a0 ((i4 + ((3 : Int32))))).bind fun v136 =>
    if mK r133.2 a2 = 13 then
    (f_X7_claim a2 v134 v135 v136 r133.2).bind fun r137 =>
    f_L_law_27 n a0 a1 a2 a3 ((i4 + (4 : Int32))) r137.2
    else none
    else
    if ((v2 &&& ((31 : Int32)))) = 5 then
    (lA 0 M a0 ((i4 + ((1 : Int32))))).bind fun v125 =>
    (f_L_four a1 v125 a3 M).bind fun r126 =>
    (lA 0 r126.2 a0 ((i4 + ((1 : Int32))))).bind fun v127 =>
    if mK r126.2 a2 = 13 then
    (f_X7_four a2 v127 r126.2).bind fun r128 =>
    f_L_law_27 n a0 a1 a2 a3 ((i4 + (4 : Int32))) r128.2
    else none
    else
    if ((v2 &&& ((31 : Int32)))) = 6 then
    (f_L_pass a1 a3 M).bind fun r122 =>
    if mK r122.2 a2 = 13 then
    (f_X7_pass a2 r122.2).bind fun r123 =>
    f_L_law_27 n a0 a1 a2 a3 ((i4 + (4 : Int32))) r123.2
    else none
    else
    if ((v2 &&& ((31 : Int32)))) = 7 then
    (lA 0 M a0 ((i4 + ((1 : Int32))))).bind fun v117 =>
    (f_L_win a1 v117 a3 M).bind fun r118 =>
    (lA 0 r118.2 a0 ((i4 + ((1 : Int32))))).bind fun v119 =>
    if mK r118.2 a2 = 13 then
    (f_X7_win a2 v119 r118.2).bind fun r120 =>
    f_L_law_27 n a0 a1 a2 a3 ((i4 + (4 : Int32))) r120.2
    else none
    else
    if ((v2 &&& ((31 : Int32)))) = 8 then
    (lA 0 M a0 ((i4 + ((1 : Int32))))).bind fun v110 =>
    (lA 0 M a0 ((i4 + ((2 : Int32))))).bind fun v111 =>
    (f_L_has a1 v110 v111 a3 M).bind fun r112 =>
    (lA 0 r112.2 a0 ((i4 + ((1 : Int32))))).bind fun v113 =>
    (lA 0 r112.2 a0 ((i4 + ((2 : Int32))))).bind fun v114 =>
    if mK r112.2 a2 = 13 then
    (f_X7_has a2 v113 v114 r112.2).bind fun r115 =>
    f_L_law_27 n a0 a1 a2 a3 ((i4 + (4 : Int32))) r115.2
    else none
    else
    if ((v2 &&& ((31 : Int32)))) = 9 then
    (lA 0 M a0 ((i4 + ((1 : Int32))))).bind fun v103 =>
    (lA 0 M a0 ((i4 + ((2 : Int32))))).bind fun v104 =>
    (f_L_ofPlayer a1 v103 v104 a3 M).bind fun r105 =>
    (lA 0 r105.2 a0 ((i4 + ((1 : Int32))))).bind fun v106 =>
    (lA 0 r105.2 a0 ((i4 + ((2 : Int32))))).bind fun v107 =>
    if mK r105.2 a2 = 13 then
    (f_X7_ofPlayer a2 v106 v107 r105.2).bind fun r108 =>
    f_L_law_27 n a0 a1 a2 a3 ((i4 + (4 : Int32))) r108.2
    else none
    else
    if ((v2 &&& ((31 : Int32)))) = 10 then
    (lA 0 M a0 ((i4 + ((1 : Int32))))).bind fun v96 =>
    (lA 0 M a0 ((i4 + ((2 : Int32))))).bind fun v97 =>
    (f_L_ofSet a1 v96 v97 a3 M).bind fun r98 =>
    (lA 0 r98.2 a0 ((i4 + ((1 : Int32))))).bind fun v99 =>
    (lA 0 r98.2 a0 ((i4 + ((2 : Int32))))).bind fun v100 =>
    if mK r98.2 a2 = 13 then
    (f_X7_ofSet a2 v99 v100 r98.2).bind fun r101 =>
    f_L_law_27 n a0 a1 a2 a3 ((i4 + (4 : Int32))) r101.2
    else none
    else
    if ((v2 &&& ((31 : Int32)))) = 11 then
    (lA 0 M a0 ((i4 + ((1 : Int32))))).bind fun v89 =>
    (lA 0 M a0 ((i4 + ((2 : Int32))))).bind fun v90 =>
    (f_L_river a1 v89 v90 a3 M).bind fun r91 =>
    (lA 0 r91.2 a0 ((i4 + ((1 : Int32))))).bind fun v92 =>
    (lA 0 r91.2 a0 ((i4 + ((2 : Int32))))).bind fun v93 =>
    if mK r91.2 a2 = 13 then
    (f_X7_river a2 v92 v93 r91.2).bind fun r94 =>
    f_L_law_27 n a0 a1 a2 a3 ((i4 + (4 : Int32))) r94.2
    else none
    else
    if ((v2 &&& ((31 : Int32)))) = 12 then
    (lA 0 M a0 ((i4 + ((1 : Int32))))).bind fun v84 =>
    (f_L_waits a1 v84 a3 M).bind fun r85 =>
    (lA 0 r85.2 a0 ((i4 + ((1 : Int32))))).bind fun v86 =>
    if mK r85.2 a2 = 13 then
    (f_X7_waits a2 v86 r85.2).bind fun r87 =>
    f_L_law_27 n a0 a1 a2 a3 ((i4 + (4 : Int32))) r87.2
    else none
    else
    if ((v2 &&& ((31 : Int32)))) = 13 then
    (lA 0 M a0 ((i4 + ((1 : Int32))))).bind fun v79 =>
    (f_L_seen a1 v79 a3 M).bind fun r80 =>
    (lA 0 r80.2 a0 ((i4 + ((1 : Int32))))).bind fun v81 =>
    if mK r80.2 a2 = 13 then
    (f_X7_seen a2 v81 r80.2).bind fun r82 =>
    f_L_law_27 n a0 a1 a2 a3 ((i4 + (4 : Int32))) r82.2
    else none
    else
    if ((v2 &&& ((31 : Int32)))) = 14 then
    (lA 0 M a0 ((i4 + ((1 : Int32))))).bind fun v74 =>
    (f_L_hand a1 v74 a3 M).bind fun r75 =>
    (lA 0 r75.2 a0 ((i4 + ((1 : Int32))))).bind fun v76 =>
    if mK r75.2 a2 = 13 then
    (f_X7_hand a2 v76 r75.2).bind fun r77 =>
    f_L_law_27 n a0 a1 a2 a3 ((i4 + (4 : Int32))) r77.2
    else none
    else
    if ((v2 &&& ((31 : Int32)))) = 15 then
    (lA 0 M a0 ((i4 + ((1 : Int32))))).bind fun v69 =>
    (f_L_many a1 v69 a3 M).bind fun r70 =>
    (lA 0 r70.2 a0 ((i4 + ((1 : Int32))))).bind fun v71 =>
    if mK r70.2 a2 = 13 then
    (f_X7_many a2 v71 r70.2).bind fun r72 =>
    f_L_law_27 n a0 a1 a2 a3 ((i4 + (4 : Int32))) r72.2
    else none
    else
    if ((v2 &&& ((31 : Int32)))) = 16 then
    (lA 0 M a0 ((i4 + ((1 : Int32))))).bind fun v54 =>
    (f_L_lead a1 v54 a3 M).bind fun r55 =>
    (lA 0 r55.2 a0 ((i4 + ((1 : Int32))))).bind fun v56 =>
    if mK r55.2 a2 = 13 then
    (f_X7_lead a2 v56 r55.2).bind fun r57 =>
    if mK r57.2 a2 = 13 then
    (f_X7_thrown a2 r57.2).bind fun r59 =>
    if r59.1 = r55.1 then
    if r55.1 = 0 then
    (gD 10 1 r59.2 a3).bind fun v61 =>
    if ((Op.cmpValue (FP.dcmp v61 r57.1) .l)) = 0 then
    f_L_law_27 n a0 a1 a2 a3 ((i4 + (4 : Int32))) r59.2
    else
    (gD 10 1 r59.2 a3).bind fun v62 =>
    (gD 10 1 r59.2 a3).bind fun v63 =>
    if ((Op.cmpValue (FP.dcmp v62 v63) .l)) = 0 then
    none
    else
    if ((Op.cmpValue (FP.dcmp r57.1 r57.1) .l)) = 0 then
    none
    else
    f_L_law_27 n a0 a1 a2 a3 ((i4 + (4 : Int32))) r59.2
    else
    f_L_law_27 n a0 a1 a2 a3 ((i4 + (4 : Int32))) r59.2
    else
    none
    else none
    else none
    else
    if ((v2 &&& ((31 : Int32)))) = 17 then
    (lA 0 M a0 ((i4 + ((1 : Int32))))).bind fun v47 =>
    (lA 0 M a0 ((i4 + ((2 : Int32))))).bind fun v48 =>
    (f_L_worth a1 v47 v48 a3 M).bind fun r49 =>
    (lA 0 r49.2 a0 ((i4 + ((1 : Int32))))).bind fun v50 =>
    (lA 0 r49.2 a0 ((i4 + ((2 : Int32))))).bind fun v51 =>
    if mK r49.2 a2 = 13 then
    (f_X7_worth a2 v50 v51 r49.2).bind fun r52 =>
    f_L_law_27 n a0 a1 a2 a3 ((i4 + (4 : Int32))) r52.2
    else none
    else
    if ((v2 &&& ((31 : Int32)))) = 18 then
    if mK M a1 = 9 then
    (f_X3_best a1 M).bind fun r43 =>
    if mK r43.2 a2 = 13 then
    (f_X7_best a2 r43.2).bind fun r45 =>
    f_L_law_27 n a0 a1 a2 a3 ((i4 + (4 : Int32))) r45.2
    else none
    else none
    else
    if ((v2 &&& ((31 : Int32)))) = 19 then
    (lA 0 M a0 ((i4 + ((1 : Int32))))).bind fun v36 =>
    (lA 0 M a0 ((i4 + ((2 : Int32))))).bind fun v37 =>
    (f_L_isSafe a1 v36 v37 a3 M).bind fun r38 =>
    (lA 0 r38.2 a0 ((i4 + ((1 : Int32))))).bind fun v39 =>
    (lA 0 r38.2 a0 ((i4 + ((2 : Int32))))).bind fun v40 =>
    if mK r38.2 a2 = 13 then
    (f_X7_isSafe a2 v39 v40 r38.2).bind fun r41 =>
    f_L_law_27 n a0 a1 a2 a3 ((i4 + (4 : Int32))) r41.2
    else none
    else
    if ((v2 &&& ((31 : Int32)))) = 20 then
    (lA 0 M a0 ((i4 + ((1 : Int32))))).bind fun v31 =>
    (f_L_outs a1 v31 a3 M).bind fun r32 =>
    (lA 0 r32.2 a0 ((i4 + ((1 : Int32))))).bind fun v33 =>
    if mK r32.2 a2 = 13 then
    (f_X7_outs a2 v33 r32.2).bind fun r34 =>
    f_L_law_27 n a0 a1 a2 a3 ((i4 + (4 : Int32))) r34.2
    else none
    else
    if ((v2 &&& ((31 : Int32)))) = 21 then
    if mK M a1 = 9 then
    xn (f_X3_digest a1 M) fun w25 Mw25 =>
    if mK Mw25 a2 = 13 then
    (f_X7_digest a2 Mw25).bind fun r29 =>
    f_L_law_27 n a0 a1 a2 a3 ((i4 + (4 : Int32))) r29.2
    else none
    else none
    else
    f_L_law_27 n a0 a1 a2 a3 ((i4 + (4 : Int32))) M
set_option maxRecDepth 20000 in
set_option maxHeartbeats 4000000 in
theorem s_L_law_27 {L : zL} {X : zX} {M0 : zM} {N : Nat × Nat} {Q : State → Prop} {r : Unit × zM} (hq : ∀ {M : zM} {pc : Nat} {ls : List (Nat × Value)}, M = r.2 → decode cL_law pc = .ok (.ireturn, 1) → V L X yL_law cL_law 8 (some FieldType.boolean) 135 M0 N Q M pc ls [.int 1]) {n : Nat} {a0 : Nat} {a1 : Nat} {a2 : Nat} {a3 : Nat} {i4 : Int32} {M : zM} : f_L_law_27 n a0 a1 a2 a3 i4 M = some r → V L X yL_law cL_law 8 (some FieldType.boolean) 135 M0 N Q M 27 [(0, .ref (zad L (a0))), (1, .ref (zad L (a1))), (2, .ref (zad L (a2))), (3, .ref (zad L (a3))), (4, .int (i4))] [] := by
  induction n generalizing a0 a1 a2 a3 i4 M with
  | zero =>
    intro h
    rw [f_L_law_27] at h
    cases h
  | succ n ih0 =>
    intro h
    have ih : ∀ (a0 : Nat) (a1 : Nat) (a2 : Nat) (a3 : Nat) (i4 : Int32) (M : zM), f_L_law_27 n a0 a1 a2 a3 i4 M = some r → V L X yL_law cL_law 8 (some FieldType.boolean) 135 M0 N Q M 27 [(0, .ref (zad L (a0))), (1, .ref (zad L (a1))), (2, .ref (zad L (a2))), (3, .ref (zad L (a3))), (4, .int (i4))] [] := fun a0 a1 a2 a3 i4 M h => ih0 h
    rw [f_L_law_27] at h
    refine V_iload dL_law_27 4 rfl ?_
    refine V_aload_n dL_law_29 rfl 0 rfl ?_
    replace h := ob h
    obtain ⟨v1, e_v1, h⟩ := h
    refine V_alen e_v1 dL_law_30 ?_
    refine V_pc (pc' := 31) rfl ?_
    refine V_iconst (v := 4) dL_law_31 (by decide) ?_
    refine V_isub dL_law_32 ?_
    refine V_icmp_gt (tgt := 868) dL_law_33 (by decide) (fun c159 => ?_) (fun c159 => ?_)
    · replace h := (oi h).1 c159
      refine V_iconst (v := 1) dL_law_868 (by decide) ?_
      obtain rfl := Option.some.inj h
      exact hq rfl dL_law_869
    · replace h := (oi h).2 c159
      refine V_aload_n dL_law_36 rfl 0 rfl ?_
      refine V_iload dL_law_37 4 rfl ?_
      replace h := ob h
      obtain ⟨v2, e_v2, h⟩ := h
      refine V_iald e_v2 dL_law_39 ?_
      refine V_pc (pc' := 40) rfl ?_
      refine V_bipush (v := 31) dL_law_40 (by decide) ?_
      refine V_iand dL_law_42 ?_
      by_cases c3 : ((v2 &&& ((31 : Int32)))) = 0
      · replace h := (oi h).1 c3
        refine V_tabIn (off := 101) (tgt := 144) dL_law_43 (by rw [c3]; decide) (by rw [c3]; decide) (by rw [c3]; decide) (by decide) ?_
        refine V_aload_n dL_law_144 rfl 1 rfl ?_
        refine V_aload_n dL_law_145 rfl 0 rfl ?_
        refine V_iload dL_law_146 4 rfl ?_
        refine V_iconst (v := 1) dL_law_148 (by decide) ?_
        refine V_iadd dL_law_149 ?_
        replace h := ob h
        obtain ⟨v152, e_v152, h⟩ := h
        refine V_iald e_v152 dL_law_150 ?_
        refine V_pc (pc' := 151) rfl ?_
        refine V_aload_n dL_law_151 rfl 0 rfl ?_
        refine V_iload dL_law_152 4 rfl ?_
        refine V_iconst (v := 2) dL_law_154 (by decide) ?_
        refine V_iadd dL_law_155 ?_
        replace h := ob h
        obtain ⟨v153, e_v153, h⟩ := h
        refine V_iald e_v153 dL_law_156 ?_
        refine V_pc (pc' := 157) rfl ?_
        refine V_aload_n dL_law_157 rfl 3 rfl ?_
        replace h := ob h
        obtain ⟨r154, e_r154, h⟩ := h
        refine V_callSW_I (As := [.ref (zad L (a1)), .int (v152), .int (v153), .ref (zad L (a3))]) (rest := []) (c_L_lay e_r154) zc_L_lay rfl (by decide) zm_L_102 (Nat.le_of_ble_eq_true rfl) rfl dL_law_158 ?_
        refine V_pc (pc' := 161) rfl ?_
        refine V_istore (ls' := [(5, .int (r154.1)), (0, .ref (zad L (a0))), (1, .ref (zad L (a1))), (2, .ref (zad L (a2))), (3, .ref (zad L (a3))), (4, .int (i4))]) dL_law_161 (by decide) rfl ?_
        refine V_aload_n dL_law_163 rfl 3 rfl ?_
        refine V_aload_n dL_law_164 rfl 1 rfl ?_
        refine V_iload dL_law_165 5 rfl ?_
        refine V_iconst (v := 1) dL_law_167 (by decide) ?_
        refine V_iadd dL_law_168 ?_
        replace h := ob h
        obtain ⟨v155, e_v155, h⟩ := h
        refine V_iald e_v155 dL_law_169 ?_
        refine V_pc (pc' := 170) rfl ?_
        refine V_aload_n dL_law_170 rfl 1 rfl ?_
        refine V_iload dL_law_171 5 rfl ?_
        refine V_iconst (v := 2) dL_law_173 (by decide) ?_
        refine V_iadd dL_law_174 ?_
        replace h := ob h
        obtain ⟨v156, e_v156, h⟩ := h
        refine V_iald e_v156 dL_law_175 ?_
        refine V_pc (pc' := 176) rfl ?_
        replace h := ox h
        obtain ⟨c158, h⟩ := h
        replace h := ob h
        obtain ⟨r157, e_r157, h⟩ := h
        refine V_callV_I (As := [.int (v155), .int (v156)]) (rest := []) (c_X7_lay e_r157) zc_X7_lay rfl (by decide) rfl (by decide) (Or.inl c158) zm_L_107 (Nat.le_of_ble_eq_true rfl) rfl dL_law_176 ?_
        refine V_pc (pc' := 179) rfl ?_
        refine V_istore (ls' := [(6, .int (r157.1)), (5, .int (r154.1)), (0, .ref (zad L (a0))), (1, .ref (zad L (a1))), (2, .ref (zad L (a2))), (3, .ref (zad L (a3))), (4, .int (i4))]) dL_law_179 (by decide) rfl ?_
        refine V_goto (tgt := 862) dL_law_181 (by decide) ?_
        refine V_iinc (v := i4 + (4 : Int32)) (ls' := [(4, .int ((i4 + (4 : Int32)))), (6, .int (r157.1)), (5, .int (r154.1)), (0, .ref (zad L (a0))), (1, .ref (zad L (a1))), (2, .ref (zad L (a2))), (3, .ref (zad L (a3)))]) dL_law_862 6 rfl (by rfl) (by decide) rfl ?_
        refine V_goto (tgt := 27) dL_law_865 (by decide) ?_
        refine V_sub [3, 4, 5, 6, 0] rfl ?_
        exact ih _ _ _ _ _ _ h
      · replace h := (oi h).2 c3
        by_cases c4 : ((v2 &&& ((31 : Int32)))) = 1
        · replace h := (oi h).1 c4
          refine V_tabIn (off := 141) (tgt := 184) dL_law_43 (by rw [c4]; decide) (by rw [c4]; decide) (by rw [c4]; decide) (by decide) ?_
          refine V_aload_n dL_law_184 rfl 1 rfl ?_
          refine V_aload_n dL_law_185 rfl 3 rfl ?_
          replace h := ob h
          obtain ⟨r149, e_r149, h⟩ := h
          refine V_callSW_I (As := [.ref (zad L (a1)), .ref (zad L (a3))]) (rest := []) (c_L_draw e_r149) zc_L_draw rfl (by decide) zm_L_108 (Nat.le_of_ble_eq_true rfl) rfl dL_law_186 ?_
          refine V_pc (pc' := 189) rfl ?_
          refine V_istore (ls' := [(5, .int (r149.1)), (0, .ref (zad L (a0))), (1, .ref (zad L (a1))), (2, .ref (zad L (a2))), (3, .ref (zad L (a3))), (4, .int (i4))]) dL_law_189 (by decide) rfl ?_
          refine V_aload_n dL_law_191 rfl 3 rfl ?_
          replace h := ox h
          obtain ⟨c151, h⟩ := h
          replace h := ob h
          obtain ⟨r150, e_r150, h⟩ := h
          refine V_callV_I (As := []) (rest := []) (c_X7_draw e_r150) zc_X7_draw rfl (by decide) rfl (by decide) (Or.inl c151) zm_L_111 (Nat.le_of_ble_eq_true rfl) rfl dL_law_192 ?_
          refine V_pc (pc' := 195) rfl ?_
          refine V_istore (ls' := [(6, .int (r150.1)), (5, .int (r149.1)), (0, .ref (zad L (a0))), (1, .ref (zad L (a1))), (2, .ref (zad L (a2))), (3, .ref (zad L (a3))), (4, .int (i4))]) dL_law_195 (by decide) rfl ?_
          refine V_goto (tgt := 862) dL_law_197 (by decide) ?_
          refine V_iinc (v := i4 + (4 : Int32)) (ls' := [(4, .int ((i4 + (4 : Int32)))), (6, .int (r150.1)), (5, .int (r149.1)), (0, .ref (zad L (a0))), (1, .ref (zad L (a1))), (2, .ref (zad L (a2))), (3, .ref (zad L (a3)))]) dL_law_862 6 rfl (by rfl) (by decide) rfl ?_
          refine V_goto (tgt := 27) dL_law_865 (by decide) ?_
          refine V_sub [3, 4, 5, 6, 0] rfl ?_
          exact ih _ _ _ _ _ _ h
        · replace h := (oi h).2 c4
          by_cases c5 : ((v2 &&& ((31 : Int32)))) = 2
          · replace h := (oi h).1 c5
            refine V_tabIn (off := 157) (tgt := 200) dL_law_43 (by rw [c5]; decide) (by rw [c5]; decide) (by rw [c5]; decide) (by decide) ?_
            refine V_aload_n dL_law_200 rfl 1 rfl ?_
            refine V_aload_n dL_law_201 rfl 0 rfl ?_
            refine V_iload dL_law_202 4 rfl ?_
            refine V_iconst (v := 1) dL_law_204 (by decide) ?_
            refine V_iadd dL_law_205 ?_
            replace h := ob h
            obtain ⟨v144, e_v144, h⟩ := h
            refine V_iald e_v144 dL_law_206 ?_
            refine V_pc (pc' := 207) rfl ?_
            refine V_aload_n dL_law_207 rfl 3 rfl ?_
            replace h := ob h
            obtain ⟨r145, e_r145, h⟩ := h
            refine V_callSW_I (As := [.ref (zad L (a1)), .int (v144), .ref (zad L (a3))]) (rest := []) (c_L_discard e_r145) zc_L_discard rfl (by decide) zm_L_112 (Nat.le_of_ble_eq_true rfl) rfl dL_law_208 ?_
            refine V_pc (pc' := 211) rfl ?_
            refine V_istore (ls' := [(5, .int (r145.1)), (0, .ref (zad L (a0))), (1, .ref (zad L (a1))), (2, .ref (zad L (a2))), (3, .ref (zad L (a3))), (4, .int (i4))]) dL_law_211 (by decide) rfl ?_
            refine V_aload_n dL_law_213 rfl 3 rfl ?_
            refine V_aload_n dL_law_214 rfl 1 rfl ?_
            refine V_iload dL_law_215 5 rfl ?_
            refine V_iconst (v := 1) dL_law_217 (by decide) ?_
            refine V_iadd dL_law_218 ?_
            replace h := ob h
            obtain ⟨v146, e_v146, h⟩ := h
            refine V_iald e_v146 dL_law_219 ?_
            refine V_pc (pc' := 220) rfl ?_
            replace h := ox h
            obtain ⟨c148, h⟩ := h
            replace h := ob h
            obtain ⟨r147, e_r147, h⟩ := h
            refine V_callV_I (As := [.int (v146)]) (rest := []) (c_X7_discard e_r147) zc_X7_discard rfl (by decide) rfl (by decide) (Or.inl c148) zm_L_115 (Nat.le_of_ble_eq_true rfl) rfl dL_law_220 ?_
            refine V_pc (pc' := 223) rfl ?_
            refine V_istore (ls' := [(6, .int (r147.1)), (5, .int (r145.1)), (0, .ref (zad L (a0))), (1, .ref (zad L (a1))), (2, .ref (zad L (a2))), (3, .ref (zad L (a3))), (4, .int (i4))]) dL_law_223 (by decide) rfl ?_
            refine V_goto (tgt := 862) dL_law_225 (by decide) ?_
            refine V_iinc (v := i4 + (4 : Int32)) (ls' := [(4, .int ((i4 + (4 : Int32)))), (6, .int (r147.1)), (5, .int (r145.1)), (0, .ref (zad L (a0))), (1, .ref (zad L (a1))), (2, .ref (zad L (a2))), (3, .ref (zad L (a3)))]) dL_law_862 6 rfl (by rfl) (by decide) rfl ?_
            refine V_goto (tgt := 27) dL_law_865 (by decide) ?_
            refine V_sub [3, 4, 5, 6, 0] rfl ?_
            exact ih _ _ _ _ _ _ h
          · replace h := (oi h).2 c5
            by_cases c6 : ((v2 &&& ((31 : Int32)))) = 3
            · replace h := (oi h).1 c6
              refine V_tabIn (off := 185) (tgt := 228) dL_law_43 (by rw [c6]; decide) (by rw [c6]; decide) (by rw [c6]; decide) (by decide) ?_
              refine V_aload_n dL_law_228 rfl 1 rfl ?_
              refine V_aload_n dL_law_229 rfl 0 rfl ?_
              refine V_iload dL_law_230 4 rfl ?_
              refine V_iconst (v := 1) dL_law_232 (by decide) ?_
              refine V_iadd dL_law_233 ?_
              replace h := ob h
              obtain ⟨v139, e_v139, h⟩ := h
              refine V_iald e_v139 dL_law_234 ?_
              refine V_pc (pc' := 235) rfl ?_
              refine V_aload_n dL_law_235 rfl 3 rfl ?_
              replace h := ob h
              obtain ⟨r140, e_r140, h⟩ := h
              refine V_callSW_I (As := [.ref (zad L (a1)), .int (v139), .ref (zad L (a3))]) (rest := []) (c_L_call e_r140) zc_L_call rfl (by decide) zm_L_116 (Nat.le_of_ble_eq_true rfl) rfl dL_law_236 ?_
              refine V_pc (pc' := 239) rfl ?_
              refine V_istore (ls' := [(5, .int (r140.1)), (0, .ref (zad L (a0))), (1, .ref (zad L (a1))), (2, .ref (zad L (a2))), (3, .ref (zad L (a3))), (4, .int (i4))]) dL_law_239 (by decide) rfl ?_
              refine V_aload_n dL_law_241 rfl 3 rfl ?_
              refine V_aload_n dL_law_242 rfl 1 rfl ?_
              refine V_iload dL_law_243 5 rfl ?_
              refine V_iconst (v := 1) dL_law_245 (by decide) ?_
              refine V_iadd dL_law_246 ?_
              replace h := ob h
              obtain ⟨v141, e_v141, h⟩ := h
              refine V_iald e_v141 dL_law_247 ?_
              refine V_pc (pc' := 248) rfl ?_
              replace h := ox h
              obtain ⟨c143, h⟩ := h
              replace h := ob h
              obtain ⟨r142, e_r142, h⟩ := h
              refine V_callV_I (As := [.int (v141)]) (rest := []) (c_X7_call e_r142) zc_X7_call rfl (by decide) rfl (by decide) (Or.inl c143) zm_L_118 (Nat.le_of_ble_eq_true rfl) rfl dL_law_248 ?_
              refine V_pc (pc' := 251) rfl ?_
              refine V_istore (ls' := [(6, .int (r142.1)), (5, .int (r140.1)), (0, .ref (zad L (a0))), (1, .ref (zad L (a1))), (2, .ref (zad L (a2))), (3, .ref (zad L (a3))), (4, .int (i4))]) dL_law_251 (by decide) rfl ?_
              refine V_goto (tgt := 862) dL_law_253 (by decide) ?_
              refine V_iinc (v := i4 + (4 : Int32)) (ls' := [(4, .int ((i4 + (4 : Int32)))), (6, .int (r142.1)), (5, .int (r140.1)), (0, .ref (zad L (a0))), (1, .ref (zad L (a1))), (2, .ref (zad L (a2))), (3, .ref (zad L (a3)))]) dL_law_862 6 rfl (by rfl) (by decide) rfl ?_
              refine V_goto (tgt := 27) dL_law_865 (by decide) ?_
              refine V_sub [3, 4, 5, 6, 0] rfl ?_
              exact ih _ _ _ _ _ _ h
            · replace h := (oi h).2 c6
              by_cases c7 : ((v2 &&& ((31 : Int32)))) = 4
              · replace h := (oi h).1 c7
                refine V_tabIn (off := 213) (tgt := 256) dL_law_43 (by rw [c7]; decide) (by rw [c7]; decide) (by rw [c7]; decide) (by decide) ?_
                refine V_aload_n dL_law_256 rfl 1 rfl ?_
                refine V_aload_n dL_law_257 rfl 0 rfl ?_
                refine V_iload dL_law_258 4 rfl ?_
                refine V_iconst (v := 1) dL_law_260 (by decide) ?_
                refine V_iadd dL_law_261 ?_
                replace h := ob h
                obtain ⟨v130, e_v130, h⟩ := h
                refine V_iald e_v130 dL_law_262 ?_
                refine V_pc (pc' := 263) rfl ?_
                refine V_aload_n dL_law_263 rfl 0 rfl ?_
                refine V_iload dL_law_264 4 rfl ?_
                refine V_iconst (v := 2) dL_law_266 (by decide) ?_
                refine V_iadd dL_law_267 ?_
                replace h := ob h
                obtain ⟨v131, e_v131, h⟩ := h
                refine V_iald e_v131 dL_law_268 ?_
                refine V_pc (pc' := 269) rfl ?_
                refine V_aload_n dL_law_269 rfl 0 rfl ?_
                refine V_iload dL_law_270 4 rfl ?_
                refine V_iconst (v := 3) dL_law_272 (by decide) ?_
                refine V_iadd dL_law_273 ?_
                replace h := ob h
                obtain ⟨v132, e_v132, h⟩ := h
                refine V_iald e_v132 dL_law_274 ?_
                refine V_pc (pc' := 275) rfl ?_
                refine V_aload_n dL_law_275 rfl 3 rfl ?_
                replace h := ob h
                obtain ⟨r133, e_r133, h⟩ := h
                refine V_callSW_I (As := [.ref (zad L (a1)), .int (v130), .int (v131), .int (v132), .ref (zad L (a3))]) (rest := []) (c_L_claim e_r133) zc_L_claim rfl (by decide) zm_L_119 (Nat.le_of_ble_eq_true rfl) rfl dL_law_276 ?_
                refine V_pc (pc' := 279) rfl ?_
                refine V_istore (ls' := [(5, .int (r133.1)), (0, .ref (zad L (a0))), (1, .ref (zad L (a1))), (2, .ref (zad L (a2))), (3, .ref (zad L (a3))), (4, .int (i4))]) dL_law_279 (by decide) rfl ?_
                refine V_aload_n dL_law_281 rfl 3 rfl ?_
                refine V_aload_n dL_law_282 rfl 1 rfl ?_
                refine V_iload dL_law_283 5 rfl ?_
                refine V_iconst (v := 1) dL_law_285 (by decide) ?_
                refine V_iadd dL_law_286 ?_
                replace h := ob h
                obtain ⟨v134, e_v134, h⟩ := h
                refine V_iald e_v134 dL_law_287 ?_
                refine V_pc (pc' := 288) rfl ?_
                refine V_aload_n dL_law_288 rfl 1 rfl ?_
                refine V_iload dL_law_289 5 rfl ?_
                refine V_iconst (v := 2) dL_law_291 (by decide) ?_
                refine V_iadd dL_law_292 ?_
                replace h := ob h
                obtain ⟨v135, e_v135, h⟩ := h
                refine V_iald e_v135 dL_law_293 ?_
                refine V_pc (pc' := 294) rfl ?_
                refine V_aload_n dL_law_294 rfl 1 rfl ?_
                refine V_iload dL_law_295 5 rfl ?_
                refine V_iconst (v := 3) dL_law_297 (by decide) ?_
                refine V_iadd dL_law_298 ?_
                replace h := ob h
                obtain ⟨v136, e_v136, h⟩ := h
                refine V_iald e_v136 dL_law_299 ?_
                refine V_pc (pc' := 300) rfl ?_
                replace h := ox h
                obtain ⟨c138, h⟩ := h
                replace h := ob h
                obtain ⟨r137, e_r137, h⟩ := h
                refine V_callV_I (As := [.int (v134), .int (v135), .int (v136)]) (rest := []) (c_X7_claim e_r137) zc_X7_claim rfl (by decide) rfl (by decide) (Or.inl c138) zm_L_122 (Nat.le_of_ble_eq_true rfl) rfl dL_law_300 ?_
                refine V_pc (pc' := 303) rfl ?_
                refine V_istore (ls' := [(6, .int (r137.1)), (5, .int (r133.1)), (0, .ref (zad L (a0))), (1, .ref (zad L (a1))), (2, .ref (zad L (a2))), (3, .ref (zad L (a3))), (4, .int (i4))]) dL_law_303 (by decide) rfl ?_
                refine V_goto (tgt := 862) dL_law_305 (by decide) ?_
                refine V_iinc (v := i4 + (4 : Int32)) (ls' := [(4, .int ((i4 + (4 : Int32)))), (6, .int (r137.1)), (5, .int (r133.1)), (0, .ref (zad L (a0))), (1, .ref (zad L (a1))), (2, .ref (zad L (a2))), (3, .ref (zad L (a3)))]) dL_law_862 6 rfl (by rfl) (by decide) rfl ?_
                refine V_goto (tgt := 27) dL_law_865 (by decide) ?_
                refine V_sub [3, 4, 5, 6, 0] rfl ?_
                exact ih _ _ _ _ _ _ h
              · replace h := (oi h).2 c7
                by_cases c8 : ((v2 &&& ((31 : Int32)))) = 5
                · replace h := (oi h).1 c8
                  refine V_tabIn (off := 265) (tgt := 308) dL_law_43 (by rw [c8]; decide) (by rw [c8]; decide) (by rw [c8]; decide) (by decide) ?_
                  refine V_aload_n dL_law_308 rfl 1 rfl ?_
                  refine V_aload_n dL_law_309 rfl 0 rfl ?_
                  refine V_iload dL_law_310 4 rfl ?_
                  refine V_iconst (v := 1) dL_law_312 (by decide) ?_
                  refine V_iadd dL_law_313 ?_
                  replace h := ob h
                  obtain ⟨v125, e_v125, h⟩ := h
                  refine V_iald e_v125 dL_law_314 ?_
                  refine V_pc (pc' := 315) rfl ?_
                  refine V_aload_n dL_law_315 rfl 3 rfl ?_
                  replace h := ob h
                  obtain ⟨r126, e_r126, h⟩ := h
                  refine V_callSW_I (As := [.ref (zad L (a1)), .int (v125), .ref (zad L (a3))]) (rest := []) (c_L_four e_r126) zc_L_four rfl (by decide) zm_L_123 (Nat.le_of_ble_eq_true rfl) rfl dL_law_316 ?_
                  refine V_pc (pc' := 319) rfl ?_
                  refine V_istore (ls' := [(5, .int (r126.1)), (0, .ref (zad L (a0))), (1, .ref (zad L (a1))), (2, .ref (zad L (a2))), (3, .ref (zad L (a3))), (4, .int (i4))]) dL_law_319 (by decide) rfl ?_
                  refine V_aload_n dL_law_321 rfl 3 rfl ?_
                  refine V_aload_n dL_law_322 rfl 1 rfl ?_
                  refine V_iload dL_law_323 5 rfl ?_
                  refine V_iconst (v := 1) dL_law_325 (by decide) ?_
                  refine V_iadd dL_law_326 ?_
                  replace h := ob h
                  obtain ⟨v127, e_v127, h⟩ := h
                  refine V_iald e_v127 dL_law_327 ?_
                  refine V_pc (pc' := 328) rfl ?_
                  replace h := ox h
                  obtain ⟨c129, h⟩ := h
                  replace h := ob h
                  obtain ⟨r128, e_r128, h⟩ := h
                  refine V_callV_I (As := [.int (v127)]) (rest := []) (c_X7_four e_r128) zc_X7_four rfl (by decide) rfl (by decide) (Or.inl c129) zm_L_125 (Nat.le_of_ble_eq_true rfl) rfl dL_law_328 ?_
                  refine V_pc (pc' := 331) rfl ?_
                  refine V_istore (ls' := [(6, .int (r128.1)), (5, .int (r126.1)), (0, .ref (zad L (a0))), (1, .ref (zad L (a1))), (2, .ref (zad L (a2))), (3, .ref (zad L (a3))), (4, .int (i4))]) dL_law_331 (by decide) rfl ?_
                  refine V_goto (tgt := 862) dL_law_333 (by decide) ?_
                  refine V_iinc (v := i4 + (4 : Int32)) (ls' := [(4, .int ((i4 + (4 : Int32)))), (6, .int (r128.1)), (5, .int (r126.1)), (0, .ref (zad L (a0))), (1, .ref (zad L (a1))), (2, .ref (zad L (a2))), (3, .ref (zad L (a3)))]) dL_law_862 6 rfl (by rfl) (by decide) rfl ?_
                  refine V_goto (tgt := 27) dL_law_865 (by decide) ?_
                  refine V_sub [3, 4, 5, 6, 0] rfl ?_
                  exact ih _ _ _ _ _ _ h
                · replace h := (oi h).2 c8
                  by_cases c9 : ((v2 &&& ((31 : Int32)))) = 6
                  · replace h := (oi h).1 c9
                    refine V_tabIn (off := 293) (tgt := 336) dL_law_43 (by rw [c9]; decide) (by rw [c9]; decide) (by rw [c9]; decide) (by decide) ?_
                    refine V_aload_n dL_law_336 rfl 1 rfl ?_
                    refine V_aload_n dL_law_337 rfl 3 rfl ?_
                    replace h := ob h
                    obtain ⟨r122, e_r122, h⟩ := h
                    refine V_callSW_I (As := [.ref (zad L (a1)), .ref (zad L (a3))]) (rest := []) (c_L_pass e_r122) zc_L_pass rfl (by decide) zm_L_126 (Nat.le_of_ble_eq_true rfl) rfl dL_law_338 ?_
                    refine V_pc (pc' := 341) rfl ?_
                    refine V_istore (ls' := [(5, .int (r122.1)), (0, .ref (zad L (a0))), (1, .ref (zad L (a1))), (2, .ref (zad L (a2))), (3, .ref (zad L (a3))), (4, .int (i4))]) dL_law_341 (by decide) rfl ?_
                    refine V_aload_n dL_law_343 rfl 3 rfl ?_
                    replace h := ox h
                    obtain ⟨c124, h⟩ := h
                    replace h := ob h
                    obtain ⟨r123, e_r123, h⟩ := h
                    refine V_callV_I (As := []) (rest := []) (c_X7_pass e_r123) zc_X7_pass rfl (by decide) rfl (by decide) (Or.inl c124) zm_L_128 (Nat.le_of_ble_eq_true rfl) rfl dL_law_344 ?_
                    refine V_pc (pc' := 347) rfl ?_
                    refine V_istore (ls' := [(6, .int (r123.1)), (5, .int (r122.1)), (0, .ref (zad L (a0))), (1, .ref (zad L (a1))), (2, .ref (zad L (a2))), (3, .ref (zad L (a3))), (4, .int (i4))]) dL_law_347 (by decide) rfl ?_
                    refine V_goto (tgt := 862) dL_law_349 (by decide) ?_
                    refine V_iinc (v := i4 + (4 : Int32)) (ls' := [(4, .int ((i4 + (4 : Int32)))), (6, .int (r123.1)), (5, .int (r122.1)), (0, .ref (zad L (a0))), (1, .ref (zad L (a1))), (2, .ref (zad L (a2))), (3, .ref (zad L (a3)))]) dL_law_862 6 rfl (by rfl) (by decide) rfl ?_
                    refine V_goto (tgt := 27) dL_law_865 (by decide) ?_
                    refine V_sub [3, 4, 5, 6, 0] rfl ?_
                    exact ih _ _ _ _ _ _ h
                  · replace h := (oi h).2 c9
                    by_cases c10 : ((v2 &&& ((31 : Int32)))) = 7
                    · replace h := (oi h).1 c10
                      refine V_tabIn (off := 309) (tgt := 352) dL_law_43 (by rw [c10]; decide) (by rw [c10]; decide) (by rw [c10]; decide) (by decide) ?_
                      refine V_aload_n dL_law_352 rfl 1 rfl ?_
                      refine V_aload_n dL_law_353 rfl 0 rfl ?_
                      refine V_iload dL_law_354 4 rfl ?_
                      refine V_iconst (v := 1) dL_law_356 (by decide) ?_
                      refine V_iadd dL_law_357 ?_
                      replace h := ob h
                      obtain ⟨v117, e_v117, h⟩ := h
                      refine V_iald e_v117 dL_law_358 ?_
                      refine V_pc (pc' := 359) rfl ?_
                      refine V_aload_n dL_law_359 rfl 3 rfl ?_
                      replace h := ob h
                      obtain ⟨r118, e_r118, h⟩ := h
                      refine V_callSW_I (As := [.ref (zad L (a1)), .int (v117), .ref (zad L (a3))]) (rest := []) (c_L_win e_r118) zc_L_win rfl (by decide) zm_L_129 (Nat.le_of_ble_eq_true rfl) rfl dL_law_360 ?_
                      refine V_pc (pc' := 363) rfl ?_
                      refine V_istore (ls' := [(5, .int (r118.1)), (0, .ref (zad L (a0))), (1, .ref (zad L (a1))), (2, .ref (zad L (a2))), (3, .ref (zad L (a3))), (4, .int (i4))]) dL_law_363 (by decide) rfl ?_
                      refine V_aload_n dL_law_365 rfl 3 rfl ?_
                      refine V_aload_n dL_law_366 rfl 1 rfl ?_
                      refine V_iload dL_law_367 5 rfl ?_
                      refine V_iconst (v := 1) dL_law_369 (by decide) ?_
                      refine V_iadd dL_law_370 ?_
                      replace h := ob h
                      obtain ⟨v119, e_v119, h⟩ := h
                      refine V_iald e_v119 dL_law_371 ?_
                      refine V_pc (pc' := 372) rfl ?_
                      replace h := ox h
                      obtain ⟨c121, h⟩ := h
                      replace h := ob h
                      obtain ⟨r120, e_r120, h⟩ := h
                      refine V_callV_I (As := [.int (v119)]) (rest := []) (c_X7_win e_r120) zc_X7_win rfl (by decide) rfl (by decide) (Or.inl c121) zm_L_131 (Nat.le_of_ble_eq_true rfl) rfl dL_law_372 ?_
                      refine V_pc (pc' := 375) rfl ?_
                      refine V_istore (ls' := [(6, .int (r120.1)), (5, .int (r118.1)), (0, .ref (zad L (a0))), (1, .ref (zad L (a1))), (2, .ref (zad L (a2))), (3, .ref (zad L (a3))), (4, .int (i4))]) dL_law_375 (by decide) rfl ?_
                      refine V_goto (tgt := 862) dL_law_377 (by decide) ?_
                      refine V_iinc (v := i4 + (4 : Int32)) (ls' := [(4, .int ((i4 + (4 : Int32)))), (6, .int (r120.1)), (5, .int (r118.1)), (0, .ref (zad L (a0))), (1, .ref (zad L (a1))), (2, .ref (zad L (a2))), (3, .ref (zad L (a3)))]) dL_law_862 6 rfl (by rfl) (by decide) rfl ?_
                      refine V_goto (tgt := 27) dL_law_865 (by decide) ?_
                      refine V_sub [3, 4, 5, 6, 0] rfl ?_
                      exact ih _ _ _ _ _ _ h
                    · replace h := (oi h).2 c10
                      by_cases c11 : ((v2 &&& ((31 : Int32)))) = 8
                      · replace h := (oi h).1 c11
                        refine V_tabIn (off := 337) (tgt := 380) dL_law_43 (by rw [c11]; decide) (by rw [c11]; decide) (by rw [c11]; decide) (by decide) ?_
                        refine V_aload_n dL_law_380 rfl 1 rfl ?_
                        refine V_aload_n dL_law_381 rfl 0 rfl ?_
                        refine V_iload dL_law_382 4 rfl ?_
                        refine V_iconst (v := 1) dL_law_384 (by decide) ?_
                        refine V_iadd dL_law_385 ?_
                        replace h := ob h
                        obtain ⟨v110, e_v110, h⟩ := h
                        refine V_iald e_v110 dL_law_386 ?_
                        refine V_pc (pc' := 387) rfl ?_
                        refine V_aload_n dL_law_387 rfl 0 rfl ?_
                        refine V_iload dL_law_388 4 rfl ?_
                        refine V_iconst (v := 2) dL_law_390 (by decide) ?_
                        refine V_iadd dL_law_391 ?_
                        replace h := ob h
                        obtain ⟨v111, e_v111, h⟩ := h
                        refine V_iald e_v111 dL_law_392 ?_
                        refine V_pc (pc' := 393) rfl ?_
                        refine V_aload_n dL_law_393 rfl 3 rfl ?_
                        replace h := ob h
                        obtain ⟨r112, e_r112, h⟩ := h
                        refine V_callSW_I (As := [.ref (zad L (a1)), .int (v110), .int (v111), .ref (zad L (a3))]) (rest := []) (c_L_has e_r112) zc_L_has rfl (by decide) zm_L_132 (Nat.le_of_ble_eq_true rfl) rfl dL_law_394 ?_
                        refine V_pc (pc' := 397) rfl ?_
                        refine V_istore (ls' := [(5, .int (r112.1)), (0, .ref (zad L (a0))), (1, .ref (zad L (a1))), (2, .ref (zad L (a2))), (3, .ref (zad L (a3))), (4, .int (i4))]) dL_law_397 (by decide) rfl ?_
                        refine V_aload_n dL_law_399 rfl 3 rfl ?_
                        refine V_aload_n dL_law_400 rfl 1 rfl ?_
                        refine V_iload dL_law_401 5 rfl ?_
                        refine V_iconst (v := 1) dL_law_403 (by decide) ?_
                        refine V_iadd dL_law_404 ?_
                        replace h := ob h
                        obtain ⟨v113, e_v113, h⟩ := h
                        refine V_iald e_v113 dL_law_405 ?_
                        refine V_pc (pc' := 406) rfl ?_
                        refine V_aload_n dL_law_406 rfl 1 rfl ?_
                        refine V_iload dL_law_407 5 rfl ?_
                        refine V_iconst (v := 2) dL_law_409 (by decide) ?_
                        refine V_iadd dL_law_410 ?_
                        replace h := ob h
                        obtain ⟨v114, e_v114, h⟩ := h
                        refine V_iald e_v114 dL_law_411 ?_
                        refine V_pc (pc' := 412) rfl ?_
                        replace h := ox h
                        obtain ⟨c116, h⟩ := h
                        replace h := ob h
                        obtain ⟨r115, e_r115, h⟩ := h
                        refine V_callV_I (As := [.int (v113), .int (v114)]) (rest := []) (c_X7_has e_r115) zc_X7_has rfl (by decide) rfl (by decide) (Or.inl c116) zm_L_134 (Nat.le_of_ble_eq_true rfl) rfl dL_law_412 ?_
                        refine V_pc (pc' := 415) rfl ?_
                        refine V_istore (ls' := [(6, .int (r115.1)), (5, .int (r112.1)), (0, .ref (zad L (a0))), (1, .ref (zad L (a1))), (2, .ref (zad L (a2))), (3, .ref (zad L (a3))), (4, .int (i4))]) dL_law_415 (by decide) rfl ?_
                        refine V_goto (tgt := 862) dL_law_417 (by decide) ?_
                        refine V_iinc (v := i4 + (4 : Int32)) (ls' := [(4, .int ((i4 + (4 : Int32)))), (6, .int (r115.1)), (5, .int (r112.1)), (0, .ref (zad L (a0))), (1, .ref (zad L (a1))), (2, .ref (zad L (a2))), (3, .ref (zad L (a3)))]) dL_law_862 6 rfl (by rfl) (by decide) rfl ?_
                        refine V_goto (tgt := 27) dL_law_865 (by decide) ?_
                        refine V_sub [3, 4, 5, 6, 0] rfl ?_
                        exact ih _ _ _ _ _ _ h
                      · replace h := (oi h).2 c11
                        by_cases c12 : ((v2 &&& ((31 : Int32)))) = 9
                        · replace h := (oi h).1 c12
                          refine V_tabIn (off := 377) (tgt := 420) dL_law_43 (by rw [c12]; decide) (by rw [c12]; decide) (by rw [c12]; decide) (by decide) ?_
                          refine V_aload_n dL_law_420 rfl 1 rfl ?_
                          refine V_aload_n dL_law_421 rfl 0 rfl ?_
                          refine V_iload dL_law_422 4 rfl ?_
                          refine V_iconst (v := 1) dL_law_424 (by decide) ?_
                          refine V_iadd dL_law_425 ?_
                          replace h := ob h
                          obtain ⟨v103, e_v103, h⟩ := h
                          refine V_iald e_v103 dL_law_426 ?_
                          refine V_pc (pc' := 427) rfl ?_
                          refine V_aload_n dL_law_427 rfl 0 rfl ?_
                          refine V_iload dL_law_428 4 rfl ?_
                          refine V_iconst (v := 2) dL_law_430 (by decide) ?_
                          refine V_iadd dL_law_431 ?_
                          replace h := ob h
                          obtain ⟨v104, e_v104, h⟩ := h
                          refine V_iald e_v104 dL_law_432 ?_
                          refine V_pc (pc' := 433) rfl ?_
                          refine V_aload_n dL_law_433 rfl 3 rfl ?_
                          replace h := ob h
                          obtain ⟨r105, e_r105, h⟩ := h
                          refine V_callSW_I (As := [.ref (zad L (a1)), .int (v103), .int (v104), .ref (zad L (a3))]) (rest := []) (c_L_ofPlayer e_r105) zc_L_ofPlayer rfl (by decide) zm_L_135 (Nat.le_of_ble_eq_true rfl) rfl dL_law_434 ?_
                          refine V_pc (pc' := 437) rfl ?_
                          refine V_istore (ls' := [(5, .int (r105.1)), (0, .ref (zad L (a0))), (1, .ref (zad L (a1))), (2, .ref (zad L (a2))), (3, .ref (zad L (a3))), (4, .int (i4))]) dL_law_437 (by decide) rfl ?_
                          refine V_aload_n dL_law_439 rfl 3 rfl ?_
                          refine V_aload_n dL_law_440 rfl 1 rfl ?_
                          refine V_iload dL_law_441 5 rfl ?_
                          refine V_iconst (v := 1) dL_law_443 (by decide) ?_
                          refine V_iadd dL_law_444 ?_
                          replace h := ob h
                          obtain ⟨v106, e_v106, h⟩ := h
                          refine V_iald e_v106 dL_law_445 ?_
                          refine V_pc (pc' := 446) rfl ?_
                          refine V_aload_n dL_law_446 rfl 1 rfl ?_
                          refine V_iload dL_law_447 5 rfl ?_
                          refine V_iconst (v := 2) dL_law_449 (by decide) ?_
                          refine V_iadd dL_law_450 ?_
                          replace h := ob h
                          obtain ⟨v107, e_v107, h⟩ := h
                          refine V_iald e_v107 dL_law_451 ?_
                          refine V_pc (pc' := 452) rfl ?_
                          replace h := ox h
                          obtain ⟨c109, h⟩ := h
                          replace h := ob h
                          obtain ⟨r108, e_r108, h⟩ := h
                          refine V_callV_I (As := [.int (v106), .int (v107)]) (rest := []) (c_X7_ofPlayer e_r108) zc_X7_ofPlayer rfl (by decide) rfl (by decide) (Or.inl c109) zm_L_137 (Nat.le_of_ble_eq_true rfl) rfl dL_law_452 ?_
                          refine V_pc (pc' := 455) rfl ?_
                          refine V_istore (ls' := [(6, .int (r108.1)), (5, .int (r105.1)), (0, .ref (zad L (a0))), (1, .ref (zad L (a1))), (2, .ref (zad L (a2))), (3, .ref (zad L (a3))), (4, .int (i4))]) dL_law_455 (by decide) rfl ?_
                          refine V_goto (tgt := 862) dL_law_457 (by decide) ?_
                          refine V_iinc (v := i4 + (4 : Int32)) (ls' := [(4, .int ((i4 + (4 : Int32)))), (6, .int (r108.1)), (5, .int (r105.1)), (0, .ref (zad L (a0))), (1, .ref (zad L (a1))), (2, .ref (zad L (a2))), (3, .ref (zad L (a3)))]) dL_law_862 6 rfl (by rfl) (by decide) rfl ?_
                          refine V_goto (tgt := 27) dL_law_865 (by decide) ?_
                          refine V_sub [3, 4, 5, 6, 0] rfl ?_
                          exact ih _ _ _ _ _ _ h
                        · replace h := (oi h).2 c12
                          by_cases c13 : ((v2 &&& ((31 : Int32)))) = 10
                          · replace h := (oi h).1 c13
                            refine V_tabIn (off := 417) (tgt := 460) dL_law_43 (by rw [c13]; decide) (by rw [c13]; decide) (by rw [c13]; decide) (by decide) ?_
                            refine V_aload_n dL_law_460 rfl 1 rfl ?_
                            refine V_aload_n dL_law_461 rfl 0 rfl ?_
                            refine V_iload dL_law_462 4 rfl ?_
                            refine V_iconst (v := 1) dL_law_464 (by decide) ?_
                            refine V_iadd dL_law_465 ?_
                            replace h := ob h
                            obtain ⟨v96, e_v96, h⟩ := h
                            refine V_iald e_v96 dL_law_466 ?_
                            refine V_pc (pc' := 467) rfl ?_
                            refine V_aload_n dL_law_467 rfl 0 rfl ?_
                            refine V_iload dL_law_468 4 rfl ?_
                            refine V_iconst (v := 2) dL_law_470 (by decide) ?_
                            refine V_iadd dL_law_471 ?_
                            replace h := ob h
                            obtain ⟨v97, e_v97, h⟩ := h
                            refine V_iald e_v97 dL_law_472 ?_
                            refine V_pc (pc' := 473) rfl ?_
                            refine V_aload_n dL_law_473 rfl 3 rfl ?_
                            replace h := ob h
                            obtain ⟨r98, e_r98, h⟩ := h
                            refine V_callSW_I (As := [.ref (zad L (a1)), .int (v96), .int (v97), .ref (zad L (a3))]) (rest := []) (c_L_ofSet e_r98) zc_L_ofSet rfl (by decide) zm_L_138 (Nat.le_of_ble_eq_true rfl) rfl dL_law_474 ?_
                            refine V_pc (pc' := 477) rfl ?_
                            refine V_istore (ls' := [(5, .int (r98.1)), (0, .ref (zad L (a0))), (1, .ref (zad L (a1))), (2, .ref (zad L (a2))), (3, .ref (zad L (a3))), (4, .int (i4))]) dL_law_477 (by decide) rfl ?_
                            refine V_aload_n dL_law_479 rfl 3 rfl ?_
                            refine V_aload_n dL_law_480 rfl 1 rfl ?_
                            refine V_iload dL_law_481 5 rfl ?_
                            refine V_iconst (v := 1) dL_law_483 (by decide) ?_
                            refine V_iadd dL_law_484 ?_
                            replace h := ob h
                            obtain ⟨v99, e_v99, h⟩ := h
                            refine V_iald e_v99 dL_law_485 ?_
                            refine V_pc (pc' := 486) rfl ?_
                            refine V_aload_n dL_law_486 rfl 1 rfl ?_
                            refine V_iload dL_law_487 5 rfl ?_
                            refine V_iconst (v := 2) dL_law_489 (by decide) ?_
                            refine V_iadd dL_law_490 ?_
                            replace h := ob h
                            obtain ⟨v100, e_v100, h⟩ := h
                            refine V_iald e_v100 dL_law_491 ?_
                            refine V_pc (pc' := 492) rfl ?_
                            replace h := ox h
                            obtain ⟨c102, h⟩ := h
                            replace h := ob h
                            obtain ⟨r101, e_r101, h⟩ := h
                            refine V_callV_I (As := [.int (v99), .int (v100)]) (rest := []) (c_X7_ofSet e_r101) zc_X7_ofSet rfl (by decide) rfl (by decide) (Or.inl c102) zm_L_140 (Nat.le_of_ble_eq_true rfl) rfl dL_law_492 ?_
                            refine V_pc (pc' := 495) rfl ?_
                            refine V_istore (ls' := [(6, .int (r101.1)), (5, .int (r98.1)), (0, .ref (zad L (a0))), (1, .ref (zad L (a1))), (2, .ref (zad L (a2))), (3, .ref (zad L (a3))), (4, .int (i4))]) dL_law_495 (by decide) rfl ?_
                            refine V_goto (tgt := 862) dL_law_497 (by decide) ?_
                            refine V_iinc (v := i4 + (4 : Int32)) (ls' := [(4, .int ((i4 + (4 : Int32)))), (6, .int (r101.1)), (5, .int (r98.1)), (0, .ref (zad L (a0))), (1, .ref (zad L (a1))), (2, .ref (zad L (a2))), (3, .ref (zad L (a3)))]) dL_law_862 6 rfl (by rfl) (by decide) rfl ?_
                            refine V_goto (tgt := 27) dL_law_865 (by decide) ?_
                            refine V_sub [3, 4, 5, 6, 0] rfl ?_
                            exact ih _ _ _ _ _ _ h
                          · replace h := (oi h).2 c13
                            by_cases c14 : ((v2 &&& ((31 : Int32)))) = 11
                            · replace h := (oi h).1 c14
                              refine V_tabIn (off := 457) (tgt := 500) dL_law_43 (by rw [c14]; decide) (by rw [c14]; decide) (by rw [c14]; decide) (by decide) ?_
                              refine V_aload_n dL_law_500 rfl 1 rfl ?_
                              refine V_aload_n dL_law_501 rfl 0 rfl ?_
                              refine V_iload dL_law_502 4 rfl ?_
                              refine V_iconst (v := 1) dL_law_504 (by decide) ?_
                              refine V_iadd dL_law_505 ?_
                              replace h := ob h
                              obtain ⟨v89, e_v89, h⟩ := h
                              refine V_iald e_v89 dL_law_506 ?_
                              refine V_pc (pc' := 507) rfl ?_
                              refine V_aload_n dL_law_507 rfl 0 rfl ?_
                              refine V_iload dL_law_508 4 rfl ?_
                              refine V_iconst (v := 2) dL_law_510 (by decide) ?_
                              refine V_iadd dL_law_511 ?_
                              replace h := ob h
                              obtain ⟨v90, e_v90, h⟩ := h
                              refine V_iald e_v90 dL_law_512 ?_
                              refine V_pc (pc' := 513) rfl ?_
                              refine V_aload_n dL_law_513 rfl 3 rfl ?_
                              replace h := ob h
                              obtain ⟨r91, e_r91, h⟩ := h
                              refine V_callSW_I (As := [.ref (zad L (a1)), .int (v89), .int (v90), .ref (zad L (a3))]) (rest := []) (c_L_river e_r91) zc_L_river rfl (by decide) zm_L_141 (Nat.le_of_ble_eq_true rfl) rfl dL_law_514 ?_
                              refine V_pc (pc' := 517) rfl ?_
                              refine V_istore (ls' := [(5, .int (r91.1)), (0, .ref (zad L (a0))), (1, .ref (zad L (a1))), (2, .ref (zad L (a2))), (3, .ref (zad L (a3))), (4, .int (i4))]) dL_law_517 (by decide) rfl ?_
                              refine V_aload_n dL_law_519 rfl 3 rfl ?_
                              refine V_aload_n dL_law_520 rfl 1 rfl ?_
                              refine V_iload dL_law_521 5 rfl ?_
                              refine V_iconst (v := 1) dL_law_523 (by decide) ?_
                              refine V_iadd dL_law_524 ?_
                              replace h := ob h
                              obtain ⟨v92, e_v92, h⟩ := h
                              refine V_iald e_v92 dL_law_525 ?_
                              refine V_pc (pc' := 526) rfl ?_
                              refine V_aload_n dL_law_526 rfl 1 rfl ?_
                              refine V_iload dL_law_527 5 rfl ?_
                              refine V_iconst (v := 2) dL_law_529 (by decide) ?_
                              refine V_iadd dL_law_530 ?_
                              replace h := ob h
                              obtain ⟨v93, e_v93, h⟩ := h
                              refine V_iald e_v93 dL_law_531 ?_
                              refine V_pc (pc' := 532) rfl ?_
                              replace h := ox h
                              obtain ⟨c95, h⟩ := h
                              replace h := ob h
                              obtain ⟨r94, e_r94, h⟩ := h
                              refine V_callV_I (As := [.int (v92), .int (v93)]) (rest := []) (c_X7_river e_r94) zc_X7_river rfl (by decide) rfl (by decide) (Or.inl c95) zm_L_143 (Nat.le_of_ble_eq_true rfl) rfl dL_law_532 ?_
                              refine V_pc (pc' := 535) rfl ?_
                              refine V_istore (ls' := [(6, .int (r94.1)), (5, .int (r91.1)), (0, .ref (zad L (a0))), (1, .ref (zad L (a1))), (2, .ref (zad L (a2))), (3, .ref (zad L (a3))), (4, .int (i4))]) dL_law_535 (by decide) rfl ?_
                              refine V_goto (tgt := 862) dL_law_537 (by decide) ?_
                              refine V_iinc (v := i4 + (4 : Int32)) (ls' := [(4, .int ((i4 + (4 : Int32)))), (6, .int (r94.1)), (5, .int (r91.1)), (0, .ref (zad L (a0))), (1, .ref (zad L (a1))), (2, .ref (zad L (a2))), (3, .ref (zad L (a3)))]) dL_law_862 6 rfl (by rfl) (by decide) rfl ?_
                              refine V_goto (tgt := 27) dL_law_865 (by decide) ?_
                              refine V_sub [3, 4, 5, 6, 0] rfl ?_
                              exact ih _ _ _ _ _ _ h
                            · replace h := (oi h).2 c14
                              by_cases c15 : ((v2 &&& ((31 : Int32)))) = 12
                              · replace h := (oi h).1 c15
                                refine V_tabIn (off := 497) (tgt := 540) dL_law_43 (by rw [c15]; decide) (by rw [c15]; decide) (by rw [c15]; decide) (by decide) ?_
                                refine V_aload_n dL_law_540 rfl 1 rfl ?_
                                refine V_aload_n dL_law_541 rfl 0 rfl ?_
                                refine V_iload dL_law_542 4 rfl ?_
                                refine V_iconst (v := 1) dL_law_544 (by decide) ?_
                                refine V_iadd dL_law_545 ?_
                                replace h := ob h
                                obtain ⟨v84, e_v84, h⟩ := h
                                refine V_iald e_v84 dL_law_546 ?_
                                refine V_pc (pc' := 547) rfl ?_
                                refine V_aload_n dL_law_547 rfl 3 rfl ?_
                                replace h := ob h
                                obtain ⟨r85, e_r85, h⟩ := h
                                refine V_callSW_I (As := [.ref (zad L (a1)), .int (v84), .ref (zad L (a3))]) (rest := []) (c_L_waits e_r85) zc_L_waits rfl (by decide) zm_L_144 (Nat.le_of_ble_eq_true rfl) rfl dL_law_548 ?_
                                refine V_pc (pc' := 551) rfl ?_
                                refine V_istore (ls' := [(5, .int (r85.1)), (0, .ref (zad L (a0))), (1, .ref (zad L (a1))), (2, .ref (zad L (a2))), (3, .ref (zad L (a3))), (4, .int (i4))]) dL_law_551 (by decide) rfl ?_
                                refine V_aload_n dL_law_553 rfl 3 rfl ?_
                                refine V_aload_n dL_law_554 rfl 1 rfl ?_
                                refine V_iload dL_law_555 5 rfl ?_
                                refine V_iconst (v := 1) dL_law_557 (by decide) ?_
                                refine V_iadd dL_law_558 ?_
                                replace h := ob h
                                obtain ⟨v86, e_v86, h⟩ := h
                                refine V_iald e_v86 dL_law_559 ?_
                                refine V_pc (pc' := 560) rfl ?_
                                replace h := ox h
                                obtain ⟨c88, h⟩ := h
                                replace h := ob h
                                obtain ⟨r87, e_r87, h⟩ := h
                                refine V_callV_J (As := [.int (v86)]) (rest := []) (c_X7_waits e_r87) zc_X7_waits rfl (by decide) rfl (by decide) (Or.inl c88) zm_L_146 (Nat.le_of_ble_eq_true rfl) rfl dL_law_560 ?_
                                refine V_pc (pc' := 563) rfl ?_
                                refine V_lstore (ls' := [(6, .long (r87.1)), (5, .int (r85.1)), (0, .ref (zad L (a0))), (1, .ref (zad L (a1))), (2, .ref (zad L (a2))), (3, .ref (zad L (a3))), (4, .int (i4))]) dL_law_563 (by decide) rfl ?_
                                refine V_goto (tgt := 862) dL_law_565 (by decide) ?_
                                refine V_iinc (v := i4 + (4 : Int32)) (ls' := [(4, .int ((i4 + (4 : Int32)))), (6, .long (r87.1)), (5, .int (r85.1)), (0, .ref (zad L (a0))), (1, .ref (zad L (a1))), (2, .ref (zad L (a2))), (3, .ref (zad L (a3)))]) dL_law_862 6 rfl (by rfl) (by decide) rfl ?_
                                refine V_goto (tgt := 27) dL_law_865 (by decide) ?_
                                refine V_sub [3, 4, 5, 6, 0] rfl ?_
                                exact ih _ _ _ _ _ _ h
                              · replace h := (oi h).2 c15
                                by_cases c16 : ((v2 &&& ((31 : Int32)))) = 13
                                · replace h := (oi h).1 c16
                                  refine V_tabIn (off := 525) (tgt := 568) dL_law_43 (by rw [c16]; decide) (by rw [c16]; decide) (by rw [c16]; decide) (by decide) ?_
                                  refine V_aload_n dL_law_568 rfl 1 rfl ?_
                                  refine V_aload_n dL_law_569 rfl 0 rfl ?_
                                  refine V_iload dL_law_570 4 rfl ?_
                                  refine V_iconst (v := 1) dL_law_572 (by decide) ?_
                                  refine V_iadd dL_law_573 ?_
                                  replace h := ob h
                                  obtain ⟨v79, e_v79, h⟩ := h
                                  refine V_iald e_v79 dL_law_574 ?_
                                  refine V_pc (pc' := 575) rfl ?_
                                  refine V_aload_n dL_law_575 rfl 3 rfl ?_
                                  replace h := ob h
                                  obtain ⟨r80, e_r80, h⟩ := h
                                  refine V_callSW_I (As := [.ref (zad L (a1)), .int (v79), .ref (zad L (a3))]) (rest := []) (c_L_seen e_r80) zc_L_seen rfl (by decide) zm_L_147 (Nat.le_of_ble_eq_true rfl) rfl dL_law_576 ?_
                                  refine V_pc (pc' := 579) rfl ?_
                                  refine V_istore (ls' := [(5, .int (r80.1)), (0, .ref (zad L (a0))), (1, .ref (zad L (a1))), (2, .ref (zad L (a2))), (3, .ref (zad L (a3))), (4, .int (i4))]) dL_law_579 (by decide) rfl ?_
                                  refine V_aload_n dL_law_581 rfl 3 rfl ?_
                                  refine V_aload_n dL_law_582 rfl 1 rfl ?_
                                  refine V_iload dL_law_583 5 rfl ?_
                                  refine V_iconst (v := 1) dL_law_585 (by decide) ?_
                                  refine V_iadd dL_law_586 ?_
                                  replace h := ob h
                                  obtain ⟨v81, e_v81, h⟩ := h
                                  refine V_iald e_v81 dL_law_587 ?_
                                  refine V_pc (pc' := 588) rfl ?_
                                  replace h := ox h
                                  obtain ⟨c83, h⟩ := h
                                  replace h := ob h
                                  obtain ⟨r82, e_r82, h⟩ := h
                                  refine V_callV_I (As := [.int (v81)]) (rest := []) (c_X7_seen e_r82) zc_X7_seen rfl (by decide) rfl (by decide) (Or.inl c83) zm_L_149 (Nat.le_of_ble_eq_true rfl) rfl dL_law_588 ?_
                                  refine V_pc (pc' := 591) rfl ?_
                                  refine V_istore (ls' := [(6, .int (r82.1)), (5, .int (r80.1)), (0, .ref (zad L (a0))), (1, .ref (zad L (a1))), (2, .ref (zad L (a2))), (3, .ref (zad L (a3))), (4, .int (i4))]) dL_law_591 (by decide) rfl ?_
                                  refine V_goto (tgt := 862) dL_law_593 (by decide) ?_
                                  refine V_iinc (v := i4 + (4 : Int32)) (ls' := [(4, .int ((i4 + (4 : Int32)))), (6, .int (r82.1)), (5, .int (r80.1)), (0, .ref (zad L (a0))), (1, .ref (zad L (a1))), (2, .ref (zad L (a2))), (3, .ref (zad L (a3)))]) dL_law_862 6 rfl (by rfl) (by decide) rfl ?_
                                  refine V_goto (tgt := 27) dL_law_865 (by decide) ?_
                                  refine V_sub [3, 4, 5, 6, 0] rfl ?_
                                  exact ih _ _ _ _ _ _ h
                                · replace h := (oi h).2 c16
                                  by_cases c17 : ((v2 &&& ((31 : Int32)))) = 14
                                  · replace h := (oi h).1 c17
                                    refine V_tabIn (off := 553) (tgt := 596) dL_law_43 (by rw [c17]; decide) (by rw [c17]; decide) (by rw [c17]; decide) (by decide) ?_
                                    refine V_aload_n dL_law_596 rfl 1 rfl ?_
                                    refine V_aload_n dL_law_597 rfl 0 rfl ?_
                                    refine V_iload dL_law_598 4 rfl ?_
                                    refine V_iconst (v := 1) dL_law_600 (by decide) ?_
                                    refine V_iadd dL_law_601 ?_
                                    replace h := ob h
                                    obtain ⟨v74, e_v74, h⟩ := h
                                    refine V_iald e_v74 dL_law_602 ?_
                                    refine V_pc (pc' := 603) rfl ?_
                                    refine V_aload_n dL_law_603 rfl 3 rfl ?_
                                    replace h := ob h
                                    obtain ⟨r75, e_r75, h⟩ := h
                                    refine V_callSW_I (As := [.ref (zad L (a1)), .int (v74), .ref (zad L (a3))]) (rest := []) (c_L_hand e_r75) zc_L_hand rfl (by decide) zm_L_150 (Nat.le_of_ble_eq_true rfl) rfl dL_law_604 ?_
                                    refine V_pc (pc' := 607) rfl ?_
                                    refine V_istore (ls' := [(5, .int (r75.1)), (0, .ref (zad L (a0))), (1, .ref (zad L (a1))), (2, .ref (zad L (a2))), (3, .ref (zad L (a3))), (4, .int (i4))]) dL_law_607 (by decide) rfl ?_
                                    refine V_aload_n dL_law_609 rfl 3 rfl ?_
                                    refine V_aload_n dL_law_610 rfl 1 rfl ?_
                                    refine V_iload dL_law_611 5 rfl ?_
                                    refine V_iconst (v := 1) dL_law_613 (by decide) ?_
                                    refine V_iadd dL_law_614 ?_
                                    replace h := ob h
                                    obtain ⟨v76, e_v76, h⟩ := h
                                    refine V_iald e_v76 dL_law_615 ?_
                                    refine V_pc (pc' := 616) rfl ?_
                                    replace h := ox h
                                    obtain ⟨c78, h⟩ := h
                                    replace h := ob h
                                    obtain ⟨r77, e_r77, h⟩ := h
                                    refine V_callV_A (As := [.int (v76)]) (rest := []) (c_X7_hand e_r77) zc_X7_hand rfl (by decide) rfl (by decide) (Or.inl c78) zm_L_152 (Nat.le_of_ble_eq_true rfl) rfl dL_law_616 ?_
                                    refine V_pc (pc' := 619) rfl ?_
                                    refine V_astore (ls' := [(6, .ref (zad L (r77.1))), (5, .int (r75.1)), (0, .ref (zad L (a0))), (1, .ref (zad L (a1))), (2, .ref (zad L (a2))), (3, .ref (zad L (a3))), (4, .int (i4))]) dL_law_619 (by decide) rfl ?_
                                    refine V_goto (tgt := 862) dL_law_621 (by decide) ?_
                                    refine V_iinc (v := i4 + (4 : Int32)) (ls' := [(4, .int ((i4 + (4 : Int32)))), (6, .ref (zad L (r77.1))), (5, .int (r75.1)), (0, .ref (zad L (a0))), (1, .ref (zad L (a1))), (2, .ref (zad L (a2))), (3, .ref (zad L (a3)))]) dL_law_862 6 rfl (by rfl) (by decide) rfl ?_
                                    refine V_goto (tgt := 27) dL_law_865 (by decide) ?_
                                    refine V_sub [3, 4, 5, 6, 0] rfl ?_
                                    exact ih _ _ _ _ _ _ h
                                  · replace h := (oi h).2 c17
                                    by_cases c18 : ((v2 &&& ((31 : Int32)))) = 15
                                    · replace h := (oi h).1 c18
                                      refine V_tabIn (off := 581) (tgt := 624) dL_law_43 (by rw [c18]; decide) (by rw [c18]; decide) (by rw [c18]; decide) (by decide) ?_
                                      refine V_aload_n dL_law_624 rfl 1 rfl ?_
                                      refine V_aload_n dL_law_625 rfl 0 rfl ?_
                                      refine V_iload dL_law_626 4 rfl ?_
                                      refine V_iconst (v := 1) dL_law_628 (by decide) ?_
                                      refine V_iadd dL_law_629 ?_
                                      replace h := ob h
                                      obtain ⟨v69, e_v69, h⟩ := h
                                      refine V_iald e_v69 dL_law_630 ?_
                                      refine V_pc (pc' := 631) rfl ?_
                                      refine V_aload_n dL_law_631 rfl 3 rfl ?_
                                      replace h := ob h
                                      obtain ⟨r70, e_r70, h⟩ := h
                                      refine V_callSW_I (As := [.ref (zad L (a1)), .int (v69), .ref (zad L (a3))]) (rest := []) (c_L_many e_r70) zc_L_many rfl (by decide) zm_L_153 (Nat.le_of_ble_eq_true rfl) rfl dL_law_632 ?_
                                      refine V_pc (pc' := 635) rfl ?_
                                      refine V_istore (ls' := [(5, .int (r70.1)), (0, .ref (zad L (a0))), (1, .ref (zad L (a1))), (2, .ref (zad L (a2))), (3, .ref (zad L (a3))), (4, .int (i4))]) dL_law_635 (by decide) rfl ?_
                                      refine V_aload_n dL_law_637 rfl 3 rfl ?_
                                      refine V_aload_n dL_law_638 rfl 1 rfl ?_
                                      refine V_iload dL_law_639 5 rfl ?_
                                      refine V_iconst (v := 1) dL_law_641 (by decide) ?_
                                      refine V_iadd dL_law_642 ?_
                                      replace h := ob h
                                      obtain ⟨v71, e_v71, h⟩ := h
                                      refine V_iald e_v71 dL_law_643 ?_
                                      refine V_pc (pc' := 644) rfl ?_
                                      replace h := ox h
                                      obtain ⟨c73, h⟩ := h
                                      replace h := ob h
                                      obtain ⟨r72, e_r72, h⟩ := h
                                      refine V_callV_I (As := [.int (v71)]) (rest := []) (c_X7_many e_r72) zc_X7_many rfl (by decide) rfl (by decide) (Or.inl c73) zm_L_155 (Nat.le_of_ble_eq_true rfl) rfl dL_law_644 ?_
                                      refine V_pc (pc' := 647) rfl ?_
                                      refine V_istore (ls' := [(6, .int (r72.1)), (5, .int (r70.1)), (0, .ref (zad L (a0))), (1, .ref (zad L (a1))), (2, .ref (zad L (a2))), (3, .ref (zad L (a3))), (4, .int (i4))]) dL_law_647 (by decide) rfl ?_
                                      refine V_goto (tgt := 862) dL_law_649 (by decide) ?_
                                      refine V_iinc (v := i4 + (4 : Int32)) (ls' := [(4, .int ((i4 + (4 : Int32)))), (6, .int (r72.1)), (5, .int (r70.1)), (0, .ref (zad L (a0))), (1, .ref (zad L (a1))), (2, .ref (zad L (a2))), (3, .ref (zad L (a3)))]) dL_law_862 6 rfl (by rfl) (by decide) rfl ?_
                                      refine V_goto (tgt := 27) dL_law_865 (by decide) ?_
                                      refine V_sub [3, 4, 5, 6, 0] rfl ?_
                                      exact ih _ _ _ _ _ _ h
                                    · replace h := (oi h).2 c18
                                      by_cases c19 : ((v2 &&& ((31 : Int32)))) = 16
                                      · replace h := (oi h).1 c19
                                        refine V_tabIn (off := 609) (tgt := 652) dL_law_43 (by rw [c19]; decide) (by rw [c19]; decide) (by rw [c19]; decide) (by decide) ?_
                                        refine V_aload_n dL_law_652 rfl 1 rfl ?_
                                        refine V_aload_n dL_law_653 rfl 0 rfl ?_
                                        refine V_iload dL_law_654 4 rfl ?_
                                        refine V_iconst (v := 1) dL_law_656 (by decide) ?_
                                        refine V_iadd dL_law_657 ?_
                                        replace h := ob h
                                        obtain ⟨v54, e_v54, h⟩ := h
                                        refine V_iald e_v54 dL_law_658 ?_
                                        refine V_pc (pc' := 659) rfl ?_
                                        refine V_aload_n dL_law_659 rfl 3 rfl ?_
                                        replace h := ob h
                                        obtain ⟨r55, e_r55, h⟩ := h
                                        refine V_callSW_I (As := [.ref (zad L (a1)), .int (v54), .ref (zad L (a3))]) (rest := []) (c_L_lead e_r55) zc_L_lead rfl (by decide) zm_L_156 (Nat.le_of_ble_eq_true rfl) rfl dL_law_660 ?_
                                        refine V_pc (pc' := 663) rfl ?_
                                        refine V_istore (ls' := [(5, .int (r55.1)), (0, .ref (zad L (a0))), (1, .ref (zad L (a1))), (2, .ref (zad L (a2))), (3, .ref (zad L (a3))), (4, .int (i4))]) dL_law_663 (by decide) rfl ?_
                                        refine V_aload_n dL_law_665 rfl 3 rfl ?_
                                        refine V_aload_n dL_law_666 rfl 1 rfl ?_
                                        refine V_iload dL_law_667 5 rfl ?_
                                        refine V_iconst (v := 1) dL_law_669 (by decide) ?_
                                        refine V_iadd dL_law_670 ?_
                                        replace h := ob h
                                        obtain ⟨v56, e_v56, h⟩ := h
                                        refine V_iald e_v56 dL_law_671 ?_
                                        refine V_pc (pc' := 672) rfl ?_
                                        replace h := ox h
                                        obtain ⟨c58, h⟩ := h
                                        replace h := ob h
                                        obtain ⟨r57, e_r57, h⟩ := h
                                        refine V_callV_D (As := [.int (v56)]) (rest := []) (c_X7_lead e_r57) zc_X7_lead rfl (by decide) rfl (by decide) (Or.inl c58) zm_L_158 (Nat.le_of_ble_eq_true rfl) rfl dL_law_672 ?_
                                        refine V_pc (pc' := 675) rfl ?_
                                        refine V_dstore (ls' := [(6, .double (r57.1)), (5, .int (r55.1)), (0, .ref (zad L (a0))), (1, .ref (zad L (a1))), (2, .ref (zad L (a2))), (3, .ref (zad L (a3))), (4, .int (i4))]) dL_law_675 (by decide) rfl ?_
                                        refine V_aload_n dL_law_677 rfl 4 rfl ?_
                                        replace h := ox h
                                        obtain ⟨c60, h⟩ := h
                                        replace h := ob h
                                        obtain ⟨r59, e_r59, h⟩ := h
                                        refine V_callV_I (As := []) (rest := []) (c_X7_thrown e_r59) zc_X7_thrown rfl (by decide) rfl (by decide) (Or.inl c60) zm_L_159 (Nat.le_of_ble_eq_true rfl) rfl dL_law_678 ?_
                                        refine V_pc (pc' := 681) rfl ?_
                                        refine V_iload dL_law_681 1 rfl ?_
                                        refine V_icmp_eq (tgt := 688) dL_law_683 (by decide) (fun c68 => ?_) (fun c68 => ?_)
                                        · replace h := (oi h).1 c68
                                          refine V_iload dL_law_688 1 rfl ?_
                                          refine V_if_ne (tgt := 725) dL_law_690 (by decide) (fun c67 => ?_) (fun c67 => ?_)
                                          · replace h := (oi h).2 c67
                                            refine V_goto (tgt := 862) dL_law_725 (by decide) ?_
                                            refine V_iinc (v := i4 + (4 : Int32)) (ls' := [(4, .int ((i4 + (4 : Int32)))), (6, .double (r57.1)), (5, .int (r55.1)), (0, .ref (zad L (a0))), (1, .ref (zad L (a1))), (2, .ref (zad L (a2))), (3, .ref (zad L (a3)))]) dL_law_862 6 rfl (by rfl) (by decide) rfl ?_
                                            refine V_goto (tgt := 27) dL_law_865 (by decide) ?_
                                            refine V_sub [3, 4, 5, 6, 0] rfl ?_
                                            exact ih _ _ _ _ _ _ h
                                          · replace h := (oi h).1 c67
                                            refine V_aload_n dL_law_693 rfl 5 rfl ?_
                                            replace h := ob h
                                            obtain ⟨v61, e_v61, h⟩ := h
                                            refine V_getDN (ref := "") zf_10_1 zlN_L_83 e_v61 dL_law_694 ?_
                                            refine V_pc (pc' := 697) rfl ?_
                                            refine V_dload dL_law_697 0 rfl ?_
                                            refine V_dcmp dL_law_699 ?_
                                            refine V_if_eq (tgt := 725) dL_law_700 (by decide) (fun c66 => ?_) (fun c66 => ?_)
                                            · replace h := (oi h).1 c66
                                              refine V_goto (tgt := 862) dL_law_725 (by decide) ?_
                                              refine V_iinc (v := i4 + (4 : Int32)) (ls' := [(4, .int ((i4 + (4 : Int32)))), (6, .double (r57.1)), (5, .int (r55.1)), (0, .ref (zad L (a0))), (1, .ref (zad L (a1))), (2, .ref (zad L (a2))), (3, .ref (zad L (a3)))]) dL_law_862 6 rfl (by rfl) (by decide) rfl ?_
                                              refine V_goto (tgt := 27) dL_law_865 (by decide) ?_
                                              refine V_sub [3, 4, 5, 6, 0] rfl ?_
                                              exact ih _ _ _ _ _ _ h
                                            · replace h := (oi h).2 c66
                                              refine V_aload_n dL_law_703 rfl 5 rfl ?_
                                              replace h := ob h
                                              obtain ⟨v62, e_v62, h⟩ := h
                                              refine V_getDN (ref := "") zf_10_1 zlN_L_83 e_v62 dL_law_704 ?_
                                              refine V_pc (pc' := 707) rfl ?_
                                              refine V_aload_n dL_law_707 rfl 5 rfl ?_
                                              replace h := ob h
                                              obtain ⟨v63, e_v63, h⟩ := h
                                              refine V_getDN (ref := "") zf_10_1 zlN_L_83 e_v63 dL_law_708 ?_
                                              refine V_pc (pc' := 711) rfl ?_
                                              refine V_dcmp dL_law_711 ?_
                                              refine V_if_eq (tgt := 723) dL_law_712 (by decide) (fun c65 => ?_) (fun c65 => ?_)
                                              · replace h := (oi h).1 c65
                                                refine V_iconst (v := 0) dL_law_723 (by decide) ?_
                                                cases h
                                              · replace h := (oi h).2 c65
                                                refine V_dload dL_law_715 0 rfl ?_
                                                refine V_dload dL_law_717 0 rfl ?_
                                                refine V_dcmp dL_law_719 ?_
                                                refine V_if_ne (tgt := 725) dL_law_720 (by decide) (fun c64 => ?_) (fun c64 => ?_)
                                                · replace h := (oi h).2 c64
                                                  refine V_goto (tgt := 862) dL_law_725 (by decide) ?_
                                                  refine V_iinc (v := i4 + (4 : Int32)) (ls' := [(4, .int ((i4 + (4 : Int32)))), (6, .double (r57.1)), (5, .int (r55.1)), (0, .ref (zad L (a0))), (1, .ref (zad L (a1))), (2, .ref (zad L (a2))), (3, .ref (zad L (a3)))]) dL_law_862 6 rfl (by rfl) (by decide) rfl ?_
                                                  refine V_goto (tgt := 27) dL_law_865 (by decide) ?_
                                                  refine V_sub [3, 4, 5, 6, 0] rfl ?_
                                                  exact ih _ _ _ _ _ _ h
                                                · replace h := (oi h).1 c64
                                                  refine V_iconst (v := 0) dL_law_723 (by decide) ?_
                                                  cases h
                                        · replace h := (oi h).2 c68
                                          refine V_iconst (v := 0) dL_law_686 (by decide) ?_
                                          cases h
                                      · replace h := (oi h).2 c19
                                        by_cases c20 : ((v2 &&& ((31 : Int32)))) = 17
                                        · replace h := (oi h).1 c20
                                          refine V_tabIn (off := 685) (tgt := 728) dL_law_43 (by rw [c20]; decide) (by rw [c20]; decide) (by rw [c20]; decide) (by decide) ?_
                                          refine V_aload_n dL_law_728 rfl 1 rfl ?_
                                          refine V_aload_n dL_law_729 rfl 0 rfl ?_
                                          refine V_iload dL_law_730 4 rfl ?_
                                          refine V_iconst (v := 1) dL_law_732 (by decide) ?_
                                          refine V_iadd dL_law_733 ?_
                                          replace h := ob h
                                          obtain ⟨v47, e_v47, h⟩ := h
                                          refine V_iald e_v47 dL_law_734 ?_
                                          refine V_pc (pc' := 735) rfl ?_
                                          refine V_aload_n dL_law_735 rfl 0 rfl ?_
                                          refine V_iload dL_law_736 4 rfl ?_
                                          refine V_iconst (v := 2) dL_law_738 (by decide) ?_
                                          refine V_iadd dL_law_739 ?_
                                          replace h := ob h
                                          obtain ⟨v48, e_v48, h⟩ := h
                                          refine V_iald e_v48 dL_law_740 ?_
                                          refine V_pc (pc' := 741) rfl ?_
                                          refine V_aload_n dL_law_741 rfl 3 rfl ?_
                                          replace h := ob h
                                          obtain ⟨r49, e_r49, h⟩ := h
                                          refine V_callSW_I (As := [.ref (zad L (a1)), .int (v47), .int (v48), .ref (zad L (a3))]) (rest := []) (c_L_worth e_r49) zc_L_worth rfl (by decide) zm_L_162 (Nat.le_of_ble_eq_true rfl) rfl dL_law_742 ?_
                                          refine V_pc (pc' := 745) rfl ?_
                                          refine V_istore (ls' := [(5, .int (r49.1)), (0, .ref (zad L (a0))), (1, .ref (zad L (a1))), (2, .ref (zad L (a2))), (3, .ref (zad L (a3))), (4, .int (i4))]) dL_law_745 (by decide) rfl ?_
                                          refine V_aload_n dL_law_747 rfl 3 rfl ?_
                                          refine V_aload_n dL_law_748 rfl 1 rfl ?_
                                          refine V_iload dL_law_749 5 rfl ?_
                                          refine V_iconst (v := 1) dL_law_751 (by decide) ?_
                                          refine V_iadd dL_law_752 ?_
                                          replace h := ob h
                                          obtain ⟨v50, e_v50, h⟩ := h
                                          refine V_iald e_v50 dL_law_753 ?_
                                          refine V_pc (pc' := 754) rfl ?_
                                          refine V_aload_n dL_law_754 rfl 1 rfl ?_
                                          refine V_iload dL_law_755 5 rfl ?_
                                          refine V_iconst (v := 2) dL_law_757 (by decide) ?_
                                          refine V_iadd dL_law_758 ?_
                                          replace h := ob h
                                          obtain ⟨v51, e_v51, h⟩ := h
                                          refine V_iald e_v51 dL_law_759 ?_
                                          refine V_pc (pc' := 760) rfl ?_
                                          replace h := ox h
                                          obtain ⟨c53, h⟩ := h
                                          replace h := ob h
                                          obtain ⟨r52, e_r52, h⟩ := h
                                          refine V_callV_I (As := [.int (v50), .int (v51)]) (rest := []) (c_X7_worth e_r52) zc_X7_worth rfl (by decide) rfl (by decide) (Or.inl c53) zm_L_164 (Nat.le_of_ble_eq_true rfl) rfl dL_law_760 ?_
                                          refine V_pc (pc' := 763) rfl ?_
                                          refine V_istore (ls' := [(6, .int (r52.1)), (5, .int (r49.1)), (0, .ref (zad L (a0))), (1, .ref (zad L (a1))), (2, .ref (zad L (a2))), (3, .ref (zad L (a3))), (4, .int (i4))]) dL_law_763 (by decide) rfl ?_
                                          refine V_goto (tgt := 862) dL_law_765 (by decide) ?_
                                          refine V_iinc (v := i4 + (4 : Int32)) (ls' := [(4, .int ((i4 + (4 : Int32)))), (6, .int (r52.1)), (5, .int (r49.1)), (0, .ref (zad L (a0))), (1, .ref (zad L (a1))), (2, .ref (zad L (a2))), (3, .ref (zad L (a3)))]) dL_law_862 6 rfl (by rfl) (by decide) rfl ?_
                                          refine V_goto (tgt := 27) dL_law_865 (by decide) ?_
                                          refine V_sub [3, 4, 5, 6, 0] rfl ?_
                                          exact ih _ _ _ _ _ _ h
                                        · replace h := (oi h).2 c20
                                          by_cases c21 : ((v2 &&& ((31 : Int32)))) = 18
                                          · replace h := (oi h).1 c21
                                            refine V_tabIn (off := 725) (tgt := 768) dL_law_43 (by rw [c21]; decide) (by rw [c21]; decide) (by rw [c21]; decide) (by decide) ?_
                                            refine V_aload_n dL_law_768 rfl 1 rfl ?_
                                            replace h := ox h
                                            obtain ⟨c44, h⟩ := h
                                            replace h := ob h
                                            obtain ⟨r43, e_r43, h⟩ := h
                                            refine V_callV_I (As := []) (rest := []) (c_X3_best e_r43) zc_X3_best rfl (by decide) rfl (by decide) (Or.inl c44) zm_L_165 (Nat.le_of_ble_eq_true rfl) rfl dL_law_769 ?_
                                            refine V_pc (pc' := 772) rfl ?_
                                            refine V_pop dL_law_772 rfl ?_
                                            refine V_aload_n dL_law_773 rfl 2 rfl ?_
                                            replace h := ox h
                                            obtain ⟨c46, h⟩ := h
                                            replace h := ob h
                                            obtain ⟨r45, e_r45, h⟩ := h
                                            refine V_callV_I (As := []) (rest := []) (c_X7_best e_r45) zc_X7_best rfl (by decide) rfl (by decide) (Or.inl c46) zm_L_168 (Nat.le_of_ble_eq_true rfl) rfl dL_law_774 ?_
                                            refine V_pc (pc' := 777) rfl ?_
                                            refine V_pop dL_law_777 rfl ?_
                                            refine V_goto (tgt := 862) dL_law_778 (by decide) ?_
                                            refine V_iinc (v := i4 + (4 : Int32)) (ls' := [(4, .int ((i4 + (4 : Int32)))), (0, .ref (zad L (a0))), (1, .ref (zad L (a1))), (2, .ref (zad L (a2))), (3, .ref (zad L (a3)))]) dL_law_862 4 rfl (by rfl) (by decide) rfl ?_
                                            refine V_goto (tgt := 27) dL_law_865 (by decide) ?_
                                            refine V_sub [1, 2, 3, 4, 0] rfl ?_
                                            exact ih _ _ _ _ _ _ h
                                          · replace h := (oi h).2 c21
                                            by_cases c22 : ((v2 &&& ((31 : Int32)))) = 19
                                            · replace h := (oi h).1 c22
                                              refine V_tabIn (off := 738) (tgt := 781) dL_law_43 (by rw [c22]; decide) (by rw [c22]; decide) (by rw [c22]; decide) (by decide) ?_
                                              refine V_aload_n dL_law_781 rfl 1 rfl ?_
                                              refine V_aload_n dL_law_782 rfl 0 rfl ?_
                                              refine V_iload dL_law_783 4 rfl ?_
                                              refine V_iconst (v := 1) dL_law_785 (by decide) ?_
                                              refine V_iadd dL_law_786 ?_
                                              replace h := ob h
                                              obtain ⟨v36, e_v36, h⟩ := h
                                              refine V_iald e_v36 dL_law_787 ?_
                                              refine V_pc (pc' := 788) rfl ?_
                                              refine V_aload_n dL_law_788 rfl 0 rfl ?_
                                              refine V_iload dL_law_789 4 rfl ?_
                                              refine V_iconst (v := 2) dL_law_791 (by decide) ?_
                                              refine V_iadd dL_law_792 ?_
                                              replace h := ob h
                                              obtain ⟨v37, e_v37, h⟩ := h
                                              refine V_iald e_v37 dL_law_793 ?_
                                              refine V_pc (pc' := 794) rfl ?_
                                              refine V_aload_n dL_law_794 rfl 3 rfl ?_
                                              replace h := ob h
                                              obtain ⟨r38, e_r38, h⟩ := h
                                              refine V_callSW_I (As := [.ref (zad L (a1)), .int (v36), .int (v37), .ref (zad L (a3))]) (rest := []) (c_L_isSafe e_r38) zc_L_isSafe rfl (by decide) zm_L_169 (Nat.le_of_ble_eq_true rfl) rfl dL_law_795 ?_
                                              refine V_pc (pc' := 798) rfl ?_
                                              refine V_istore (ls' := [(5, .int (r38.1)), (0, .ref (zad L (a0))), (1, .ref (zad L (a1))), (2, .ref (zad L (a2))), (3, .ref (zad L (a3))), (4, .int (i4))]) dL_law_798 (by decide) rfl ?_
                                              refine V_aload_n dL_law_800 rfl 3 rfl ?_
                                              refine V_aload_n dL_law_801 rfl 1 rfl ?_
                                              refine V_iload dL_law_802 5 rfl ?_
                                              refine V_iconst (v := 1) dL_law_804 (by decide) ?_
                                              refine V_iadd dL_law_805 ?_
                                              replace h := ob h
                                              obtain ⟨v39, e_v39, h⟩ := h
                                              refine V_iald e_v39 dL_law_806 ?_
                                              refine V_pc (pc' := 807) rfl ?_
                                              refine V_aload_n dL_law_807 rfl 1 rfl ?_
                                              refine V_iload dL_law_808 5 rfl ?_
                                              refine V_iconst (v := 2) dL_law_810 (by decide) ?_
                                              refine V_iadd dL_law_811 ?_
                                              replace h := ob h
                                              obtain ⟨v40, e_v40, h⟩ := h
                                              refine V_iald e_v40 dL_law_812 ?_
                                              refine V_pc (pc' := 813) rfl ?_
                                              replace h := ox h
                                              obtain ⟨c42, h⟩ := h
                                              replace h := ob h
                                              obtain ⟨r41, e_r41, h⟩ := h
                                              refine V_callV_I (As := [.int (v39), .int (v40)]) (rest := []) (c_X7_isSafe e_r41) zc_X7_isSafe rfl (by decide) rfl (by decide) (Or.inl c42) zm_L_171 (Nat.le_of_ble_eq_true rfl) rfl dL_law_813 ?_
                                              refine V_pc (pc' := 816) rfl ?_
                                              refine V_istore (ls' := [(6, .int (r41.1)), (5, .int (r38.1)), (0, .ref (zad L (a0))), (1, .ref (zad L (a1))), (2, .ref (zad L (a2))), (3, .ref (zad L (a3))), (4, .int (i4))]) dL_law_816 (by decide) rfl ?_
                                              refine V_goto (tgt := 862) dL_law_818 (by decide) ?_
                                              refine V_iinc (v := i4 + (4 : Int32)) (ls' := [(4, .int ((i4 + (4 : Int32)))), (6, .int (r41.1)), (5, .int (r38.1)), (0, .ref (zad L (a0))), (1, .ref (zad L (a1))), (2, .ref (zad L (a2))), (3, .ref (zad L (a3)))]) dL_law_862 6 rfl (by rfl) (by decide) rfl ?_
                                              refine V_goto (tgt := 27) dL_law_865 (by decide) ?_
                                              refine V_sub [3, 4, 5, 6, 0] rfl ?_
                                              exact ih _ _ _ _ _ _ h
                                            · replace h := (oi h).2 c22
                                              by_cases c23 : ((v2 &&& ((31 : Int32)))) = 20
                                              · replace h := (oi h).1 c23
                                                refine V_tabIn (off := 778) (tgt := 821) dL_law_43 (by rw [c23]; decide) (by rw [c23]; decide) (by rw [c23]; decide) (by decide) ?_
                                                refine V_aload_n dL_law_821 rfl 1 rfl ?_
                                                refine V_aload_n dL_law_822 rfl 0 rfl ?_
                                                refine V_iload dL_law_823 4 rfl ?_
                                                refine V_iconst (v := 1) dL_law_825 (by decide) ?_
                                                refine V_iadd dL_law_826 ?_
                                                replace h := ob h
                                                obtain ⟨v31, e_v31, h⟩ := h
                                                refine V_iald e_v31 dL_law_827 ?_
                                                refine V_pc (pc' := 828) rfl ?_
                                                refine V_aload_n dL_law_828 rfl 3 rfl ?_
                                                replace h := ob h
                                                obtain ⟨r32, e_r32, h⟩ := h
                                                refine V_callSW_I (As := [.ref (zad L (a1)), .int (v31), .ref (zad L (a3))]) (rest := []) (c_L_outs e_r32) zc_L_outs rfl (by decide) zm_L_172 (Nat.le_of_ble_eq_true rfl) rfl dL_law_829 ?_
                                                refine V_pc (pc' := 832) rfl ?_
                                                refine V_istore (ls' := [(5, .int (r32.1)), (0, .ref (zad L (a0))), (1, .ref (zad L (a1))), (2, .ref (zad L (a2))), (3, .ref (zad L (a3))), (4, .int (i4))]) dL_law_832 (by decide) rfl ?_
                                                refine V_aload_n dL_law_834 rfl 3 rfl ?_
                                                refine V_aload_n dL_law_835 rfl 1 rfl ?_
                                                refine V_iload dL_law_836 5 rfl ?_
                                                refine V_iconst (v := 1) dL_law_838 (by decide) ?_
                                                refine V_iadd dL_law_839 ?_
                                                replace h := ob h
                                                obtain ⟨v33, e_v33, h⟩ := h
                                                refine V_iald e_v33 dL_law_840 ?_
                                                refine V_pc (pc' := 841) rfl ?_
                                                replace h := ox h
                                                obtain ⟨c35, h⟩ := h
                                                replace h := ob h
                                                obtain ⟨r34, e_r34, h⟩ := h
                                                refine V_callV_I (As := [.int (v33)]) (rest := []) (c_X7_outs e_r34) zc_X7_outs rfl (by decide) rfl (by decide) (Or.inl c35) zm_L_174 (Nat.le_of_ble_eq_true rfl) rfl dL_law_841 ?_
                                                refine V_pc (pc' := 844) rfl ?_
                                                refine V_istore (ls' := [(6, .int (r34.1)), (5, .int (r32.1)), (0, .ref (zad L (a0))), (1, .ref (zad L (a1))), (2, .ref (zad L (a2))), (3, .ref (zad L (a3))), (4, .int (i4))]) dL_law_844 (by decide) rfl ?_
                                                refine V_goto (tgt := 862) dL_law_846 (by decide) ?_
                                                refine V_iinc (v := i4 + (4 : Int32)) (ls' := [(4, .int ((i4 + (4 : Int32)))), (6, .int (r34.1)), (5, .int (r32.1)), (0, .ref (zad L (a0))), (1, .ref (zad L (a1))), (2, .ref (zad L (a2))), (3, .ref (zad L (a3)))]) dL_law_862 6 rfl (by rfl) (by decide) rfl ?_
                                                refine V_goto (tgt := 27) dL_law_865 (by decide) ?_
                                                refine V_sub [3, 4, 5, 6, 0] rfl ?_
                                                exact ih _ _ _ _ _ _ h
                                              · replace h := (oi h).2 c23
                                                by_cases c24 : ((v2 &&& ((31 : Int32)))) = 21
                                                · replace h := (oi h).1 c24
                                                  refine V_tabIn (off := 806) (tgt := 849) dL_law_43 (by rw [c24]; decide) (by rw [c24]; decide) (by rw [c24]; decide) (by decide) ?_
                                                  refine V_aload_n dL_law_849 rfl 1 rfl ?_
                                                  replace h := ox h
                                                  obtain ⟨c26, h⟩ := h
                                                  replace h := xns h
                                                  obtain ⟨w25, Mw25, e_r25, h⟩ := h
                                                  refine V_callVx_J (As := []) (rest := []) (c_X3_digest e_r25) zc_X3_digest rfl (by decide) rfl (by decide) (Or.inl c26) zm_L_175 (Nat.le_of_ble_eq_true rfl) rfl dL_law_850 ?_
                                                  refine V_pc (pc' := 853) rfl ?_
                                                  refine V_pop2 dL_law_853 rfl ?_
                                                  refine V_aload_n dL_law_854 rfl 2 rfl ?_
                                                  replace h := ox h
                                                  obtain ⟨c30, h⟩ := h
                                                  replace h := ob h
                                                  obtain ⟨r29, e_r29, h⟩ := h
                                                  refine V_callV_J (As := []) (rest := []) (c_X7_digest e_r29) zc_X7_digest rfl (by decide) rfl (by decide) (Or.inl c30) zm_L_179 (Nat.le_of_ble_eq_true rfl) rfl dL_law_855 ?_
                                                  refine V_pc (pc' := 858) rfl ?_
                                                  refine V_pop2 dL_law_858 rfl ?_
                                                  refine V_goto (tgt := 862) dL_law_859 (by decide) ?_
                                                  refine V_iinc (v := i4 + (4 : Int32)) (ls' := [(4, .int ((i4 + (4 : Int32)))), (0, .ref (zad L (a0))), (1, .ref (zad L (a1))), (2, .ref (zad L (a2))), (3, .ref (zad L (a3)))]) dL_law_862 4 rfl (by rfl) (by decide) rfl ?_
                                                  refine V_goto (tgt := 27) dL_law_865 (by decide) ?_
                                                  refine V_sub [1, 2, 3, 4, 0] rfl ?_
                                                  exact ih _ _ _ _ _ _ h
                                                · replace h := (oi h).2 c24
                                                  have hsw : ((v2 &&& ((31 : Int32)))).toInt < 0 ∨ 21 < ((v2 &&& ((31 : Int32)))).toInt := by
                                                    have q0 : ¬ ((v2 &&& ((31 : Int32)))).toInt = 0 := fun e => c3 (Int32.toInt_inj.mp (e.trans (by decide)))
                                                    have q1 : ¬ ((v2 &&& ((31 : Int32)))).toInt = 1 := fun e => c4 (Int32.toInt_inj.mp (e.trans (by decide)))
                                                    have q2 : ¬ ((v2 &&& ((31 : Int32)))).toInt = 2 := fun e => c5 (Int32.toInt_inj.mp (e.trans (by decide)))
                                                    have q3 : ¬ ((v2 &&& ((31 : Int32)))).toInt = 3 := fun e => c6 (Int32.toInt_inj.mp (e.trans (by decide)))
                                                    have q4 : ¬ ((v2 &&& ((31 : Int32)))).toInt = 4 := fun e => c7 (Int32.toInt_inj.mp (e.trans (by decide)))
                                                    have q5 : ¬ ((v2 &&& ((31 : Int32)))).toInt = 5 := fun e => c8 (Int32.toInt_inj.mp (e.trans (by decide)))
                                                    have q6 : ¬ ((v2 &&& ((31 : Int32)))).toInt = 6 := fun e => c9 (Int32.toInt_inj.mp (e.trans (by decide)))
                                                    have q7 : ¬ ((v2 &&& ((31 : Int32)))).toInt = 7 := fun e => c10 (Int32.toInt_inj.mp (e.trans (by decide)))
                                                    have q8 : ¬ ((v2 &&& ((31 : Int32)))).toInt = 8 := fun e => c11 (Int32.toInt_inj.mp (e.trans (by decide)))
                                                    have q9 : ¬ ((v2 &&& ((31 : Int32)))).toInt = 9 := fun e => c12 (Int32.toInt_inj.mp (e.trans (by decide)))
                                                    have q10 : ¬ ((v2 &&& ((31 : Int32)))).toInt = 10 := fun e => c13 (Int32.toInt_inj.mp (e.trans (by decide)))
                                                    have q11 : ¬ ((v2 &&& ((31 : Int32)))).toInt = 11 := fun e => c14 (Int32.toInt_inj.mp (e.trans (by decide)))
                                                    have q12 : ¬ ((v2 &&& ((31 : Int32)))).toInt = 12 := fun e => c15 (Int32.toInt_inj.mp (e.trans (by decide)))
                                                    have q13 : ¬ ((v2 &&& ((31 : Int32)))).toInt = 13 := fun e => c16 (Int32.toInt_inj.mp (e.trans (by decide)))
                                                    have q14 : ¬ ((v2 &&& ((31 : Int32)))).toInt = 14 := fun e => c17 (Int32.toInt_inj.mp (e.trans (by decide)))
                                                    have q15 : ¬ ((v2 &&& ((31 : Int32)))).toInt = 15 := fun e => c18 (Int32.toInt_inj.mp (e.trans (by decide)))
                                                    have q16 : ¬ ((v2 &&& ((31 : Int32)))).toInt = 16 := fun e => c19 (Int32.toInt_inj.mp (e.trans (by decide)))
                                                    have q17 : ¬ ((v2 &&& ((31 : Int32)))).toInt = 17 := fun e => c20 (Int32.toInt_inj.mp (e.trans (by decide)))
                                                    have q18 : ¬ ((v2 &&& ((31 : Int32)))).toInt = 18 := fun e => c21 (Int32.toInt_inj.mp (e.trans (by decide)))
                                                    have q19 : ¬ ((v2 &&& ((31 : Int32)))).toInt = 19 := fun e => c22 (Int32.toInt_inj.mp (e.trans (by decide)))
                                                    have q20 : ¬ ((v2 &&& ((31 : Int32)))).toInt = 20 := fun e => c23 (Int32.toInt_inj.mp (e.trans (by decide)))
                                                    have q21 : ¬ ((v2 &&& ((31 : Int32)))).toInt = 21 := fun e => c24 (Int32.toInt_inj.mp (e.trans (by decide)))
                                                    omega
                                                  refine V_tabOut (tgt := 862) dL_law_43 hsw (by decide) ?_
                                                  refine V_iinc (v := i4 + (4 : Int32)) (ls' := [(4, .int ((i4 + (4 : Int32)))), (0, .ref (zad L (a0))), (1, .ref (zad L (a1))), (2, .ref (zad L (a2))), (3, .ref (zad L (a3)))]) dL_law_862 4 rfl (by rfl) (by decide) rfl ?_
                                                  refine V_goto (tgt := 27) dL_law_865 (by decide) ?_
                                                  refine V_sub [1, 2, 3, 4, 0] rfl ?_
                                                  exact ih _ _ _ _ _ _ h
def f_L_law_0 (a0 : Nat) (M : zM) : Option (Unit × zM) :=
  (f_X3_init (mX M) (nO M 9 16)).bind fun r1 =>
  (f_X7_init (mX r1.2) (nO r1.2 13 15)).bind fun r2 =>
  (f_X4_init (mX r2.2) (nO r2.2 10 3)).bind fun r3 =>
  f_L_law_27 zNL a0 (mX M) (mX r1.2) (mX r2.2) ((0 : Int32)) r3.2
set_option maxRecDepth 20000 in
set_option maxHeartbeats 4000000 in
theorem s_L_law_0 {L : zL} {X : zX} {M0 : zM} {N : Nat × Nat} {Q : State → Prop} {r : Unit × zM} (hq : ∀ {M : zM} {pc : Nat} {ls : List (Nat × Value)}, M = r.2 → decode cL_law pc = .ok (.ireturn, 1) → V L X yL_law cL_law 8 (some FieldType.boolean) 135 M0 N Q M pc ls [.int 1]) {a0 : Nat} {M : zM} (h : f_L_law_0 a0 M = some r) : V L X yL_law cL_law 8 (some FieldType.boolean) 135 M0 N Q M 0 [(0, .ref (zad L (a0)))] [] := by
  unfold f_L_law_0 at h
  refine V_new (by decide) rfl zin9 zty9 zdf9 zn_L_8 dL_law_0 ?_
  refine V_dup dL_law_3 rfl ?_
  replace h := ob h
  obtain ⟨r1, e_r1, h⟩ := h
  refine V_callI_V (As := []) (rest := [.ref (zad L (mX M))]) (c_X3_init e_r1) zc_X3_init rfl (by decide) zm_L_97 rfl (Nat.le_of_ble_eq_true rfl) rfl dL_law_4 ?_
  refine V_pc (pc' := 7) rfl ?_
  refine V_astore_n (ls' := [(1, .ref (zad L (mX M))), (0, .ref (zad L (a0)))]) dL_law_7 rfl (by decide) rfl ?_
  refine V_new (by decide) rfl zin13 zty13 zdf13 zn_L_98 dL_law_8 ?_
  refine V_dup dL_law_11 rfl ?_
  replace h := ob h
  obtain ⟨r2, e_r2, h⟩ := h
  refine V_callI_V (As := []) (rest := [.ref (zad L (mX r1.2))]) (c_X7_init e_r2) zc_X7_init rfl (by decide) zm_L_100 rfl (Nat.le_of_ble_eq_true rfl) rfl dL_law_12 ?_
  refine V_pc (pc' := 15) rfl ?_
  refine V_astore_n (ls' := [(2, .ref (zad L (mX r1.2))), (1, .ref (zad L (mX M))), (0, .ref (zad L (a0)))]) dL_law_15 rfl (by decide) rfl ?_
  refine V_new (by decide) rfl zin10 zty10 zdf10 zn_L_14 dL_law_16 ?_
  refine V_dup dL_law_19 rfl ?_
  replace h := ob h
  obtain ⟨r3, e_r3, h⟩ := h
  refine V_callIN_V (As := []) (rest := [.ref (zad L (mX r2.2))]) (c_X4_init e_r3) zc_X4_init rfl (by decide) zm_L_101 rfl (Nat.le_of_ble_eq_true rfl) rfl dL_law_20 ?_
  refine V_pc (pc' := 23) rfl ?_
  refine V_astore_n (ls' := [(3, .ref (zad L (mX r2.2))), (2, .ref (zad L (mX r1.2))), (1, .ref (zad L (mX M))), (0, .ref (zad L (a0)))]) dL_law_23 rfl (by decide) rfl ?_
  refine V_iconst (v := 0) dL_law_24 (by decide) ?_
  refine V_istore (ls' := [(4, .int ((0 : Int32))), (3, .ref (zad L (mX r2.2))), (2, .ref (zad L (mX r1.2))), (1, .ref (zad L (mX M))), (0, .ref (zad L (a0)))]) dL_law_25 (by decide) rfl ?_
  refine V_sub [4, 3, 2, 1, 0] rfl ?_
  exact s_L_law_27 hq h
def f_L_law (a0 : Nat) (M : zM) : Option (Unit × zM) := f_L_law_0 a0 M
