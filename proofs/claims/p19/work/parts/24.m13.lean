/-! ===== METHODS, by program ===== -/
/-! WindsparlourLaw.law([I)Z -/
theorem dL_law_0 : decode cL_law 0 = .ok (.new 8, 3) := by decide +kernel
theorem dL_law_3 : decode cL_law 3 = .ok (.dup, 1) := by decide +kernel
theorem dL_law_4 : decode cL_law 4 = .ok (.invokespecial 97, 3) := by decide +kernel
theorem dL_law_7 : decode cL_law 7 = .ok (.astore_n 1, 1) := by decide +kernel
theorem dL_law_8 : decode cL_law 8 = .ok (.new 98, 3) := by decide +kernel
theorem dL_law_11 : decode cL_law 11 = .ok (.dup, 1) := by decide +kernel
theorem dL_law_12 : decode cL_law 12 = .ok (.invokespecial 100, 3) := by decide +kernel
theorem dL_law_15 : decode cL_law 15 = .ok (.astore_n 2, 1) := by decide +kernel
theorem dL_law_16 : decode cL_law 16 = .ok (.new 14, 3) := by decide +kernel
theorem dL_law_19 : decode cL_law 19 = .ok (.dup, 1) := by decide +kernel
theorem dL_law_20 : decode cL_law 20 = .ok (.invokespecial 101, 3) := by decide +kernel
theorem dL_law_23 : decode cL_law 23 = .ok (.astore_n 3, 1) := by decide +kernel
theorem dL_law_24 : decode cL_law 24 = .ok (.iconst 0, 1) := by decide +kernel
theorem dL_law_25 : decode cL_law 25 = .ok (.istore 4, 2) := by decide +kernel
theorem dL_law_27 : decode cL_law 27 = .ok (.iload 4, 2) := by decide +kernel
theorem dL_law_29 : decode cL_law 29 = .ok (.aload_n 0, 1) := by decide +kernel
theorem dL_law_30 : decode cL_law 30 = .ok (.arraylength, 1) := by decide +kernel
theorem dL_law_31 : decode cL_law 31 = .ok (.iconst 4, 1) := by decide +kernel
theorem dL_law_32 : decode cL_law 32 = .ok (.isub, 1) := by decide +kernel
theorem dL_law_33 : decode cL_law 33 = .ok (.if_icmp .gt 816, 3) := by decide +kernel
theorem dL_law_36 : decode cL_law 36 = .ok (.aload_n 0, 1) := by decide +kernel
theorem dL_law_37 : decode cL_law 37 = .ok (.iload 4, 2) := by decide +kernel
theorem dL_law_39 : decode cL_law 39 = .ok (.iaload, 1) := by decide +kernel
theorem dL_law_40 : decode cL_law 40 = .ok (.bipush 31, 2) := by decide +kernel
theorem dL_law_42 : decode cL_law 42 = .ok (.iand, 1) := by decide +kernel
theorem dL_law_43 : decode cL_law 43 = .ok (.tableswitch 800 0 21 #[101, 141, 157, 185, 213, 265, 293, 309, 337, 377, 417, 457, 497, 525, 553, 581, 609, 637, 706, 719, 759, 787], 101) := by decide +kernel
theorem dL_law_144 : decode cL_law 144 = .ok (.aload_n 1, 1) := by decide +kernel
theorem dL_law_145 : decode cL_law 145 = .ok (.aload_n 0, 1) := by decide +kernel
theorem dL_law_146 : decode cL_law 146 = .ok (.iload 4, 2) := by decide +kernel
theorem dL_law_148 : decode cL_law 148 = .ok (.iconst 1, 1) := by decide +kernel
theorem dL_law_149 : decode cL_law 149 = .ok (.iadd, 1) := by decide +kernel
theorem dL_law_150 : decode cL_law 150 = .ok (.iaload, 1) := by decide +kernel
theorem dL_law_151 : decode cL_law 151 = .ok (.aload_n 0, 1) := by decide +kernel
theorem dL_law_152 : decode cL_law 152 = .ok (.iload 4, 2) := by decide +kernel
theorem dL_law_154 : decode cL_law 154 = .ok (.iconst 2, 1) := by decide +kernel
theorem dL_law_155 : decode cL_law 155 = .ok (.iadd, 1) := by decide +kernel
theorem dL_law_156 : decode cL_law 156 = .ok (.iaload, 1) := by decide +kernel
theorem dL_law_157 : decode cL_law 157 = .ok (.aload_n 3, 1) := by decide +kernel
theorem dL_law_158 : decode cL_law 158 = .ok (.invokestatic 102, 3) := by decide +kernel
theorem dL_law_161 : decode cL_law 161 = .ok (.istore 5, 2) := by decide +kernel
theorem dL_law_163 : decode cL_law 163 = .ok (.aload_n 2, 1) := by decide +kernel
theorem dL_law_164 : decode cL_law 164 = .ok (.aload_n 0, 1) := by decide +kernel
theorem dL_law_165 : decode cL_law 165 = .ok (.iload 4, 2) := by decide +kernel
theorem dL_law_167 : decode cL_law 167 = .ok (.iconst 1, 1) := by decide +kernel
theorem dL_law_168 : decode cL_law 168 = .ok (.iadd, 1) := by decide +kernel
theorem dL_law_169 : decode cL_law 169 = .ok (.iaload, 1) := by decide +kernel
theorem dL_law_170 : decode cL_law 170 = .ok (.aload_n 0, 1) := by decide +kernel
theorem dL_law_171 : decode cL_law 171 = .ok (.iload 4, 2) := by decide +kernel
theorem dL_law_173 : decode cL_law 173 = .ok (.iconst 2, 1) := by decide +kernel
theorem dL_law_174 : decode cL_law 174 = .ok (.iadd, 1) := by decide +kernel
theorem dL_law_175 : decode cL_law 175 = .ok (.iaload, 1) := by decide +kernel
theorem dL_law_176 : decode cL_law 176 = .ok (.invokevirtual 107, 3) := by decide +kernel
theorem dL_law_179 : decode cL_law 179 = .ok (.istore 6, 2) := by decide +kernel
theorem dL_law_181 : decode cL_law 181 = .ok (.goto 662, 3) := by decide +kernel
theorem dL_law_184 : decode cL_law 184 = .ok (.aload_n 1, 1) := by decide +kernel
theorem dL_law_185 : decode cL_law 185 = .ok (.aload_n 3, 1) := by decide +kernel
theorem dL_law_186 : decode cL_law 186 = .ok (.invokestatic 108, 3) := by decide +kernel
theorem dL_law_189 : decode cL_law 189 = .ok (.istore 5, 2) := by decide +kernel
theorem dL_law_191 : decode cL_law 191 = .ok (.aload_n 2, 1) := by decide +kernel
theorem dL_law_192 : decode cL_law 192 = .ok (.invokevirtual 111, 3) := by decide +kernel
theorem dL_law_195 : decode cL_law 195 = .ok (.istore 6, 2) := by decide +kernel
theorem dL_law_197 : decode cL_law 197 = .ok (.goto 646, 3) := by decide +kernel
theorem dL_law_200 : decode cL_law 200 = .ok (.aload_n 1, 1) := by decide +kernel
theorem dL_law_201 : decode cL_law 201 = .ok (.aload_n 0, 1) := by decide +kernel
theorem dL_law_202 : decode cL_law 202 = .ok (.iload 4, 2) := by decide +kernel
theorem dL_law_204 : decode cL_law 204 = .ok (.iconst 1, 1) := by decide +kernel
theorem dL_law_205 : decode cL_law 205 = .ok (.iadd, 1) := by decide +kernel
theorem dL_law_206 : decode cL_law 206 = .ok (.iaload, 1) := by decide +kernel
theorem dL_law_207 : decode cL_law 207 = .ok (.aload_n 3, 1) := by decide +kernel
theorem dL_law_208 : decode cL_law 208 = .ok (.invokestatic 112, 3) := by decide +kernel
theorem dL_law_211 : decode cL_law 211 = .ok (.istore 5, 2) := by decide +kernel
theorem dL_law_213 : decode cL_law 213 = .ok (.aload_n 2, 1) := by decide +kernel
theorem dL_law_214 : decode cL_law 214 = .ok (.aload_n 0, 1) := by decide +kernel
theorem dL_law_215 : decode cL_law 215 = .ok (.iload 4, 2) := by decide +kernel
theorem dL_law_217 : decode cL_law 217 = .ok (.iconst 1, 1) := by decide +kernel
theorem dL_law_218 : decode cL_law 218 = .ok (.iadd, 1) := by decide +kernel
theorem dL_law_219 : decode cL_law 219 = .ok (.iaload, 1) := by decide +kernel
theorem dL_law_220 : decode cL_law 220 = .ok (.invokevirtual 115, 3) := by decide +kernel
theorem dL_law_223 : decode cL_law 223 = .ok (.istore 6, 2) := by decide +kernel
theorem dL_law_225 : decode cL_law 225 = .ok (.goto 618, 3) := by decide +kernel
theorem dL_law_228 : decode cL_law 228 = .ok (.aload_n 1, 1) := by decide +kernel
theorem dL_law_229 : decode cL_law 229 = .ok (.aload_n 0, 1) := by decide +kernel
theorem dL_law_230 : decode cL_law 230 = .ok (.iload 4, 2) := by decide +kernel
theorem dL_law_232 : decode cL_law 232 = .ok (.iconst 1, 1) := by decide +kernel
theorem dL_law_233 : decode cL_law 233 = .ok (.iadd, 1) := by decide +kernel
theorem dL_law_234 : decode cL_law 234 = .ok (.iaload, 1) := by decide +kernel
theorem dL_law_235 : decode cL_law 235 = .ok (.aload_n 3, 1) := by decide +kernel
theorem dL_law_236 : decode cL_law 236 = .ok (.invokestatic 116, 3) := by decide +kernel
theorem dL_law_239 : decode cL_law 239 = .ok (.istore 5, 2) := by decide +kernel
theorem dL_law_241 : decode cL_law 241 = .ok (.aload_n 2, 1) := by decide +kernel
theorem dL_law_242 : decode cL_law 242 = .ok (.aload_n 0, 1) := by decide +kernel
theorem dL_law_243 : decode cL_law 243 = .ok (.iload 4, 2) := by decide +kernel
theorem dL_law_245 : decode cL_law 245 = .ok (.iconst 1, 1) := by decide +kernel
theorem dL_law_246 : decode cL_law 246 = .ok (.iadd, 1) := by decide +kernel
theorem dL_law_247 : decode cL_law 247 = .ok (.iaload, 1) := by decide +kernel
theorem dL_law_248 : decode cL_law 248 = .ok (.invokevirtual 118, 3) := by decide +kernel
theorem dL_law_251 : decode cL_law 251 = .ok (.istore 6, 2) := by decide +kernel
theorem dL_law_253 : decode cL_law 253 = .ok (.goto 590, 3) := by decide +kernel
theorem dL_law_256 : decode cL_law 256 = .ok (.aload_n 1, 1) := by decide +kernel
theorem dL_law_257 : decode cL_law 257 = .ok (.aload_n 0, 1) := by decide +kernel
theorem dL_law_258 : decode cL_law 258 = .ok (.iload 4, 2) := by decide +kernel
theorem dL_law_260 : decode cL_law 260 = .ok (.iconst 1, 1) := by decide +kernel
theorem dL_law_261 : decode cL_law 261 = .ok (.iadd, 1) := by decide +kernel
theorem dL_law_262 : decode cL_law 262 = .ok (.iaload, 1) := by decide +kernel
theorem dL_law_263 : decode cL_law 263 = .ok (.aload_n 0, 1) := by decide +kernel
theorem dL_law_264 : decode cL_law 264 = .ok (.iload 4, 2) := by decide +kernel
theorem dL_law_266 : decode cL_law 266 = .ok (.iconst 2, 1) := by decide +kernel
theorem dL_law_267 : decode cL_law 267 = .ok (.iadd, 1) := by decide +kernel
theorem dL_law_268 : decode cL_law 268 = .ok (.iaload, 1) := by decide +kernel
theorem dL_law_269 : decode cL_law 269 = .ok (.aload_n 0, 1) := by decide +kernel
theorem dL_law_270 : decode cL_law 270 = .ok (.iload 4, 2) := by decide +kernel
theorem dL_law_272 : decode cL_law 272 = .ok (.iconst 3, 1) := by decide +kernel
theorem dL_law_273 : decode cL_law 273 = .ok (.iadd, 1) := by decide +kernel
theorem dL_law_274 : decode cL_law 274 = .ok (.iaload, 1) := by decide +kernel
theorem dL_law_275 : decode cL_law 275 = .ok (.aload_n 3, 1) := by decide +kernel
theorem dL_law_276 : decode cL_law 276 = .ok (.invokestatic 119, 3) := by decide +kernel
theorem dL_law_279 : decode cL_law 279 = .ok (.istore 5, 2) := by decide +kernel
theorem dL_law_281 : decode cL_law 281 = .ok (.aload_n 2, 1) := by decide +kernel
theorem dL_law_282 : decode cL_law 282 = .ok (.aload_n 0, 1) := by decide +kernel
theorem dL_law_283 : decode cL_law 283 = .ok (.iload 4, 2) := by decide +kernel
theorem dL_law_285 : decode cL_law 285 = .ok (.iconst 1, 1) := by decide +kernel
theorem dL_law_286 : decode cL_law 286 = .ok (.iadd, 1) := by decide +kernel
theorem dL_law_287 : decode cL_law 287 = .ok (.iaload, 1) := by decide +kernel
theorem dL_law_288 : decode cL_law 288 = .ok (.aload_n 0, 1) := by decide +kernel
theorem dL_law_289 : decode cL_law 289 = .ok (.iload 4, 2) := by decide +kernel
theorem dL_law_291 : decode cL_law 291 = .ok (.iconst 2, 1) := by decide +kernel
theorem dL_law_292 : decode cL_law 292 = .ok (.iadd, 1) := by decide +kernel
theorem dL_law_293 : decode cL_law 293 = .ok (.iaload, 1) := by decide +kernel
theorem dL_law_294 : decode cL_law 294 = .ok (.aload_n 0, 1) := by decide +kernel
theorem dL_law_295 : decode cL_law 295 = .ok (.iload 4, 2) := by decide +kernel
theorem dL_law_297 : decode cL_law 297 = .ok (.iconst 3, 1) := by decide +kernel
theorem dL_law_298 : decode cL_law 298 = .ok (.iadd, 1) := by decide +kernel
theorem dL_law_299 : decode cL_law 299 = .ok (.iaload, 1) := by decide +kernel
theorem dL_law_300 : decode cL_law 300 = .ok (.invokevirtual 122, 3) := by decide +kernel
theorem dL_law_303 : decode cL_law 303 = .ok (.istore 6, 2) := by decide +kernel
theorem dL_law_305 : decode cL_law 305 = .ok (.goto 538, 3) := by decide +kernel
theorem dL_law_308 : decode cL_law 308 = .ok (.aload_n 1, 1) := by decide +kernel
theorem dL_law_309 : decode cL_law 309 = .ok (.aload_n 0, 1) := by decide +kernel
theorem dL_law_310 : decode cL_law 310 = .ok (.iload 4, 2) := by decide +kernel
theorem dL_law_312 : decode cL_law 312 = .ok (.iconst 1, 1) := by decide +kernel
theorem dL_law_313 : decode cL_law 313 = .ok (.iadd, 1) := by decide +kernel
theorem dL_law_314 : decode cL_law 314 = .ok (.iaload, 1) := by decide +kernel
theorem dL_law_315 : decode cL_law 315 = .ok (.aload_n 3, 1) := by decide +kernel
theorem dL_law_316 : decode cL_law 316 = .ok (.invokestatic 123, 3) := by decide +kernel
theorem dL_law_319 : decode cL_law 319 = .ok (.istore 5, 2) := by decide +kernel
theorem dL_law_321 : decode cL_law 321 = .ok (.aload_n 2, 1) := by decide +kernel
theorem dL_law_322 : decode cL_law 322 = .ok (.aload_n 0, 1) := by decide +kernel
theorem dL_law_323 : decode cL_law 323 = .ok (.iload 4, 2) := by decide +kernel
theorem dL_law_325 : decode cL_law 325 = .ok (.iconst 1, 1) := by decide +kernel
theorem dL_law_326 : decode cL_law 326 = .ok (.iadd, 1) := by decide +kernel
theorem dL_law_327 : decode cL_law 327 = .ok (.iaload, 1) := by decide +kernel
theorem dL_law_328 : decode cL_law 328 = .ok (.invokevirtual 125, 3) := by decide +kernel
theorem dL_law_331 : decode cL_law 331 = .ok (.istore 6, 2) := by decide +kernel
theorem dL_law_333 : decode cL_law 333 = .ok (.goto 510, 3) := by decide +kernel
theorem dL_law_336 : decode cL_law 336 = .ok (.aload_n 1, 1) := by decide +kernel
theorem dL_law_337 : decode cL_law 337 = .ok (.aload_n 3, 1) := by decide +kernel
theorem dL_law_338 : decode cL_law 338 = .ok (.invokestatic 126, 3) := by decide +kernel
theorem dL_law_341 : decode cL_law 341 = .ok (.istore 5, 2) := by decide +kernel
theorem dL_law_343 : decode cL_law 343 = .ok (.aload_n 2, 1) := by decide +kernel
theorem dL_law_344 : decode cL_law 344 = .ok (.invokevirtual 128, 3) := by decide +kernel
theorem dL_law_347 : decode cL_law 347 = .ok (.istore 6, 2) := by decide +kernel
theorem dL_law_349 : decode cL_law 349 = .ok (.goto 494, 3) := by decide +kernel
theorem dL_law_352 : decode cL_law 352 = .ok (.aload_n 1, 1) := by decide +kernel
theorem dL_law_353 : decode cL_law 353 = .ok (.aload_n 0, 1) := by decide +kernel
theorem dL_law_354 : decode cL_law 354 = .ok (.iload 4, 2) := by decide +kernel
theorem dL_law_356 : decode cL_law 356 = .ok (.iconst 1, 1) := by decide +kernel
theorem dL_law_357 : decode cL_law 357 = .ok (.iadd, 1) := by decide +kernel
theorem dL_law_358 : decode cL_law 358 = .ok (.iaload, 1) := by decide +kernel
theorem dL_law_359 : decode cL_law 359 = .ok (.aload_n 3, 1) := by decide +kernel
theorem dL_law_360 : decode cL_law 360 = .ok (.invokestatic 129, 3) := by decide +kernel
theorem dL_law_363 : decode cL_law 363 = .ok (.istore 5, 2) := by decide +kernel
theorem dL_law_365 : decode cL_law 365 = .ok (.aload_n 2, 1) := by decide +kernel
theorem dL_law_366 : decode cL_law 366 = .ok (.aload_n 0, 1) := by decide +kernel
theorem dL_law_367 : decode cL_law 367 = .ok (.iload 4, 2) := by decide +kernel
theorem dL_law_369 : decode cL_law 369 = .ok (.iconst 1, 1) := by decide +kernel
theorem dL_law_370 : decode cL_law 370 = .ok (.iadd, 1) := by decide +kernel
theorem dL_law_371 : decode cL_law 371 = .ok (.iaload, 1) := by decide +kernel
theorem dL_law_372 : decode cL_law 372 = .ok (.invokevirtual 131, 3) := by decide +kernel
theorem dL_law_375 : decode cL_law 375 = .ok (.istore 6, 2) := by decide +kernel
theorem dL_law_377 : decode cL_law 377 = .ok (.goto 466, 3) := by decide +kernel
theorem dL_law_380 : decode cL_law 380 = .ok (.aload_n 1, 1) := by decide +kernel
theorem dL_law_381 : decode cL_law 381 = .ok (.aload_n 0, 1) := by decide +kernel
theorem dL_law_382 : decode cL_law 382 = .ok (.iload 4, 2) := by decide +kernel
theorem dL_law_384 : decode cL_law 384 = .ok (.iconst 1, 1) := by decide +kernel
theorem dL_law_385 : decode cL_law 385 = .ok (.iadd, 1) := by decide +kernel
theorem dL_law_386 : decode cL_law 386 = .ok (.iaload, 1) := by decide +kernel
theorem dL_law_387 : decode cL_law 387 = .ok (.aload_n 0, 1) := by decide +kernel
theorem dL_law_388 : decode cL_law 388 = .ok (.iload 4, 2) := by decide +kernel
theorem dL_law_390 : decode cL_law 390 = .ok (.iconst 2, 1) := by decide +kernel
theorem dL_law_391 : decode cL_law 391 = .ok (.iadd, 1) := by decide +kernel
theorem dL_law_392 : decode cL_law 392 = .ok (.iaload, 1) := by decide +kernel
theorem dL_law_393 : decode cL_law 393 = .ok (.aload_n 3, 1) := by decide +kernel
theorem dL_law_394 : decode cL_law 394 = .ok (.invokestatic 132, 3) := by decide +kernel
theorem dL_law_397 : decode cL_law 397 = .ok (.istore 5, 2) := by decide +kernel
theorem dL_law_399 : decode cL_law 399 = .ok (.aload_n 2, 1) := by decide +kernel
theorem dL_law_400 : decode cL_law 400 = .ok (.aload_n 0, 1) := by decide +kernel
theorem dL_law_401 : decode cL_law 401 = .ok (.iload 4, 2) := by decide +kernel
theorem dL_law_403 : decode cL_law 403 = .ok (.iconst 1, 1) := by decide +kernel
theorem dL_law_404 : decode cL_law 404 = .ok (.iadd, 1) := by decide +kernel
theorem dL_law_405 : decode cL_law 405 = .ok (.iaload, 1) := by decide +kernel
theorem dL_law_406 : decode cL_law 406 = .ok (.aload_n 0, 1) := by decide +kernel
theorem dL_law_407 : decode cL_law 407 = .ok (.iload 4, 2) := by decide +kernel
theorem dL_law_409 : decode cL_law 409 = .ok (.iconst 2, 1) := by decide +kernel
theorem dL_law_410 : decode cL_law 410 = .ok (.iadd, 1) := by decide +kernel
theorem dL_law_411 : decode cL_law 411 = .ok (.iaload, 1) := by decide +kernel
theorem dL_law_412 : decode cL_law 412 = .ok (.invokevirtual 134, 3) := by decide +kernel
theorem dL_law_415 : decode cL_law 415 = .ok (.istore 6, 2) := by decide +kernel
theorem dL_law_417 : decode cL_law 417 = .ok (.goto 426, 3) := by decide +kernel
theorem dL_law_420 : decode cL_law 420 = .ok (.aload_n 1, 1) := by decide +kernel
theorem dL_law_421 : decode cL_law 421 = .ok (.aload_n 0, 1) := by decide +kernel
theorem dL_law_422 : decode cL_law 422 = .ok (.iload 4, 2) := by decide +kernel
theorem dL_law_424 : decode cL_law 424 = .ok (.iconst 1, 1) := by decide +kernel
theorem dL_law_425 : decode cL_law 425 = .ok (.iadd, 1) := by decide +kernel
theorem dL_law_426 : decode cL_law 426 = .ok (.iaload, 1) := by decide +kernel
theorem dL_law_427 : decode cL_law 427 = .ok (.aload_n 0, 1) := by decide +kernel
theorem dL_law_428 : decode cL_law 428 = .ok (.iload 4, 2) := by decide +kernel
theorem dL_law_430 : decode cL_law 430 = .ok (.iconst 2, 1) := by decide +kernel
theorem dL_law_431 : decode cL_law 431 = .ok (.iadd, 1) := by decide +kernel
theorem dL_law_432 : decode cL_law 432 = .ok (.iaload, 1) := by decide +kernel
theorem dL_law_433 : decode cL_law 433 = .ok (.aload_n 3, 1) := by decide +kernel
theorem dL_law_434 : decode cL_law 434 = .ok (.invokestatic 135, 3) := by decide +kernel
theorem dL_law_437 : decode cL_law 437 = .ok (.istore 5, 2) := by decide +kernel
theorem dL_law_439 : decode cL_law 439 = .ok (.aload_n 2, 1) := by decide +kernel
theorem dL_law_440 : decode cL_law 440 = .ok (.aload_n 0, 1) := by decide +kernel
theorem dL_law_441 : decode cL_law 441 = .ok (.iload 4, 2) := by decide +kernel
theorem dL_law_443 : decode cL_law 443 = .ok (.iconst 1, 1) := by decide +kernel
theorem dL_law_444 : decode cL_law 444 = .ok (.iadd, 1) := by decide +kernel
theorem dL_law_445 : decode cL_law 445 = .ok (.iaload, 1) := by decide +kernel
theorem dL_law_446 : decode cL_law 446 = .ok (.aload_n 0, 1) := by decide +kernel
theorem dL_law_447 : decode cL_law 447 = .ok (.iload 4, 2) := by decide +kernel
theorem dL_law_449 : decode cL_law 449 = .ok (.iconst 2, 1) := by decide +kernel
theorem dL_law_450 : decode cL_law 450 = .ok (.iadd, 1) := by decide +kernel
theorem dL_law_451 : decode cL_law 451 = .ok (.iaload, 1) := by decide +kernel
theorem dL_law_452 : decode cL_law 452 = .ok (.invokevirtual 137, 3) := by decide +kernel
theorem dL_law_455 : decode cL_law 455 = .ok (.istore 6, 2) := by decide +kernel
theorem dL_law_457 : decode cL_law 457 = .ok (.goto 386, 3) := by decide +kernel
theorem dL_law_460 : decode cL_law 460 = .ok (.aload_n 1, 1) := by decide +kernel
theorem dL_law_461 : decode cL_law 461 = .ok (.aload_n 0, 1) := by decide +kernel
theorem dL_law_462 : decode cL_law 462 = .ok (.iload 4, 2) := by decide +kernel
theorem dL_law_464 : decode cL_law 464 = .ok (.iconst 1, 1) := by decide +kernel
theorem dL_law_465 : decode cL_law 465 = .ok (.iadd, 1) := by decide +kernel
theorem dL_law_466 : decode cL_law 466 = .ok (.iaload, 1) := by decide +kernel
theorem dL_law_467 : decode cL_law 467 = .ok (.aload_n 0, 1) := by decide +kernel
theorem dL_law_468 : decode cL_law 468 = .ok (.iload 4, 2) := by decide +kernel
theorem dL_law_470 : decode cL_law 470 = .ok (.iconst 2, 1) := by decide +kernel
theorem dL_law_471 : decode cL_law 471 = .ok (.iadd, 1) := by decide +kernel
theorem dL_law_472 : decode cL_law 472 = .ok (.iaload, 1) := by decide +kernel
theorem dL_law_473 : decode cL_law 473 = .ok (.aload_n 3, 1) := by decide +kernel
theorem dL_law_474 : decode cL_law 474 = .ok (.invokestatic 138, 3) := by decide +kernel
theorem dL_law_477 : decode cL_law 477 = .ok (.istore 5, 2) := by decide +kernel
theorem dL_law_479 : decode cL_law 479 = .ok (.aload_n 2, 1) := by decide +kernel
theorem dL_law_480 : decode cL_law 480 = .ok (.aload_n 0, 1) := by decide +kernel
theorem dL_law_481 : decode cL_law 481 = .ok (.iload 4, 2) := by decide +kernel
theorem dL_law_483 : decode cL_law 483 = .ok (.iconst 1, 1) := by decide +kernel
theorem dL_law_484 : decode cL_law 484 = .ok (.iadd, 1) := by decide +kernel
theorem dL_law_485 : decode cL_law 485 = .ok (.iaload, 1) := by decide +kernel
theorem dL_law_486 : decode cL_law 486 = .ok (.aload_n 0, 1) := by decide +kernel
theorem dL_law_487 : decode cL_law 487 = .ok (.iload 4, 2) := by decide +kernel
theorem dL_law_489 : decode cL_law 489 = .ok (.iconst 2, 1) := by decide +kernel
theorem dL_law_490 : decode cL_law 490 = .ok (.iadd, 1) := by decide +kernel
theorem dL_law_491 : decode cL_law 491 = .ok (.iaload, 1) := by decide +kernel
theorem dL_law_492 : decode cL_law 492 = .ok (.invokevirtual 140, 3) := by decide +kernel
theorem dL_law_495 : decode cL_law 495 = .ok (.istore 6, 2) := by decide +kernel
theorem dL_law_497 : decode cL_law 497 = .ok (.goto 346, 3) := by decide +kernel
theorem dL_law_500 : decode cL_law 500 = .ok (.aload_n 1, 1) := by decide +kernel
theorem dL_law_501 : decode cL_law 501 = .ok (.aload_n 0, 1) := by decide +kernel
theorem dL_law_502 : decode cL_law 502 = .ok (.iload 4, 2) := by decide +kernel
theorem dL_law_504 : decode cL_law 504 = .ok (.iconst 1, 1) := by decide +kernel
theorem dL_law_505 : decode cL_law 505 = .ok (.iadd, 1) := by decide +kernel
theorem dL_law_506 : decode cL_law 506 = .ok (.iaload, 1) := by decide +kernel
theorem dL_law_507 : decode cL_law 507 = .ok (.aload_n 0, 1) := by decide +kernel
theorem dL_law_508 : decode cL_law 508 = .ok (.iload 4, 2) := by decide +kernel
theorem dL_law_510 : decode cL_law 510 = .ok (.iconst 2, 1) := by decide +kernel
theorem dL_law_511 : decode cL_law 511 = .ok (.iadd, 1) := by decide +kernel
theorem dL_law_512 : decode cL_law 512 = .ok (.iaload, 1) := by decide +kernel
theorem dL_law_513 : decode cL_law 513 = .ok (.aload_n 3, 1) := by decide +kernel
theorem dL_law_514 : decode cL_law 514 = .ok (.invokestatic 141, 3) := by decide +kernel
theorem dL_law_517 : decode cL_law 517 = .ok (.istore 5, 2) := by decide +kernel
theorem dL_law_519 : decode cL_law 519 = .ok (.aload_n 2, 1) := by decide +kernel
theorem dL_law_520 : decode cL_law 520 = .ok (.aload_n 0, 1) := by decide +kernel
theorem dL_law_521 : decode cL_law 521 = .ok (.iload 4, 2) := by decide +kernel
theorem dL_law_523 : decode cL_law 523 = .ok (.iconst 1, 1) := by decide +kernel
theorem dL_law_524 : decode cL_law 524 = .ok (.iadd, 1) := by decide +kernel
theorem dL_law_525 : decode cL_law 525 = .ok (.iaload, 1) := by decide +kernel
theorem dL_law_526 : decode cL_law 526 = .ok (.aload_n 0, 1) := by decide +kernel
theorem dL_law_527 : decode cL_law 527 = .ok (.iload 4, 2) := by decide +kernel
theorem dL_law_529 : decode cL_law 529 = .ok (.iconst 2, 1) := by decide +kernel
theorem dL_law_530 : decode cL_law 530 = .ok (.iadd, 1) := by decide +kernel
theorem dL_law_531 : decode cL_law 531 = .ok (.iaload, 1) := by decide +kernel
theorem dL_law_532 : decode cL_law 532 = .ok (.invokevirtual 143, 3) := by decide +kernel
theorem dL_law_535 : decode cL_law 535 = .ok (.istore 6, 2) := by decide +kernel
theorem dL_law_537 : decode cL_law 537 = .ok (.goto 306, 3) := by decide +kernel
theorem dL_law_540 : decode cL_law 540 = .ok (.aload_n 1, 1) := by decide +kernel
theorem dL_law_541 : decode cL_law 541 = .ok (.aload_n 0, 1) := by decide +kernel
theorem dL_law_542 : decode cL_law 542 = .ok (.iload 4, 2) := by decide +kernel
theorem dL_law_544 : decode cL_law 544 = .ok (.iconst 1, 1) := by decide +kernel
theorem dL_law_545 : decode cL_law 545 = .ok (.iadd, 1) := by decide +kernel
theorem dL_law_546 : decode cL_law 546 = .ok (.iaload, 1) := by decide +kernel
theorem dL_law_547 : decode cL_law 547 = .ok (.aload_n 3, 1) := by decide +kernel
theorem dL_law_548 : decode cL_law 548 = .ok (.invokestatic 144, 3) := by decide +kernel
theorem dL_law_551 : decode cL_law 551 = .ok (.istore 5, 2) := by decide +kernel
theorem dL_law_553 : decode cL_law 553 = .ok (.aload_n 2, 1) := by decide +kernel
theorem dL_law_554 : decode cL_law 554 = .ok (.aload_n 0, 1) := by decide +kernel
theorem dL_law_555 : decode cL_law 555 = .ok (.iload 4, 2) := by decide +kernel
theorem dL_law_557 : decode cL_law 557 = .ok (.iconst 1, 1) := by decide +kernel
theorem dL_law_558 : decode cL_law 558 = .ok (.iadd, 1) := by decide +kernel
theorem dL_law_559 : decode cL_law 559 = .ok (.iaload, 1) := by decide +kernel
theorem dL_law_560 : decode cL_law 560 = .ok (.invokevirtual 146, 3) := by decide +kernel
theorem dL_law_563 : decode cL_law 563 = .ok (.lstore 6, 2) := by decide +kernel
theorem dL_law_565 : decode cL_law 565 = .ok (.goto 278, 3) := by decide +kernel
theorem dL_law_568 : decode cL_law 568 = .ok (.aload_n 1, 1) := by decide +kernel
theorem dL_law_569 : decode cL_law 569 = .ok (.aload_n 0, 1) := by decide +kernel
theorem dL_law_570 : decode cL_law 570 = .ok (.iload 4, 2) := by decide +kernel
theorem dL_law_572 : decode cL_law 572 = .ok (.iconst 1, 1) := by decide +kernel
theorem dL_law_573 : decode cL_law 573 = .ok (.iadd, 1) := by decide +kernel
theorem dL_law_574 : decode cL_law 574 = .ok (.iaload, 1) := by decide +kernel
theorem dL_law_575 : decode cL_law 575 = .ok (.aload_n 3, 1) := by decide +kernel
theorem dL_law_576 : decode cL_law 576 = .ok (.invokestatic 147, 3) := by decide +kernel
theorem dL_law_579 : decode cL_law 579 = .ok (.istore 5, 2) := by decide +kernel
theorem dL_law_581 : decode cL_law 581 = .ok (.aload_n 2, 1) := by decide +kernel
theorem dL_law_582 : decode cL_law 582 = .ok (.aload_n 0, 1) := by decide +kernel
theorem dL_law_583 : decode cL_law 583 = .ok (.iload 4, 2) := by decide +kernel
theorem dL_law_585 : decode cL_law 585 = .ok (.iconst 1, 1) := by decide +kernel
theorem dL_law_586 : decode cL_law 586 = .ok (.iadd, 1) := by decide +kernel
theorem dL_law_587 : decode cL_law 587 = .ok (.iaload, 1) := by decide +kernel
theorem dL_law_588 : decode cL_law 588 = .ok (.invokevirtual 149, 3) := by decide +kernel
theorem dL_law_591 : decode cL_law 591 = .ok (.istore 6, 2) := by decide +kernel
theorem dL_law_593 : decode cL_law 593 = .ok (.goto 250, 3) := by decide +kernel
theorem dL_law_596 : decode cL_law 596 = .ok (.aload_n 1, 1) := by decide +kernel
theorem dL_law_597 : decode cL_law 597 = .ok (.aload_n 0, 1) := by decide +kernel
theorem dL_law_598 : decode cL_law 598 = .ok (.iload 4, 2) := by decide +kernel
theorem dL_law_600 : decode cL_law 600 = .ok (.iconst 1, 1) := by decide +kernel
theorem dL_law_601 : decode cL_law 601 = .ok (.iadd, 1) := by decide +kernel
theorem dL_law_602 : decode cL_law 602 = .ok (.iaload, 1) := by decide +kernel
theorem dL_law_603 : decode cL_law 603 = .ok (.aload_n 3, 1) := by decide +kernel
theorem dL_law_604 : decode cL_law 604 = .ok (.invokestatic 150, 3) := by decide +kernel
theorem dL_law_607 : decode cL_law 607 = .ok (.istore 5, 2) := by decide +kernel
theorem dL_law_609 : decode cL_law 609 = .ok (.aload_n 2, 1) := by decide +kernel
theorem dL_law_610 : decode cL_law 610 = .ok (.aload_n 0, 1) := by decide +kernel
theorem dL_law_611 : decode cL_law 611 = .ok (.iload 4, 2) := by decide +kernel
theorem dL_law_613 : decode cL_law 613 = .ok (.iconst 1, 1) := by decide +kernel
theorem dL_law_614 : decode cL_law 614 = .ok (.iadd, 1) := by decide +kernel
theorem dL_law_615 : decode cL_law 615 = .ok (.iaload, 1) := by decide +kernel
theorem dL_law_616 : decode cL_law 616 = .ok (.invokevirtual 152, 3) := by decide +kernel
theorem dL_law_619 : decode cL_law 619 = .ok (.astore 6, 2) := by decide +kernel
theorem dL_law_621 : decode cL_law 621 = .ok (.goto 222, 3) := by decide +kernel
theorem dL_law_624 : decode cL_law 624 = .ok (.aload_n 1, 1) := by decide +kernel
theorem dL_law_625 : decode cL_law 625 = .ok (.aload_n 0, 1) := by decide +kernel
theorem dL_law_626 : decode cL_law 626 = .ok (.iload 4, 2) := by decide +kernel
theorem dL_law_628 : decode cL_law 628 = .ok (.iconst 1, 1) := by decide +kernel
theorem dL_law_629 : decode cL_law 629 = .ok (.iadd, 1) := by decide +kernel
theorem dL_law_630 : decode cL_law 630 = .ok (.iaload, 1) := by decide +kernel
theorem dL_law_631 : decode cL_law 631 = .ok (.aload_n 3, 1) := by decide +kernel
theorem dL_law_632 : decode cL_law 632 = .ok (.invokestatic 153, 3) := by decide +kernel
theorem dL_law_635 : decode cL_law 635 = .ok (.istore 5, 2) := by decide +kernel
theorem dL_law_637 : decode cL_law 637 = .ok (.aload_n 2, 1) := by decide +kernel
theorem dL_law_638 : decode cL_law 638 = .ok (.aload_n 0, 1) := by decide +kernel
theorem dL_law_639 : decode cL_law 639 = .ok (.iload 4, 2) := by decide +kernel
theorem dL_law_641 : decode cL_law 641 = .ok (.iconst 1, 1) := by decide +kernel
theorem dL_law_642 : decode cL_law 642 = .ok (.iadd, 1) := by decide +kernel
theorem dL_law_643 : decode cL_law 643 = .ok (.iaload, 1) := by decide +kernel
theorem dL_law_644 : decode cL_law 644 = .ok (.invokevirtual 155, 3) := by decide +kernel
theorem dL_law_647 : decode cL_law 647 = .ok (.istore 6, 2) := by decide +kernel
theorem dL_law_649 : decode cL_law 649 = .ok (.goto 194, 3) := by decide +kernel
theorem dL_law_652 : decode cL_law 652 = .ok (.aload_n 1, 1) := by decide +kernel
theorem dL_law_653 : decode cL_law 653 = .ok (.aload_n 0, 1) := by decide +kernel
theorem dL_law_654 : decode cL_law 654 = .ok (.iload 4, 2) := by decide +kernel
theorem dL_law_656 : decode cL_law 656 = .ok (.iconst 1, 1) := by decide +kernel
theorem dL_law_657 : decode cL_law 657 = .ok (.iadd, 1) := by decide +kernel
theorem dL_law_658 : decode cL_law 658 = .ok (.iaload, 1) := by decide +kernel
theorem dL_law_659 : decode cL_law 659 = .ok (.aload_n 3, 1) := by decide +kernel
theorem dL_law_660 : decode cL_law 660 = .ok (.invokestatic 156, 3) := by decide +kernel
theorem dL_law_663 : decode cL_law 663 = .ok (.istore 5, 2) := by decide +kernel
theorem dL_law_665 : decode cL_law 665 = .ok (.aload_n 2, 1) := by decide +kernel
theorem dL_law_666 : decode cL_law 666 = .ok (.aload_n 0, 1) := by decide +kernel
theorem dL_law_667 : decode cL_law 667 = .ok (.iload 4, 2) := by decide +kernel
theorem dL_law_669 : decode cL_law 669 = .ok (.iconst 1, 1) := by decide +kernel
theorem dL_law_670 : decode cL_law 670 = .ok (.iadd, 1) := by decide +kernel
theorem dL_law_671 : decode cL_law 671 = .ok (.iaload, 1) := by decide +kernel
theorem dL_law_672 : decode cL_law 672 = .ok (.invokevirtual 158, 3) := by decide +kernel
theorem dL_law_675 : decode cL_law 675 = .ok (.dstore 6, 2) := by decide +kernel
theorem dL_law_677 : decode cL_law 677 = .ok (.goto 166, 3) := by decide +kernel
theorem dL_law_680 : decode cL_law 680 = .ok (.aload_n 1, 1) := by decide +kernel
theorem dL_law_681 : decode cL_law 681 = .ok (.aload_n 0, 1) := by decide +kernel
theorem dL_law_682 : decode cL_law 682 = .ok (.iload 4, 2) := by decide +kernel
theorem dL_law_684 : decode cL_law 684 = .ok (.iconst 1, 1) := by decide +kernel
theorem dL_law_685 : decode cL_law 685 = .ok (.iadd, 1) := by decide +kernel
theorem dL_law_686 : decode cL_law 686 = .ok (.iaload, 1) := by decide +kernel
theorem dL_law_687 : decode cL_law 687 = .ok (.aload_n 0, 1) := by decide +kernel
theorem dL_law_688 : decode cL_law 688 = .ok (.iload 4, 2) := by decide +kernel
theorem dL_law_690 : decode cL_law 690 = .ok (.iconst 2, 1) := by decide +kernel
theorem dL_law_691 : decode cL_law 691 = .ok (.iadd, 1) := by decide +kernel
theorem dL_law_692 : decode cL_law 692 = .ok (.iaload, 1) := by decide +kernel
theorem dL_law_693 : decode cL_law 693 = .ok (.aload_n 3, 1) := by decide +kernel
theorem dL_law_694 : decode cL_law 694 = .ok (.invokestatic 159, 3) := by decide +kernel
theorem dL_law_697 : decode cL_law 697 = .ok (.istore 5, 2) := by decide +kernel
theorem dL_law_699 : decode cL_law 699 = .ok (.aload_n 2, 1) := by decide +kernel
theorem dL_law_700 : decode cL_law 700 = .ok (.aload_n 0, 1) := by decide +kernel
theorem dL_law_701 : decode cL_law 701 = .ok (.iload 4, 2) := by decide +kernel
theorem dL_law_703 : decode cL_law 703 = .ok (.iconst 1, 1) := by decide +kernel
theorem dL_law_704 : decode cL_law 704 = .ok (.iadd, 1) := by decide +kernel
theorem dL_law_705 : decode cL_law 705 = .ok (.iaload, 1) := by decide +kernel
theorem dL_law_706 : decode cL_law 706 = .ok (.aload_n 0, 1) := by decide +kernel
theorem dL_law_707 : decode cL_law 707 = .ok (.iload 4, 2) := by decide +kernel
theorem dL_law_709 : decode cL_law 709 = .ok (.iconst 2, 1) := by decide +kernel
theorem dL_law_710 : decode cL_law 710 = .ok (.iadd, 1) := by decide +kernel
theorem dL_law_711 : decode cL_law 711 = .ok (.iaload, 1) := by decide +kernel
theorem dL_law_712 : decode cL_law 712 = .ok (.invokevirtual 161, 3) := by decide +kernel
theorem dL_law_715 : decode cL_law 715 = .ok (.istore 6, 2) := by decide +kernel
theorem dL_law_717 : decode cL_law 717 = .ok (.aload_n 2, 1) := by decide +kernel
theorem dL_law_718 : decode cL_law 718 = .ok (.invokevirtual 162, 3) := by decide +kernel
theorem dL_law_721 : decode cL_law 721 = .ok (.iload 5, 2) := by decide +kernel
theorem dL_law_723 : decode cL_law 723 = .ok (.if_icmp .eq 5, 3) := by decide +kernel
theorem dL_law_726 : decode cL_law 726 = .ok (.iconst 0, 1) := by decide +kernel
theorem dL_law_727 : decode cL_law 727 = .ok (.ireturn, 1) := by decide +kernel
theorem dL_law_728 : decode cL_law 728 = .ok (.iload 5, 2) := by decide +kernel
theorem dL_law_730 : decode cL_law 730 = .ok (.ifCond .ne 16, 3) := by decide +kernel
theorem dL_law_733 : decode cL_law 733 = .ok (.aload_n 3, 1) := by decide +kernel
theorem dL_law_734 : decode cL_law 734 = .ok (.getfield 13, 3) := by decide +kernel
theorem dL_law_737 : decode cL_law 737 = .ok (.iload 6, 2) := by decide +kernel
theorem dL_law_739 : decode cL_law 739 = .ok (.i2l, 1) := by decide +kernel
theorem dL_law_740 : decode cL_law 740 = .ok (.lcmp, 1) := by decide +kernel
theorem dL_law_741 : decode cL_law 741 = .ok (.ifCond .eq 5, 3) := by decide +kernel
theorem dL_law_744 : decode cL_law 744 = .ok (.iconst 0, 1) := by decide +kernel
theorem dL_law_745 : decode cL_law 745 = .ok (.ireturn, 1) := by decide +kernel
theorem dL_law_746 : decode cL_law 746 = .ok (.goto 97, 3) := by decide +kernel
theorem dL_law_749 : decode cL_law 749 = .ok (.aload_n 1, 1) := by decide +kernel
theorem dL_law_750 : decode cL_law 750 = .ok (.invokevirtual 165, 3) := by decide +kernel
theorem dL_law_753 : decode cL_law 753 = .ok (.pop, 1) := by decide +kernel
theorem dL_law_754 : decode cL_law 754 = .ok (.aload_n 2, 1) := by decide +kernel
theorem dL_law_755 : decode cL_law 755 = .ok (.invokevirtual 168, 3) := by decide +kernel
theorem dL_law_758 : decode cL_law 758 = .ok (.pop, 1) := by decide +kernel
theorem dL_law_759 : decode cL_law 759 = .ok (.goto 84, 3) := by decide +kernel
theorem dL_law_762 : decode cL_law 762 = .ok (.aload_n 1, 1) := by decide +kernel
theorem dL_law_763 : decode cL_law 763 = .ok (.aload_n 0, 1) := by decide +kernel
theorem dL_law_764 : decode cL_law 764 = .ok (.iload 4, 2) := by decide +kernel
theorem dL_law_766 : decode cL_law 766 = .ok (.iconst 1, 1) := by decide +kernel
theorem dL_law_767 : decode cL_law 767 = .ok (.iadd, 1) := by decide +kernel
theorem dL_law_768 : decode cL_law 768 = .ok (.iaload, 1) := by decide +kernel
theorem dL_law_769 : decode cL_law 769 = .ok (.aload_n 0, 1) := by decide +kernel
theorem dL_law_770 : decode cL_law 770 = .ok (.iload 4, 2) := by decide +kernel
theorem dL_law_772 : decode cL_law 772 = .ok (.iconst 2, 1) := by decide +kernel
theorem dL_law_773 : decode cL_law 773 = .ok (.iadd, 1) := by decide +kernel
theorem dL_law_774 : decode cL_law 774 = .ok (.iaload, 1) := by decide +kernel
theorem dL_law_775 : decode cL_law 775 = .ok (.aload_n 3, 1) := by decide +kernel
theorem dL_law_776 : decode cL_law 776 = .ok (.invokestatic 169, 3) := by decide +kernel
theorem dL_law_779 : decode cL_law 779 = .ok (.istore 5, 2) := by decide +kernel
theorem dL_law_781 : decode cL_law 781 = .ok (.aload_n 2, 1) := by decide +kernel
theorem dL_law_782 : decode cL_law 782 = .ok (.aload_n 0, 1) := by decide +kernel
theorem dL_law_783 : decode cL_law 783 = .ok (.iload 4, 2) := by decide +kernel
theorem dL_law_785 : decode cL_law 785 = .ok (.iconst 1, 1) := by decide +kernel
theorem dL_law_786 : decode cL_law 786 = .ok (.iadd, 1) := by decide +kernel
theorem dL_law_787 : decode cL_law 787 = .ok (.iaload, 1) := by decide +kernel
theorem dL_law_788 : decode cL_law 788 = .ok (.aload_n 0, 1) := by decide +kernel
theorem dL_law_789 : decode cL_law 789 = .ok (.iload 4, 2) := by decide +kernel
theorem dL_law_791 : decode cL_law 791 = .ok (.iconst 2, 1) := by decide +kernel
theorem dL_law_792 : decode cL_law 792 = .ok (.iadd, 1) := by decide +kernel
theorem dL_law_793 : decode cL_law 793 = .ok (.iaload, 1) := by decide +kernel
theorem dL_law_794 : decode cL_law 794 = .ok (.invokevirtual 171, 3) := by decide +kernel
theorem dL_law_797 : decode cL_law 797 = .ok (.istore 6, 2) := by decide +kernel
theorem dL_law_799 : decode cL_law 799 = .ok (.goto 44, 3) := by decide +kernel
theorem dL_law_802 : decode cL_law 802 = .ok (.aload_n 1, 1) := by decide +kernel
theorem dL_law_803 : decode cL_law 803 = .ok (.aload_n 0, 1) := by decide +kernel
theorem dL_law_804 : decode cL_law 804 = .ok (.iload 4, 2) := by decide +kernel
theorem dL_law_806 : decode cL_law 806 = .ok (.iconst 1, 1) := by decide +kernel
theorem dL_law_807 : decode cL_law 807 = .ok (.iadd, 1) := by decide +kernel
theorem dL_law_808 : decode cL_law 808 = .ok (.iaload, 1) := by decide +kernel
theorem dL_law_809 : decode cL_law 809 = .ok (.aload_n 3, 1) := by decide +kernel
theorem dL_law_810 : decode cL_law 810 = .ok (.invokestatic 172, 3) := by decide +kernel
theorem dL_law_813 : decode cL_law 813 = .ok (.istore 5, 2) := by decide +kernel
theorem dL_law_815 : decode cL_law 815 = .ok (.aload_n 2, 1) := by decide +kernel
theorem dL_law_816 : decode cL_law 816 = .ok (.aload_n 0, 1) := by decide +kernel
theorem dL_law_817 : decode cL_law 817 = .ok (.iload 4, 2) := by decide +kernel
theorem dL_law_819 : decode cL_law 819 = .ok (.iconst 1, 1) := by decide +kernel
theorem dL_law_820 : decode cL_law 820 = .ok (.iadd, 1) := by decide +kernel
theorem dL_law_821 : decode cL_law 821 = .ok (.iaload, 1) := by decide +kernel
theorem dL_law_822 : decode cL_law 822 = .ok (.invokevirtual 174, 3) := by decide +kernel
theorem dL_law_825 : decode cL_law 825 = .ok (.istore 6, 2) := by decide +kernel
theorem dL_law_827 : decode cL_law 827 = .ok (.goto 16, 3) := by decide +kernel
theorem dL_law_830 : decode cL_law 830 = .ok (.aload_n 1, 1) := by decide +kernel
theorem dL_law_831 : decode cL_law 831 = .ok (.invokevirtual 175, 3) := by decide +kernel
theorem dL_law_834 : decode cL_law 834 = .ok (.pop2, 1) := by decide +kernel
theorem dL_law_835 : decode cL_law 835 = .ok (.aload_n 2, 1) := by decide +kernel
theorem dL_law_836 : decode cL_law 836 = .ok (.invokevirtual 179, 3) := by decide +kernel
theorem dL_law_839 : decode cL_law 839 = .ok (.pop2, 1) := by decide +kernel
theorem dL_law_840 : decode cL_law 840 = .ok (.goto 3, 3) := by decide +kernel
theorem dL_law_843 : decode cL_law 843 = .ok (.iinc 4 4, 3) := by decide +kernel
theorem dL_law_846 : decode cL_law 846 = .ok (.goto (-819), 3) := by decide +kernel
theorem dL_law_849 : decode cL_law 849 = .ok (.iconst 1, 1) := by decide +kernel
theorem dL_law_850 : decode cL_law 850 = .ok (.ireturn, 1) := by decide +kernel
def f_L_law_27 (n : Nat) (a0 : Nat) (a1 : Nat) (a2 : Nat) (a3 : Nat) (i4 : Int32) (M : zM) : Option (Unit × zM) := match n with
  | 0 => none
  | n + 1 =>
    (gL M a0).bind fun v1 =>
    if ((v1 - ((4 : Int32)))) < i4 then
    some ((), M)
    else
    (lA 0 M a0 i4).bind fun v2 =>
    if ((v2 &&& ((31 : Int32)))) = 0 then
    (lA 0 M a0 ((i4 + ((1 : Int32))))).bind fun v148 =>
    (lA 0 M a0 ((i4 + ((2 : Int32))))).bind fun v149 =>
    (f_L_lay a1 v148 v149 a3 M).bind fun r150 =>
    (lA 0 r150.2 a0 ((i4 + ((1 : Int32))))).bind fun v151 =>
    (lA 0 r150.2 a0 ((i4 + ((2 : Int32))))).bind fun v152 =>
    if mK r150.2 a2 = 13 then
    (f_X7_lay a2 v151 v152 r150.2).bind fun r153 =>
    f_L_law_27 n a0 a1 a2 a3 ((i4 + (4 : Int32))) r153.2
    else none
    else
    if ((v2 &&& ((31 : Int32)))) = 1 then
    (f_L_draw a1 a3 M).bind fun r145 =>
    if mK r145.2 a2 = 13 then
    (f_X7_draw a2 r145.2).bind fun r146 =>
    f_L_law_27 n a0 a1 a2 a3 ((i4 + (4 : Int32))) r146.2
    else none
    else
    if ((v2 &&& ((31 : Int32)))) = 2 then
    (lA 0 M a0 ((i4 + ((1 : Int32))))).bind fun v140 =>
    (f_L_discard a1 v140 a3 M).bind fun r141 =>
    (lA 0 r141.2 a0 ((i4 + ((1 : Int32))))).bind fun v142 =>
    if mK r141.2 a2 = 13 then
    (f_X7_discard a2 v142 r141.2).bind fun r143 =>
    f_L_law_27 n a0 a1 a2 a3 ((i4 + (4 : Int32))) r143.2
    else none
    else
    if ((v2 &&& ((31 : Int32)))) = 3 then
    (lA 0 M a0 ((i4 + ((1 : Int32))))).bind fun v135 =>
    (f_L_call a1 v135 a3 M).bind fun r136 =>
    (lA 0 r136.2 a0 ((i4 + ((1 : Int32))))).bind fun v137 =>
    if mK r136.2 a2 = 13 then
    (f_X7_call a2 v137 r136.2).bind fun r138 =>
    f_L_law_27 n a0 a1 a2 a3 ((i4 + (4 : Int32))) r138.2
    else none
    else
    if ((v2 &&& ((31 : Int32)))) = 4 then
    (lA 0 M a0 ((i4 + ((1 : Int32))))).bind fun v126 =>
    (lA 0 M a0 ((i4 + ((2 : Int32))))).bind fun v127 =>
    (lA 0 M a0 ((i4 + ((3 : Int32))))).bind fun v128 =>
    (f_L_claim a1 v126 v127 v128 a3 M).bind fun r129 =>
    (lA 0 r129.2 a0 ((i4 + ((1 : Int32))))).bind fun v130 =>
    (lA 0 r129.2 a0 ((i4 + ((2 : Int32))))).bind fun v131 =>
    (lA 0 r129.2 a0 ((i4 + ((3 : Int32))))).bind fun v132 =>
    if mK r129.2 a2 = 13 then
    (f_X7_claim a2 v130 v131 v132 r129.2).bind fun r133 =>
    f_L_law_27 n a0 a1 a2 a3 ((i4 + (4 : Int32))) r133.2
    else none
    else
    if ((v2 &&& ((31 : Int32)))) = 5 then
    (lA 0 M a0 ((i4 + ((1 : Int32))))).bind fun v121 =>
    (f_L_four a1 v121 a3 M).bind fun r122 =>
    (lA 0 r122.2 a0 ((i4 + ((1 : Int32))))).bind fun v123 =>
    if mK r122.2 a2 = 13 then
    (f_X7_four a2 v123 r122.2).bind fun r124 =>
    f_L_law_27 n a0 a1 a2 a3 ((i4 + (4 : Int32))) r124.2
    else none
    else
    if ((v2 &&& ((31 : Int32)))) = 6 then
    (f_L_pass a1 a3 M).bind fun r118 =>
    if mK r118.2 a2 = 13 then
    (f_X7_pass a2 r118.2).bind fun r119 =>
    f_L_law_27 n a0 a1 a2 a3 ((i4 + (4 : Int32))) r119.2
    else none
    else
    if ((v2 &&& ((31 : Int32)))) = 7 then
    (lA 0 M a0 ((i4 + ((1 : Int32))))).bind fun v113 =>
    (f_L_win a1 v113 a3 M).bind fun r114 =>
    (lA 0 r114.2 a0 ((i4 + ((1 : Int32))))).bind fun v115 =>
    if mK r114.2 a2 = 13 then
    (f_X7_win a2 v115 r114.2).bind fun r116 =>
    f_L_law_27 n a0 a1 a2 a3 ((i4 + (4 : Int32))) r116.2
    else none
    else
    if ((v2 &&& ((31 : Int32)))) = 8 then
    (lA 0 M a0 ((i4 + ((1 : Int32))))).bind fun v106 =>
    (lA 0 M a0 ((i4 + ((2 : Int32))))).bind fun v107 =>
    (f_L_has a1 v106 v107 a3 M).bind fun r108 =>
    (lA 0 r108.2 a0 ((i4 + ((1 : Int32))))).bind fun v109 =>
    (lA 0 r108.2 a0 ((i4 + ((2 : Int32))))).bind fun v110 =>
    if mK r108.2 a2 = 13 then
    (f_X7_has a2 v109 v110 r108.2).bind fun r111 =>
    f_L_law_27 n a0 a1 a2 a3 ((i4 + (4 : Int32))) r111.2
    else none
    else
    if ((v2 &&& ((31 : Int32)))) = 9 then
    (lA 0 M a0 ((i4 + ((1 : Int32))))).bind fun v99 =>
    (lA 0 M a0 ((i4 + ((2 : Int32))))).bind fun v100 =>
    (f_L_ofPlayer a1 v99 v100 a3 M).bind fun r101 =>
    (lA 0 r101.2 a0 ((i4 + ((1 : Int32))))).bind fun v102 =>
    (lA 0 r101.2 a0 ((i4 + ((2 : Int32))))).bind fun v103 =>
    if mK r101.2 a2 = 13 then
    (f_X7_ofPlayer a2 v102 v103 r101.2).bind fun r104 =>
    f_L_law_27 n a0 a1 a2 a3 ((i4 + (4 : Int32))) r104.2
    else none
    else
    if ((v2 &&& ((31 : Int32)))) = 10 then
    (lA 0 M a0 ((i4 + ((1 : Int32))))).bind fun v92 =>
    (lA 0 M a0 ((i4 + ((2 : Int32))))).bind fun v93 =>
    (f_L_ofSet a1 v92 v93 a3 M).bind fun r94 =>
    (lA 0 r94.2 a0 ((i4 + ((1 : Int32))))).bind fun v95 =>
    (lA 0 r94.2 a0 ((i4 + ((2 : Int32))))).bind fun v96 =>
    if mK r94.2 a2 = 13 then
    (f_X7_ofSet a2 v95 v96 r94.2).bind fun r97 =>
    f_L_law_27 n a0 a1 a2 a3 ((i4 + (4 : Int32))) r97.2
    else none
    else
    if ((v2 &&& ((31 : Int32)))) = 11 then
    (lA 0 M a0 ((i4 + ((1 : Int32))))).bind fun v85 =>
    (lA 0 M a0 ((i4 + ((2 : Int32))))).bind fun v86 =>
    (f_L_river a1 v85 v86 a3 M).bind fun r87 =>
    (lA 0 r87.2 a0 ((i4 + ((1 : Int32))))).bind fun v88 =>
    (lA 0 r87.2 a0 ((i4 + ((2 : Int32))))).bind fun v89 =>
    if mK r87.2 a2 = 13 then
    (f_X7_river a2 v88 v89 r87.2).bind fun r90 =>
    f_L_law_27 n a0 a1 a2 a3 ((i4 + (4 : Int32))) r90.2
    else none
    else
    if ((v2 &&& ((31 : Int32)))) = 12 then
    (lA 0 M a0 ((i4 + ((1 : Int32))))).bind fun v80 =>
    (f_L_waits a1 v80 a3 M).bind fun r81 =>
    (lA 0 r81.2 a0 ((i4 + ((1 : Int32))))).bind fun v82 =>
    if mK r81.2 a2 = 13 then
    (f_X7_waits a2 v82 r81.2).bind fun r83 =>
    f_L_law_27 n a0 a1 a2 a3 ((i4 + (4 : Int32))) r83.2
    else none
    else
    if ((v2 &&& ((31 : Int32)))) = 13 then
    (lA 0 M a0 ((i4 + ((1 : Int32))))).bind fun v75 =>
    (f_L_seen a1 v75 a3 M).bind fun r76 =>
    (lA 0 r76.2 a0 ((i4 + ((1 : Int32))))).bind fun v77 =>
    if mK r76.2 a2 = 13 then
    (f_X7_seen a2 v77 r76.2).bind fun r78 =>
    f_L_law_27 n a0 a1 a2 a3 ((i4 + (4 : Int32))) r78.2
    else none
    else
    if ((v2 &&& ((31 : Int32)))) = 14 then
    (lA 0 M a0 ((i4 + ((1 : Int32))))).bind fun v70 =>
    (f_L_hand a1 v70 a3 M).bind fun r71 =>
    (lA 0 r71.2 a0 ((i4 + ((1 : Int32))))).bind fun v72 =>
    if mK r71.2 a2 = 13 then
    (f_X7_hand a2 v72 r71.2).bind fun r73 =>
    f_L_law_27 n a0 a1 a2 a3 ((i4 + (4 : Int32))) r73.2
    else none
    else
    if ((v2 &&& ((31 : Int32)))) = 15 then
    (lA 0 M a0 ((i4 + ((1 : Int32))))).bind fun v65 =>
    (f_L_many a1 v65 a3 M).bind fun r66 =>
    (lA 0 r66.2 a0 ((i4 + ((1 : Int32))))).bind fun v67 =>
    if mK r66.2 a2 = 13 then
    (f_X7_many a2 v67 r66.2).bind fun r68 =>
    f_L_law_27 n a0 a1 a2 a3 ((i4 + (4 : Int32))) r68.2
    else none
    else
    if ((v2 &&& ((31 : Int32)))) = 16 then
    (lA 0 M a0 ((i4 + ((1 : Int32))))).bind fun v60 =>
    (f_L_lead a1 v60 a3 M).bind fun r61 =>
    (lA 0 r61.2 a0 ((i4 + ((1 : Int32))))).bind fun v62 =>
    if mK r61.2 a2 = 13 then
    (f_X7_lead a2 v62 r61.2).bind fun r63 =>
    f_L_law_27 n a0 a1 a2 a3 ((i4 + (4 : Int32))) r63.2
    else none
    else
    if ((v2 &&& ((31 : Int32)))) = 17 then
    (lA 0 M a0 ((i4 + ((1 : Int32))))).bind fun v47 =>
    (lA 0 M a0 ((i4 + ((2 : Int32))))).bind fun v48 =>
    (f_L_worth a1 v47 v48 a3 M).bind fun r49 =>
    (lA 0 r49.2 a0 ((i4 + ((1 : Int32))))).bind fun v50 =>
    (lA 0 r49.2 a0 ((i4 + ((2 : Int32))))).bind fun v51 =>
    if mK r49.2 a2 = 13 then
    (f_X7_worth a2 v50 v51 r49.2).bind fun r52 =>
    if mK r52.2 a2 = 13 then
    (f_X7_thrown a2 r52.2).bind fun r54 =>
    if r54.1 = r49.1 then
    if r49.1 = 0 then
    (gJ 10 0 r54.2 a3).bind fun v56 =>
    if ((lg_cmp v56 ((r52.1.toInt64)))) = 0 then
    f_L_law_27 n a0 a1 a2 a3 ((i4 + (4 : Int32))) r54.2
    else
    none
    else
    f_L_law_27 n a0 a1 a2 a3 ((i4 + (4 : Int32))) r54.2
    else
    none
    else none
    else none
    else
    if ((v2 &&& ((31 : Int32)))) = 18 then
    if mK M a1 = 9 then
    (f_X3_best a1 M).bind fun r43 =>
    if mK r43.2 a2 = 13 then
    (f_X7_best a2 r43.2).bind fun r45 =>
    f_L_law_27 n a0 a1 a2 a3 ((i4 + (4 : Int32))) r45.2
    else none
    else none
    else
    if ((v2 &&& ((31 : Int32)))) = 19 then
    (lA 0 M a0 ((i4 + ((1 : Int32))))).bind fun v36 =>
    (lA 0 M a0 ((i4 + ((2 : Int32))))).bind fun v37 =>
    (f_L_isSafe a1 v36 v37 a3 M).bind fun r38 =>
    (lA 0 r38.2 a0 ((i4 + ((1 : Int32))))).bind fun v39 =>
    (lA 0 r38.2 a0 ((i4 + ((2 : Int32))))).bind fun v40 =>
    if mK r38.2 a2 = 13 then
    (f_X7_isSafe a2 v39 v40 r38.2).bind fun r41 =>
    f_L_law_27 n a0 a1 a2 a3 ((i4 + (4 : Int32))) r41.2
    else none
    else
    if ((v2 &&& ((31 : Int32)))) = 20 then
    (lA 0 M a0 ((i4 + ((1 : Int32))))).bind fun v31 =>
    (f_L_outs a1 v31 a3 M).bind fun r32 =>
    (lA 0 r32.2 a0 ((i4 + ((1 : Int32))))).bind fun v33 =>
    if mK r32.2 a2 = 13 then
    (f_X7_outs a2 v33 r32.2).bind fun r34 =>
    f_L_law_27 n a0 a1 a2 a3 ((i4 + (4 : Int32))) r34.2
    else none
    else
    if ((v2 &&& ((31 : Int32)))) = 21 then
    if mK M a1 = 9 then
    xn (f_X3_digest a1 M) fun w25 Mw25 =>
    if mK Mw25 a2 = 13 then
    (f_X7_digest a2 Mw25).bind fun r29 =>
    f_L_law_27 n a0 a1 a2 a3 ((i4 + (4 : Int32))) r29.2
    else none
    else none
    else
    f_L_law_27 n a0 a1 a2 a3 ((i4 + (4 : Int32))) M
set_option maxRecDepth 20000 in
set_option maxHeartbeats 4000000 in
theorem s_L_law_27 {L : zL} {X : zX} {M0 : zM} {N : Nat × Nat} {Q : State → Prop} {r : Unit × zM} (hq : ∀ {M : zM} {pc : Nat} {ls : List (Nat × Value)}, M = r.2 → decode cL_law pc = .ok (.ireturn, 1) → V L X yL_law cL_law 8 (some FieldType.boolean) 135 M0 N Q M pc ls [.int 1]) {n : Nat} {a0 : Nat} {a1 : Nat} {a2 : Nat} {a3 : Nat} {i4 : Int32} {M : zM} : f_L_law_27 n a0 a1 a2 a3 i4 M = some r → V L X yL_law cL_law 8 (some FieldType.boolean) 135 M0 N Q M 27 [(0, .ref (zad L (a0))), (1, .ref (zad L (a1))), (2, .ref (zad L (a2))), (3, .ref (zad L (a3))), (4, .int (i4))] [] := by
  induction n generalizing a0 a1 a2 a3 i4 M with
  | zero =>
    intro h
    rw [f_L_law_27] at h
    cases h
  | succ n ih0 =>
    intro h
    have ih : ∀ (a0 : Nat) (a1 : Nat) (a2 : Nat) (a3 : Nat) (i4 : Int32) (M : zM), f_L_law_27 n a0 a1 a2 a3 i4 M = some r → V L X yL_law cL_law 8 (some FieldType.boolean) 135 M0 N Q M 27 [(0, .ref (zad L (a0))), (1, .ref (zad L (a1))), (2, .ref (zad L (a2))), (3, .ref (zad L (a3))), (4, .int (i4))] [] := fun a0 a1 a2 a3 i4 M h => ih0 h
    rw [f_L_law_27] at h
    refine V_iload dL_law_27 4 rfl ?_
    refine V_aload_n dL_law_29 rfl 0 rfl ?_
    replace h := ob h
    obtain ⟨v1, e_v1, h⟩ := h
    refine V_alen e_v1 dL_law_30 ?_
    refine V_pc (pc' := 31) rfl ?_
    refine V_iconst (v := 4) dL_law_31 (by decide) ?_
    refine V_isub dL_law_32 ?_
    refine V_icmp_gt (tgt := 849) dL_law_33 (by decide) (fun c155 => ?_) (fun c155 => ?_)
    · replace h := (oi h).1 c155
      refine V_iconst (v := 1) dL_law_849 (by decide) ?_
      obtain rfl := Option.some.inj h
      exact hq rfl dL_law_850
    · replace h := (oi h).2 c155
      refine V_aload_n dL_law_36 rfl 0 rfl ?_
      refine V_iload dL_law_37 4 rfl ?_
      replace h := ob h
      obtain ⟨v2, e_v2, h⟩ := h
      refine V_iald e_v2 dL_law_39 ?_
      refine V_pc (pc' := 40) rfl ?_
      refine V_bipush (v := 31) dL_law_40 (by decide) ?_
      refine V_iand dL_law_42 ?_
      by_cases c3 : ((v2 &&& ((31 : Int32)))) = 0
      · replace h := (oi h).1 c3
        refine V_tabIn (off := 101) (tgt := 144) dL_law_43 (by rw [c3]; decide) (by rw [c3]; decide) (by rw [c3]; decide) (by decide) ?_
        refine V_aload_n dL_law_144 rfl 1 rfl ?_
        refine V_aload_n dL_law_145 rfl 0 rfl ?_
        refine V_iload dL_law_146 4 rfl ?_
        refine V_iconst (v := 1) dL_law_148 (by decide) ?_
        refine V_iadd dL_law_149 ?_
        replace h := ob h
        obtain ⟨v148, e_v148, h⟩ := h
        refine V_iald e_v148 dL_law_150 ?_
        refine V_pc (pc' := 151) rfl ?_
        refine V_aload_n dL_law_151 rfl 0 rfl ?_
        refine V_iload dL_law_152 4 rfl ?_
        refine V_iconst (v := 2) dL_law_154 (by decide) ?_
        refine V_iadd dL_law_155 ?_
        replace h := ob h
        obtain ⟨v149, e_v149, h⟩ := h
        refine V_iald e_v149 dL_law_156 ?_
        refine V_pc (pc' := 157) rfl ?_
        refine V_aload_n dL_law_157 rfl 3 rfl ?_
        replace h := ob h
        obtain ⟨r150, e_r150, h⟩ := h
        refine V_callSW_I (As := [.ref (zad L (a1)), .int (v148), .int (v149), .ref (zad L (a3))]) (rest := []) (c_L_lay e_r150) zc_L_lay rfl (by decide) zm_L_102 (Nat.le_of_ble_eq_true rfl) rfl dL_law_158 ?_
        refine V_pc (pc' := 161) rfl ?_
        refine V_istore (ls' := [(5, .int (r150.1)), (0, .ref (zad L (a0))), (1, .ref (zad L (a1))), (2, .ref (zad L (a2))), (3, .ref (zad L (a3))), (4, .int (i4))]) dL_law_161 (by decide) rfl ?_
        refine V_aload_n dL_law_163 rfl 3 rfl ?_
        refine V_aload_n dL_law_164 rfl 1 rfl ?_
        refine V_iload dL_law_165 5 rfl ?_
        refine V_iconst (v := 1) dL_law_167 (by decide) ?_
        refine V_iadd dL_law_168 ?_
        replace h := ob h
        obtain ⟨v151, e_v151, h⟩ := h
        refine V_iald e_v151 dL_law_169 ?_
        refine V_pc (pc' := 170) rfl ?_
        refine V_aload_n dL_law_170 rfl 1 rfl ?_
        refine V_iload dL_law_171 5 rfl ?_
        refine V_iconst (v := 2) dL_law_173 (by decide) ?_
        refine V_iadd dL_law_174 ?_
        replace h := ob h
        obtain ⟨v152, e_v152, h⟩ := h
        refine V_iald e_v152 dL_law_175 ?_
        refine V_pc (pc' := 176) rfl ?_
        replace h := ox h
        obtain ⟨c154, h⟩ := h
        replace h := ob h
        obtain ⟨r153, e_r153, h⟩ := h
        refine V_callV_I (As := [.int (v151), .int (v152)]) (rest := []) (c_X7_lay e_r153) zc_X7_lay rfl (by decide) rfl (by decide) (Or.inl c154) zm_L_107 (Nat.le_of_ble_eq_true rfl) rfl dL_law_176 ?_
        refine V_pc (pc' := 179) rfl ?_
        refine V_istore (ls' := [(6, .int (r153.1)), (5, .int (r150.1)), (0, .ref (zad L (a0))), (1, .ref (zad L (a1))), (2, .ref (zad L (a2))), (3, .ref (zad L (a3))), (4, .int (i4))]) dL_law_179 (by decide) rfl ?_
        refine V_goto (tgt := 843) dL_law_181 (by decide) ?_
        refine V_iinc (v := i4 + (4 : Int32)) (ls' := [(4, .int ((i4 + (4 : Int32)))), (6, .int (r153.1)), (5, .int (r150.1)), (0, .ref (zad L (a0))), (1, .ref (zad L (a1))), (2, .ref (zad L (a2))), (3, .ref (zad L (a3)))]) dL_law_843 6 rfl (by rfl) (by decide) rfl ?_
        refine V_goto (tgt := 27) dL_law_846 (by decide) ?_
        refine V_sub [3, 4, 5, 6, 0] rfl ?_
        exact ih _ _ _ _ _ _ h
      · replace h := (oi h).2 c3
        by_cases c4 : ((v2 &&& ((31 : Int32)))) = 1
        · replace h := (oi h).1 c4
          refine V_tabIn (off := 141) (tgt := 184) dL_law_43 (by rw [c4]; decide) (by rw [c4]; decide) (by rw [c4]; decide) (by decide) ?_
          refine V_aload_n dL_law_184 rfl 1 rfl ?_
          refine V_aload_n dL_law_185 rfl 3 rfl ?_
          replace h := ob h
          obtain ⟨r145, e_r145, h⟩ := h
          refine V_callSW_I (As := [.ref (zad L (a1)), .ref (zad L (a3))]) (rest := []) (c_L_draw e_r145) zc_L_draw rfl (by decide) zm_L_108 (Nat.le_of_ble_eq_true rfl) rfl dL_law_186 ?_
          refine V_pc (pc' := 189) rfl ?_
          refine V_istore (ls' := [(5, .int (r145.1)), (0, .ref (zad L (a0))), (1, .ref (zad L (a1))), (2, .ref (zad L (a2))), (3, .ref (zad L (a3))), (4, .int (i4))]) dL_law_189 (by decide) rfl ?_
          refine V_aload_n dL_law_191 rfl 3 rfl ?_
          replace h := ox h
          obtain ⟨c147, h⟩ := h
          replace h := ob h
          obtain ⟨r146, e_r146, h⟩ := h
          refine V_callV_I (As := []) (rest := []) (c_X7_draw e_r146) zc_X7_draw rfl (by decide) rfl (by decide) (Or.inl c147) zm_L_111 (Nat.le_of_ble_eq_true rfl) rfl dL_law_192 ?_
          refine V_pc (pc' := 195) rfl ?_
          refine V_istore (ls' := [(6, .int (r146.1)), (5, .int (r145.1)), (0, .ref (zad L (a0))), (1, .ref (zad L (a1))), (2, .ref (zad L (a2))), (3, .ref (zad L (a3))), (4, .int (i4))]) dL_law_195 (by decide) rfl ?_
          refine V_goto (tgt := 843) dL_law_197 (by decide) ?_
          refine V_iinc (v := i4 + (4 : Int32)) (ls' := [(4, .int ((i4 + (4 : Int32)))), (6, .int (r146.1)), (5, .int (r145.1)), (0, .ref (zad L (a0))), (1, .ref (zad L (a1))), (2, .ref (zad L (a2))), (3, .ref (zad L (a3)))]) dL_law_843 6 rfl (by rfl) (by decide) rfl ?_
          refine V_goto (tgt := 27) dL_law_846 (by decide) ?_
          refine V_sub [3, 4, 5, 6, 0] rfl ?_
          exact ih _ _ _ _ _ _ h
        · replace h := (oi h).2 c4
          by_cases c5 : ((v2 &&& ((31 : Int32)))) = 2
          · replace h := (oi h).1 c5
            refine V_tabIn (off := 157) (tgt := 200) dL_law_43 (by rw [c5]; decide) (by rw [c5]; decide) (by rw [c5]; decide) (by decide) ?_
            refine V_aload_n dL_law_200 rfl 1 rfl ?_
            refine V_aload_n dL_law_201 rfl 0 rfl ?_
            refine V_iload dL_law_202 4 rfl ?_
            refine V_iconst (v := 1) dL_law_204 (by decide) ?_
            refine V_iadd dL_law_205 ?_
            replace h := ob h
            obtain ⟨v140, e_v140, h⟩ := h
            refine V_iald e_v140 dL_law_206 ?_
            refine V_pc (pc' := 207) rfl ?_
            refine V_aload_n dL_law_207 rfl 3 rfl ?_
            replace h := ob h
            obtain ⟨r141, e_r141, h⟩ := h
            refine V_callSW_I (As := [.ref (zad L (a1)), .int (v140), .ref (zad L (a3))]) (rest := []) (c_L_discard e_r141) zc_L_discard rfl (by decide) zm_L_112 (Nat.le_of_ble_eq_true rfl) rfl dL_law_208 ?_
            refine V_pc (pc' := 211) rfl ?_
            refine V_istore (ls' := [(5, .int (r141.1)), (0, .ref (zad L (a0))), (1, .ref (zad L (a1))), (2, .ref (zad L (a2))), (3, .ref (zad L (a3))), (4, .int (i4))]) dL_law_211 (by decide) rfl ?_
            refine V_aload_n dL_law_213 rfl 3 rfl ?_
            refine V_aload_n dL_law_214 rfl 1 rfl ?_
            refine V_iload dL_law_215 5 rfl ?_
            refine V_iconst (v := 1) dL_law_217 (by decide) ?_
            refine V_iadd dL_law_218 ?_
            replace h := ob h
            obtain ⟨v142, e_v142, h⟩ := h
            refine V_iald e_v142 dL_law_219 ?_
            refine V_pc (pc' := 220) rfl ?_
            replace h := ox h
            obtain ⟨c144, h⟩ := h
            replace h := ob h
            obtain ⟨r143, e_r143, h⟩ := h
            refine V_callV_I (As := [.int (v142)]) (rest := []) (c_X7_discard e_r143) zc_X7_discard rfl (by decide) rfl (by decide) (Or.inl c144) zm_L_115 (Nat.le_of_ble_eq_true rfl) rfl dL_law_220 ?_
            refine V_pc (pc' := 223) rfl ?_
            refine V_istore (ls' := [(6, .int (r143.1)), (5, .int (r141.1)), (0, .ref (zad L (a0))), (1, .ref (zad L (a1))), (2, .ref (zad L (a2))), (3, .ref (zad L (a3))), (4, .int (i4))]) dL_law_223 (by decide) rfl ?_
            refine V_goto (tgt := 843) dL_law_225 (by decide) ?_
            refine V_iinc (v := i4 + (4 : Int32)) (ls' := [(4, .int ((i4 + (4 : Int32)))), (6, .int (r143.1)), (5, .int (r141.1)), (0, .ref (zad L (a0))), (1, .ref (zad L (a1))), (2, .ref (zad L (a2))), (3, .ref (zad L (a3)))]) dL_law_843 6 rfl (by rfl) (by decide) rfl ?_
            refine V_goto (tgt := 27) dL_law_846 (by decide) ?_
            refine V_sub [3, 4, 5, 6, 0] rfl ?_
            exact ih _ _ _ _ _ _ h
          · replace h := (oi h).2 c5
            by_cases c6 : ((v2 &&& ((31 : Int32)))) = 3
            · replace h := (oi h).1 c6
              refine V_tabIn (off := 185) (tgt := 228) dL_law_43 (by rw [c6]; decide) (by rw [c6]; decide) (by rw [c6]; decide) (by decide) ?_
              refine V_aload_n dL_law_228 rfl 1 rfl ?_
              refine V_aload_n dL_law_229 rfl 0 rfl ?_
              refine V_iload dL_law_230 4 rfl ?_
              refine V_iconst (v := 1) dL_law_232 (by decide) ?_
              refine V_iadd dL_law_233 ?_
              replace h := ob h
              obtain ⟨v135, e_v135, h⟩ := h
              refine V_iald e_v135 dL_law_234 ?_
              refine V_pc (pc' := 235) rfl ?_
              refine V_aload_n dL_law_235 rfl 3 rfl ?_
              replace h := ob h
              obtain ⟨r136, e_r136, h⟩ := h
              refine V_callSW_I (As := [.ref (zad L (a1)), .int (v135), .ref (zad L (a3))]) (rest := []) (c_L_call e_r136) zc_L_call rfl (by decide) zm_L_116 (Nat.le_of_ble_eq_true rfl) rfl dL_law_236 ?_
              refine V_pc (pc' := 239) rfl ?_
              refine V_istore (ls' := [(5, .int (r136.1)), (0, .ref (zad L (a0))), (1, .ref (zad L (a1))), (2, .ref (zad L (a2))), (3, .ref (zad L (a3))), (4, .int (i4))]) dL_law_239 (by decide) rfl ?_
              refine V_aload_n dL_law_241 rfl 3 rfl ?_
              refine V_aload_n dL_law_242 rfl 1 rfl ?_
              refine V_iload dL_law_243 5 rfl ?_
              refine V_iconst (v := 1) dL_law_245 (by decide) ?_
              refine V_iadd dL_law_246 ?_
              replace h := ob h
              obtain ⟨v137, e_v137, h⟩ := h
              refine V_iald e_v137 dL_law_247 ?_
              refine V_pc (pc' := 248) rfl ?_
              replace h := ox h
              obtain ⟨c139, h⟩ := h
              replace h := ob h
              obtain ⟨r138, e_r138, h⟩ := h
              refine V_callV_I (As := [.int (v137)]) (rest := []) (c_X7_call e_r138) zc_X7_call rfl (by decide) rfl (by decide) (Or.inl c139) zm_L_118 (Nat.le_of_ble_eq_true rfl) rfl dL_law_248 ?_
              refine V_pc (pc' := 251) rfl ?_
              refine V_istore (ls' := [(6, .int (r138.1)), (5, .int (r136.1)), (0, .ref (zad L (a0))), (1, .ref (zad L (a1))), (2, .ref (zad L (a2))), (3, .ref (zad L (a3))), (4, .int (i4))]) dL_law_251 (by decide) rfl ?_
              refine V_goto (tgt := 843) dL_law_253 (by decide) ?_
              refine V_iinc (v := i4 + (4 : Int32)) (ls' := [(4, .int ((i4 + (4 : Int32)))), (6, .int (r138.1)), (5, .int (r136.1)), (0, .ref (zad L (a0))), (1, .ref (zad L (a1))), (2, .ref (zad L (a2))), (3, .ref (zad L (a3)))]) dL_law_843 6 rfl (by rfl) (by decide) rfl ?_
              refine V_goto (tgt := 27) dL_law_846 (by decide) ?_
              refine V_sub [3, 4, 5, 6, 0] rfl ?_
              exact ih _ _ _ _ _ _ h
            · replace h := (oi h).2 c6
              by_cases c7 : ((v2 &&& ((31 : Int32)))) = 4
              · replace h := (oi h).1 c7
                refine V_tabIn (off := 213) (tgt := 256) dL_law_43 (by rw [c7]; decide) (by rw [c7]; decide) (by rw [c7]; decide) (by decide) ?_
                refine V_aload_n dL_law_256 rfl 1 rfl ?_
                refine V_aload_n dL_law_257 rfl 0 rfl ?_
                refine V_iload dL_law_258 4 rfl ?_
                refine V_iconst (v := 1) dL_law_260 (by decide) ?_
                refine V_iadd dL_law_261 ?_
                replace h := ob h
                obtain ⟨v126, e_v126, h⟩ := h
                refine V_iald e_v126 dL_law_262 ?_
                refine V_pc (pc' := 263) rfl ?_
                refine V_aload_n dL_law_263 rfl 0 rfl ?_
                refine V_iload dL_law_264 4 rfl ?_
                refine V_iconst (v := 2) dL_law_266 (by decide) ?_
                refine V_iadd dL_law_267 ?_
                replace h := ob h
                obtain ⟨v127, e_v127, h⟩ := h
                refine V_iald e_v127 dL_law_268 ?_
                refine V_pc (pc' := 269) rfl ?_
                refine V_aload_n dL_law_269 rfl 0 rfl ?_
                refine V_iload dL_law_270 4 rfl ?_
                refine V_iconst (v := 3) dL_law_272 (by decide) ?_
                refine V_iadd dL_law_273 ?_
                replace h := ob h
                obtain ⟨v128, e_v128, h⟩ := h
                refine V_iald e_v128 dL_law_274 ?_
                refine V_pc (pc' := 275) rfl ?_
                refine V_aload_n dL_law_275 rfl 3 rfl ?_
                replace h := ob h
                obtain ⟨r129, e_r129, h⟩ := h
                refine V_callSW_I (As := [.ref (zad L (a1)), .int (v126), .int (v127), .int (v128), .ref (zad L (a3))]) (rest := []) (c_L_claim e_r129) zc_L_claim rfl (by decide) zm_L_119 (Nat.le_of_ble_eq_true rfl) rfl dL_law_276 ?_
                refine V_pc (pc' := 279) rfl ?_
                refine V_istore (ls' := [(5, .int (r129.1)), (0, .ref (zad L (a0))), (1, .ref (zad L (a1))), (2, .ref (zad L (a2))), (3, .ref (zad L (a3))), (4, .int (i4))]) dL_law_279 (by decide) rfl ?_
                refine V_aload_n dL_law_281 rfl 3 rfl ?_
                refine V_aload_n dL_law_282 rfl 1 rfl ?_
                refine V_iload dL_law_283 5 rfl ?_
                refine V_iconst (v := 1) dL_law_285 (by decide) ?_
                refine V_iadd dL_law_286 ?_
                replace h := ob h
                obtain ⟨v130, e_v130, h⟩ := h
                refine V_iald e_v130 dL_law_287 ?_
                refine V_pc (pc' := 288) rfl ?_
                refine V_aload_n dL_law_288 rfl 1 rfl ?_
                refine V_iload dL_law_289 5 rfl ?_
                refine V_iconst (v := 2) dL_law_291 (by decide) ?_
                refine V_iadd dL_law_292 ?_
                replace h := ob h
                obtain ⟨v131, e_v131, h⟩ := h
                refine V_iald e_v131 dL_law_293 ?_
                refine V_pc (pc' := 294) rfl ?_
                refine V_aload_n dL_law_294 rfl 1 rfl ?_
                refine V_iload dL_law_295 5 rfl ?_
                refine V_iconst (v := 3) dL_law_297 (by decide) ?_
                refine V_iadd dL_law_298 ?_
                replace h := ob h
                obtain ⟨v132, e_v132, h⟩ := h
                refine V_iald e_v132 dL_law_299 ?_
                refine V_pc (pc' := 300) rfl ?_
                replace h := ox h
                obtain ⟨c134, h⟩ := h
                replace h := ob h
                obtain ⟨r133, e_r133, h⟩ := h
                refine V_callV_I (As := [.int (v130), .int (v131), .int (v132)]) (rest := []) (c_X7_claim e_r133) zc_X7_claim rfl (by decide) rfl (by decide) (Or.inl c134) zm_L_122 (Nat.le_of_ble_eq_true rfl) rfl dL_law_300 ?_
                refine V_pc (pc' := 303) rfl ?_
                refine V_istore (ls' := [(6, .int (r133.1)), (5, .int (r129.1)), (0, .ref (zad L (a0))), (1, .ref (zad L (a1))), (2, .ref (zad L (a2))), (3, .ref (zad L (a3))), (4, .int (i4))]) dL_law_303 (by decide) rfl ?_
                refine V_goto (tgt := 843) dL_law_305 (by decide) ?_
                refine V_iinc (v := i4 + (4 : Int32)) (ls' := [(4, .int ((i4 + (4 : Int32)))), (6, .int (r133.1)), (5, .int (r129.1)), (0, .ref (zad L (a0))), (1, .ref (zad L (a1))), (2, .ref (zad L (a2))), (3, .ref (zad L (a3)))]) dL_law_843 6 rfl (by rfl) (by decide) rfl ?_
                refine V_goto (tgt := 27) dL_law_846 (by decide) ?_
                refine V_sub [3, 4, 5, 6, 0] rfl ?_
                exact ih _ _ _ _ _ _ h
              · replace h := (oi h).2 c7
                by_cases c8 : ((v2 &&& ((31 : Int32)))) = 5
                · replace h := (oi h).1 c8
                  refine V_tabIn (off := 265) (tgt := 308) dL_law_43 (by rw [c8]; decide) (by rw [c8]; decide) (by rw [c8]; decide) (by decide) ?_
                  refine V_aload_n dL_law_308 rfl 1 rfl ?_
                  refine V_aload_n dL_law_309 rfl 0 rfl ?_
                  refine V_iload dL_law_310 4 rfl ?_
                  refine V_iconst (v := 1) dL_law_312 (by decide) ?_
                  refine V_iadd dL_law_313 ?_
                  replace h := ob h
                  obtain ⟨v121, e_v121, h⟩ := h
                  refine V_iald e_v121 dL_law_314 ?_
                  refine V_pc (pc' := 315) rfl ?_
                  refine V_aload_n dL_law_315 rfl 3 rfl ?_
                  replace h := ob h
                  obtain ⟨r122, e_r122, h⟩ := h
                  refine V_callSW_I (As := [.ref (zad L (a1)), .int (v121), .ref (zad L (a3))]) (rest := []) (c_L_four e_r122) zc_L_four rfl (by decide) zm_L_123 (Nat.le_of_ble_eq_true rfl) rfl dL_law_316 ?_
                  refine V_pc (pc' := 319) rfl ?_
                  refine V_istore (ls' := [(5, .int (r122.1)), (0, .ref (zad L (a0))), (1, .ref (zad L (a1))), (2, .ref (zad L (a2))), (3, .ref (zad L (a3))), (4, .int (i4))]) dL_law_319 (by decide) rfl ?_
                  refine V_aload_n dL_law_321 rfl 3 rfl ?_
                  refine V_aload_n dL_law_322 rfl 1 rfl ?_
                  refine V_iload dL_law_323 5 rfl ?_
                  refine V_iconst (v := 1) dL_law_325 (by decide) ?_
                  refine V_iadd dL_law_326 ?_
                  replace h := ob h
                  obtain ⟨v123, e_v123, h⟩ := h
                  refine V_iald e_v123 dL_law_327 ?_
                  refine V_pc (pc' := 328) rfl ?_
                  replace h := ox h
                  obtain ⟨c125, h⟩ := h
                  replace h := ob h
                  obtain ⟨r124, e_r124, h⟩ := h
                  refine V_callV_I (As := [.int (v123)]) (rest := []) (c_X7_four e_r124) zc_X7_four rfl (by decide) rfl (by decide) (Or.inl c125) zm_L_125 (Nat.le_of_ble_eq_true rfl) rfl dL_law_328 ?_
                  refine V_pc (pc' := 331) rfl ?_
                  refine V_istore (ls' := [(6, .int (r124.1)), (5, .int (r122.1)), (0, .ref (zad L (a0))), (1, .ref (zad L (a1))), (2, .ref (zad L (a2))), (3, .ref (zad L (a3))), (4, .int (i4))]) dL_law_331 (by decide) rfl ?_
                  refine V_goto (tgt := 843) dL_law_333 (by decide) ?_
                  refine V_iinc (v := i4 + (4 : Int32)) (ls' := [(4, .int ((i4 + (4 : Int32)))), (6, .int (r124.1)), (5, .int (r122.1)), (0, .ref (zad L (a0))), (1, .ref (zad L (a1))), (2, .ref (zad L (a2))), (3, .ref (zad L (a3)))]) dL_law_843 6 rfl (by rfl) (by decide) rfl ?_
                  refine V_goto (tgt := 27) dL_law_846 (by decide) ?_
                  refine V_sub [3, 4, 5, 6, 0] rfl ?_
                  exact ih _ _ _ _ _ _ h
                · replace h := (oi h).2 c8
                  by_cases c9 : ((v2 &&& ((31 : Int32)))) = 6
                  · replace h := (oi h).1 c9
                    refine V_tabIn (off := 293) (tgt := 336) dL_law_43 (by rw [c9]; decide) (by rw [c9]; decide) (by rw [c9]; decide) (by decide) ?_
                    refine V_aload_n dL_law_336 rfl 1 rfl ?_
                    refine V_aload_n dL_law_337 rfl 3 rfl ?_
                    replace h := ob h
                    obtain ⟨r118, e_r118, h⟩ := h
                    refine V_callSW_I (As := [.ref (zad L (a1)), .ref (zad L (a3))]) (rest := []) (c_L_pass e_r118) zc_L_pass rfl (by decide) zm_L_126 (Nat.le_of_ble_eq_true rfl) rfl dL_law_338 ?_
                    refine V_pc (pc' := 341) rfl ?_
                    refine V_istore (ls' := [(5, .int (r118.1)), (0, .ref (zad L (a0))), (1, .ref (zad L (a1))), (2, .ref (zad L (a2))), (3, .ref (zad L (a3))), (4, .int (i4))]) dL_law_341 (by decide) rfl ?_
                    refine V_aload_n dL_law_343 rfl 3 rfl ?_
                    replace h := ox h
                    obtain ⟨c120, h⟩ := h
                    replace h := ob h
                    obtain ⟨r119, e_r119, h⟩ := h
                    refine V_callV_I (As := []) (rest := []) (c_X7_pass e_r119) zc_X7_pass rfl (by decide) rfl (by decide) (Or.inl c120) zm_L_128 (Nat.le_of_ble_eq_true rfl) rfl dL_law_344 ?_
                    refine V_pc (pc' := 347) rfl ?_
                    refine V_istore (ls' := [(6, .int (r119.1)), (5, .int (r118.1)), (0, .ref (zad L (a0))), (1, .ref (zad L (a1))), (2, .ref (zad L (a2))), (3, .ref (zad L (a3))), (4, .int (i4))]) dL_law_347 (by decide) rfl ?_
                    refine V_goto (tgt := 843) dL_law_349 (by decide) ?_
                    refine V_iinc (v := i4 + (4 : Int32)) (ls' := [(4, .int ((i4 + (4 : Int32)))), (6, .int (r119.1)), (5, .int (r118.1)), (0, .ref (zad L (a0))), (1, .ref (zad L (a1))), (2, .ref (zad L (a2))), (3, .ref (zad L (a3)))]) dL_law_843 6 rfl (by rfl) (by decide) rfl ?_
                    refine V_goto (tgt := 27) dL_law_846 (by decide) ?_
                    refine V_sub [3, 4, 5, 6, 0] rfl ?_
                    exact ih _ _ _ _ _ _ h
                  · replace h := (oi h).2 c9
                    by_cases c10 : ((v2 &&& ((31 : Int32)))) = 7
                    · replace h := (oi h).1 c10
                      refine V_tabIn (off := 309) (tgt := 352) dL_law_43 (by rw [c10]; decide) (by rw [c10]; decide) (by rw [c10]; decide) (by decide) ?_
                      refine V_aload_n dL_law_352 rfl 1 rfl ?_
                      refine V_aload_n dL_law_353 rfl 0 rfl ?_
                      refine V_iload dL_law_354 4 rfl ?_
                      refine V_iconst (v := 1) dL_law_356 (by decide) ?_
                      refine V_iadd dL_law_357 ?_
                      replace h := ob h
                      obtain ⟨v113, e_v113, h⟩ := h
                      refine V_iald e_v113 dL_law_358 ?_
                      refine V_pc (pc' := 359) rfl ?_
                      refine V_aload_n dL_law_359 rfl 3 rfl ?_
                      replace h := ob h
                      obtain ⟨r114, e_r114, h⟩ := h
                      refine V_callSW_I (As := [.ref (zad L (a1)), .int (v113), .ref (zad L (a3))]) (rest := []) (c_L_win e_r114) zc_L_win rfl (by decide) zm_L_129 (Nat.le_of_ble_eq_true rfl) rfl dL_law_360 ?_
                      refine V_pc (pc' := 363) rfl ?_
                      refine V_istore (ls' := [(5, .int (r114.1)), (0, .ref (zad L (a0))), (1, .ref (zad L (a1))), (2, .ref (zad L (a2))), (3, .ref (zad L (a3))), (4, .int (i4))]) dL_law_363 (by decide) rfl ?_
                      refine V_aload_n dL_law_365 rfl 3 rfl ?_
                      refine V_aload_n dL_law_366 rfl 1 rfl ?_
                      refine V_iload dL_law_367 5 rfl ?_
                      refine V_iconst (v := 1) dL_law_369 (by decide) ?_
                      refine V_iadd dL_law_370 ?_
                      replace h := ob h
                      obtain ⟨v115, e_v115, h⟩ := h
                      refine V_iald e_v115 dL_law_371 ?_
                      refine V_pc (pc' := 372) rfl ?_
                      replace h := ox h
                      obtain ⟨c117, h⟩ := h
                      replace h := ob h
                      obtain ⟨r116, e_r116, h⟩ := h
                      refine V_callV_I (As := [.int (v115)]) (rest := []) (c_X7_win e_r116) zc_X7_win rfl (by decide) rfl (by decide) (Or.inl c117) zm_L_131 (Nat.le_of_ble_eq_true rfl) rfl dL_law_372 ?_
                      refine V_pc (pc' := 375) rfl ?_
                      refine V_istore (ls' := [(6, .int (r116.1)), (5, .int (r114.1)), (0, .ref (zad L (a0))), (1, .ref (zad L (a1))), (2, .ref (zad L (a2))), (3, .ref (zad L (a3))), (4, .int (i4))]) dL_law_375 (by decide) rfl ?_
                      refine V_goto (tgt := 843) dL_law_377 (by decide) ?_
                      refine V_iinc (v := i4 + (4 : Int32)) (ls' := [(4, .int ((i4 + (4 : Int32)))), (6, .int (r116.1)), (5, .int (r114.1)), (0, .ref (zad L (a0))), (1, .ref (zad L (a1))), (2, .ref (zad L (a2))), (3, .ref (zad L (a3)))]) dL_law_843 6 rfl (by rfl) (by decide) rfl ?_
                      refine V_goto (tgt := 27) dL_law_846 (by decide) ?_
                      refine V_sub [3, 4, 5, 6, 0] rfl ?_
                      exact ih _ _ _ _ _ _ h
                    · replace h := (oi h).2 c10
                      by_cases c11 : ((v2 &&& ((31 : Int32)))) = 8
                      · replace h := (oi h).1 c11
                        refine V_tabIn (off := 337) (tgt := 380) dL_law_43 (by rw [c11]; decide) (by rw [c11]; decide) (by rw [c11]; decide) (by decide) ?_
                        refine V_aload_n dL_law_380 rfl 1 rfl ?_
                        refine V_aload_n dL_law_381 rfl 0 rfl ?_
                        refine V_iload dL_law_382 4 rfl ?_
                        refine V_iconst (v := 1) dL_law_384 (by decide) ?_
                        refine V_iadd dL_law_385 ?_
                        replace h := ob h
                        obtain ⟨v106, e_v106, h⟩ := h
                        refine V_iald e_v106 dL_law_386 ?_
                        refine V_pc (pc' := 387) rfl ?_
                        refine V_aload_n dL_law_387 rfl 0 rfl ?_
                        refine V_iload dL_law_388 4 rfl ?_
                        refine V_iconst (v := 2) dL_law_390 (by decide) ?_
                        refine V_iadd dL_law_391 ?_
                        replace h := ob h
                        obtain ⟨v107, e_v107, h⟩ := h
                        refine V_iald e_v107 dL_law_392 ?_
                        refine V_pc (pc' := 393) rfl ?_
                        refine V_aload_n dL_law_393 rfl 3 rfl ?_
                        replace h := ob h
                        obtain ⟨r108, e_r108, h⟩ := h
                        refine V_callSW_I (As := [.ref (zad L (a1)), .int (v106), .int (v107), .ref (zad L (a3))]) (rest := []) (c_L_has e_r108) zc_L_has rfl (by decide) zm_L_132 (Nat.le_of_ble_eq_true rfl) rfl dL_law_394 ?_
                        refine V_pc (pc' := 397) rfl ?_
                        refine V_istore (ls' := [(5, .int (r108.1)), (0, .ref (zad L (a0))), (1, .ref (zad L (a1))), (2, .ref (zad L (a2))), (3, .ref (zad L (a3))), (4, .int (i4))]) dL_law_397 (by decide) rfl ?_
                        refine V_aload_n dL_law_399 rfl 3 rfl ?_
                        refine V_aload_n dL_law_400 rfl 1 rfl ?_
                        refine V_iload dL_law_401 5 rfl ?_
                        refine V_iconst (v := 1) dL_law_403 (by decide) ?_
                        refine V_iadd dL_law_404 ?_
                        replace h := ob h
                        obtain ⟨v109, e_v109, h⟩ := h
                        refine V_iald e_v109 dL_law_405 ?_
                        refine V_pc (pc' := 406) rfl ?_
                        refine V_aload_n dL_law_406 rfl 1 rfl ?_
                        refine V_iload dL_law_407 5 rfl ?_
                        refine V_iconst (v := 2) dL_law_409 (by decide) ?_
                        refine V_iadd dL_law_410 ?_
                        replace h := ob h
                        obtain ⟨v110, e_v110, h⟩ := h
                        refine V_iald e_v110 dL_law_411 ?_
                        refine V_pc (pc' := 412) rfl ?_
                        replace h := ox h
                        obtain ⟨c112, h⟩ := h
                        replace h := ob h
                        obtain ⟨r111, e_r111, h⟩ := h
                        refine V_callV_I (As := [.int (v109), .int (v110)]) (rest := []) (c_X7_has e_r111) zc_X7_has rfl (by decide) rfl (by decide) (Or.inl c112) zm_L_134 (Nat.le_of_ble_eq_true rfl) rfl dL_law_412 ?_
                        refine V_pc (pc' := 415) rfl ?_
                        refine V_istore (ls' := [(6, .int (r111.1)), (5, .int (r108.1)), (0, .ref (zad L (a0))), (1, .ref (zad L (a1))), (2, .ref (zad L (a2))), (3, .ref (zad L (a3))), (4, .int (i4))]) dL_law_415 (by decide) rfl ?_
                        refine V_goto (tgt := 843) dL_law_417 (by decide) ?_
                        refine V_iinc (v := i4 + (4 : Int32)) (ls' := [(4, .int ((i4 + (4 : Int32)))), (6, .int (r111.1)), (5, .int (r108.1)), (0, .ref (zad L (a0))), (1, .ref (zad L (a1))), (2, .ref (zad L (a2))), (3, .ref (zad L (a3)))]) dL_law_843 6 rfl (by rfl) (by decide) rfl ?_
                        refine V_goto (tgt := 27) dL_law_846 (by decide) ?_
                        refine V_sub [3, 4, 5, 6, 0] rfl ?_
                        exact ih _ _ _ _ _ _ h
                      · replace h := (oi h).2 c11
                        by_cases c12 : ((v2 &&& ((31 : Int32)))) = 9
                        · replace h := (oi h).1 c12
                          refine V_tabIn (off := 377) (tgt := 420) dL_law_43 (by rw [c12]; decide) (by rw [c12]; decide) (by rw [c12]; decide) (by decide) ?_
                          refine V_aload_n dL_law_420 rfl 1 rfl ?_
                          refine V_aload_n dL_law_421 rfl 0 rfl ?_
                          refine V_iload dL_law_422 4 rfl ?_
                          refine V_iconst (v := 1) dL_law_424 (by decide) ?_
                          refine V_iadd dL_law_425 ?_
                          replace h := ob h
                          obtain ⟨v99, e_v99, h⟩ := h
                          refine V_iald e_v99 dL_law_426 ?_
                          refine V_pc (pc' := 427) rfl ?_
                          refine V_aload_n dL_law_427 rfl 0 rfl ?_
                          refine V_iload dL_law_428 4 rfl ?_
                          refine V_iconst (v := 2) dL_law_430 (by decide) ?_
                          refine V_iadd dL_law_431 ?_
                          replace h := ob h
                          obtain ⟨v100, e_v100, h⟩ := h
                          refine V_iald e_v100 dL_law_432 ?_
                          refine V_pc (pc' := 433) rfl ?_
                          refine V_aload_n dL_law_433 rfl 3 rfl ?_
                          replace h := ob h
                          obtain ⟨r101, e_r101, h⟩ := h
                          refine V_callSW_I (As := [.ref (zad L (a1)), .int (v99), .int (v100), .ref (zad L (a3))]) (rest := []) (c_L_ofPlayer e_r101) zc_L_ofPlayer rfl (by decide) zm_L_135 (Nat.le_of_ble_eq_true rfl) rfl dL_law_434 ?_
                          refine V_pc (pc' := 437) rfl ?_
                          refine V_istore (ls' := [(5, .int (r101.1)), (0, .ref (zad L (a0))), (1, .ref (zad L (a1))), (2, .ref (zad L (a2))), (3, .ref (zad L (a3))), (4, .int (i4))]) dL_law_437 (by decide) rfl ?_
                          refine V_aload_n dL_law_439 rfl 3 rfl ?_
                          refine V_aload_n dL_law_440 rfl 1 rfl ?_
                          refine V_iload dL_law_441 5 rfl ?_
                          refine V_iconst (v := 1) dL_law_443 (by decide) ?_
                          refine V_iadd dL_law_444 ?_
                          replace h := ob h
                          obtain ⟨v102, e_v102, h⟩ := h
                          refine V_iald e_v102 dL_law_445 ?_
                          refine V_pc (pc' := 446) rfl ?_
                          refine V_aload_n dL_law_446 rfl 1 rfl ?_
                          refine V_iload dL_law_447 5 rfl ?_
                          refine V_iconst (v := 2) dL_law_449 (by decide) ?_
                          refine V_iadd dL_law_450 ?_
                          replace h := ob h
                          obtain ⟨v103, e_v103, h⟩ := h
                          refine V_iald e_v103 dL_law_451 ?_
                          refine V_pc (pc' := 452) rfl ?_
                          replace h := ox h
                          obtain ⟨c105, h⟩ := h
                          replace h := ob h
                          obtain ⟨r104, e_r104, h⟩ := h
                          refine V_callV_I (As := [.int (v102), .int (v103)]) (rest := []) (c_X7_ofPlayer e_r104) zc_X7_ofPlayer rfl (by decide) rfl (by decide) (Or.inl c105) zm_L_137 (Nat.le_of_ble_eq_true rfl) rfl dL_law_452 ?_
                          refine V_pc (pc' := 455) rfl ?_
                          refine V_istore (ls' := [(6, .int (r104.1)), (5, .int (r101.1)), (0, .ref (zad L (a0))), (1, .ref (zad L (a1))), (2, .ref (zad L (a2))), (3, .ref (zad L (a3))), (4, .int (i4))]) dL_law_455 (by decide) rfl ?_
                          refine V_goto (tgt := 843) dL_law_457 (by decide) ?_
                          refine V_iinc (v := i4 + (4 : Int32)) (ls' := [(4, .int ((i4 + (4 : Int32)))), (6, .int (r104.1)), (5, .int (r101.1)), (0, .ref (zad L (a0))), (1, .ref (zad L (a1))), (2, .ref (zad L (a2))), (3, .ref (zad L (a3)))]) dL_law_843 6 rfl (by rfl) (by decide) rfl ?_
                          refine V_goto (tgt := 27) dL_law_846 (by decide) ?_
                          refine V_sub [3, 4, 5, 6, 0] rfl ?_
                          exact ih _ _ _ _ _ _ h
                        · replace h := (oi h).2 c12
                          by_cases c13 : ((v2 &&& ((31 : Int32)))) = 10
                          · replace h := (oi h).1 c13
                            refine V_tabIn (off := 417) (tgt := 460) dL_law_43 (by rw [c13]; decide) (by rw [c13]; decide) (by rw [c13]; decide) (by decide) ?_
                            refine V_aload_n dL_law_460 rfl 1 rfl ?_
                            refine V_aload_n dL_law_461 rfl 0 rfl ?_
                            refine V_iload dL_law_462 4 rfl ?_
                            refine V_iconst (v := 1) dL_law_464 (by decide) ?_
                            refine V_iadd dL_law_465 ?_
                            replace h := ob h
                            obtain ⟨v92, e_v92, h⟩ := h
                            refine V_iald e_v92 dL_law_466 ?_
                            refine V_pc (pc' := 467) rfl ?_
                            refine V_aload_n dL_law_467 rfl 0 rfl ?_
                            refine V_iload dL_law_468 4 rfl ?_
                            refine V_iconst (v := 2) dL_law_470 (by decide) ?_
                            refine V_iadd dL_law_471 ?_
                            replace h := ob h
                            obtain ⟨v93, e_v93, h⟩ := h
                            refine V_iald e_v93 dL_law_472 ?_
                            refine V_pc (pc' := 473) rfl ?_
                            refine V_aload_n dL_law_473 rfl 3 rfl ?_
                            replace h := ob h
                            obtain ⟨r94, e_r94, h⟩ := h
                            refine V_callSW_I (As := [.ref (zad L (a1)), .int (v92), .int (v93), .ref (zad L (a3))]) (rest := []) (c_L_ofSet e_r94) zc_L_ofSet rfl (by decide) zm_L_138 (Nat.le_of_ble_eq_true rfl) rfl dL_law_474 ?_
                            refine V_pc (pc' := 477) rfl ?_
                            refine V_istore (ls' := [(5, .int (r94.1)), (0, .ref (zad L (a0))), (1, .ref (zad L (a1))), (2, .ref (zad L (a2))), (3, .ref (zad L (a3))), (4, .int (i4))]) dL_law_477 (by decide) rfl ?_
                            refine V_aload_n dL_law_479 rfl 3 rfl ?_
                            refine V_aload_n dL_law_480 rfl 1 rfl ?_
                            refine V_iload dL_law_481 5 rfl ?_
                            refine V_iconst (v := 1) dL_law_483 (by decide) ?_
                            refine V_iadd dL_law_484 ?_
                            replace h := ob h
                            obtain ⟨v95, e_v95, h⟩ := h
                            refine V_iald e_v95 dL_law_485 ?_
                            refine V_pc (pc' := 486) rfl ?_
                            refine V_aload_n dL_law_486 rfl 1 rfl ?_
                            refine V_iload dL_law_487 5 rfl ?_
                            refine V_iconst (v := 2) dL_law_489 (by decide) ?_
                            refine V_iadd dL_law_490 ?_
                            replace h := ob h
                            obtain ⟨v96, e_v96, h⟩ := h
                            refine V_iald e_v96 dL_law_491 ?_
                            refine V_pc (pc' := 492) rfl ?_
                            replace h := ox h
                            obtain ⟨c98, h⟩ := h
                            replace h := ob h
                            obtain ⟨r97, e_r97, h⟩ := h
                            refine V_callV_I (As := [.int (v95), .int (v96)]) (rest := []) (c_X7_ofSet e_r97) zc_X7_ofSet rfl (by decide) rfl (by decide) (Or.inl c98) zm_L_140 (Nat.le_of_ble_eq_true rfl) rfl dL_law_492 ?_
                            refine V_pc (pc' := 495) rfl ?_
                            refine V_istore (ls' := [(6, .int (r97.1)), (5, .int (r94.1)), (0, .ref (zad L (a0))), (1, .ref (zad L (a1))), (2, .ref (zad L (a2))), (3, .ref (zad L (a3))), (4, .int (i4))]) dL_law_495 (by decide) rfl ?_
                            refine V_goto (tgt := 843) dL_law_497 (by decide) ?_
                            refine V_iinc (v := i4 + (4 : Int32)) (ls' := [(4, .int ((i4 + (4 : Int32)))), (6, .int (r97.1)), (5, .int (r94.1)), (0, .ref (zad L (a0))), (1, .ref (zad L (a1))), (2, .ref (zad L (a2))), (3, .ref (zad L (a3)))]) dL_law_843 6 rfl (by rfl) (by decide) rfl ?_
                            refine V_goto (tgt := 27) dL_law_846 (by decide) ?_
                            refine V_sub [3, 4, 5, 6, 0] rfl ?_
                            exact ih _ _ _ _ _ _ h
                          · replace h := (oi h).2 c13
                            by_cases c14 : ((v2 &&& ((31 : Int32)))) = 11
                            · replace h := (oi h).1 c14
                              refine V_tabIn (off := 457) (tgt := 500) dL_law_43 (by rw [c14]; decide) (by rw [c14]; decide) (by rw [c14]; decide) (by decide) ?_
                              refine V_aload_n dL_law_500 rfl 1 rfl ?_
                              refine V_aload_n dL_law_501 rfl 0 rfl ?_
                              refine V_iload dL_law_502 4 rfl ?_
                              refine V_iconst (v := 1) dL_law_504 (by decide) ?_
                              refine V_iadd dL_law_505 ?_
                              replace h := ob h
                              obtain ⟨v85, e_v85, h⟩ := h
                              refine V_iald e_v85 dL_law_506 ?_
                              refine V_pc (pc' := 507) rfl ?_
                              refine V_aload_n dL_law_507 rfl 0 rfl ?_
                              refine V_iload dL_law_508 4 rfl ?_
                              refine V_iconst (v := 2) dL_law_510 (by decide) ?_
                              refine V_iadd dL_law_511 ?_
                              replace h := ob h
                              obtain ⟨v86, e_v86, h⟩ := h
                              refine V_iald e_v86 dL_law_512 ?_
                              refine V_pc (pc' := 513) rfl ?_
                              refine V_aload_n dL_law_513 rfl 3 rfl ?_
                              replace h := ob h
                              obtain ⟨r87, e_r87, h⟩ := h
                              refine V_callSW_I (As := [.ref (zad L (a1)), .int (v85), .int (v86), .ref (zad L (a3))]) (rest := []) (c_L_river e_r87) zc_L_river rfl (by decide) zm_L_141 (Nat.le_of_ble_eq_true rfl) rfl dL_law_514 ?_
                              refine V_pc (pc' := 517) rfl ?_
                              refine V_istore (ls' := [(5, .int (r87.1)), (0, .ref (zad L (a0))), (1, .ref (zad L (a1))), (2, .ref (zad L (a2))), (3, .ref (zad L (a3))), (4, .int (i4))]) dL_law_517 (by decide) rfl ?_
                              refine V_aload_n dL_law_519 rfl 3 rfl ?_
                              refine V_aload_n dL_law_520 rfl 1 rfl ?_
                              refine V_iload dL_law_521 5 rfl ?_
                              refine V_iconst (v := 1) dL_law_523 (by decide) ?_
                              refine V_iadd dL_law_524 ?_
                              replace h := ob h
                              obtain ⟨v88, e_v88, h⟩ := h
                              refine V_iald e_v88 dL_law_525 ?_
                              refine V_pc (pc' := 526) rfl ?_
                              refine V_aload_n dL_law_526 rfl 1 rfl ?_
                              refine V_iload dL_law_527 5 rfl ?_
                              refine V_iconst (v := 2) dL_law_529 (by decide) ?_
                              refine V_iadd dL_law_530 ?_
                              replace h := ob h
                              obtain ⟨v89, e_v89, h⟩ := h
                              refine V_iald e_v89 dL_law_531 ?_
                              refine V_pc (pc' := 532) rfl ?_
                              replace h := ox h
                              obtain ⟨c91, h⟩ := h
                              replace h := ob h
                              obtain ⟨r90, e_r90, h⟩ := h
                              refine V_callV_I (As := [.int (v88), .int (v89)]) (rest := []) (c_X7_river e_r90) zc_X7_river rfl (by decide) rfl (by decide) (Or.inl c91) zm_L_143 (Nat.le_of_ble_eq_true rfl) rfl dL_law_532 ?_
                              refine V_pc (pc' := 535) rfl ?_
                              refine V_istore (ls' := [(6, .int (r90.1)), (5, .int (r87.1)), (0, .ref (zad L (a0))), (1, .ref (zad L (a1))), (2, .ref (zad L (a2))), (3, .ref (zad L (a3))), (4, .int (i4))]) dL_law_535 (by decide) rfl ?_
                              refine V_goto (tgt := 843) dL_law_537 (by decide) ?_
                              refine V_iinc (v := i4 + (4 : Int32)) (ls' := [(4, .int ((i4 + (4 : Int32)))), (6, .int (r90.1)), (5, .int (r87.1)), (0, .ref (zad L (a0))), (1, .ref (zad L (a1))), (2, .ref (zad L (a2))), (3, .ref (zad L (a3)))]) dL_law_843 6 rfl (by rfl) (by decide) rfl ?_
                              refine V_goto (tgt := 27) dL_law_846 (by decide) ?_
                              refine V_sub [3, 4, 5, 6, 0] rfl ?_
                              exact ih _ _ _ _ _ _ h
                            · replace h := (oi h).2 c14
                              by_cases c15 : ((v2 &&& ((31 : Int32)))) = 12
                              · replace h := (oi h).1 c15
                                refine V_tabIn (off := 497) (tgt := 540) dL_law_43 (by rw [c15]; decide) (by rw [c15]; decide) (by rw [c15]; decide) (by decide) ?_
                                refine V_aload_n dL_law_540 rfl 1 rfl ?_
                                refine V_aload_n dL_law_541 rfl 0 rfl ?_
                                refine V_iload dL_law_542 4 rfl ?_
                                refine V_iconst (v := 1) dL_law_544 (by decide) ?_
                                refine V_iadd dL_law_545 ?_
                                replace h := ob h
                                obtain ⟨v80, e_v80, h⟩ := h
                                refine V_iald e_v80 dL_law_546 ?_
                                refine V_pc (pc' := 547) rfl ?_
                                refine V_aload_n dL_law_547 rfl 3 rfl ?_
                                replace h := ob h
                                obtain ⟨r81, e_r81, h⟩ := h
                                refine V_callSW_I (As := [.ref (zad L (a1)), .int (v80), .ref (zad L (a3))]) (rest := []) (c_L_waits e_r81) zc_L_waits rfl (by decide) zm_L_144 (Nat.le_of_ble_eq_true rfl) rfl dL_law_548 ?_
                                refine V_pc (pc' := 551) rfl ?_
                                refine V_istore (ls' := [(5, .int (r81.1)), (0, .ref (zad L (a0))), (1, .ref (zad L (a1))), (2, .ref (zad L (a2))), (3, .ref (zad L (a3))), (4, .int (i4))]) dL_law_551 (by decide) rfl ?_
                                refine V_aload_n dL_law_553 rfl 3 rfl ?_
                                refine V_aload_n dL_law_554 rfl 1 rfl ?_
                                refine V_iload dL_law_555 5 rfl ?_
                                refine V_iconst (v := 1) dL_law_557 (by decide) ?_
                                refine V_iadd dL_law_558 ?_
                                replace h := ob h
                                obtain ⟨v82, e_v82, h⟩ := h
                                refine V_iald e_v82 dL_law_559 ?_
                                refine V_pc (pc' := 560) rfl ?_
                                replace h := ox h
                                obtain ⟨c84, h⟩ := h
                                replace h := ob h
                                obtain ⟨r83, e_r83, h⟩ := h
                                refine V_callV_J (As := [.int (v82)]) (rest := []) (c_X7_waits e_r83) zc_X7_waits rfl (by decide) rfl (by decide) (Or.inl c84) zm_L_146 (Nat.le_of_ble_eq_true rfl) rfl dL_law_560 ?_
                                refine V_pc (pc' := 563) rfl ?_
                                refine V_lstore (ls' := [(6, .long (r83.1)), (5, .int (r81.1)), (0, .ref (zad L (a0))), (1, .ref (zad L (a1))), (2, .ref (zad L (a2))), (3, .ref (zad L (a3))), (4, .int (i4))]) dL_law_563 (by decide) rfl ?_
                                refine V_goto (tgt := 843) dL_law_565 (by decide) ?_
                                refine V_iinc (v := i4 + (4 : Int32)) (ls' := [(4, .int ((i4 + (4 : Int32)))), (6, .long (r83.1)), (5, .int (r81.1)), (0, .ref (zad L (a0))), (1, .ref (zad L (a1))), (2, .ref (zad L (a2))), (3, .ref (zad L (a3)))]) dL_law_843 6 rfl (by rfl) (by decide) rfl ?_
                                refine V_goto (tgt := 27) dL_law_846 (by decide) ?_
                                refine V_sub [3, 4, 5, 6, 0] rfl ?_
                                exact ih _ _ _ _ _ _ h
                              · replace h := (oi h).2 c15
                                by_cases c16 : ((v2 &&& ((31 : Int32)))) = 13
                                · replace h := (oi h).1 c16
                                  refine V_tabIn (off := 525) (tgt := 568) dL_law_43 (by rw [c16]; decide) (by rw [c16]; decide) (by rw [c16]; decide) (by decide) ?_
                                  refine V_aload_n dL_law_568 rfl 1 rfl ?_
                                  refine V_aload_n dL_law_569 rfl 0 rfl ?_
                                  refine V_iload dL_law_570 4 rfl ?_
                                  refine V_iconst (v := 1) dL_law_572 (by decide) ?_
                                  refine V_iadd dL_law_573 ?_
                                  replace h := ob h
                                  obtain ⟨v75, e_v75, h⟩ := h
                                  refine V_iald e_v75 dL_law_574 ?_
                                  refine V_pc (pc' := 575) rfl ?_
                                  refine V_aload_n dL_law_575 rfl 3 rfl ?_
                                  replace h := ob h
                                  obtain ⟨r76, e_r76, h⟩ := h
                                  refine V_callSW_I (As := [.ref (zad L (a1)), .int (v75), .ref (zad L (a3))]) (rest := []) (c_L_seen e_r76) zc_L_seen rfl (by decide) zm_L_147 (Nat.le_of_ble_eq_true rfl) rfl dL_law_576 ?_
                                  refine V_pc (pc' := 579) rfl ?_
                                  refine V_istore (ls' := [(5, .int (r76.1)), (0, .ref (zad L (a0))), (1, .ref (zad L (a1))), (2, .ref (zad L (a2))), (3, .ref (zad L (a3))), (4, .int (i4))]) dL_law_579 (by decide) rfl ?_
                                  refine V_aload_n dL_law_581 rfl 3 rfl ?_
                                  refine V_aload_n dL_law_582 rfl 1 rfl ?_
                                  refine V_iload dL_law_583 5 rfl ?_
                                  refine V_iconst (v := 1) dL_law_585 (by decide) ?_
                                  refine V_iadd dL_law_586 ?_
                                  replace h := ob h
                                  obtain ⟨v77, e_v77, h⟩ := h
                                  refine V_iald e_v77 dL_law_587 ?_
                                  refine V_pc (pc' := 588) rfl ?_
                                  replace h := ox h
                                  obtain ⟨c79, h⟩ := h
                                  replace h := ob h
                                  obtain ⟨r78, e_r78, h⟩ := h
                                  refine V_callV_I (As := [.int (v77)]) (rest := []) (c_X7_seen e_r78) zc_X7_seen rfl (by decide) rfl (by decide) (Or.inl c79) zm_L_149 (Nat.le_of_ble_eq_true rfl) rfl dL_law_588 ?_
                                  refine V_pc (pc' := 591) rfl ?_
                                  refine V_istore (ls' := [(6, .int (r78.1)), (5, .int (r76.1)), (0, .ref (zad L (a0))), (1, .ref (zad L (a1))), (2, .ref (zad L (a2))), (3, .ref (zad L (a3))), (4, .int (i4))]) dL_law_591 (by decide) rfl ?_
                                  refine V_goto (tgt := 843) dL_law_593 (by decide) ?_
                                  refine V_iinc (v := i4 + (4 : Int32)) (ls' := [(4, .int ((i4 + (4 : Int32)))), (6, .int (r78.1)), (5, .int (r76.1)), (0, .ref (zad L (a0))), (1, .ref (zad L (a1))), (2, .ref (zad L (a2))), (3, .ref (zad L (a3)))]) dL_law_843 6 rfl (by rfl) (by decide) rfl ?_
                                  refine V_goto (tgt := 27) dL_law_846 (by decide) ?_
                                  refine V_sub [3, 4, 5, 6, 0] rfl ?_
                                  exact ih _ _ _ _ _ _ h
                                · replace h := (oi h).2 c16
                                  by_cases c17 : ((v2 &&& ((31 : Int32)))) = 14
                                  · replace h := (oi h).1 c17
                                    refine V_tabIn (off := 553) (tgt := 596) dL_law_43 (by rw [c17]; decide) (by rw [c17]; decide) (by rw [c17]; decide) (by decide) ?_
                                    refine V_aload_n dL_law_596 rfl 1 rfl ?_
                                    refine V_aload_n dL_law_597 rfl 0 rfl ?_
                                    refine V_iload dL_law_598 4 rfl ?_
                                    refine V_iconst (v := 1) dL_law_600 (by decide) ?_
                                    refine V_iadd dL_law_601 ?_
                                    replace h := ob h
                                    obtain ⟨v70, e_v70, h⟩ := h
                                    refine V_iald e_v70 dL_law_602 ?_
                                    refine V_pc (pc' := 603) rfl ?_
                                    refine V_aload_n dL_law_603 rfl 3 rfl ?_
                                    replace h := ob h
                                    obtain ⟨r71, e_r71, h⟩ := h
                                    refine V_callSW_I (As := [.ref (zad L (a1)), .int (v70), .ref (zad L (a3))]) (rest := []) (c_L_hand e_r71) zc_L_hand rfl (by decide) zm_L_150 (Nat.le_of_ble_eq_true rfl) rfl dL_law_604 ?_
                                    refine V_pc (pc' := 607) rfl ?_
                                    refine V_istore (ls' := [(5, .int (r71.1)), (0, .ref (zad L (a0))), (1, .ref (zad L (a1))), (2, .ref (zad L (a2))), (3, .ref (zad L (a3))), (4, .int (i4))]) dL_law_607 (by decide) rfl ?_
                                    refine V_aload_n dL_law_609 rfl 3 rfl ?_
                                    refine V_aload_n dL_law_610 rfl 1 rfl ?_
                                    refine V_iload dL_law_611 5 rfl ?_
                                    refine V_iconst (v := 1) dL_law_613 (by decide) ?_
                                    refine V_iadd dL_law_614 ?_
                                    replace h := ob h
                                    obtain ⟨v72, e_v72, h⟩ := h
                                    refine V_iald e_v72 dL_law_615 ?_
                                    refine V_pc (pc' := 616) rfl ?_
                                    replace h := ox h
                                    obtain ⟨c74, h⟩ := h
                                    replace h := ob h
                                    obtain ⟨r73, e_r73, h⟩ := h
                                    refine V_callV_A (As := [.int (v72)]) (rest := []) (c_X7_hand e_r73) zc_X7_hand rfl (by decide) rfl (by decide) (Or.inl c74) zm_L_152 (Nat.le_of_ble_eq_true rfl) rfl dL_law_616 ?_
                                    refine V_pc (pc' := 619) rfl ?_
                                    refine V_astore (ls' := [(6, .ref (zad L (r73.1))), (5, .int (r71.1)), (0, .ref (zad L (a0))), (1, .ref (zad L (a1))), (2, .ref (zad L (a2))), (3, .ref (zad L (a3))), (4, .int (i4))]) dL_law_619 (by decide) rfl ?_
                                    refine V_goto (tgt := 843) dL_law_621 (by decide) ?_
                                    refine V_iinc (v := i4 + (4 : Int32)) (ls' := [(4, .int ((i4 + (4 : Int32)))), (6, .ref (zad L (r73.1))), (5, .int (r71.1)), (0, .ref (zad L (a0))), (1, .ref (zad L (a1))), (2, .ref (zad L (a2))), (3, .ref (zad L (a3)))]) dL_law_843 6 rfl (by rfl) (by decide) rfl ?_
                                    refine V_goto (tgt := 27) dL_law_846 (by decide) ?_
                                    refine V_sub [3, 4, 5, 6, 0] rfl ?_
                                    exact ih _ _ _ _ _ _ h
                                  · replace h := (oi h).2 c17
                                    by_cases c18 : ((v2 &&& ((31 : Int32)))) = 15
                                    · replace h := (oi h).1 c18
                                      refine V_tabIn (off := 581) (tgt := 624) dL_law_43 (by rw [c18]; decide) (by rw [c18]; decide) (by rw [c18]; decide) (by decide) ?_
                                      refine V_aload_n dL_law_624 rfl 1 rfl ?_
                                      refine V_aload_n dL_law_625 rfl 0 rfl ?_
                                      refine V_iload dL_law_626 4 rfl ?_
                                      refine V_iconst (v := 1) dL_law_628 (by decide) ?_
                                      refine V_iadd dL_law_629 ?_
                                      replace h := ob h
                                      obtain ⟨v65, e_v65, h⟩ := h
                                      refine V_iald e_v65 dL_law_630 ?_
                                      refine V_pc (pc' := 631) rfl ?_
                                      refine V_aload_n dL_law_631 rfl 3 rfl ?_
                                      replace h := ob h
                                      obtain ⟨r66, e_r66, h⟩ := h
                                      refine V_callSW_I (As := [.ref (zad L (a1)), .int (v65), .ref (zad L (a3))]) (rest := []) (c_L_many e_r66) zc_L_many rfl (by decide) zm_L_153 (Nat.le_of_ble_eq_true rfl) rfl dL_law_632 ?_
                                      refine V_pc (pc' := 635) rfl ?_
                                      refine V_istore (ls' := [(5, .int (r66.1)), (0, .ref (zad L (a0))), (1, .ref (zad L (a1))), (2, .ref (zad L (a2))), (3, .ref (zad L (a3))), (4, .int (i4))]) dL_law_635 (by decide) rfl ?_
                                      refine V_aload_n dL_law_637 rfl 3 rfl ?_
                                      refine V_aload_n dL_law_638 rfl 1 rfl ?_
                                      refine V_iload dL_law_639 5 rfl ?_
                                      refine V_iconst (v := 1) dL_law_641 (by decide) ?_
                                      refine V_iadd dL_law_642 ?_
                                      replace h := ob h
                                      obtain ⟨v67, e_v67, h⟩ := h
                                      refine V_iald e_v67 dL_law_643 ?_
                                      refine V_pc (pc' := 644) rfl ?_
                                      replace h := ox h
                                      obtain ⟨c69, h⟩ := h
                                      replace h := ob h
                                      obtain ⟨r68, e_r68, h⟩ := h
                                      refine V_callV_I (As := [.int (v67)]) (rest := []) (c_X7_many e_r68) zc_X7_many rfl (by decide) rfl (by decide) (Or.inl c69) zm_L_155 (Nat.le_of_ble_eq_true rfl) rfl dL_law_644 ?_
                                      refine V_pc (pc' := 647) rfl ?_
                                      refine V_istore (ls' := [(6, .int (r68.1)), (5, .int (r66.1)), (0, .ref (zad L (a0))), (1, .ref (zad L (a1))), (2, .ref (zad L (a2))), (3, .ref (zad L (a3))), (4, .int (i4))]) dL_law_647 (by decide) rfl ?_
                                      refine V_goto (tgt := 843) dL_law_649 (by decide) ?_
                                      refine V_iinc (v := i4 + (4 : Int32)) (ls' := [(4, .int ((i4 + (4 : Int32)))), (6, .int (r68.1)), (5, .int (r66.1)), (0, .ref (zad L (a0))), (1, .ref (zad L (a1))), (2, .ref (zad L (a2))), (3, .ref (zad L (a3)))]) dL_law_843 6 rfl (by rfl) (by decide) rfl ?_
                                      refine V_goto (tgt := 27) dL_law_846 (by decide) ?_
                                      refine V_sub [3, 4, 5, 6, 0] rfl ?_
                                      exact ih _ _ _ _ _ _ h
                                    · replace h := (oi h).2 c18
                                      by_cases c19 : ((v2 &&& ((31 : Int32)))) = 16
                                      · replace h := (oi h).1 c19
                                        refine V_tabIn (off := 609) (tgt := 652) dL_law_43 (by rw [c19]; decide) (by rw [c19]; decide) (by rw [c19]; decide) (by decide) ?_
                                        refine V_aload_n dL_law_652 rfl 1 rfl ?_
                                        refine V_aload_n dL_law_653 rfl 0 rfl ?_
                                        refine V_iload dL_law_654 4 rfl ?_
                                        refine V_iconst (v := 1) dL_law_656 (by decide) ?_
                                        refine V_iadd dL_law_657 ?_
                                        replace h := ob h
                                        obtain ⟨v60, e_v60, h⟩ := h
                                        refine V_iald e_v60 dL_law_658 ?_
                                        refine V_pc (pc' := 659) rfl ?_
                                        refine V_aload_n dL_law_659 rfl 3 rfl ?_
                                        replace h := ob h
                                        obtain ⟨r61, e_r61, h⟩ := h
                                        refine V_callSW_I (As := [.ref (zad L (a1)), .int (v60), .ref (zad L (a3))]) (rest := []) (c_L_lead e_r61) zc_L_lead rfl (by decide) zm_L_156 (Nat.le_of_ble_eq_true rfl) rfl dL_law_660 ?_
                                        refine V_pc (pc' := 663) rfl ?_
                                        refine V_istore (ls' := [(5, .int (r61.1)), (0, .ref (zad L (a0))), (1, .ref (zad L (a1))), (2, .ref (zad L (a2))), (3, .ref (zad L (a3))), (4, .int (i4))]) dL_law_663 (by decide) rfl ?_
                                        refine V_aload_n dL_law_665 rfl 3 rfl ?_
                                        refine V_aload_n dL_law_666 rfl 1 rfl ?_
                                        refine V_iload dL_law_667 5 rfl ?_
                                        refine V_iconst (v := 1) dL_law_669 (by decide) ?_
                                        refine V_iadd dL_law_670 ?_
                                        replace h := ob h
                                        obtain ⟨v62, e_v62, h⟩ := h
                                        refine V_iald e_v62 dL_law_671 ?_
                                        refine V_pc (pc' := 672) rfl ?_
                                        replace h := ox h
                                        obtain ⟨c64, h⟩ := h
                                        replace h := ob h
                                        obtain ⟨r63, e_r63, h⟩ := h
                                        refine V_callV_D (As := [.int (v62)]) (rest := []) (c_X7_lead e_r63) zc_X7_lead rfl (by decide) rfl (by decide) (Or.inl c64) zm_L_158 (Nat.le_of_ble_eq_true rfl) rfl dL_law_672 ?_
                                        refine V_pc (pc' := 675) rfl ?_
                                        refine V_dstore (ls' := [(6, .double (r63.1)), (5, .int (r61.1)), (0, .ref (zad L (a0))), (1, .ref (zad L (a1))), (2, .ref (zad L (a2))), (3, .ref (zad L (a3))), (4, .int (i4))]) dL_law_675 (by decide) rfl ?_
                                        refine V_goto (tgt := 843) dL_law_677 (by decide) ?_
                                        refine V_iinc (v := i4 + (4 : Int32)) (ls' := [(4, .int ((i4 + (4 : Int32)))), (6, .double (r63.1)), (5, .int (r61.1)), (0, .ref (zad L (a0))), (1, .ref (zad L (a1))), (2, .ref (zad L (a2))), (3, .ref (zad L (a3)))]) dL_law_843 6 rfl (by rfl) (by decide) rfl ?_
                                        refine V_goto (tgt := 27) dL_law_846 (by decide) ?_
                                        refine V_sub [3, 4, 5, 6, 0] rfl ?_
                                        exact ih _ _ _ _ _ _ h
                                      · replace h := (oi h).2 c19
                                        by_cases c20 : ((v2 &&& ((31 : Int32)))) = 17
                                        · replace h := (oi h).1 c20
                                          refine V_tabIn (off := 637) (tgt := 680) dL_law_43 (by rw [c20]; decide) (by rw [c20]; decide) (by rw [c20]; decide) (by decide) ?_
                                          refine V_aload_n dL_law_680 rfl 1 rfl ?_
                                          refine V_aload_n dL_law_681 rfl 0 rfl ?_
                                          refine V_iload dL_law_682 4 rfl ?_
                                          refine V_iconst (v := 1) dL_law_684 (by decide) ?_
                                          refine V_iadd dL_law_685 ?_
                                          replace h := ob h
                                          obtain ⟨v47, e_v47, h⟩ := h
                                          refine V_iald e_v47 dL_law_686 ?_
                                          refine V_pc (pc' := 687) rfl ?_
                                          refine V_aload_n dL_law_687 rfl 0 rfl ?_
                                          refine V_iload dL_law_688 4 rfl ?_
                                          refine V_iconst (v := 2) dL_law_690 (by decide) ?_
                                          refine V_iadd dL_law_691 ?_
                                          replace h := ob h
                                          obtain ⟨v48, e_v48, h⟩ := h
                                          refine V_iald e_v48 dL_law_692 ?_
                                          refine V_pc (pc' := 693) rfl ?_
                                          refine V_aload_n dL_law_693 rfl 3 rfl ?_
                                          replace h := ob h
                                          obtain ⟨r49, e_r49, h⟩ := h
                                          refine V_callSW_I (As := [.ref (zad L (a1)), .int (v47), .int (v48), .ref (zad L (a3))]) (rest := []) (c_L_worth e_r49) zc_L_worth rfl (by decide) zm_L_159 (Nat.le_of_ble_eq_true rfl) rfl dL_law_694 ?_
                                          refine V_pc (pc' := 697) rfl ?_
                                          refine V_istore (ls' := [(5, .int (r49.1)), (0, .ref (zad L (a0))), (1, .ref (zad L (a1))), (2, .ref (zad L (a2))), (3, .ref (zad L (a3))), (4, .int (i4))]) dL_law_697 (by decide) rfl ?_
                                          refine V_aload_n dL_law_699 rfl 3 rfl ?_
                                          refine V_aload_n dL_law_700 rfl 1 rfl ?_
                                          refine V_iload dL_law_701 5 rfl ?_
                                          refine V_iconst (v := 1) dL_law_703 (by decide) ?_
                                          refine V_iadd dL_law_704 ?_
                                          replace h := ob h
                                          obtain ⟨v50, e_v50, h⟩ := h
                                          refine V_iald e_v50 dL_law_705 ?_
                                          refine V_pc (pc' := 706) rfl ?_
                                          refine V_aload_n dL_law_706 rfl 1 rfl ?_
                                          refine V_iload dL_law_707 5 rfl ?_
                                          refine V_iconst (v := 2) dL_law_709 (by decide) ?_
                                          refine V_iadd dL_law_710 ?_
                                          replace h := ob h
                                          obtain ⟨v51, e_v51, h⟩ := h
                                          refine V_iald e_v51 dL_law_711 ?_
                                          refine V_pc (pc' := 712) rfl ?_
                                          replace h := ox h
                                          obtain ⟨c53, h⟩ := h
                                          replace h := ob h
                                          obtain ⟨r52, e_r52, h⟩ := h
                                          refine V_callV_I (As := [.int (v50), .int (v51)]) (rest := []) (c_X7_worth e_r52) zc_X7_worth rfl (by decide) rfl (by decide) (Or.inl c53) zm_L_161 (Nat.le_of_ble_eq_true rfl) rfl dL_law_712 ?_
                                          refine V_pc (pc' := 715) rfl ?_
                                          refine V_istore (ls' := [(6, .int (r52.1)), (5, .int (r49.1)), (0, .ref (zad L (a0))), (1, .ref (zad L (a1))), (2, .ref (zad L (a2))), (3, .ref (zad L (a3))), (4, .int (i4))]) dL_law_715 (by decide) rfl ?_
                                          refine V_aload_n dL_law_717 rfl 4 rfl ?_
                                          replace h := ox h
                                          obtain ⟨c55, h⟩ := h
                                          replace h := ob h
                                          obtain ⟨r54, e_r54, h⟩ := h
                                          refine V_callV_I (As := []) (rest := []) (c_X7_thrown e_r54) zc_X7_thrown rfl (by decide) rfl (by decide) (Or.inl c55) zm_L_162 (Nat.le_of_ble_eq_true rfl) rfl dL_law_718 ?_
                                          refine V_pc (pc' := 721) rfl ?_
                                          refine V_iload dL_law_721 1 rfl ?_
                                          refine V_icmp_eq (tgt := 728) dL_law_723 (by decide) (fun c59 => ?_) (fun c59 => ?_)
                                          · replace h := (oi h).1 c59
                                            refine V_iload dL_law_728 1 rfl ?_
                                            refine V_if_ne (tgt := 746) dL_law_730 (by decide) (fun c58 => ?_) (fun c58 => ?_)
                                            · replace h := (oi h).2 c58
                                              refine V_goto (tgt := 843) dL_law_746 (by decide) ?_
                                              refine V_iinc (v := i4 + (4 : Int32)) (ls' := [(4, .int ((i4 + (4 : Int32)))), (6, .int (r52.1)), (5, .int (r49.1)), (0, .ref (zad L (a0))), (1, .ref (zad L (a1))), (2, .ref (zad L (a2))), (3, .ref (zad L (a3)))]) dL_law_843 6 rfl (by rfl) (by decide) rfl ?_
                                              refine V_goto (tgt := 27) dL_law_846 (by decide) ?_
                                              refine V_sub [3, 4, 5, 6, 0] rfl ?_
                                              exact ih _ _ _ _ _ _ h
                                            · replace h := (oi h).1 c58
                                              refine V_aload_n dL_law_733 rfl 5 rfl ?_
                                              replace h := ob h
                                              obtain ⟨v56, e_v56, h⟩ := h
                                              refine V_getJN (ref := "") zf_10_0 zlN_L_13 e_v56 dL_law_734 ?_
                                              refine V_pc (pc' := 737) rfl ?_
                                              refine V_iload dL_law_737 0 rfl ?_
                                              refine V_i2l dL_law_739 ?_
                                              refine V_lcmp dL_law_740 ?_
                                              refine V_if_eq (tgt := 746) dL_law_741 (by decide) (fun c57 => ?_) (fun c57 => ?_)
                                              · replace h := (oi h).1 c57
                                                refine V_goto (tgt := 843) dL_law_746 (by decide) ?_
                                                refine V_iinc (v := i4 + (4 : Int32)) (ls' := [(4, .int ((i4 + (4 : Int32)))), (6, .int (r52.1)), (5, .int (r49.1)), (0, .ref (zad L (a0))), (1, .ref (zad L (a1))), (2, .ref (zad L (a2))), (3, .ref (zad L (a3)))]) dL_law_843 6 rfl (by rfl) (by decide) rfl ?_
                                                refine V_goto (tgt := 27) dL_law_846 (by decide) ?_
                                                refine V_sub [3, 4, 5, 6, 0] rfl ?_
                                                exact ih _ _ _ _ _ _ h
                                              · replace h := (oi h).2 c57
                                                refine V_iconst (v := 0) dL_law_744 (by decide) ?_
                                                cases h
                                          · replace h := (oi h).2 c59
                                            refine V_iconst (v := 0) dL_law_726 (by decide) ?_
                                            cases h
                                        · replace h := (oi h).2 c20
                                          by_cases c21 : ((v2 &&& ((31 : Int32)))) = 18
                                          · replace h := (oi h).1 c21
                                            refine V_tabIn (off := 706) (tgt := 749) dL_law_43 (by rw [c21]; decide) (by rw [c21]; decide) (by rw [c21]; decide) (by decide) ?_
                                            refine V_aload_n dL_law_749 rfl 1 rfl ?_
                                            replace h := ox h
                                            obtain ⟨c44, h⟩ := h
                                            replace h := ob h
                                            obtain ⟨r43, e_r43, h⟩ := h
                                            refine V_callV_I (As := []) (rest := []) (c_X3_best e_r43) zc_X3_best rfl (by decide) rfl (by decide) (Or.inl c44) zm_L_165 (Nat.le_of_ble_eq_true rfl) rfl dL_law_750 ?_
                                            refine V_pc (pc' := 753) rfl ?_
                                            refine V_pop dL_law_753 rfl ?_
                                            refine V_aload_n dL_law_754 rfl 2 rfl ?_
                                            replace h := ox h
                                            obtain ⟨c46, h⟩ := h
                                            replace h := ob h
                                            obtain ⟨r45, e_r45, h⟩ := h
                                            refine V_callV_I (As := []) (rest := []) (c_X7_best e_r45) zc_X7_best rfl (by decide) rfl (by decide) (Or.inl c46) zm_L_168 (Nat.le_of_ble_eq_true rfl) rfl dL_law_755 ?_
                                            refine V_pc (pc' := 758) rfl ?_
                                            refine V_pop dL_law_758 rfl ?_
                                            refine V_goto (tgt := 843) dL_law_759 (by decide) ?_
                                            refine V_iinc (v := i4 + (4 : Int32)) (ls' := [(4, .int ((i4 + (4 : Int32)))), (0, .ref (zad L (a0))), (1, .ref (zad L (a1))), (2, .ref (zad L (a2))), (3, .ref (zad L (a3)))]) dL_law_843 4 rfl (by rfl) (by decide) rfl ?_
                                            refine V_goto (tgt := 27) dL_law_846 (by decide) ?_
                                            refine V_sub [1, 2, 3, 4, 0] rfl ?_
                                            exact ih _ _ _ _ _ _ h
                                          · replace h := (oi h).2 c21
                                            by_cases c22 : ((v2 &&& ((31 : Int32)))) = 19
                                            · replace h := (oi h).1 c22
                                              refine V_tabIn (off := 719) (tgt := 762) dL_law_43 (by rw [c22]; decide) (by rw [c22]; decide) (by rw [c22]; decide) (by decide) ?_
                                              refine V_aload_n dL_law_762 rfl 1 rfl ?_
                                              refine V_aload_n dL_law_763 rfl 0 rfl ?_
                                              refine V_iload dL_law_764 4 rfl ?_
                                              refine V_iconst (v := 1) dL_law_766 (by decide) ?_
                                              refine V_iadd dL_law_767 ?_
                                              replace h := ob h
                                              obtain ⟨v36, e_v36, h⟩ := h
                                              refine V_iald e_v36 dL_law_768 ?_
                                              refine V_pc (pc' := 769) rfl ?_
                                              refine V_aload_n dL_law_769 rfl 0 rfl ?_
                                              refine V_iload dL_law_770 4 rfl ?_
                                              refine V_iconst (v := 2) dL_law_772 (by decide) ?_
                                              refine V_iadd dL_law_773 ?_
                                              replace h := ob h
                                              obtain ⟨v37, e_v37, h⟩ := h
                                              refine V_iald e_v37 dL_law_774 ?_
                                              refine V_pc (pc' := 775) rfl ?_
                                              refine V_aload_n dL_law_775 rfl 3 rfl ?_
                                              replace h := ob h
                                              obtain ⟨r38, e_r38, h⟩ := h
                                              refine V_callSW_I (As := [.ref (zad L (a1)), .int (v36), .int (v37), .ref (zad L (a3))]) (rest := []) (c_L_isSafe e_r38) zc_L_isSafe rfl (by decide) zm_L_169 (Nat.le_of_ble_eq_true rfl) rfl dL_law_776 ?_
                                              refine V_pc (pc' := 779) rfl ?_
                                              refine V_istore (ls' := [(5, .int (r38.1)), (0, .ref (zad L (a0))), (1, .ref (zad L (a1))), (2, .ref (zad L (a2))), (3, .ref (zad L (a3))), (4, .int (i4))]) dL_law_779 (by decide) rfl ?_
                                              refine V_aload_n dL_law_781 rfl 3 rfl ?_
                                              refine V_aload_n dL_law_782 rfl 1 rfl ?_
                                              refine V_iload dL_law_783 5 rfl ?_
                                              refine V_iconst (v := 1) dL_law_785 (by decide) ?_
                                              refine V_iadd dL_law_786 ?_
                                              replace h := ob h
                                              obtain ⟨v39, e_v39, h⟩ := h
                                              refine V_iald e_v39 dL_law_787 ?_
                                              refine V_pc (pc' := 788) rfl ?_
                                              refine V_aload_n dL_law_788 rfl 1 rfl ?_
                                              refine V_iload dL_law_789 5 rfl ?_
                                              refine V_iconst (v := 2) dL_law_791 (by decide) ?_
                                              refine V_iadd dL_law_792 ?_
                                              replace h := ob h
                                              obtain ⟨v40, e_v40, h⟩ := h
                                              refine V_iald e_v40 dL_law_793 ?_
                                              refine V_pc (pc' := 794) rfl ?_
                                              replace h := ox h
                                              obtain ⟨c42, h⟩ := h
                                              replace h := ob h
                                              obtain ⟨r41, e_r41, h⟩ := h
                                              refine V_callV_I (As := [.int (v39), .int (v40)]) (rest := []) (c_X7_isSafe e_r41) zc_X7_isSafe rfl (by decide) rfl (by decide) (Or.inl c42) zm_L_171 (Nat.le_of_ble_eq_true rfl) rfl dL_law_794 ?_
                                              refine V_pc (pc' := 797) rfl ?_
                                              refine V_istore (ls' := [(6, .int (r41.1)), (5, .int (r38.1)), (0, .ref (zad L (a0))), (1, .ref (zad L (a1))), (2, .ref (zad L (a2))), (3, .ref (zad L (a3))), (4, .int (i4))]) dL_law_797 (by decide) rfl ?_
                                              refine V_goto (tgt := 843) dL_law_799 (by decide) ?_
                                              refine V_iinc (v := i4 + (4 : Int32)) (ls' := [(4, .int ((i4 + (4 : Int32)))), (6, .int (r41.1)), (5, .int (r38.1)), (0, .ref (zad L (a0))), (1, .ref (zad L (a1))), (2, .ref (zad L (a2))), (3, .ref (zad L (a3)))]) dL_law_843 6 rfl (by rfl) (by decide) rfl ?_
                                              refine V_goto (tgt := 27) dL_law_846 (by decide) ?_
                                              refine V_sub [3, 4, 5, 6, 0] rfl ?_
                                              exact ih _ _ _ _ _ _ h
                                            · replace h := (oi h).2 c22
                                              by_cases c23 : ((v2 &&& ((31 : Int32)))) = 20
                                              · replace h := (oi h).1 c23
                                                refine V_tabIn (off := 759) (tgt := 802) dL_law_43 (by rw [c23]; decide) (by rw [c23]; decide) (by rw [c23]; decide) (by decide) ?_
                                                refine V_aload_n dL_law_802 rfl 1 rfl ?_
                                                refine V_aload_n dL_law_803 rfl 0 rfl ?_
                                                refine V_iload dL_law_804 4 rfl ?_
                                                refine V_iconst (v := 1) dL_law_806 (by decide) ?_
                                                refine V_iadd dL_law_807 ?_
                                                replace h := ob h
                                                obtain ⟨v31, e_v31, h⟩ := h
                                                refine V_iald e_v31 dL_law_808 ?_
                                                refine V_pc (pc' := 809) rfl ?_
                                                refine V_aload_n dL_law_809 rfl 3 rfl ?_
                                                replace h := ob h
                                                obtain ⟨r32, e_r32, h⟩ := h
                                                refine V_callSW_I (As := [.ref (zad L (a1)), .int (v31), .ref (zad L (a3))]) (rest := []) (c_L_outs e_r32) zc_L_outs rfl (by decide) zm_L_172 (Nat.le_of_ble_eq_true rfl) rfl dL_law_810 ?_
                                                refine V_pc (pc' := 813) rfl ?_
                                                refine V_istore (ls' := [(5, .int (r32.1)), (0, .ref (zad L (a0))), (1, .ref (zad L (a1))), (2, .ref (zad L (a2))), (3, .ref (zad L (a3))), (4, .int (i4))]) dL_law_813 (by decide) rfl ?_
                                                refine V_aload_n dL_law_815 rfl 3 rfl ?_
                                                refine V_aload_n dL_law_816 rfl 1 rfl ?_
                                                refine V_iload dL_law_817 5 rfl ?_
                                                refine V_iconst (v := 1) dL_law_819 (by decide) ?_
                                                refine V_iadd dL_law_820 ?_
                                                replace h := ob h
                                                obtain ⟨v33, e_v33, h⟩ := h
                                                refine V_iald e_v33 dL_law_821 ?_
                                                refine V_pc (pc' := 822) rfl ?_
                                                replace h := ox h
                                                obtain ⟨c35, h⟩ := h
                                                replace h := ob h
                                                obtain ⟨r34, e_r34, h⟩ := h
                                                refine V_callV_I (As := [.int (v33)]) (rest := []) (c_X7_outs e_r34) zc_X7_outs rfl (by decide) rfl (by decide) (Or.inl c35) zm_L_174 (Nat.le_of_ble_eq_true rfl) rfl dL_law_822 ?_
                                                refine V_pc (pc' := 825) rfl ?_
                                                refine V_istore (ls' := [(6, .int (r34.1)), (5, .int (r32.1)), (0, .ref (zad L (a0))), (1, .ref (zad L (a1))), (2, .ref (zad L (a2))), (3, .ref (zad L (a3))), (4, .int (i4))]) dL_law_825 (by decide) rfl ?_
                                                refine V_goto (tgt := 843) dL_law_827 (by decide) ?_
                                                refine V_iinc (v := i4 + (4 : Int32)) (ls' := [(4, .int ((i4 + (4 : Int32)))), (6, .int (r34.1)), (5, .int (r32.1)), (0, .ref (zad L (a0))), (1, .ref (zad L (a1))), (2, .ref (zad L (a2))), (3, .ref (zad L (a3)))]) dL_law_843 6 rfl (by rfl) (by decide) rfl ?_
                                                refine V_goto (tgt := 27) dL_law_846 (by decide) ?_
                                                refine V_sub [3, 4, 5, 6, 0] rfl ?_
                                                exact ih _ _ _ _ _ _ h
                                              · replace h := (oi h).2 c23
                                                by_cases c24 : ((v2 &&& ((31 : Int32)))) = 21
                                                · replace h := (oi h).1 c24
                                                  refine V_tabIn (off := 787) (tgt := 830) dL_law_43 (by rw [c24]; decide) (by rw [c24]; decide) (by rw [c24]; decide) (by decide) ?_
                                                  refine V_aload_n dL_law_830 rfl 1 rfl ?_
                                                  replace h := ox h
                                                  obtain ⟨c26, h⟩ := h
                                                  replace h := xns h
                                                  obtain ⟨w25, Mw25, e_r25, h⟩ := h
                                                  refine V_callVx_J (As := []) (rest := []) (c_X3_digest e_r25) zc_X3_digest rfl (by decide) rfl (by decide) (Or.inl c26) zm_L_175 (Nat.le_of_ble_eq_true rfl) rfl dL_law_831 ?_
                                                  refine V_pc (pc' := 834) rfl ?_
                                                  refine V_pop2 dL_law_834 rfl ?_
                                                  refine V_aload_n dL_law_835 rfl 2 rfl ?_
                                                  replace h := ox h
                                                  obtain ⟨c30, h⟩ := h
                                                  replace h := ob h
                                                  obtain ⟨r29, e_r29, h⟩ := h
                                                  refine V_callV_J (As := []) (rest := []) (c_X7_digest e_r29) zc_X7_digest rfl (by decide) rfl (by decide) (Or.inl c30) zm_L_179 (Nat.le_of_ble_eq_true rfl) rfl dL_law_836 ?_
                                                  refine V_pc (pc' := 839) rfl ?_
                                                  refine V_pop2 dL_law_839 rfl ?_
                                                  refine V_goto (tgt := 843) dL_law_840 (by decide) ?_
                                                  refine V_iinc (v := i4 + (4 : Int32)) (ls' := [(4, .int ((i4 + (4 : Int32)))), (0, .ref (zad L (a0))), (1, .ref (zad L (a1))), (2, .ref (zad L (a2))), (3, .ref (zad L (a3)))]) dL_law_843 4 rfl (by rfl) (by decide) rfl ?_
                                                  refine V_goto (tgt := 27) dL_law_846 (by decide) ?_
                                                  refine V_sub [1, 2, 3, 4, 0] rfl ?_
                                                  exact ih _ _ _ _ _ _ h
                                                · replace h := (oi h).2 c24
                                                  have hsw : ((v2 &&& ((31 : Int32)))).toInt < 0 ∨ 21 < ((v2 &&& ((31 : Int32)))).toInt := by
                                                    have q0 : ¬ ((v2 &&& ((31 : Int32)))).toInt = 0 := fun e => c3 (Int32.toInt_inj.mp (e.trans (by decide)))
                                                    have q1 : ¬ ((v2 &&& ((31 : Int32)))).toInt = 1 := fun e => c4 (Int32.toInt_inj.mp (e.trans (by decide)))
                                                    have q2 : ¬ ((v2 &&& ((31 : Int32)))).toInt = 2 := fun e => c5 (Int32.toInt_inj.mp (e.trans (by decide)))
                                                    have q3 : ¬ ((v2 &&& ((31 : Int32)))).toInt = 3 := fun e => c6 (Int32.toInt_inj.mp (e.trans (by decide)))
                                                    have q4 : ¬ ((v2 &&& ((31 : Int32)))).toInt = 4 := fun e => c7 (Int32.toInt_inj.mp (e.trans (by decide)))
                                                    have q5 : ¬ ((v2 &&& ((31 : Int32)))).toInt = 5 := fun e => c8 (Int32.toInt_inj.mp (e.trans (by decide)))
                                                    have q6 : ¬ ((v2 &&& ((31 : Int32)))).toInt = 6 := fun e => c9 (Int32.toInt_inj.mp (e.trans (by decide)))
                                                    have q7 : ¬ ((v2 &&& ((31 : Int32)))).toInt = 7 := fun e => c10 (Int32.toInt_inj.mp (e.trans (by decide)))
                                                    have q8 : ¬ ((v2 &&& ((31 : Int32)))).toInt = 8 := fun e => c11 (Int32.toInt_inj.mp (e.trans (by decide)))
                                                    have q9 : ¬ ((v2 &&& ((31 : Int32)))).toInt = 9 := fun e => c12 (Int32.toInt_inj.mp (e.trans (by decide)))
                                                    have q10 : ¬ ((v2 &&& ((31 : Int32)))).toInt = 10 := fun e => c13 (Int32.toInt_inj.mp (e.trans (by decide)))
                                                    have q11 : ¬ ((v2 &&& ((31 : Int32)))).toInt = 11 := fun e => c14 (Int32.toInt_inj.mp (e.trans (by decide)))
                                                    have q12 : ¬ ((v2 &&& ((31 : Int32)))).toInt = 12 := fun e => c15 (Int32.toInt_inj.mp (e.trans (by decide)))
                                                    have q13 : ¬ ((v2 &&& ((31 : Int32)))).toInt = 13 := fun e => c16 (Int32.toInt_inj.mp (e.trans (by decide)))
                                                    have q14 : ¬ ((v2 &&& ((31 : Int32)))).toInt = 14 := fun e => c17 (Int32.toInt_inj.mp (e.trans (by decide)))
                                                    have q15 : ¬ ((v2 &&& ((31 : Int32)))).toInt = 15 := fun e => c18 (Int32.toInt_inj.mp (e.trans (by decide)))
                                                    have q16 : ¬ ((v2 &&& ((31 : Int32)))).toInt = 16 := fun e => c19 (Int32.toInt_inj.mp (e.trans (by decide)))
                                                    have q17 : ¬ ((v2 &&& ((31 : Int32)))).toInt = 17 := fun e => c20 (Int32.toInt_inj.mp (e.trans (by decide)))
                                                    have q18 : ¬ ((v2 &&& ((31 : Int32)))).toInt = 18 := fun e => c21 (Int32.toInt_inj.mp (e.trans (by decide)))
                                                    have q19 : ¬ ((v2 &&& ((31 : Int32)))).toInt = 19 := fun e => c22 (Int32.toInt_inj.mp (e.trans (by decide)))
                                                    have q20 : ¬ ((v2 &&& ((31 : Int32)))).toInt = 20 := fun e => c23 (Int32.toInt_inj.mp (e.trans (by decide)))
                                                    have q21 : ¬ ((v2 &&& ((31 : Int32)))).toInt = 21 := fun e => c24 (Int32.toInt_inj.mp (e.trans (by decide)))
                                                    omega
                                                  refine V_tabOut (tgt := 843) dL_law_43 hsw (by decide) ?_
                                                  refine V_iinc (v := i4 + (4 : Int32)) (ls' := [(4, .int ((i4 + (4 : Int32)))), (0, .ref (zad L (a0))), (1, .ref (zad L (a1))), (2, .ref (zad L (a2))), (3, .ref (zad L (a3)))]) dL_law_843 4 rfl (by rfl) (by decide) rfl ?_
                                                  refine V_goto (tgt := 27) dL_law_846 (by decide) ?_
                                                  refine V_sub [1, 2, 3, 4, 0] rfl ?_
                                                  exact ih _ _ _ _ _ _ h
def f_L_law_0 (a0 : Nat) (M : zM) : Option (Unit × zM) :=
  (f_X3_init (mX M) (nO M 9 16)).bind fun r1 =>
  (f_X7_init (mX r1.2) (nO r1.2 13 15)).bind fun r2 =>
  (f_X4_init (mX r2.2) (nO r2.2 10 3)).bind fun r3 =>
  f_L_law_27 zNL a0 (mX M) (mX r1.2) (mX r2.2) ((0 : Int32)) r3.2
set_option maxRecDepth 20000 in
set_option maxHeartbeats 4000000 in
theorem s_L_law_0 {L : zL} {X : zX} {M0 : zM} {N : Nat × Nat} {Q : State → Prop} {r : Unit × zM} (hq : ∀ {M : zM} {pc : Nat} {ls : List (Nat × Value)}, M = r.2 → decode cL_law pc = .ok (.ireturn, 1) → V L X yL_law cL_law 8 (some FieldType.boolean) 135 M0 N Q M pc ls [.int 1]) {a0 : Nat} {M : zM} (h : f_L_law_0 a0 M = some r) : V L X yL_law cL_law 8 (some FieldType.boolean) 135 M0 N Q M 0 [(0, .ref (zad L (a0)))] [] := by
  unfold f_L_law_0 at h
  refine V_new (by decide) rfl zin9 zty9 zdf9 zn_L_8 dL_law_0 ?_
  refine V_dup dL_law_3 rfl ?_
  replace h := ob h
  obtain ⟨r1, e_r1, h⟩ := h
  refine V_callI_V (As := []) (rest := [.ref (zad L (mX M))]) (c_X3_init e_r1) zc_X3_init rfl (by decide) zm_L_97 rfl (Nat.le_of_ble_eq_true rfl) rfl dL_law_4 ?_
  refine V_pc (pc' := 7) rfl ?_
  refine V_astore_n (ls' := [(1, .ref (zad L (mX M))), (0, .ref (zad L (a0)))]) dL_law_7 rfl (by decide) rfl ?_
  refine V_new (by decide) rfl zin13 zty13 zdf13 zn_L_98 dL_law_8 ?_
  refine V_dup dL_law_11 rfl ?_
  replace h := ob h
  obtain ⟨r2, e_r2, h⟩ := h
  refine V_callI_V (As := []) (rest := [.ref (zad L (mX r1.2))]) (c_X7_init e_r2) zc_X7_init rfl (by decide) zm_L_100 rfl (Nat.le_of_ble_eq_true rfl) rfl dL_law_12 ?_
  refine V_pc (pc' := 15) rfl ?_
  refine V_astore_n (ls' := [(2, .ref (zad L (mX r1.2))), (1, .ref (zad L (mX M))), (0, .ref (zad L (a0)))]) dL_law_15 rfl (by decide) rfl ?_
  refine V_new (by decide) rfl zin10 zty10 zdf10 zn_L_14 dL_law_16 ?_
  refine V_dup dL_law_19 rfl ?_
  replace h := ob h
  obtain ⟨r3, e_r3, h⟩ := h
  refine V_callIN_V (As := []) (rest := [.ref (zad L (mX r2.2))]) (c_X4_init e_r3) zc_X4_init rfl (by decide) zm_L_101 rfl (Nat.le_of_ble_eq_true rfl) rfl dL_law_20 ?_
  refine V_pc (pc' := 23) rfl ?_
  refine V_astore_n (ls' := [(3, .ref (zad L (mX r2.2))), (2, .ref (zad L (mX r1.2))), (1, .ref (zad L (mX M))), (0, .ref (zad L (a0)))]) dL_law_23 rfl (by decide) rfl ?_
  refine V_iconst (v := 0) dL_law_24 (by decide) ?_
  refine V_istore (ls' := [(4, .int ((0 : Int32))), (3, .ref (zad L (mX r2.2))), (2, .ref (zad L (mX r1.2))), (1, .ref (zad L (mX M))), (0, .ref (zad L (a0)))]) dL_law_25 (by decide) rfl ?_
  refine V_sub [4, 3, 2, 1, 0] rfl ?_
  exact s_L_law_27 hq h
def f_L_law (a0 : Nat) (M : zM) : Option (Unit × zM) := f_L_law_0 a0 M
