/-! ===== METHODS, by program ===== -/
/-! WindsparlourLaw.areWell(LWindsparlour;)Z -/
theorem dL_areWell_0 : decode cL_areWell 0 = .ok (.aload_n 0, 1) := by decide +kernel
theorem dL_areWell_1 : decode cL_areWell 1 = .ok (.iconst 2, 1) := by decide +kernel
theorem dL_areWell_2 : decode cL_areWell 2 = .ok (.invokevirtual 18, 3) := by decide +kernel
theorem dL_areWell_5 : decode cL_areWell 5 = .ok (.istore_n 1, 1) := by decide +kernel
theorem dL_areWell_6 : decode cL_areWell 6 = .ok (.aload_n 0, 1) := by decide +kernel
theorem dL_areWell_7 : decode cL_areWell 7 = .ok (.bipush 6, 2) := by decide +kernel
theorem dL_areWell_9 : decode cL_areWell 9 = .ok (.invokevirtual 18, 3) := by decide +kernel
theorem dL_areWell_12 : decode cL_areWell 12 = .ok (.istore_n 2, 1) := by decide +kernel
theorem dL_areWell_13 : decode cL_areWell 13 = .ok (.dconst 0, 1) := by decide +kernel
theorem dL_areWell_14 : decode cL_areWell 14 = .ok (.dstore_n 3, 1) := by decide +kernel
theorem dL_areWell_15 : decode cL_areWell 15 = .ok (.iconst 0, 1) := by decide +kernel
theorem dL_areWell_16 : decode cL_areWell 16 = .ok (.istore 5, 2) := by decide +kernel
theorem dL_areWell_18 : decode cL_areWell 18 = .ok (.iload 5, 2) := by decide +kernel
theorem dL_areWell_20 : decode cL_areWell 20 = .ok (.iconst 4, 1) := by decide +kernel
theorem dL_areWell_21 : decode cL_areWell 21 = .ok (.if_icmp .ge 254, 3) := by decide +kernel
theorem dL_areWell_24 : decode cL_areWell 24 = .ok (.aload_n 0, 1) := by decide +kernel
theorem dL_areWell_25 : decode cL_areWell 25 = .ok (.iload 5, 2) := by decide +kernel
theorem dL_areWell_27 : decode cL_areWell 27 = .ok (.iconst 1, 1) := by decide +kernel
theorem dL_areWell_28 : decode cL_areWell 28 = .ok (.invokevirtual 29, 3) := by decide +kernel
theorem dL_areWell_31 : decode cL_areWell 31 = .ok (.istore 6, 2) := by decide +kernel
theorem dL_areWell_33 : decode cL_areWell 33 = .ok (.aload_n 0, 1) := by decide +kernel
theorem dL_areWell_34 : decode cL_areWell 34 = .ok (.iload 5, 2) := by decide +kernel
theorem dL_areWell_36 : decode cL_areWell 36 = .ok (.iconst 3, 1) := by decide +kernel
theorem dL_areWell_37 : decode cL_areWell 37 = .ok (.invokevirtual 29, 3) := by decide +kernel
theorem dL_areWell_40 : decode cL_areWell 40 = .ok (.iconst 3, 1) := by decide +kernel
theorem dL_areWell_41 : decode cL_areWell 41 = .ok (.iload 6, 2) := by decide +kernel
theorem dL_areWell_43 : decode cL_areWell 43 = .ok (.imul, 1) := by decide +kernel
theorem dL_areWell_44 : decode cL_areWell 44 = .ok (.iadd, 1) := by decide +kernel
theorem dL_areWell_45 : decode cL_areWell 45 = .ok (.istore 7, 2) := by decide +kernel
theorem dL_areWell_47 : decode cL_areWell 47 = .ok (.aload_n 0, 1) := by decide +kernel
theorem dL_areWell_48 : decode cL_areWell 48 = .ok (.iconst 0, 1) := by decide +kernel
theorem dL_areWell_49 : decode cL_areWell 49 = .ok (.invokevirtual 18, 3) := by decide +kernel
theorem dL_areWell_52 : decode cL_areWell 52 = .ok (.iconst 1, 1) := by decide +kernel
theorem dL_areWell_53 : decode cL_areWell 53 = .ok (.if_icmp .ne 13, 3) := by decide +kernel
theorem dL_areWell_56 : decode cL_areWell 56 = .ok (.aload_n 0, 1) := by decide +kernel
theorem dL_areWell_57 : decode cL_areWell 57 = .ok (.iconst 1, 1) := by decide +kernel
theorem dL_areWell_58 : decode cL_areWell 58 = .ok (.invokevirtual 18, 3) := by decide +kernel
theorem dL_areWell_61 : decode cL_areWell 61 = .ok (.iload 5, 2) := by decide +kernel
theorem dL_areWell_63 : decode cL_areWell 63 = .ok (.if_icmp .eq 23, 3) := by decide +kernel
theorem dL_areWell_66 : decode cL_areWell 66 = .ok (.aload_n 0, 1) := by decide +kernel
theorem dL_areWell_67 : decode cL_areWell 67 = .ok (.iconst 0, 1) := by decide +kernel
theorem dL_areWell_68 : decode cL_areWell 68 = .ok (.invokevirtual 18, 3) := by decide +kernel
theorem dL_areWell_71 : decode cL_areWell 71 = .ok (.iconst 3, 1) := by decide +kernel
theorem dL_areWell_72 : decode cL_areWell 72 = .ok (.if_icmp .ne 18, 3) := by decide +kernel
theorem dL_areWell_75 : decode cL_areWell 75 = .ok (.aload_n 0, 1) := by decide +kernel
theorem dL_areWell_76 : decode cL_areWell 76 = .ok (.bipush 9, 2) := by decide +kernel
theorem dL_areWell_78 : decode cL_areWell 78 = .ok (.invokevirtual 18, 3) := by decide +kernel
theorem dL_areWell_81 : decode cL_areWell 81 = .ok (.iload 5, 2) := by decide +kernel
theorem dL_areWell_83 : decode cL_areWell 83 = .ok (.if_icmp .ne 7, 3) := by decide +kernel
theorem dL_areWell_86 : decode cL_areWell 86 = .ok (.iconst 1, 1) := by decide +kernel
theorem dL_areWell_87 : decode cL_areWell 87 = .ok (.goto 4, 3) := by decide +kernel
theorem dL_areWell_90 : decode cL_areWell 90 = .ok (.iconst 0, 1) := by decide +kernel
theorem dL_areWell_91 : decode cL_areWell 91 = .ok (.istore 8, 2) := by decide +kernel
theorem dL_areWell_93 : decode cL_areWell 93 = .ok (.iload 7, 2) := by decide +kernel
theorem dL_areWell_95 : decode cL_areWell 95 = .ok (.bipush 10, 2) := by decide +kernel
theorem dL_areWell_97 : decode cL_areWell 97 = .ok (.if_icmp .eq 15, 3) := by decide +kernel
theorem dL_areWell_100 : decode cL_areWell 100 = .ok (.iload 7, 2) := by decide +kernel
theorem dL_areWell_102 : decode cL_areWell 102 = .ok (.bipush 11, 2) := by decide +kernel
theorem dL_areWell_104 : decode cL_areWell 104 = .ok (.if_icmp .ne 34, 3) := by decide +kernel
theorem dL_areWell_107 : decode cL_areWell 107 = .ok (.iload 8, 2) := by decide +kernel
theorem dL_areWell_109 : decode cL_areWell 109 = .ok (.ifCond .eq 29, 3) := by decide +kernel
theorem dL_areWell_112 : decode cL_areWell 112 = .ok (.aload_n 0, 1) := by decide +kernel
theorem dL_areWell_113 : decode cL_areWell 113 = .ok (.iconst 0, 1) := by decide +kernel
theorem dL_areWell_114 : decode cL_areWell 114 = .ok (.invokevirtual 18, 3) := by decide +kernel
theorem dL_areWell_117 : decode cL_areWell 117 = .ok (.iconst 1, 1) := by decide +kernel
theorem dL_areWell_118 : decode cL_areWell 118 = .ok (.if_icmp .ne 22, 3) := by decide +kernel
theorem dL_areWell_121 : decode cL_areWell 121 = .ok (.aload_n 0, 1) := by decide +kernel
theorem dL_areWell_122 : decode cL_areWell 122 = .ok (.iconst 1, 1) := by decide +kernel
theorem dL_areWell_123 : decode cL_areWell 123 = .ok (.invokevirtual 18, 3) := by decide +kernel
theorem dL_areWell_126 : decode cL_areWell 126 = .ok (.iload 5, 2) := by decide +kernel
theorem dL_areWell_128 : decode cL_areWell 128 = .ok (.if_icmp .ne 12, 3) := by decide +kernel
theorem dL_areWell_131 : decode cL_areWell 131 = .ok (.iload 7, 2) := by decide +kernel
theorem dL_areWell_133 : decode cL_areWell 133 = .ok (.bipush 11, 2) := by decide +kernel
theorem dL_areWell_135 : decode cL_areWell 135 = .ok (.if_icmp .eq 5, 3) := by decide +kernel
theorem dL_areWell_138 : decode cL_areWell 138 = .ok (.iconst 0, 1) := by decide +kernel
theorem dL_areWell_139 : decode cL_areWell 139 = .ok (.ireturn, 1) := by decide +kernel
theorem dL_areWell_140 : decode cL_areWell 140 = .ok (.iload_n 1, 1) := by decide +kernel
theorem dL_areWell_141 : decode cL_areWell 141 = .ok (.aload_n 0, 1) := by decide +kernel
theorem dL_areWell_142 : decode cL_areWell 142 = .ok (.iload 5, 2) := by decide +kernel
theorem dL_areWell_144 : decode cL_areWell 144 = .ok (.iconst 3, 1) := by decide +kernel
theorem dL_areWell_145 : decode cL_areWell 145 = .ok (.invokevirtual 29, 3) := by decide +kernel
theorem dL_areWell_148 : decode cL_areWell 148 = .ok (.aload_n 0, 1) := by decide +kernel
theorem dL_areWell_149 : decode cL_areWell 149 = .ok (.iload 5, 2) := by decide +kernel
theorem dL_areWell_151 : decode cL_areWell 151 = .ok (.iconst 4, 1) := by decide +kernel
theorem dL_areWell_152 : decode cL_areWell 152 = .ok (.invokevirtual 29, 3) := by decide +kernel
theorem dL_areWell_155 : decode cL_areWell 155 = .ok (.iadd, 1) := by decide +kernel
theorem dL_areWell_156 : decode cL_areWell 156 = .ok (.iadd, 1) := by decide +kernel
theorem dL_areWell_157 : decode cL_areWell 157 = .ok (.istore_n 1, 1) := by decide +kernel
theorem dL_areWell_158 : decode cL_areWell 158 = .ok (.iconst 0, 1) := by decide +kernel
theorem dL_areWell_159 : decode cL_areWell 159 = .ok (.istore 9, 2) := by decide +kernel
theorem dL_areWell_161 : decode cL_areWell 161 = .ok (.iload 9, 2) := by decide +kernel
theorem dL_areWell_163 : decode cL_areWell 163 = .ok (.iload 6, 2) := by decide +kernel
theorem dL_areWell_165 : decode cL_areWell 165 = .ok (.if_icmp .ge 31, 3) := by decide +kernel
theorem dL_areWell_168 : decode cL_areWell 168 = .ok (.iload_n 1, 1) := by decide +kernel
theorem dL_areWell_169 : decode cL_areWell 169 = .ok (.aload_n 0, 1) := by decide +kernel
theorem dL_areWell_170 : decode cL_areWell 170 = .ok (.iload 5, 2) := by decide +kernel
theorem dL_areWell_172 : decode cL_areWell 172 = .ok (.iload 9, 2) := by decide +kernel
theorem dL_areWell_174 : decode cL_areWell 174 = .ok (.invokevirtual 70, 3) := by decide +kernel
theorem dL_areWell_177 : decode cL_areWell 177 = .ok (.sipush 200, 3) := by decide +kernel
theorem dL_areWell_180 : decode cL_areWell 180 = .ok (.if_icmp .ge 7, 3) := by decide +kernel
theorem dL_areWell_183 : decode cL_areWell 183 = .ok (.iconst 3, 1) := by decide +kernel
theorem dL_areWell_184 : decode cL_areWell 184 = .ok (.goto 4, 3) := by decide +kernel
theorem dL_areWell_187 : decode cL_areWell 187 = .ok (.iconst 4, 1) := by decide +kernel
theorem dL_areWell_188 : decode cL_areWell 188 = .ok (.iadd, 1) := by decide +kernel
theorem dL_areWell_189 : decode cL_areWell 189 = .ok (.istore_n 1, 1) := by decide +kernel
theorem dL_areWell_190 : decode cL_areWell 190 = .ok (.iinc 9 1, 3) := by decide +kernel
theorem dL_areWell_193 : decode cL_areWell 193 = .ok (.goto (-32), 3) := by decide +kernel
theorem dL_areWell_196 : decode cL_areWell 196 = .ok (.iload_n 2, 1) := by decide +kernel
theorem dL_areWell_197 : decode cL_areWell 197 = .ok (.aload_n 0, 1) := by decide +kernel
theorem dL_areWell_198 : decode cL_areWell 198 = .ok (.iload 5, 2) := by decide +kernel
theorem dL_areWell_200 : decode cL_areWell 200 = .ok (.iconst 0, 1) := by decide +kernel
theorem dL_areWell_201 : decode cL_areWell 201 = .ok (.invokevirtual 29, 3) := by decide +kernel
theorem dL_areWell_204 : decode cL_areWell 204 = .ok (.iadd, 1) := by decide +kernel
theorem dL_areWell_205 : decode cL_areWell 205 = .ok (.istore_n 2, 1) := by decide +kernel
theorem dL_areWell_206 : decode cL_areWell 206 = .ok (.dload_n 3, 1) := by decide +kernel
theorem dL_areWell_207 : decode cL_areWell 207 = .ok (.aload_n 0, 1) := by decide +kernel
theorem dL_areWell_208 : decode cL_areWell 208 = .ok (.iload 5, 2) := by decide +kernel
theorem dL_areWell_210 : decode cL_areWell 210 = .ok (.invokevirtual 109, 3) := by decide +kernel
theorem dL_areWell_213 : decode cL_areWell 213 = .ok (.dadd, 1) := by decide +kernel
theorem dL_areWell_214 : decode cL_areWell 214 = .ok (.dstore_n 3, 1) := by decide +kernel
theorem dL_areWell_215 : decode cL_areWell 215 = .ok (.aload_n 0, 1) := by decide +kernel
theorem dL_areWell_216 : decode cL_areWell 216 = .ok (.iload 5, 2) := by decide +kernel
theorem dL_areWell_218 : decode cL_areWell 218 = .ok (.iconst 2, 1) := by decide +kernel
theorem dL_areWell_219 : decode cL_areWell 219 = .ok (.invokevirtual 29, 3) := by decide +kernel
theorem dL_areWell_222 : decode cL_areWell 222 = .ok (.iload 6, 2) := by decide +kernel
theorem dL_areWell_224 : decode cL_areWell 224 = .ok (.if_icmp .gt 43, 3) := by decide +kernel
theorem dL_areWell_227 : decode cL_areWell 227 = .ok (.aload_n 0, 1) := by decide +kernel
theorem dL_areWell_228 : decode cL_areWell 228 = .ok (.iload 5, 2) := by decide +kernel
theorem dL_areWell_230 : decode cL_areWell 230 = .ok (.iconst 5, 1) := by decide +kernel
theorem dL_areWell_231 : decode cL_areWell 231 = .ok (.invokevirtual 29, 3) := by decide +kernel
theorem dL_areWell_234 : decode cL_areWell 234 = .ok (.iconst 1, 1) := by decide +kernel
theorem dL_areWell_235 : decode cL_areWell 235 = .ok (.if_icmp .ne 13, 3) := by decide +kernel
theorem dL_areWell_238 : decode cL_areWell 238 = .ok (.aload_n 0, 1) := by decide +kernel
theorem dL_areWell_239 : decode cL_areWell 239 = .ok (.iload 5, 2) := by decide +kernel
theorem dL_areWell_241 : decode cL_areWell 241 = .ok (.iconst 2, 1) := by decide +kernel
theorem dL_areWell_242 : decode cL_areWell 242 = .ok (.invokevirtual 29, 3) := by decide +kernel
theorem dL_areWell_245 : decode cL_areWell 245 = .ok (.ifCond .gt 22, 3) := by decide +kernel
theorem dL_areWell_248 : decode cL_areWell 248 = .ok (.aload_n 0, 1) := by decide +kernel
theorem dL_areWell_249 : decode cL_areWell 249 = .ok (.iload 5, 2) := by decide +kernel
theorem dL_areWell_251 : decode cL_areWell 251 = .ok (.invokevirtual 113, 3) := by decide +kernel
theorem dL_areWell_254 : decode cL_areWell 254 = .ok (.invokevirtual 117, 3) := by decide +kernel
theorem dL_areWell_257 : decode cL_areWell 257 = .ok (.aload_n 0, 1) := by decide +kernel
theorem dL_areWell_258 : decode cL_areWell 258 = .ok (.iload 5, 2) := by decide +kernel
theorem dL_areWell_260 : decode cL_areWell 260 = .ok (.iconst 3, 1) := by decide +kernel
theorem dL_areWell_261 : decode cL_areWell 261 = .ok (.invokevirtual 29, 3) := by decide +kernel
theorem dL_areWell_264 : decode cL_areWell 264 = .ok (.if_icmp .ge 5, 3) := by decide +kernel
theorem dL_areWell_267 : decode cL_areWell 267 = .ok (.iconst 0, 1) := by decide +kernel
theorem dL_areWell_268 : decode cL_areWell 268 = .ok (.ireturn, 1) := by decide +kernel
theorem dL_areWell_269 : decode cL_areWell 269 = .ok (.iinc 5 1, 3) := by decide +kernel
theorem dL_areWell_272 : decode cL_areWell 272 = .ok (.goto (-254), 3) := by decide +kernel
theorem dL_areWell_275 : decode cL_areWell 275 = .ok (.iconst 0, 1) := by decide +kernel
theorem dL_areWell_276 : decode cL_areWell 276 = .ok (.istore 5, 2) := by decide +kernel
theorem dL_areWell_278 : decode cL_areWell 278 = .ok (.iconst 0, 1) := by decide +kernel
theorem dL_areWell_279 : decode cL_areWell 279 = .ok (.istore 6, 2) := by decide +kernel
theorem dL_areWell_281 : decode cL_areWell 281 = .ok (.iload 6, 2) := by decide +kernel
theorem dL_areWell_283 : decode cL_areWell 283 = .ok (.bipush 25, 2) := by decide +kernel
theorem dL_areWell_285 : decode cL_areWell 285 = .ok (.if_icmp .ge 69, 3) := by decide +kernel
theorem dL_areWell_288 : decode cL_areWell 288 = .ok (.iconst 0, 1) := by decide +kernel
theorem dL_areWell_289 : decode cL_areWell 289 = .ok (.istore 7, 2) := by decide +kernel
theorem dL_areWell_291 : decode cL_areWell 291 = .ok (.iconst 0, 1) := by decide +kernel
theorem dL_areWell_292 : decode cL_areWell 292 = .ok (.istore 8, 2) := by decide +kernel
theorem dL_areWell_294 : decode cL_areWell 294 = .ok (.iload 8, 2) := by decide +kernel
theorem dL_areWell_296 : decode cL_areWell 296 = .ok (.iconst 4, 1) := by decide +kernel
theorem dL_areWell_297 : decode cL_areWell 297 = .ok (.if_icmp .ge 22, 3) := by decide +kernel
theorem dL_areWell_300 : decode cL_areWell 300 = .ok (.iload 7, 2) := by decide +kernel
theorem dL_areWell_302 : decode cL_areWell 302 = .ok (.aload_n 0, 1) := by decide +kernel
theorem dL_areWell_303 : decode cL_areWell 303 = .ok (.iload 8, 2) := by decide +kernel
theorem dL_areWell_305 : decode cL_areWell 305 = .ok (.iload 6, 2) := by decide +kernel
theorem dL_areWell_307 : decode cL_areWell 307 = .ok (.invokevirtual 36, 3) := by decide +kernel
theorem dL_areWell_310 : decode cL_areWell 310 = .ok (.iadd, 1) := by decide +kernel
theorem dL_areWell_311 : decode cL_areWell 311 = .ok (.istore 7, 2) := by decide +kernel
theorem dL_areWell_313 : decode cL_areWell 313 = .ok (.iinc 8 1, 3) := by decide +kernel
theorem dL_areWell_316 : decode cL_areWell 316 = .ok (.goto (-22), 3) := by decide +kernel
theorem dL_areWell_319 : decode cL_areWell 319 = .ok (.iload 7, 2) := by decide +kernel
theorem dL_areWell_321 : decode cL_areWell 321 = .ok (.aload_n 0, 1) := by decide +kernel
theorem dL_areWell_322 : decode cL_areWell 322 = .ok (.iload 6, 2) := by decide +kernel
theorem dL_areWell_324 : decode cL_areWell 324 = .ok (.invokevirtual 122, 3) := by decide +kernel
theorem dL_areWell_327 : decode cL_areWell 327 = .ok (.iadd, 1) := by decide +kernel
theorem dL_areWell_328 : decode cL_areWell 328 = .ok (.iconst 4, 1) := by decide +kernel
theorem dL_areWell_329 : decode cL_areWell 329 = .ok (.if_icmp .le 5, 3) := by decide +kernel
theorem dL_areWell_332 : decode cL_areWell 332 = .ok (.iconst 0, 1) := by decide +kernel
theorem dL_areWell_333 : decode cL_areWell 333 = .ok (.ireturn, 1) := by decide +kernel
theorem dL_areWell_334 : decode cL_areWell 334 = .ok (.iload 5, 2) := by decide +kernel
theorem dL_areWell_336 : decode cL_areWell 336 = .ok (.iload 7, 2) := by decide +kernel
theorem dL_areWell_338 : decode cL_areWell 338 = .ok (.aload_n 0, 1) := by decide +kernel
theorem dL_areWell_339 : decode cL_areWell 339 = .ok (.iload 6, 2) := by decide +kernel
theorem dL_areWell_341 : decode cL_areWell 341 = .ok (.invokevirtual 122, 3) := by decide +kernel
theorem dL_areWell_344 : decode cL_areWell 344 = .ok (.iadd, 1) := by decide +kernel
theorem dL_areWell_345 : decode cL_areWell 345 = .ok (.iadd, 1) := by decide +kernel
theorem dL_areWell_346 : decode cL_areWell 346 = .ok (.istore 5, 2) := by decide +kernel
theorem dL_areWell_348 : decode cL_areWell 348 = .ok (.iinc 6 1, 3) := by decide +kernel
theorem dL_areWell_351 : decode cL_areWell 351 = .ok (.goto (-70), 3) := by decide +kernel
theorem dL_areWell_354 : decode cL_areWell 354 = .ok (.iload_n 1, 1) := by decide +kernel
theorem dL_areWell_355 : decode cL_areWell 355 = .ok (.bipush 100, 2) := by decide +kernel
theorem dL_areWell_357 : decode cL_areWell 357 = .ok (.if_icmp .ne 72, 3) := by decide +kernel
theorem dL_areWell_360 : decode cL_areWell 360 = .ok (.iload 5, 2) := by decide +kernel
theorem dL_areWell_362 : decode cL_areWell 362 = .ok (.bipush 100, 2) := by decide +kernel
theorem dL_areWell_364 : decode cL_areWell 364 = .ok (.aload_n 0, 1) := by decide +kernel
theorem dL_areWell_365 : decode cL_areWell 365 = .ok (.iconst 2, 1) := by decide +kernel
theorem dL_areWell_366 : decode cL_areWell 366 = .ok (.invokevirtual 18, 3) := by decide +kernel
theorem dL_areWell_369 : decode cL_areWell 369 = .ok (.isub, 1) := by decide +kernel
theorem dL_areWell_370 : decode cL_areWell 370 = .ok (.if_icmp .ne 59, 3) := by decide +kernel
theorem dL_areWell_373 : decode cL_areWell 373 = .ok (.iload_n 2, 1) := by decide +kernel
theorem dL_areWell_374 : decode cL_areWell 374 = .ok (.sipush 1000, 3) := by decide +kernel
theorem dL_areWell_377 : decode cL_areWell 377 = .ok (.if_icmp .ne 52, 3) := by decide +kernel
theorem dL_areWell_380 : decode cL_areWell 380 = .ok (.dload_n 3, 1) := by decide +kernel
theorem dL_areWell_381 : decode cL_areWell 381 = .ok (.dconst 0, 1) := by decide +kernel
theorem dL_areWell_382 : decode cL_areWell 382 = .ok (.dcmp .l, 1) := by decide +kernel
theorem dL_areWell_383 : decode cL_areWell 383 = .ok (.ifCond .ne 46, 3) := by decide +kernel
theorem dL_areWell_386 : decode cL_areWell 386 = .ok (.aload_n 0, 1) := by decide +kernel
theorem dL_areWell_387 : decode cL_areWell 387 = .ok (.iconst 4, 1) := by decide +kernel
theorem dL_areWell_388 : decode cL_areWell 388 = .ok (.invokevirtual 18, 3) := by decide +kernel
theorem dL_areWell_391 : decode cL_areWell 391 = .ok (.ifCond .lt 7, 3) := by decide +kernel
theorem dL_areWell_394 : decode cL_areWell 394 = .ok (.iconst 1, 1) := by decide +kernel
theorem dL_areWell_395 : decode cL_areWell 395 = .ok (.goto 4, 3) := by decide +kernel
theorem dL_areWell_398 : decode cL_areWell 398 = .ok (.iconst 0, 1) := by decide +kernel
theorem dL_areWell_399 : decode cL_areWell 399 = .ok (.aload_n 0, 1) := by decide +kernel
theorem dL_areWell_400 : decode cL_areWell 400 = .ok (.iconst 0, 1) := by decide +kernel
theorem dL_areWell_401 : decode cL_areWell 401 = .ok (.invokevirtual 18, 3) := by decide +kernel
theorem dL_areWell_404 : decode cL_areWell 404 = .ok (.iconst 2, 1) := by decide +kernel
theorem dL_areWell_405 : decode cL_areWell 405 = .ok (.if_icmp .ne 7, 3) := by decide +kernel
theorem dL_areWell_408 : decode cL_areWell 408 = .ok (.iconst 1, 1) := by decide +kernel
theorem dL_areWell_409 : decode cL_areWell 409 = .ok (.goto 4, 3) := by decide +kernel
theorem dL_areWell_412 : decode cL_areWell 412 = .ok (.iconst 0, 1) := by decide +kernel
theorem dL_areWell_413 : decode cL_areWell 413 = .ok (.if_icmp .ne 16, 3) := by decide +kernel
theorem dL_areWell_416 : decode cL_areWell 416 = .ok (.aload_n 0, 1) := by decide +kernel
theorem dL_areWell_417 : decode cL_areWell 417 = .ok (.iconst 5, 1) := by decide +kernel
theorem dL_areWell_418 : decode cL_areWell 418 = .ok (.invokevirtual 18, 3) := by decide +kernel
theorem dL_areWell_421 : decode cL_areWell 421 = .ok (.iconst 5, 1) := by decide +kernel
theorem dL_areWell_422 : decode cL_areWell 422 = .ok (.if_icmp .ge 7, 3) := by decide +kernel
theorem dL_areWell_425 : decode cL_areWell 425 = .ok (.iconst 1, 1) := by decide +kernel
theorem dL_areWell_426 : decode cL_areWell 426 = .ok (.goto 4, 3) := by decide +kernel
theorem dL_areWell_429 : decode cL_areWell 429 = .ok (.iconst 0, 1) := by decide +kernel
theorem dL_areWell_430 : decode cL_areWell 430 = .ok (.ireturn, 1) := by decide +kernel
def f_L_areWell_413 (a0 : Nat) (i_0 : Int32) (i_1 : Int32) (M : zM) : Option (Int32 × zM) :=
  if i_1 = i_0 then
  if mK M a0 = 9 then
  xn (f_X3_many a0 ((5 : Int32)) M) fun w1 Mw1 =>
  if ((5 : Int32)) ≤ w1 then
  some ((0 : Int32), Mw1)
  else
  some ((1 : Int32), Mw1)
  else none
  else
  some ((0 : Int32), M)
set_option maxRecDepth 20000 in
set_option maxHeartbeats 4000000 in
theorem s_L_areWell_413 {L : zL} {X : zX} {M0 : zM} {N : Nat × Nat} {Q : State → Prop} {r : Int32 × zM} (hq : vQ L X M0 N Q (some (.int r.1)) r.2) {a0 : Nat} {i_0 : Int32} {i_1 : Int32} {M : zM} (h : f_L_areWell_413 a0 i_0 i_1 M = some r) : V L X yL_areWell cL_areWell 10 (some FieldType.boolean) 70 M0 N Q M 413 [(0, .ref (zad L (a0)))] [.int (i_0), .int (i_1)] := by
  unfold f_L_areWell_413 at h
  refine V_icmp_ne (tgt := 429) dL_areWell_413 (by decide) (fun c5 => ?_) (fun c5 => ?_)
  · replace h := (oi h).2 c5
    refine V_iconst (v := 0) dL_areWell_429 (by decide) ?_
    obtain rfl := Option.some.inj h
    exact V_zret (ty := .boolean) rfl rfl hq dL_areWell_430
  · replace h := (oi h).1 c5
    refine V_aload_n dL_areWell_416 rfl 0 rfl ?_
    refine V_iconst (v := 5) dL_areWell_417 (by decide) ?_
    replace h := ox h
    obtain ⟨c2, h⟩ := h
    replace h := xns h
    obtain ⟨w1, Mw1, e_r1, h⟩ := h
    refine V_callVx_I (As := [.int ((5 : Int32))]) (rest := []) (c_X3_many e_r1) zc_X3_many rfl (by decide) rfl (by decide) (Or.inl c2) zm_L_18 (Nat.le_of_ble_eq_true rfl) rfl dL_areWell_418 ?_
    refine V_pc (pc' := 421) rfl ?_
    refine V_iconst (v := 5) dL_areWell_421 (by decide) ?_
    refine V_icmp_ge (tgt := 429) dL_areWell_422 (by decide) (fun c4 => ?_) (fun c4 => ?_)
    · replace h := (oi h).1 c4
      refine V_iconst (v := 0) dL_areWell_429 (by decide) ?_
      obtain rfl := Option.some.inj h
      exact V_zret (ty := .boolean) rfl rfl hq dL_areWell_430
    · replace h := (oi h).2 c4
      refine V_iconst (v := 1) dL_areWell_425 (by decide) ?_
      refine V_goto (tgt := 430) dL_areWell_426 (by decide) ?_
      obtain rfl := Option.some.inj h
      exact V_zret (ty := .boolean) rfl rfl hq dL_areWell_430
def f_L_areWell_399 (a0 : Nat) (i_0 : Int32) (M : zM) : Option (Int32 × zM) :=
  if mK M a0 = 9 then
  xn (f_X3_many a0 ((0 : Int32)) M) fun w1 Mw1 =>
  if w1 = ((2 : Int32)) then
  f_L_areWell_413 a0 ((1 : Int32)) i_0 Mw1
  else
  f_L_areWell_413 a0 ((0 : Int32)) i_0 Mw1
  else none
set_option maxRecDepth 20000 in
set_option maxHeartbeats 4000000 in
theorem s_L_areWell_399 {L : zL} {X : zX} {M0 : zM} {N : Nat × Nat} {Q : State → Prop} {r : Int32 × zM} (hq : vQ L X M0 N Q (some (.int r.1)) r.2) {a0 : Nat} {i_0 : Int32} {M : zM} (h : f_L_areWell_399 a0 i_0 M = some r) : V L X yL_areWell cL_areWell 10 (some FieldType.boolean) 70 M0 N Q M 399 [(0, .ref (zad L (a0)))] [.int (i_0)] := by
  unfold f_L_areWell_399 at h
  refine V_aload_n dL_areWell_399 rfl 0 rfl ?_
  refine V_iconst (v := 0) dL_areWell_400 (by decide) ?_
  replace h := ox h
  obtain ⟨c2, h⟩ := h
  replace h := xns h
  obtain ⟨w1, Mw1, e_r1, h⟩ := h
  refine V_callVx_I (As := [.int ((0 : Int32))]) (rest := [.int (i_0)]) (c_X3_many e_r1) zc_X3_many rfl (by decide) rfl (by decide) (Or.inl c2) zm_L_18 (Nat.le_of_ble_eq_true rfl) rfl dL_areWell_401 ?_
  refine V_pc (pc' := 404) rfl ?_
  refine V_iconst (v := 2) dL_areWell_404 (by decide) ?_
  refine V_icmp_ne (tgt := 412) dL_areWell_405 (by decide) (fun c4 => ?_) (fun c4 => ?_)
  · replace h := (oi h).2 c4
    refine V_iconst (v := 0) dL_areWell_412 (by decide) ?_
    exact s_L_areWell_413 hq h
  · replace h := (oi h).1 c4
    refine V_iconst (v := 1) dL_areWell_408 (by decide) ?_
    refine V_goto (tgt := 413) dL_areWell_409 (by decide) ?_
    exact s_L_areWell_413 hq h
def f_L_areWell_294 (K281 : Nat → Int32 → Int32 → UInt64 → Int32 → Int32 → zM → Option (Int32 × zM)) (n : Nat) (a0 : Nat) (i1 : Int32) (i2 : Int32) (d3 : UInt64) (i5 : Int32) (i6 : Int32) (i7 : Int32) (i8 : Int32) (M : zM) : Option (Int32 × zM) := match n with
  | 0 => none
  | n + 1 =>
    if ((4 : Int32)) ≤ i8 then
    if mK M a0 = 9 then
    xn (f_X3_seen a0 i6 M) fun w1 Mw1 =>
    if ((i7 + w1)) ≤ ((4 : Int32)) then
    if mK Mw1 a0 = 9 then
    xn (f_X3_seen a0 i6 Mw1) fun w6 Mw6 =>
    K281 a0 i1 i2 d3 ((i5 + ((i7 + w6)))) ((i6 + (1 : Int32))) Mw6
    else none
    else
    some ((0 : Int32), Mw1)
    else none
    else
    if mK M a0 = 9 then
    xn (f_X3_has a0 i8 i6 M) fun w9 Mw9 =>
    f_L_areWell_294 K281 n a0 i1 i2 d3 i5 i6 ((i7 + w9)) ((i8 + (1 : Int32))) Mw9
    else none
set_option maxRecDepth 20000 in
set_option maxHeartbeats 4000000 in
theorem s_L_areWell_294 {L : zL} {X : zX} {M0 : zM} {N : Nat × Nat} {Q : State → Prop} {r : Int32 × zM} {K281 : Nat → Int32 → Int32 → UInt64 → Int32 → Int32 → zM → Option (Int32 × zM)} (hK281 : ∀ (a0 : Nat) (i1 : Int32) (i2 : Int32) (d3 : UInt64) (i5 : Int32) (i6 : Int32) (M : zM), K281 a0 i1 i2 d3 i5 i6 M = some r → V L X yL_areWell cL_areWell 10 (some FieldType.boolean) 70 M0 N Q M 281 [(0, .ref (zad L (a0))), (1, .int (i1)), (2, .int (i2)), (3, .double (d3)), (5, .int (i5)), (6, .int (i6))] []) (hq : vQ L X M0 N Q (some (.int r.1)) r.2) {n : Nat} {a0 : Nat} {i1 : Int32} {i2 : Int32} {d3 : UInt64} {i5 : Int32} {i6 : Int32} {i7 : Int32} {i8 : Int32} {M : zM} : f_L_areWell_294 K281 n a0 i1 i2 d3 i5 i6 i7 i8 M = some r → V L X yL_areWell cL_areWell 10 (some FieldType.boolean) 70 M0 N Q M 294 [(0, .ref (zad L (a0))), (1, .int (i1)), (2, .int (i2)), (3, .double (d3)), (5, .int (i5)), (6, .int (i6)), (7, .int (i7)), (8, .int (i8))] [] := by
  induction n generalizing a0 i1 i2 d3 i5 i6 i7 i8 M with
  | zero =>
    intro h
    rw [f_L_areWell_294] at h
    cases h
  | succ n ih0 =>
    intro h
    have ih : ∀ (a0 : Nat) (i1 : Int32) (i2 : Int32) (d3 : UInt64) (i5 : Int32) (i6 : Int32) (i7 : Int32) (i8 : Int32) (M : zM), f_L_areWell_294 K281 n a0 i1 i2 d3 i5 i6 i7 i8 M = some r → V L X yL_areWell cL_areWell 10 (some FieldType.boolean) 70 M0 N Q M 294 [(0, .ref (zad L (a0))), (1, .int (i1)), (2, .int (i2)), (3, .double (d3)), (5, .int (i5)), (6, .int (i6)), (7, .int (i7)), (8, .int (i8))] [] := fun a0 i1 i2 d3 i5 i6 i7 i8 M h => ih0 h
    rw [f_L_areWell_294] at h
    refine V_iload dL_areWell_294 7 rfl ?_
    refine V_iconst (v := 4) dL_areWell_296 (by decide) ?_
    refine V_icmp_ge (tgt := 319) dL_areWell_297 (by decide) (fun c11 => ?_) (fun c11 => ?_)
    · replace h := (oi h).1 c11
      refine V_iload dL_areWell_319 6 rfl ?_
      refine V_aload_n dL_areWell_321 rfl 0 rfl ?_
      refine V_iload dL_areWell_322 5 rfl ?_
      replace h := ox h
      obtain ⟨c2, h⟩ := h
      replace h := xns h
      obtain ⟨w1, Mw1, e_r1, h⟩ := h
      refine V_callVx_I (As := [.int (i6)]) (rest := [.int (i7)]) (c_X3_seen e_r1) zc_X3_seen rfl (by decide) rfl (by decide) (Or.inl c2) zm_L_122 (Nat.le_of_ble_eq_true rfl) rfl dL_areWell_324 ?_
      refine V_pc (pc' := 327) rfl ?_
      refine V_iadd dL_areWell_327 ?_
      refine V_iconst (v := 4) dL_areWell_328 (by decide) ?_
      refine V_icmp_le (tgt := 334) dL_areWell_329 (by decide) (fun c8 => ?_) (fun c8 => ?_)
      · replace h := (oi h).1 c8
        refine V_iload dL_areWell_334 4 rfl ?_
        refine V_iload dL_areWell_336 6 rfl ?_
        refine V_aload_n dL_areWell_338 rfl 0 rfl ?_
        refine V_iload dL_areWell_339 5 rfl ?_
        replace h := ox h
        obtain ⟨c7, h⟩ := h
        replace h := xns h
        obtain ⟨w6, Mw6, e_r6, h⟩ := h
        refine V_callVx_I (As := [.int (i6)]) (rest := [.int (i7), .int (i5)]) (c_X3_seen e_r6) zc_X3_seen rfl (by decide) rfl (by decide) (Or.inl c7) zm_L_122 (Nat.le_of_ble_eq_true rfl) rfl dL_areWell_341 ?_
        refine V_pc (pc' := 344) rfl ?_
        refine V_iadd dL_areWell_344 ?_
        refine V_iadd dL_areWell_345 ?_
        refine V_istore (ls' := [(5, .int ((i5 + ((i7 + w6))))), (0, .ref (zad L (a0))), (1, .int (i1)), (2, .int (i2)), (3, .double (d3)), (6, .int (i6)), (7, .int (i7)), (8, .int (i8))]) dL_areWell_346 (by decide) rfl ?_
        refine V_iinc (v := i6 + (1 : Int32)) (ls' := [(6, .int ((i6 + (1 : Int32)))), (5, .int ((i5 + ((i7 + w6))))), (0, .ref (zad L (a0))), (1, .int (i1)), (2, .int (i2)), (3, .double (d3)), (7, .int (i7)), (8, .int (i8))]) dL_areWell_348 5 rfl (by rfl) (by decide) rfl ?_
        refine V_goto (tgt := 281) dL_areWell_351 (by decide) ?_
        refine V_sub [2, 3, 4, 5, 1, 0] rfl ?_
        exact hK281 _ _ _ _ _ _ _ h
      · replace h := (oi h).2 c8
        refine V_iconst (v := 0) dL_areWell_332 (by decide) ?_
        obtain rfl := Option.some.inj h
        exact V_zret (ty := .boolean) rfl rfl hq dL_areWell_333
    · replace h := (oi h).2 c11
      refine V_iload dL_areWell_300 6 rfl ?_
      refine V_aload_n dL_areWell_302 rfl 0 rfl ?_
      refine V_iload dL_areWell_303 7 rfl ?_
      refine V_iload dL_areWell_305 5 rfl ?_
      replace h := ox h
      obtain ⟨c10, h⟩ := h
      replace h := xns h
      obtain ⟨w9, Mw9, e_r9, h⟩ := h
      refine V_callVx_I (As := [.int (i8), .int (i6)]) (rest := [.int (i7)]) (c_X3_has e_r9) zc_X3_has rfl (by decide) rfl (by decide) (Or.inl c10) zm_L_36 (Nat.le_of_ble_eq_true rfl) rfl dL_areWell_307 ?_
      refine V_pc (pc' := 310) rfl ?_
      refine V_iadd dL_areWell_310 ?_
      refine V_istore (ls' := [(7, .int ((i7 + w9))), (0, .ref (zad L (a0))), (1, .int (i1)), (2, .int (i2)), (3, .double (d3)), (5, .int (i5)), (6, .int (i6)), (8, .int (i8))]) dL_areWell_311 (by decide) rfl ?_
      refine V_iinc (v := i8 + (1 : Int32)) (ls' := [(8, .int ((i8 + (1 : Int32)))), (7, .int ((i7 + w9))), (0, .ref (zad L (a0))), (1, .int (i1)), (2, .int (i2)), (3, .double (d3)), (5, .int (i5)), (6, .int (i6))]) dL_areWell_313 7 rfl (by rfl) (by decide) rfl ?_
      refine V_goto (tgt := 294) dL_areWell_316 (by decide) ?_
      refine V_sub [2, 3, 4, 5, 6, 7, 1, 0] rfl ?_
      exact ih _ _ _ _ _ _ _ _ _ h
def f_L_areWell_281 (n : Nat) (a0 : Nat) (i1 : Int32) (i2 : Int32) (d3 : UInt64) (i5 : Int32) (i6 : Int32) (M : zM) : Option (Int32 × zM) := match n with
  | 0 => none
  | n + 1 =>
    if ((25 : Int32)) ≤ i6 then
    if i1 = ((100 : Int32)) then
    if mK M a0 = 9 then
    xn (f_X3_many a0 ((2 : Int32)) M) fun w1 Mw1 =>
    if i5 = ((((100 : Int32)) - w1)) then
    if i2 = ((1000 : Int32)) then
    if ((Op.cmpValue (FP.dcmp d3 FP.dconst0) .l)) = 0 then
    if mK Mw1 a0 = 9 then
    xn (f_X3_many a0 ((4 : Int32)) Mw1) fun w10 Mw10 =>
    if w10 < 0 then
    f_L_areWell_399 a0 ((0 : Int32)) Mw10
    else
    f_L_areWell_399 a0 ((1 : Int32)) Mw10
    else none
    else
    some ((0 : Int32), Mw1)
    else
    some ((0 : Int32), Mw1)
    else
    some ((0 : Int32), Mw1)
    else none
    else
    some ((0 : Int32), M)
    else
    f_L_areWell_294 (f_L_areWell_281 n) zN a0 i1 i2 d3 i5 i6 ((0 : Int32)) ((0 : Int32)) M
set_option maxRecDepth 20000 in
set_option maxHeartbeats 4000000 in
theorem s_L_areWell_281 {L : zL} {X : zX} {M0 : zM} {N : Nat × Nat} {Q : State → Prop} {r : Int32 × zM} (hq : vQ L X M0 N Q (some (.int r.1)) r.2) {n : Nat} {a0 : Nat} {i1 : Int32} {i2 : Int32} {d3 : UInt64} {i5 : Int32} {i6 : Int32} {M : zM} : f_L_areWell_281 n a0 i1 i2 d3 i5 i6 M = some r → V L X yL_areWell cL_areWell 10 (some FieldType.boolean) 70 M0 N Q M 281 [(0, .ref (zad L (a0))), (1, .int (i1)), (2, .int (i2)), (3, .double (d3)), (5, .int (i5)), (6, .int (i6))] [] := by
  induction n generalizing a0 i1 i2 d3 i5 i6 M with
  | zero =>
    intro h
    rw [f_L_areWell_281] at h
    cases h
  | succ n ih0 =>
    intro h
    have ih : ∀ (a0 : Nat) (i1 : Int32) (i2 : Int32) (d3 : UInt64) (i5 : Int32) (i6 : Int32) (M : zM), f_L_areWell_281 n a0 i1 i2 d3 i5 i6 M = some r → V L X yL_areWell cL_areWell 10 (some FieldType.boolean) 70 M0 N Q M 281 [(0, .ref (zad L (a0))), (1, .int (i1)), (2, .int (i2)), (3, .double (d3)), (5, .int (i5)), (6, .int (i6))] [] := fun a0 i1 i2 d3 i5 i6 M h => ih0 h
    rw [f_L_areWell_281] at h
    refine V_iload dL_areWell_281 5 rfl ?_
    refine V_bipush (v := 25) dL_areWell_283 (by decide) ?_
    refine V_icmp_ge (tgt := 354) dL_areWell_285 (by decide) (fun c18 => ?_) (fun c18 => ?_)
    · replace h := (oi h).1 c18
      refine V_iload_n dL_areWell_354 rfl 1 rfl ?_
      refine V_bipush (v := 100) dL_areWell_355 (by decide) ?_
      refine V_icmp_ne (tgt := 429) dL_areWell_357 (by decide) (fun c17 => ?_) (fun c17 => ?_)
      · replace h := (oi h).2 c17
        refine V_iconst (v := 0) dL_areWell_429 (by decide) ?_
        obtain rfl := Option.some.inj h
        exact V_zret (ty := .boolean) rfl rfl hq dL_areWell_430
      · replace h := (oi h).1 c17
        refine V_iload dL_areWell_360 4 rfl ?_
        refine V_bipush (v := 100) dL_areWell_362 (by decide) ?_
        refine V_aload_n dL_areWell_364 rfl 0 rfl ?_
        refine V_iconst (v := 2) dL_areWell_365 (by decide) ?_
        replace h := ox h
        obtain ⟨c2, h⟩ := h
        replace h := xns h
        obtain ⟨w1, Mw1, e_r1, h⟩ := h
        refine V_callVx_I (As := [.int ((2 : Int32))]) (rest := [.int ((100 : Int32)), .int (i5)]) (c_X3_many e_r1) zc_X3_many rfl (by decide) rfl (by decide) (Or.inl c2) zm_L_18 (Nat.le_of_ble_eq_true rfl) rfl dL_areWell_366 ?_
        refine V_pc (pc' := 369) rfl ?_
        refine V_isub dL_areWell_369 ?_
        refine V_icmp_ne (tgt := 429) dL_areWell_370 (by decide) (fun c16 => ?_) (fun c16 => ?_)
        · replace h := (oi h).2 c16
          refine V_iconst (v := 0) dL_areWell_429 (by decide) ?_
          obtain rfl := Option.some.inj h
          exact V_zret (ty := .boolean) rfl rfl hq dL_areWell_430
        · replace h := (oi h).1 c16
          refine V_iload_n dL_areWell_373 rfl 2 rfl ?_
          refine V_sipush (v := 1000) dL_areWell_374 (by decide) ?_
          refine V_icmp_ne (tgt := 429) dL_areWell_377 (by decide) (fun c15 => ?_) (fun c15 => ?_)
          · replace h := (oi h).2 c15
            refine V_iconst (v := 0) dL_areWell_429 (by decide) ?_
            obtain rfl := Option.some.inj h
            exact V_zret (ty := .boolean) rfl rfl hq dL_areWell_430
          · replace h := (oi h).1 c15
            refine V_dload_n dL_areWell_380 rfl 3 rfl ?_
            refine V_dconst0 dL_areWell_381 ?_
            refine V_dcmp dL_areWell_382 ?_
            refine V_if_ne (tgt := 429) dL_areWell_383 (by decide) (fun c14 => ?_) (fun c14 => ?_)
            · replace h := (oi h).2 c14
              refine V_iconst (v := 0) dL_areWell_429 (by decide) ?_
              obtain rfl := Option.some.inj h
              exact V_zret (ty := .boolean) rfl rfl hq dL_areWell_430
            · replace h := (oi h).1 c14
              refine V_aload_n dL_areWell_386 rfl 0 rfl ?_
              refine V_iconst (v := 4) dL_areWell_387 (by decide) ?_
              replace h := ox h
              obtain ⟨c11, h⟩ := h
              replace h := xns h
              obtain ⟨w10, Mw10, e_r10, h⟩ := h
              refine V_callVx_I (As := [.int ((4 : Int32))]) (rest := []) (c_X3_many e_r10) zc_X3_many rfl (by decide) rfl (by decide) (Or.inl c11) zm_L_18 (Nat.le_of_ble_eq_true rfl) rfl dL_areWell_388 ?_
              refine V_pc (pc' := 391) rfl ?_
              refine V_if_lt (tgt := 398) dL_areWell_391 (by decide) (fun c13 => ?_) (fun c13 => ?_)
              · replace h := (oi h).1 c13
                refine V_iconst (v := 0) dL_areWell_398 (by decide) ?_
                refine V_sub [0] rfl ?_
                exact s_L_areWell_399 hq h
              · replace h := (oi h).2 c13
                refine V_iconst (v := 1) dL_areWell_394 (by decide) ?_
                refine V_goto (tgt := 399) dL_areWell_395 (by decide) ?_
                refine V_sub [0] rfl ?_
                exact s_L_areWell_399 hq h
    · replace h := (oi h).2 c18
      refine V_iconst (v := 0) dL_areWell_288 (by decide) ?_
      refine V_istore (ls' := [(7, .int ((0 : Int32))), (0, .ref (zad L (a0))), (1, .int (i1)), (2, .int (i2)), (3, .double (d3)), (5, .int (i5)), (6, .int (i6))]) dL_areWell_289 (by decide) rfl ?_
      refine V_iconst (v := 0) dL_areWell_291 (by decide) ?_
      refine V_istore (ls' := [(8, .int ((0 : Int32))), (7, .int ((0 : Int32))), (0, .ref (zad L (a0))), (1, .int (i1)), (2, .int (i2)), (3, .double (d3)), (5, .int (i5)), (6, .int (i6))]) dL_areWell_292 (by decide) rfl ?_
      refine V_sub [2, 3, 4, 5, 6, 7, 1, 0] rfl ?_
      exact s_L_areWell_294 ih hq h
def f_L_areWell_248 (K18 : Nat → Int32 → Int32 → UInt64 → Int32 → zM → Option (Int32 × zM)) (a0 : Nat) (i1 : Int32) (i2 : Int32) (d3 : UInt64) (i5 : Int32) (M : zM) : Option (Int32 × zM) :=
  if mK M a0 = 9 then
  xn (f_X3_hand a0 i5 M) fun w1 Mw1 =>
  if mK Mw1 w1 = 1 ∨ mK Mw1 w1 = 301 then
  (f_J0_length_8abf5 w1 Mw1).bind fun r9 =>
  if mK r9.2 a0 = 9 then
  xn (f_X3_ofPlayer a0 i5 ((3 : Int32)) r9.2) fun w11 Mw11 =>
  if w11 ≤ r9.1 then
  K18 a0 i1 i2 d3 ((i5 + (1 : Int32))) Mw11
  else
  some ((0 : Int32), Mw11)
  else none
  else none
  else none
set_option maxRecDepth 20000 in
set_option maxHeartbeats 4000000 in
theorem s_L_areWell_248 {L : zL} {X : zX} {M0 : zM} {N : Nat × Nat} {Q : State → Prop} {r : Int32 × zM} {K18 : Nat → Int32 → Int32 → UInt64 → Int32 → zM → Option (Int32 × zM)} (hK18 : ∀ (a0 : Nat) (i1 : Int32) (i2 : Int32) (d3 : UInt64) (i5 : Int32) (M : zM), K18 a0 i1 i2 d3 i5 M = some r → V L X yL_areWell cL_areWell 10 (some FieldType.boolean) 70 M0 N Q M 18 [(0, .ref (zad L (a0))), (1, .int (i1)), (2, .int (i2)), (3, .double (d3)), (5, .int (i5))] []) (hq : vQ L X M0 N Q (some (.int r.1)) r.2) {a0 : Nat} {i1 : Int32} {i2 : Int32} {d3 : UInt64} {i5 : Int32} {M : zM} (h : f_L_areWell_248 K18 a0 i1 i2 d3 i5 M = some r) : V L X yL_areWell cL_areWell 10 (some FieldType.boolean) 70 M0 N Q M 248 [(0, .ref (zad L (a0))), (1, .int (i1)), (2, .int (i2)), (3, .double (d3)), (5, .int (i5))] [] := by
  unfold f_L_areWell_248 at h
  refine V_aload_n dL_areWell_248 rfl 0 rfl ?_
  refine V_iload dL_areWell_249 4 rfl ?_
  replace h := ox h
  obtain ⟨c2, h⟩ := h
  replace h := xns h
  obtain ⟨w1, Mw1, e_r1, h⟩ := h
  refine V_callVx_A (As := [.int (i5)]) (rest := []) (c_X3_hand e_r1) zc_X3_hand rfl (by decide) rfl (by decide) (Or.inl c2) zm_L_113 (Nat.le_of_ble_eq_true rfl) rfl dL_areWell_251 ?_
  refine V_pc (pc' := 254) rfl ?_
  replace h := ox h
  obtain ⟨c10, h⟩ := h
  replace h := ob h
  obtain ⟨r9, e_r9, h⟩ := h
  refine V_callV_I (As := []) (rest := []) (c_J0_length_8abf5 e_r9) zc_J0_length_8abf5 rfl (by decide) rfl (by decide) (c10) zm_L_117 (Nat.le_of_ble_eq_true rfl) rfl dL_areWell_254 ?_
  refine V_pc (pc' := 257) rfl ?_
  refine V_aload_n dL_areWell_257 rfl 0 rfl ?_
  refine V_iload dL_areWell_258 4 rfl ?_
  refine V_iconst (v := 3) dL_areWell_260 (by decide) ?_
  replace h := ox h
  obtain ⟨c12, h⟩ := h
  replace h := xns h
  obtain ⟨w11, Mw11, e_r11, h⟩ := h
  refine V_callVx_I (As := [.int (i5), .int ((3 : Int32))]) (rest := [.int (r9.1)]) (c_X3_ofPlayer e_r11) zc_X3_ofPlayer rfl (by decide) rfl (by decide) (Or.inl c12) zm_L_29 (Nat.le_of_ble_eq_true rfl) rfl dL_areWell_261 ?_
  refine V_pc (pc' := 264) rfl ?_
  refine V_icmp_ge (tgt := 269) dL_areWell_264 (by decide) (fun c14 => ?_) (fun c14 => ?_)
  · replace h := (oi h).1 c14
    refine V_iinc (v := i5 + (1 : Int32)) (ls' := [(5, .int ((i5 + (1 : Int32)))), (0, .ref (zad L (a0))), (1, .int (i1)), (2, .int (i2)), (3, .double (d3))]) dL_areWell_269 4 rfl (by rfl) (by decide) rfl ?_
    refine V_goto (tgt := 18) dL_areWell_272 (by decide) ?_
    refine V_sub [1, 2, 3, 4, 0] rfl ?_
    exact hK18 _ _ _ _ _ _ h
  · replace h := (oi h).2 c14
    refine V_iconst (v := 0) dL_areWell_267 (by decide) ?_
    obtain rfl := Option.some.inj h
    exact V_zret (ty := .boolean) rfl rfl hq dL_areWell_268
def f_L_areWell_161 (K18 : Nat → Int32 → Int32 → UInt64 → Int32 → zM → Option (Int32 × zM)) (n : Nat) (a0 : Nat) (i1 : Int32) (i2 : Int32) (d3 : UInt64) (i5 : Int32) (i6 : Int32) (i9 : Int32) (M : zM) : Option (Int32 × zM) := match n with
  | 0 => none
  | n + 1 =>
    if i6 ≤ i9 then
    if mK M a0 = 9 then
    xn (f_X3_ofPlayer a0 i5 ((0 : Int32)) M) fun w1 Mw1 =>
    if mK Mw1 a0 = 9 then
    xn (f_X3_lead a0 i5 Mw1) fun w63 Mw63 =>
    if (FP.dadd d3 w63) &&& 0x7fffffffffffffff ≤ 0x7ff0000000000000 then
    if mK Mw63 a0 = 9 then
    xn (f_X3_ofPlayer a0 i5 ((2 : Int32)) Mw63) fun w94 Mw94 =>
    if i6 < w94 then
    some ((0 : Int32), Mw94)
    else
    if mK Mw94 a0 = 9 then
    xn (f_X3_ofPlayer a0 i5 ((5 : Int32)) Mw94) fun w109 Mw109 =>
    if w109 = ((1 : Int32)) then
    if mK Mw109 a0 = 9 then
    xn (f_X3_ofPlayer a0 i5 ((2 : Int32)) Mw109) fun w116 Mw116 =>
    if 0 < w116 then
    some ((0 : Int32), Mw116)
    else
    f_L_areWell_248 K18 a0 i1 ((i2 + w1)) ((FP.dadd d3 w63)) i5 Mw116
    else none
    else
    f_L_areWell_248 K18 a0 i1 ((i2 + w1)) ((FP.dadd d3 w63)) i5 Mw109
    else none
    else none
    else none
    else none
    else none
    else
    if mK M a0 = 9 then
    xn (f_X3_ofSet a0 i5 i9 M) fun w123 Mw123 =>
    if ((200 : Int32)) ≤ w123 then
    f_L_areWell_161 K18 n a0 ((i1 + ((4 : Int32)))) i2 d3 i5 i6 ((i9 + (1 : Int32))) Mw123
    else
    f_L_areWell_161 K18 n a0 ((i1 + ((3 : Int32)))) i2 d3 i5 i6 ((i9 + (1 : Int32))) Mw123
    else none
set_option maxRecDepth 20000 in
set_option maxHeartbeats 4000000 in
theorem s_L_areWell_161 {L : zL} {X : zX} {M0 : zM} {N : Nat × Nat} {Q : State → Prop} {r : Int32 × zM} {K18 : Nat → Int32 → Int32 → UInt64 → Int32 → zM → Option (Int32 × zM)} (hK18 : ∀ (a0 : Nat) (i1 : Int32) (i2 : Int32) (d3 : UInt64) (i5 : Int32) (M : zM), K18 a0 i1 i2 d3 i5 M = some r → V L X yL_areWell cL_areWell 10 (some FieldType.boolean) 70 M0 N Q M 18 [(0, .ref (zad L (a0))), (1, .int (i1)), (2, .int (i2)), (3, .double (d3)), (5, .int (i5))] []) (hq : vQ L X M0 N Q (some (.int r.1)) r.2) {n : Nat} {a0 : Nat} {i1 : Int32} {i2 : Int32} {d3 : UInt64} {i5 : Int32} {i6 : Int32} {i9 : Int32} {M : zM} : f_L_areWell_161 K18 n a0 i1 i2 d3 i5 i6 i9 M = some r → V L X yL_areWell cL_areWell 10 (some FieldType.boolean) 70 M0 N Q M 161 [(0, .ref (zad L (a0))), (1, .int (i1)), (2, .int (i2)), (3, .double (d3)), (5, .int (i5)), (6, .int (i6)), (9, .int (i9))] [] := by
  induction n generalizing a0 i1 i2 d3 i5 i6 i9 M with
  | zero =>
    intro h
    rw [f_L_areWell_161] at h
    cases h
  | succ n ih0 =>
    intro h
    have ih : ∀ (a0 : Nat) (i1 : Int32) (i2 : Int32) (d3 : UInt64) (i5 : Int32) (i6 : Int32) (i9 : Int32) (M : zM), f_L_areWell_161 K18 n a0 i1 i2 d3 i5 i6 i9 M = some r → V L X yL_areWell cL_areWell 10 (some FieldType.boolean) 70 M0 N Q M 161 [(0, .ref (zad L (a0))), (1, .int (i1)), (2, .int (i2)), (3, .double (d3)), (5, .int (i5)), (6, .int (i6)), (9, .int (i9))] [] := fun a0 i1 i2 d3 i5 i6 i9 M h => ih0 h
    rw [f_L_areWell_161] at h
    refine V_iload dL_areWell_161 6 rfl ?_
    refine V_iload dL_areWell_163 5 rfl ?_
    refine V_icmp_ge (tgt := 196) dL_areWell_165 (by decide) (fun c127 => ?_) (fun c127 => ?_)
    · replace h := (oi h).1 c127
      refine V_iload_n dL_areWell_196 rfl 2 rfl ?_
      refine V_aload_n dL_areWell_197 rfl 0 rfl ?_
      refine V_iload dL_areWell_198 4 rfl ?_
      refine V_iconst (v := 0) dL_areWell_200 (by decide) ?_
      replace h := ox h
      obtain ⟨c2, h⟩ := h
      replace h := xns h
      obtain ⟨w1, Mw1, e_r1, h⟩ := h
      refine V_callVx_I (As := [.int (i5), .int ((0 : Int32))]) (rest := [.int (i2)]) (c_X3_ofPlayer e_r1) zc_X3_ofPlayer rfl (by decide) rfl (by decide) (Or.inl c2) zm_L_29 (Nat.le_of_ble_eq_true rfl) rfl dL_areWell_201 ?_
      refine V_pc (pc' := 204) rfl ?_
      refine V_iadd dL_areWell_204 ?_
      refine V_istore_n (ls' := [(2, .int ((i2 + w1))), (0, .ref (zad L (a0))), (1, .int (i1)), (3, .double (d3)), (5, .int (i5)), (6, .int (i6)), (9, .int (i9))]) dL_areWell_205 rfl (by decide) rfl ?_
      refine V_dload_n dL_areWell_206 rfl 3 rfl ?_
      refine V_aload_n dL_areWell_207 rfl 1 rfl ?_
      refine V_iload dL_areWell_208 4 rfl ?_
      replace h := ox h
      obtain ⟨c64, h⟩ := h
      replace h := xns h
      obtain ⟨w63, Mw63, e_r63, h⟩ := h
      refine V_callVx_D (As := [.int (i5)]) (rest := [.double (d3)]) (c_X3_lead e_r63) zc_X3_lead rfl (by decide) rfl (by decide) (Or.inl c64) zm_L_109 (Nat.le_of_ble_eq_true rfl) rfl dL_areWell_210 ?_
      refine V_pc (pc' := 213) rfl ?_
      replace h := ox h
      obtain ⟨c122, h⟩ := h
      refine V_dadd dL_areWell_213 c122 ?_
      refine V_dstore_n (ls' := [(3, .double ((FP.dadd d3 w63))), (2, .int ((i2 + w1))), (0, .ref (zad L (a0))), (1, .int (i1)), (5, .int (i5)), (6, .int (i6)), (9, .int (i9))]) dL_areWell_214 rfl (by decide) rfl ?_
      refine V_aload_n dL_areWell_215 rfl 2 rfl ?_
      refine V_iload dL_areWell_216 4 rfl ?_
      refine V_iconst (v := 2) dL_areWell_218 (by decide) ?_
      replace h := ox h
      obtain ⟨c95, h⟩ := h
      replace h := xns h
      obtain ⟨w94, Mw94, e_r94, h⟩ := h
      refine V_callVx_I (As := [.int (i5), .int ((2 : Int32))]) (rest := []) (c_X3_ofPlayer e_r94) zc_X3_ofPlayer rfl (by decide) rfl (by decide) (Or.inl c95) zm_L_29 (Nat.le_of_ble_eq_true rfl) rfl dL_areWell_219 ?_
      refine V_pc (pc' := 222) rfl ?_
      refine V_iload dL_areWell_222 5 rfl ?_
      refine V_icmp_gt (tgt := 267) dL_areWell_224 (by decide) (fun c121 => ?_) (fun c121 => ?_)
      · replace h := (oi h).1 c121
        refine V_iconst (v := 0) dL_areWell_267 (by decide) ?_
        obtain rfl := Option.some.inj h
        exact V_zret (ty := .boolean) rfl rfl hq dL_areWell_268
      · replace h := (oi h).2 c121
        refine V_aload_n dL_areWell_227 rfl 2 rfl ?_
        refine V_iload dL_areWell_228 4 rfl ?_
        refine V_iconst (v := 5) dL_areWell_230 (by decide) ?_
        replace h := ox h
        obtain ⟨c110, h⟩ := h
        replace h := xns h
        obtain ⟨w109, Mw109, e_r109, h⟩ := h
        refine V_callVx_I (As := [.int (i5), .int ((5 : Int32))]) (rest := []) (c_X3_ofPlayer e_r109) zc_X3_ofPlayer rfl (by decide) rfl (by decide) (Or.inl c110) zm_L_29 (Nat.le_of_ble_eq_true rfl) rfl dL_areWell_231 ?_
        refine V_pc (pc' := 234) rfl ?_
        refine V_iconst (v := 1) dL_areWell_234 (by decide) ?_
        refine V_icmp_ne (tgt := 248) dL_areWell_235 (by decide) (fun c120 => ?_) (fun c120 => ?_)
        · replace h := (oi h).2 c120
          refine V_sub [2, 3, 1, 0, 4] rfl ?_
          exact s_L_areWell_248 hK18 hq h
        · replace h := (oi h).1 c120
          refine V_aload_n dL_areWell_238 rfl 2 rfl ?_
          refine V_iload dL_areWell_239 4 rfl ?_
          refine V_iconst (v := 2) dL_areWell_241 (by decide) ?_
          replace h := ox h
          obtain ⟨c117, h⟩ := h
          replace h := xns h
          obtain ⟨w116, Mw116, e_r116, h⟩ := h
          refine V_callVx_I (As := [.int (i5), .int ((2 : Int32))]) (rest := []) (c_X3_ofPlayer e_r116) zc_X3_ofPlayer rfl (by decide) rfl (by decide) (Or.inl c117) zm_L_29 (Nat.le_of_ble_eq_true rfl) rfl dL_areWell_242 ?_
          refine V_pc (pc' := 245) rfl ?_
          refine V_if_gt (tgt := 267) dL_areWell_245 (by decide) (fun c119 => ?_) (fun c119 => ?_)
          · replace h := (oi h).1 c119
            refine V_iconst (v := 0) dL_areWell_267 (by decide) ?_
            obtain rfl := Option.some.inj h
            exact V_zret (ty := .boolean) rfl rfl hq dL_areWell_268
          · replace h := (oi h).2 c119
            refine V_sub [2, 3, 1, 0, 4] rfl ?_
            exact s_L_areWell_248 hK18 hq h
    · replace h := (oi h).2 c127
      refine V_iload_n dL_areWell_168 rfl 1 rfl ?_
      refine V_aload_n dL_areWell_169 rfl 0 rfl ?_
      refine V_iload dL_areWell_170 4 rfl ?_
      refine V_iload dL_areWell_172 6 rfl ?_
      replace h := ox h
      obtain ⟨c124, h⟩ := h
      replace h := xns h
      obtain ⟨w123, Mw123, e_r123, h⟩ := h
      refine V_callVx_I (As := [.int (i5), .int (i9)]) (rest := [.int (i1)]) (c_X3_ofSet e_r123) zc_X3_ofSet rfl (by decide) rfl (by decide) (Or.inl c124) zm_L_70 (Nat.le_of_ble_eq_true rfl) rfl dL_areWell_174 ?_
      refine V_pc (pc' := 177) rfl ?_
      refine V_sipush (v := 200) dL_areWell_177 (by decide) ?_
      refine V_icmp_ge (tgt := 187) dL_areWell_180 (by decide) (fun c126 => ?_) (fun c126 => ?_)
      · replace h := (oi h).1 c126
        refine V_iconst (v := 4) dL_areWell_187 (by decide) ?_
        refine V_iadd dL_areWell_188 ?_
        refine V_istore_n (ls' := [(1, .int ((i1 + ((4 : Int32))))), (0, .ref (zad L (a0))), (2, .int (i2)), (3, .double (d3)), (5, .int (i5)), (6, .int (i6)), (9, .int (i9))]) dL_areWell_189 rfl (by decide) rfl ?_
        refine V_iinc (v := i9 + (1 : Int32)) (ls' := [(9, .int ((i9 + (1 : Int32)))), (1, .int ((i1 + ((4 : Int32))))), (0, .ref (zad L (a0))), (2, .int (i2)), (3, .double (d3)), (5, .int (i5)), (6, .int (i6))]) dL_areWell_190 6 rfl (by rfl) (by decide) rfl ?_
        refine V_goto (tgt := 161) dL_areWell_193 (by decide) ?_
        refine V_sub [2, 1, 3, 4, 5, 6, 0] rfl ?_
        exact ih _ _ _ _ _ _ _ _ h
      · replace h := (oi h).2 c126
        refine V_iconst (v := 3) dL_areWell_183 (by decide) ?_
        refine V_goto (tgt := 188) dL_areWell_184 (by decide) ?_
        refine V_iadd dL_areWell_188 ?_
        refine V_istore_n (ls' := [(1, .int ((i1 + ((3 : Int32))))), (0, .ref (zad L (a0))), (2, .int (i2)), (3, .double (d3)), (5, .int (i5)), (6, .int (i6)), (9, .int (i9))]) dL_areWell_189 rfl (by decide) rfl ?_
        refine V_iinc (v := i9 + (1 : Int32)) (ls' := [(9, .int ((i9 + (1 : Int32)))), (1, .int ((i1 + ((3 : Int32))))), (0, .ref (zad L (a0))), (2, .int (i2)), (3, .double (d3)), (5, .int (i5)), (6, .int (i6))]) dL_areWell_190 6 rfl (by rfl) (by decide) rfl ?_
        refine V_goto (tgt := 161) dL_areWell_193 (by decide) ?_
        refine V_sub [2, 1, 3, 4, 5, 6, 0] rfl ?_
        exact ih _ _ _ _ _ _ _ _ h
def f_L_areWell_140 (K18 : Nat → Int32 → Int32 → UInt64 → Int32 → zM → Option (Int32 × zM)) (a0 : Nat) (i1 : Int32) (i2 : Int32) (d3 : UInt64) (i5 : Int32) (i6 : Int32) (M : zM) : Option (Int32 × zM) :=
  if mK M a0 = 9 then
  xn (f_X3_ofPlayer a0 i5 ((3 : Int32)) M) fun w1 Mw1 =>
  if mK Mw1 a0 = 9 then
  xn (f_X3_ofPlayer a0 i5 ((4 : Int32)) Mw1) fun w5 Mw5 =>
  f_L_areWell_161 K18 zN a0 ((i1 + ((w1 + w5)))) i2 d3 i5 i6 ((0 : Int32)) Mw5
  else none
  else none
set_option maxRecDepth 20000 in
set_option maxHeartbeats 4000000 in
theorem s_L_areWell_140 {L : zL} {X : zX} {M0 : zM} {N : Nat × Nat} {Q : State → Prop} {r : Int32 × zM} {K18 : Nat → Int32 → Int32 → UInt64 → Int32 → zM → Option (Int32 × zM)} (hK18 : ∀ (a0 : Nat) (i1 : Int32) (i2 : Int32) (d3 : UInt64) (i5 : Int32) (M : zM), K18 a0 i1 i2 d3 i5 M = some r → V L X yL_areWell cL_areWell 10 (some FieldType.boolean) 70 M0 N Q M 18 [(0, .ref (zad L (a0))), (1, .int (i1)), (2, .int (i2)), (3, .double (d3)), (5, .int (i5))] []) (hq : vQ L X M0 N Q (some (.int r.1)) r.2) {a0 : Nat} {i1 : Int32} {i2 : Int32} {d3 : UInt64} {i5 : Int32} {i6 : Int32} {M : zM} (h : f_L_areWell_140 K18 a0 i1 i2 d3 i5 i6 M = some r) : V L X yL_areWell cL_areWell 10 (some FieldType.boolean) 70 M0 N Q M 140 [(0, .ref (zad L (a0))), (1, .int (i1)), (2, .int (i2)), (3, .double (d3)), (5, .int (i5)), (6, .int (i6))] [] := by
  unfold f_L_areWell_140 at h
  refine V_iload_n dL_areWell_140 rfl 1 rfl ?_
  refine V_aload_n dL_areWell_141 rfl 0 rfl ?_
  refine V_iload dL_areWell_142 4 rfl ?_
  refine V_iconst (v := 3) dL_areWell_144 (by decide) ?_
  replace h := ox h
  obtain ⟨c2, h⟩ := h
  replace h := xns h
  obtain ⟨w1, Mw1, e_r1, h⟩ := h
  refine V_callVx_I (As := [.int (i5), .int ((3 : Int32))]) (rest := [.int (i1)]) (c_X3_ofPlayer e_r1) zc_X3_ofPlayer rfl (by decide) rfl (by decide) (Or.inl c2) zm_L_29 (Nat.le_of_ble_eq_true rfl) rfl dL_areWell_145 ?_
  refine V_pc (pc' := 148) rfl ?_
  refine V_aload_n dL_areWell_148 rfl 0 rfl ?_
  refine V_iload dL_areWell_149 4 rfl ?_
  refine V_iconst (v := 4) dL_areWell_151 (by decide) ?_
  replace h := ox h
  obtain ⟨c6, h⟩ := h
  replace h := xns h
  obtain ⟨w5, Mw5, e_r5, h⟩ := h
  refine V_callVx_I (As := [.int (i5), .int ((4 : Int32))]) (rest := [.int (w1), .int (i1)]) (c_X3_ofPlayer e_r5) zc_X3_ofPlayer rfl (by decide) rfl (by decide) (Or.inl c6) zm_L_29 (Nat.le_of_ble_eq_true rfl) rfl dL_areWell_152 ?_
  refine V_pc (pc' := 155) rfl ?_
  refine V_iadd dL_areWell_155 ?_
  refine V_iadd dL_areWell_156 ?_
  refine V_istore_n (ls' := [(1, .int ((i1 + ((w1 + w5))))), (0, .ref (zad L (a0))), (2, .int (i2)), (3, .double (d3)), (5, .int (i5)), (6, .int (i6))]) dL_areWell_157 rfl (by decide) rfl ?_
  refine V_iconst (v := 0) dL_areWell_158 (by decide) ?_
  refine V_istore (ls' := [(9, .int ((0 : Int32))), (1, .int ((i1 + ((w1 + w5))))), (0, .ref (zad L (a0))), (2, .int (i2)), (3, .double (d3)), (5, .int (i5)), (6, .int (i6))]) dL_areWell_159 (by decide) rfl ?_
  refine V_sub [2, 1, 3, 4, 5, 6, 0] rfl ?_
  exact s_L_areWell_161 hK18 hq h
def f_L_areWell_112 (K18 : Nat → Int32 → Int32 → UInt64 → Int32 → zM → Option (Int32 × zM)) (a0 : Nat) (i1 : Int32) (i2 : Int32) (d3 : UInt64) (i5 : Int32) (i6 : Int32) (i7 : Int32) (M : zM) : Option (Int32 × zM) :=
  if mK M a0 = 9 then
  xn (f_X3_many a0 ((0 : Int32)) M) fun w1 Mw1 =>
  if w1 = ((1 : Int32)) then
  if mK Mw1 a0 = 9 then
  xn (f_X3_many a0 ((1 : Int32)) Mw1) fun w10 Mw10 =>
  if w10 = i5 then
  if i7 = ((11 : Int32)) then
  f_L_areWell_140 K18 a0 i1 i2 d3 i5 i6 Mw10
  else
  some ((0 : Int32), Mw10)
  else
  f_L_areWell_140 K18 a0 i1 i2 d3 i5 i6 Mw10
  else none
  else
  f_L_areWell_140 K18 a0 i1 i2 d3 i5 i6 Mw1
  else none
set_option maxRecDepth 20000 in
set_option maxHeartbeats 4000000 in
theorem s_L_areWell_112 {L : zL} {X : zX} {M0 : zM} {N : Nat × Nat} {Q : State → Prop} {r : Int32 × zM} {K18 : Nat → Int32 → Int32 → UInt64 → Int32 → zM → Option (Int32 × zM)} (hK18 : ∀ (a0 : Nat) (i1 : Int32) (i2 : Int32) (d3 : UInt64) (i5 : Int32) (M : zM), K18 a0 i1 i2 d3 i5 M = some r → V L X yL_areWell cL_areWell 10 (some FieldType.boolean) 70 M0 N Q M 18 [(0, .ref (zad L (a0))), (1, .int (i1)), (2, .int (i2)), (3, .double (d3)), (5, .int (i5))] []) (hq : vQ L X M0 N Q (some (.int r.1)) r.2) {a0 : Nat} {i1 : Int32} {i2 : Int32} {d3 : UInt64} {i5 : Int32} {i6 : Int32} {i7 : Int32} {M : zM} (h : f_L_areWell_112 K18 a0 i1 i2 d3 i5 i6 i7 M = some r) : V L X yL_areWell cL_areWell 10 (some FieldType.boolean) 70 M0 N Q M 112 [(0, .ref (zad L (a0))), (1, .int (i1)), (2, .int (i2)), (3, .double (d3)), (5, .int (i5)), (6, .int (i6)), (7, .int (i7))] [] := by
  unfold f_L_areWell_112 at h
  refine V_aload_n dL_areWell_112 rfl 0 rfl ?_
  refine V_iconst (v := 0) dL_areWell_113 (by decide) ?_
  replace h := ox h
  obtain ⟨c2, h⟩ := h
  replace h := xns h
  obtain ⟨w1, Mw1, e_r1, h⟩ := h
  refine V_callVx_I (As := [.int ((0 : Int32))]) (rest := []) (c_X3_many e_r1) zc_X3_many rfl (by decide) rfl (by decide) (Or.inl c2) zm_L_18 (Nat.le_of_ble_eq_true rfl) rfl dL_areWell_114 ?_
  refine V_pc (pc' := 117) rfl ?_
  refine V_iconst (v := 1) dL_areWell_117 (by decide) ?_
  refine V_icmp_ne (tgt := 140) dL_areWell_118 (by decide) (fun c16 => ?_) (fun c16 => ?_)
  · replace h := (oi h).2 c16
    refine V_sub [0, 1, 2, 3, 4, 5] rfl ?_
    exact s_L_areWell_140 hK18 hq h
  · replace h := (oi h).1 c16
    refine V_aload_n dL_areWell_121 rfl 0 rfl ?_
    refine V_iconst (v := 1) dL_areWell_122 (by decide) ?_
    replace h := ox h
    obtain ⟨c11, h⟩ := h
    replace h := xns h
    obtain ⟨w10, Mw10, e_r10, h⟩ := h
    refine V_callVx_I (As := [.int ((1 : Int32))]) (rest := []) (c_X3_many e_r10) zc_X3_many rfl (by decide) rfl (by decide) (Or.inl c11) zm_L_18 (Nat.le_of_ble_eq_true rfl) rfl dL_areWell_123 ?_
    refine V_pc (pc' := 126) rfl ?_
    refine V_iload dL_areWell_126 4 rfl ?_
    refine V_icmp_ne (tgt := 140) dL_areWell_128 (by decide) (fun c15 => ?_) (fun c15 => ?_)
    · replace h := (oi h).2 c15
      refine V_sub [0, 1, 2, 3, 4, 5] rfl ?_
      exact s_L_areWell_140 hK18 hq h
    · replace h := (oi h).1 c15
      refine V_iload dL_areWell_131 6 rfl ?_
      refine V_bipush (v := 11) dL_areWell_133 (by decide) ?_
      refine V_icmp_eq (tgt := 140) dL_areWell_135 (by decide) (fun c14 => ?_) (fun c14 => ?_)
      · replace h := (oi h).1 c14
        refine V_sub [0, 1, 2, 3, 4, 5] rfl ?_
        exact s_L_areWell_140 hK18 hq h
      · replace h := (oi h).2 c14
        refine V_iconst (v := 0) dL_areWell_138 (by decide) ?_
        obtain rfl := Option.some.inj h
        exact V_zret (ty := .boolean) rfl rfl hq dL_areWell_139
def f_L_areWell_91 (K18 : Nat → Int32 → Int32 → UInt64 → Int32 → zM → Option (Int32 × zM)) (a0 : Nat) (i1 : Int32) (i2 : Int32) (d3 : UInt64) (i5 : Int32) (i6 : Int32) (i7 : Int32) (i_0 : Int32) (M : zM) : Option (Int32 × zM) :=
  if i7 = ((10 : Int32)) then
  f_L_areWell_112 K18 a0 i1 i2 d3 i5 i6 i7 M
  else
  if i7 = ((11 : Int32)) then
  if i_0 = 0 then
  some ((0 : Int32), M)
  else
  f_L_areWell_112 K18 a0 i1 i2 d3 i5 i6 i7 M
  else
  some ((0 : Int32), M)
set_option maxRecDepth 20000 in
set_option maxHeartbeats 4000000 in
theorem s_L_areWell_91 {L : zL} {X : zX} {M0 : zM} {N : Nat × Nat} {Q : State → Prop} {r : Int32 × zM} {K18 : Nat → Int32 → Int32 → UInt64 → Int32 → zM → Option (Int32 × zM)} (hK18 : ∀ (a0 : Nat) (i1 : Int32) (i2 : Int32) (d3 : UInt64) (i5 : Int32) (M : zM), K18 a0 i1 i2 d3 i5 M = some r → V L X yL_areWell cL_areWell 10 (some FieldType.boolean) 70 M0 N Q M 18 [(0, .ref (zad L (a0))), (1, .int (i1)), (2, .int (i2)), (3, .double (d3)), (5, .int (i5))] []) (hq : vQ L X M0 N Q (some (.int r.1)) r.2) {a0 : Nat} {i1 : Int32} {i2 : Int32} {d3 : UInt64} {i5 : Int32} {i6 : Int32} {i7 : Int32} {i_0 : Int32} {M : zM} (h : f_L_areWell_91 K18 a0 i1 i2 d3 i5 i6 i7 i_0 M = some r) : V L X yL_areWell cL_areWell 10 (some FieldType.boolean) 70 M0 N Q M 91 [(0, .ref (zad L (a0))), (1, .int (i1)), (2, .int (i2)), (3, .double (d3)), (5, .int (i5)), (6, .int (i6)), (7, .int (i7))] [.int (i_0)] := by
  unfold f_L_areWell_91 at h
  refine V_istore (ls' := [(8, .int (i_0)), (0, .ref (zad L (a0))), (1, .int (i1)), (2, .int (i2)), (3, .double (d3)), (5, .int (i5)), (6, .int (i6)), (7, .int (i7))]) dL_areWell_91 (by decide) rfl ?_
  refine V_iload dL_areWell_93 7 rfl ?_
  refine V_bipush (v := 10) dL_areWell_95 (by decide) ?_
  refine V_icmp_eq (tgt := 112) dL_areWell_97 (by decide) (fun c3 => ?_) (fun c3 => ?_)
  · replace h := (oi h).1 c3
    refine V_sub [1, 2, 3, 4, 5, 6, 7] rfl ?_
    exact s_L_areWell_112 hK18 hq h
  · replace h := (oi h).2 c3
    refine V_iload dL_areWell_100 7 rfl ?_
    refine V_bipush (v := 11) dL_areWell_102 (by decide) ?_
    refine V_icmp_ne (tgt := 138) dL_areWell_104 (by decide) (fun c2 => ?_) (fun c2 => ?_)
    · replace h := (oi h).2 c2
      refine V_iconst (v := 0) dL_areWell_138 (by decide) ?_
      obtain rfl := Option.some.inj h
      exact V_zret (ty := .boolean) rfl rfl hq dL_areWell_139
    · replace h := (oi h).1 c2
      refine V_iload dL_areWell_107 0 rfl ?_
      refine V_if_eq (tgt := 138) dL_areWell_109 (by decide) (fun c1 => ?_) (fun c1 => ?_)
      · replace h := (oi h).1 c1
        refine V_iconst (v := 0) dL_areWell_138 (by decide) ?_
        obtain rfl := Option.some.inj h
        exact V_zret (ty := .boolean) rfl rfl hq dL_areWell_139
      · replace h := (oi h).2 c1
        refine V_sub [1, 2, 3, 4, 5, 6, 7] rfl ?_
        exact s_L_areWell_112 hK18 hq h
def f_L_areWell_90 (K18 : Nat → Int32 → Int32 → UInt64 → Int32 → zM → Option (Int32 × zM)) (a0 : Nat) (i1 : Int32) (i2 : Int32) (d3 : UInt64) (i5 : Int32) (i6 : Int32) (i7 : Int32) (M : zM) : Option (Int32 × zM) :=
  f_L_areWell_91 K18 a0 i1 i2 d3 i5 i6 i7 ((0 : Int32)) M
set_option maxRecDepth 20000 in
set_option maxHeartbeats 4000000 in
theorem s_L_areWell_90 {L : zL} {X : zX} {M0 : zM} {N : Nat × Nat} {Q : State → Prop} {r : Int32 × zM} {K18 : Nat → Int32 → Int32 → UInt64 → Int32 → zM → Option (Int32 × zM)} (hK18 : ∀ (a0 : Nat) (i1 : Int32) (i2 : Int32) (d3 : UInt64) (i5 : Int32) (M : zM), K18 a0 i1 i2 d3 i5 M = some r → V L X yL_areWell cL_areWell 10 (some FieldType.boolean) 70 M0 N Q M 18 [(0, .ref (zad L (a0))), (1, .int (i1)), (2, .int (i2)), (3, .double (d3)), (5, .int (i5))] []) (hq : vQ L X M0 N Q (some (.int r.1)) r.2) {a0 : Nat} {i1 : Int32} {i2 : Int32} {d3 : UInt64} {i5 : Int32} {i6 : Int32} {i7 : Int32} {M : zM} (h : f_L_areWell_90 K18 a0 i1 i2 d3 i5 i6 i7 M = some r) : V L X yL_areWell cL_areWell 10 (some FieldType.boolean) 70 M0 N Q M 90 [(0, .ref (zad L (a0))), (1, .int (i1)), (2, .int (i2)), (3, .double (d3)), (5, .int (i5)), (6, .int (i6)), (7, .int (i7))] [] := by
  unfold f_L_areWell_90 at h
  refine V_iconst (v := 0) dL_areWell_90 (by decide) ?_
  exact s_L_areWell_91 hK18 hq h
def f_L_areWell_86 (K18 : Nat → Int32 → Int32 → UInt64 → Int32 → zM → Option (Int32 × zM)) (a0 : Nat) (i1 : Int32) (i2 : Int32) (d3 : UInt64) (i5 : Int32) (i6 : Int32) (i7 : Int32) (M : zM) : Option (Int32 × zM) :=
  f_L_areWell_91 K18 a0 i1 i2 d3 i5 i6 i7 ((1 : Int32)) M
set_option maxRecDepth 20000 in
set_option maxHeartbeats 4000000 in
theorem s_L_areWell_86 {L : zL} {X : zX} {M0 : zM} {N : Nat × Nat} {Q : State → Prop} {r : Int32 × zM} {K18 : Nat → Int32 → Int32 → UInt64 → Int32 → zM → Option (Int32 × zM)} (hK18 : ∀ (a0 : Nat) (i1 : Int32) (i2 : Int32) (d3 : UInt64) (i5 : Int32) (M : zM), K18 a0 i1 i2 d3 i5 M = some r → V L X yL_areWell cL_areWell 10 (some FieldType.boolean) 70 M0 N Q M 18 [(0, .ref (zad L (a0))), (1, .int (i1)), (2, .int (i2)), (3, .double (d3)), (5, .int (i5))] []) (hq : vQ L X M0 N Q (some (.int r.1)) r.2) {a0 : Nat} {i1 : Int32} {i2 : Int32} {d3 : UInt64} {i5 : Int32} {i6 : Int32} {i7 : Int32} {M : zM} (h : f_L_areWell_86 K18 a0 i1 i2 d3 i5 i6 i7 M = some r) : V L X yL_areWell cL_areWell 10 (some FieldType.boolean) 70 M0 N Q M 86 [(0, .ref (zad L (a0))), (1, .int (i1)), (2, .int (i2)), (3, .double (d3)), (5, .int (i5)), (6, .int (i6)), (7, .int (i7))] [] := by
  unfold f_L_areWell_86 at h
  refine V_iconst (v := 1) dL_areWell_86 (by decide) ?_
  refine V_goto (tgt := 91) dL_areWell_87 (by decide) ?_
  exact s_L_areWell_91 hK18 hq h
def f_L_areWell_66 (K18 : Nat → Int32 → Int32 → UInt64 → Int32 → zM → Option (Int32 × zM)) (a0 : Nat) (i1 : Int32) (i2 : Int32) (d3 : UInt64) (i5 : Int32) (i6 : Int32) (i7 : Int32) (M : zM) : Option (Int32 × zM) :=
  if mK M a0 = 9 then
  xn (f_X3_many a0 ((0 : Int32)) M) fun w1 Mw1 =>
  if w1 = ((3 : Int32)) then
  if mK Mw1 a0 = 9 then
  xn (f_X3_many a0 ((9 : Int32)) Mw1) fun w8 Mw8 =>
  if w8 = i5 then
  f_L_areWell_86 K18 a0 i1 i2 d3 i5 i6 i7 Mw8
  else
  f_L_areWell_90 K18 a0 i1 i2 d3 i5 i6 i7 Mw8
  else none
  else
  f_L_areWell_90 K18 a0 i1 i2 d3 i5 i6 i7 Mw1
  else none
set_option maxRecDepth 20000 in
set_option maxHeartbeats 4000000 in
theorem s_L_areWell_66 {L : zL} {X : zX} {M0 : zM} {N : Nat × Nat} {Q : State → Prop} {r : Int32 × zM} {K18 : Nat → Int32 → Int32 → UInt64 → Int32 → zM → Option (Int32 × zM)} (hK18 : ∀ (a0 : Nat) (i1 : Int32) (i2 : Int32) (d3 : UInt64) (i5 : Int32) (M : zM), K18 a0 i1 i2 d3 i5 M = some r → V L X yL_areWell cL_areWell 10 (some FieldType.boolean) 70 M0 N Q M 18 [(0, .ref (zad L (a0))), (1, .int (i1)), (2, .int (i2)), (3, .double (d3)), (5, .int (i5))] []) (hq : vQ L X M0 N Q (some (.int r.1)) r.2) {a0 : Nat} {i1 : Int32} {i2 : Int32} {d3 : UInt64} {i5 : Int32} {i6 : Int32} {i7 : Int32} {M : zM} (h : f_L_areWell_66 K18 a0 i1 i2 d3 i5 i6 i7 M = some r) : V L X yL_areWell cL_areWell 10 (some FieldType.boolean) 70 M0 N Q M 66 [(0, .ref (zad L (a0))), (1, .int (i1)), (2, .int (i2)), (3, .double (d3)), (5, .int (i5)), (6, .int (i6)), (7, .int (i7))] [] := by
  unfold f_L_areWell_66 at h
  refine V_aload_n dL_areWell_66 rfl 0 rfl ?_
  refine V_iconst (v := 0) dL_areWell_67 (by decide) ?_
  replace h := ox h
  obtain ⟨c2, h⟩ := h
  replace h := xns h
  obtain ⟨w1, Mw1, e_r1, h⟩ := h
  refine V_callVx_I (As := [.int ((0 : Int32))]) (rest := []) (c_X3_many e_r1) zc_X3_many rfl (by decide) rfl (by decide) (Or.inl c2) zm_L_18 (Nat.le_of_ble_eq_true rfl) rfl dL_areWell_68 ?_
  refine V_pc (pc' := 71) rfl ?_
  refine V_iconst (v := 3) dL_areWell_71 (by decide) ?_
  refine V_icmp_ne (tgt := 90) dL_areWell_72 (by decide) (fun c12 => ?_) (fun c12 => ?_)
  · replace h := (oi h).2 c12
    exact s_L_areWell_90 hK18 hq h
  · replace h := (oi h).1 c12
    refine V_aload_n dL_areWell_75 rfl 0 rfl ?_
    refine V_bipush (v := 9) dL_areWell_76 (by decide) ?_
    replace h := ox h
    obtain ⟨c9, h⟩ := h
    replace h := xns h
    obtain ⟨w8, Mw8, e_r8, h⟩ := h
    refine V_callVx_I (As := [.int ((9 : Int32))]) (rest := []) (c_X3_many e_r8) zc_X3_many rfl (by decide) rfl (by decide) (Or.inl c9) zm_L_18 (Nat.le_of_ble_eq_true rfl) rfl dL_areWell_78 ?_
    refine V_pc (pc' := 81) rfl ?_
    refine V_iload dL_areWell_81 4 rfl ?_
    refine V_icmp_ne (tgt := 90) dL_areWell_83 (by decide) (fun c11 => ?_) (fun c11 => ?_)
    · replace h := (oi h).2 c11
      exact s_L_areWell_90 hK18 hq h
    · replace h := (oi h).1 c11
      exact s_L_areWell_86 hK18 hq h
def f_L_areWell_18 (n : Nat) (a0 : Nat) (i1 : Int32) (i2 : Int32) (d3 : UInt64) (i5 : Int32) (M : zM) : Option (Int32 × zM) := match n with
  | 0 => none
  | n + 1 =>
    if ((4 : Int32)) ≤ i5 then
    f_L_areWell_281 zN a0 i1 i2 d3 ((0 : Int32)) ((0 : Int32)) M
    else
    if mK M a0 = 9 then
    xn (f_X3_ofPlayer a0 i5 ((1 : Int32)) M) fun w1 Mw1 =>
    if mK Mw1 a0 = 9 then
    xn (f_X3_ofPlayer a0 i5 ((3 : Int32)) Mw1) fun w29 Mw29 =>
    if mK Mw29 a0 = 9 then
    xn (f_X3_many a0 ((0 : Int32)) Mw29) fun w43 Mw43 =>
    if w43 = ((1 : Int32)) then
    if mK Mw43 a0 = 9 then
    xn (f_X3_many a0 ((1 : Int32)) Mw43) fun w50 Mw50 =>
    if w50 = i5 then
    f_L_areWell_86 (f_L_areWell_18 n) a0 i1 i2 d3 i5 w1 ((w29 + ((((3 : Int32)) * w1)))) Mw50
    else
    f_L_areWell_66 (f_L_areWell_18 n) a0 i1 i2 d3 i5 w1 ((w29 + ((((3 : Int32)) * w1)))) Mw50
    else none
    else
    f_L_areWell_66 (f_L_areWell_18 n) a0 i1 i2 d3 i5 w1 ((w29 + ((((3 : Int32)) * w1)))) Mw43
    else none
    else none
    else none
set_option maxRecDepth 20000 in
set_option maxHeartbeats 4000000 in
theorem s_L_areWell_18 {L : zL} {X : zX} {M0 : zM} {N : Nat × Nat} {Q : State → Prop} {r : Int32 × zM} (hq : vQ L X M0 N Q (some (.int r.1)) r.2) {n : Nat} {a0 : Nat} {i1 : Int32} {i2 : Int32} {d3 : UInt64} {i5 : Int32} {M : zM} : f_L_areWell_18 n a0 i1 i2 d3 i5 M = some r → V L X yL_areWell cL_areWell 10 (some FieldType.boolean) 70 M0 N Q M 18 [(0, .ref (zad L (a0))), (1, .int (i1)), (2, .int (i2)), (3, .double (d3)), (5, .int (i5))] [] := by
  induction n generalizing a0 i1 i2 d3 i5 M with
  | zero =>
    intro h
    rw [f_L_areWell_18] at h
    cases h
  | succ n ih0 =>
    intro h
    have ih : ∀ (a0 : Nat) (i1 : Int32) (i2 : Int32) (d3 : UInt64) (i5 : Int32) (M : zM), f_L_areWell_18 n a0 i1 i2 d3 i5 M = some r → V L X yL_areWell cL_areWell 10 (some FieldType.boolean) 70 M0 N Q M 18 [(0, .ref (zad L (a0))), (1, .int (i1)), (2, .int (i2)), (3, .double (d3)), (5, .int (i5))] [] := fun a0 i1 i2 d3 i5 M h => ih0 h
    rw [f_L_areWell_18] at h
    refine V_iload dL_areWell_18 4 rfl ?_
    refine V_iconst (v := 4) dL_areWell_20 (by decide) ?_
    refine V_icmp_ge (tgt := 275) dL_areWell_21 (by decide) (fun c55 => ?_) (fun c55 => ?_)
    · replace h := (oi h).1 c55
      refine V_iconst (v := 0) dL_areWell_275 (by decide) ?_
      refine V_istore (ls' := [(5, .int ((0 : Int32))), (0, .ref (zad L (a0))), (1, .int (i1)), (2, .int (i2)), (3, .double (d3))]) dL_areWell_276 (by decide) rfl ?_
      refine V_iconst (v := 0) dL_areWell_278 (by decide) ?_
      refine V_istore (ls' := [(6, .int ((0 : Int32))), (5, .int ((0 : Int32))), (0, .ref (zad L (a0))), (1, .int (i1)), (2, .int (i2)), (3, .double (d3))]) dL_areWell_279 (by decide) rfl ?_
      refine V_sub [2, 3, 4, 5, 1, 0] rfl ?_
      exact s_L_areWell_281 hq h
    · replace h := (oi h).2 c55
      refine V_aload_n dL_areWell_24 rfl 0 rfl ?_
      refine V_iload dL_areWell_25 4 rfl ?_
      refine V_iconst (v := 1) dL_areWell_27 (by decide) ?_
      replace h := ox h
      obtain ⟨c2, h⟩ := h
      replace h := xns h
      obtain ⟨w1, Mw1, e_r1, h⟩ := h
      refine V_callVx_I (As := [.int (i5), .int ((1 : Int32))]) (rest := []) (c_X3_ofPlayer e_r1) zc_X3_ofPlayer rfl (by decide) rfl (by decide) (Or.inl c2) zm_L_29 (Nat.le_of_ble_eq_true rfl) rfl dL_areWell_28 ?_
      refine V_pc (pc' := 31) rfl ?_
      refine V_istore (ls' := [(6, .int (w1)), (0, .ref (zad L (a0))), (1, .int (i1)), (2, .int (i2)), (3, .double (d3)), (5, .int (i5))]) dL_areWell_31 (by decide) rfl ?_
      refine V_aload_n dL_areWell_33 rfl 1 rfl ?_
      refine V_iload dL_areWell_34 5 rfl ?_
      refine V_iconst (v := 3) dL_areWell_36 (by decide) ?_
      replace h := ox h
      obtain ⟨c30, h⟩ := h
      replace h := xns h
      obtain ⟨w29, Mw29, e_r29, h⟩ := h
      refine V_callVx_I (As := [.int (i5), .int ((3 : Int32))]) (rest := []) (c_X3_ofPlayer e_r29) zc_X3_ofPlayer rfl (by decide) rfl (by decide) (Or.inl c30) zm_L_29 (Nat.le_of_ble_eq_true rfl) rfl dL_areWell_37 ?_
      refine V_pc (pc' := 40) rfl ?_
      refine V_iconst (v := 3) dL_areWell_40 (by decide) ?_
      refine V_iload dL_areWell_41 0 rfl ?_
      refine V_imul dL_areWell_43 ?_
      refine V_iadd dL_areWell_44 ?_
      refine V_istore (ls' := [(7, .int ((w29 + ((((3 : Int32)) * w1))))), (6, .int (w1)), (0, .ref (zad L (a0))), (1, .int (i1)), (2, .int (i2)), (3, .double (d3)), (5, .int (i5))]) dL_areWell_45 (by decide) rfl ?_
      refine V_aload_n dL_areWell_47 rfl 2 rfl ?_
      refine V_iconst (v := 0) dL_areWell_48 (by decide) ?_
      replace h := ox h
      obtain ⟨c44, h⟩ := h
      replace h := xns h
      obtain ⟨w43, Mw43, e_r43, h⟩ := h
      refine V_callVx_I (As := [.int ((0 : Int32))]) (rest := []) (c_X3_many e_r43) zc_X3_many rfl (by decide) rfl (by decide) (Or.inl c44) zm_L_18 (Nat.le_of_ble_eq_true rfl) rfl dL_areWell_49 ?_
      refine V_pc (pc' := 52) rfl ?_
      refine V_iconst (v := 1) dL_areWell_52 (by decide) ?_
      refine V_icmp_ne (tgt := 66) dL_areWell_53 (by decide) (fun c54 => ?_) (fun c54 => ?_)
      · replace h := (oi h).2 c54
        refine V_sub [2, 3, 4, 5, 6, 1, 0] rfl ?_
        exact s_L_areWell_66 ih hq h
      · replace h := (oi h).1 c54
        refine V_aload_n dL_areWell_56 rfl 2 rfl ?_
        refine V_iconst (v := 1) dL_areWell_57 (by decide) ?_
        replace h := ox h
        obtain ⟨c51, h⟩ := h
        replace h := xns h
        obtain ⟨w50, Mw50, e_r50, h⟩ := h
        refine V_callVx_I (As := [.int ((1 : Int32))]) (rest := []) (c_X3_many e_r50) zc_X3_many rfl (by decide) rfl (by decide) (Or.inl c51) zm_L_18 (Nat.le_of_ble_eq_true rfl) rfl dL_areWell_58 ?_
        refine V_pc (pc' := 61) rfl ?_
        refine V_iload dL_areWell_61 6 rfl ?_
        refine V_icmp_eq (tgt := 86) dL_areWell_63 (by decide) (fun c53 => ?_) (fun c53 => ?_)
        · replace h := (oi h).1 c53
          refine V_sub [2, 3, 4, 5, 6, 1, 0] rfl ?_
          exact s_L_areWell_86 ih hq h
        · replace h := (oi h).2 c53
          refine V_sub [2, 3, 4, 5, 6, 1, 0] rfl ?_
          exact s_L_areWell_66 ih hq h
def f_L_areWell_0 (a0 : Nat) (M : zM) : Option (Int32 × zM) :=
  if mK M a0 = 9 then
  xn (f_X3_many a0 ((2 : Int32)) M) fun w1 Mw1 =>
  if mK Mw1 a0 = 9 then
  xn (f_X3_many a0 ((6 : Int32)) Mw1) fun w5 Mw5 =>
  f_L_areWell_18 zN a0 w1 w5 FP.dconst0 ((0 : Int32)) Mw5
  else none
  else none
set_option maxRecDepth 20000 in
set_option maxHeartbeats 4000000 in
theorem s_L_areWell_0 {L : zL} {X : zX} {M0 : zM} {N : Nat × Nat} {Q : State → Prop} {r : Int32 × zM} (hq : vQ L X M0 N Q (some (.int r.1)) r.2) {a0 : Nat} {M : zM} (h : f_L_areWell_0 a0 M = some r) : V L X yL_areWell cL_areWell 10 (some FieldType.boolean) 70 M0 N Q M 0 [(0, .ref (zad L (a0)))] [] := by
  unfold f_L_areWell_0 at h
  refine V_aload_n dL_areWell_0 rfl 0 rfl ?_
  refine V_iconst (v := 2) dL_areWell_1 (by decide) ?_
  replace h := ox h
  obtain ⟨c2, h⟩ := h
  replace h := xns h
  obtain ⟨w1, Mw1, e_r1, h⟩ := h
  refine V_callVx_I (As := [.int ((2 : Int32))]) (rest := []) (c_X3_many e_r1) zc_X3_many rfl (by decide) rfl (by decide) (Or.inl c2) zm_L_18 (Nat.le_of_ble_eq_true rfl) rfl dL_areWell_2 ?_
  refine V_pc (pc' := 5) rfl ?_
  refine V_istore_n (ls' := [(1, .int (w1)), (0, .ref (zad L (a0)))]) dL_areWell_5 rfl (by decide) rfl ?_
  refine V_aload_n dL_areWell_6 rfl 1 rfl ?_
  refine V_bipush (v := 6) dL_areWell_7 (by decide) ?_
  replace h := ox h
  obtain ⟨c6, h⟩ := h
  replace h := xns h
  obtain ⟨w5, Mw5, e_r5, h⟩ := h
  refine V_callVx_I (As := [.int ((6 : Int32))]) (rest := []) (c_X3_many e_r5) zc_X3_many rfl (by decide) rfl (by decide) (Or.inl c6) zm_L_18 (Nat.le_of_ble_eq_true rfl) rfl dL_areWell_9 ?_
  refine V_pc (pc' := 12) rfl ?_
  refine V_istore_n (ls' := [(2, .int (w5)), (1, .int (w1)), (0, .ref (zad L (a0)))]) dL_areWell_12 rfl (by decide) rfl ?_
  refine V_dconst0 dL_areWell_13 ?_
  refine V_dstore_n (ls' := [(3, .double (FP.dconst0)), (2, .int (w5)), (1, .int (w1)), (0, .ref (zad L (a0)))]) dL_areWell_14 rfl (by decide) rfl ?_
  refine V_iconst (v := 0) dL_areWell_15 (by decide) ?_
  refine V_istore (ls' := [(5, .int ((0 : Int32))), (3, .double (FP.dconst0)), (2, .int (w5)), (1, .int (w1)), (0, .ref (zad L (a0)))]) dL_areWell_16 (by decide) rfl ?_
  refine V_sub [4, 3, 2, 1, 0] rfl ?_
  exact s_L_areWell_18 hq h
def f_L_areWell (a0 : Nat) (M : zM) : Option (Int32 × zM) := f_L_areWell_0 a0 M
theorem c_L_areWell {L : zL} {l : Launch} {a0 : Nat} {M : zM} {r : Int32 × zM} (h : f_L_areWell a0 M = some r) : CP L l yL_areWell cL_areWell 10 (some FieldType.boolean) 70 M [.ref (zad L (a0))] (some (.int r.1)) r.2 :=
  CP.of ⟨by decide +kernel, by decide +kernel⟩ (Nat.le_of_ble_eq_true rfl) fun X Q hq => s_L_areWell_0 hq h
/-! WindsparlourLaw.isWon(LWindsparlour;I)Z -/
theorem dL_isWon_0 : decode cL_isWon 0 = .ok (.aload_n 0, 1) := by decide +kernel
theorem dL_isWon_1 : decode cL_isWon 1 = .ok (.iload_n 1, 1) := by decide +kernel
theorem dL_isWon_2 : decode cL_isWon 2 = .ok (.iconst 0, 1) := by decide +kernel
theorem dL_isWon_3 : decode cL_isWon 3 = .ok (.invokevirtual 29, 3) := by decide +kernel
theorem dL_isWon_6 : decode cL_isWon 6 = .ok (.istore_n 2, 1) := by decide +kernel
theorem dL_isWon_7 : decode cL_isWon 7 = .ok (.aload_n 0, 1) := by decide +kernel
theorem dL_isWon_8 : decode cL_isWon 8 = .ok (.bipush 6, 2) := by decide +kernel
theorem dL_isWon_10 : decode cL_isWon 10 = .ok (.invokevirtual 18, 3) := by decide +kernel
theorem dL_isWon_13 : decode cL_isWon 13 = .ok (.istore_n 3, 1) := by decide +kernel
theorem dL_isWon_14 : decode cL_isWon 14 = .ok (.aload_n 0, 1) := by decide +kernel
theorem dL_isWon_15 : decode cL_isWon 15 = .ok (.iload_n 1, 1) := by decide +kernel
theorem dL_isWon_16 : decode cL_isWon 16 = .ok (.bipush 8, 2) := by decide +kernel
theorem dL_isWon_18 : decode cL_isWon 18 = .ok (.invokevirtual 29, 3) := by decide +kernel
theorem dL_isWon_21 : decode cL_isWon 21 = .ok (.istore 4, 2) := by decide +kernel
theorem dL_isWon_23 : decode cL_isWon 23 = .ok (.aload_n 0, 1) := by decide +kernel
theorem dL_isWon_24 : decode cL_isWon 24 = .ok (.iload_n 1, 1) := by decide +kernel
theorem dL_isWon_25 : decode cL_isWon 25 = .ok (.invokevirtual 106, 3) := by decide +kernel
theorem dL_isWon_28 : decode cL_isWon 28 = .ok (.istore 5, 2) := by decide +kernel
theorem dL_isWon_30 : decode cL_isWon 30 = .ok (.iload 5, 2) := by decide +kernel
theorem dL_isWon_32 : decode cL_isWon 32 = .ok (.ifCond .le 76, 3) := by decide +kernel
theorem dL_isWon_35 : decode cL_isWon 35 = .ok (.iload 5, 2) := by decide +kernel
theorem dL_isWon_37 : decode cL_isWon 37 = .ok (.bipush 13, 2) := by decide +kernel
theorem dL_isWon_39 : decode cL_isWon 39 = .ok (.if_icmp .ge 69, 3) := by decide +kernel
theorem dL_isWon_42 : decode cL_isWon 42 = .ok (.aload_n 0, 1) := by decide +kernel
theorem dL_isWon_43 : decode cL_isWon 43 = .ok (.iload_n 1, 1) := by decide +kernel
theorem dL_isWon_44 : decode cL_isWon 44 = .ok (.iconst 0, 1) := by decide +kernel
theorem dL_isWon_45 : decode cL_isWon 45 = .ok (.invokevirtual 29, 3) := by decide +kernel
theorem dL_isWon_48 : decode cL_isWon 48 = .ok (.iload_n 2, 1) := by decide +kernel
theorem dL_isWon_49 : decode cL_isWon 49 = .ok (.iload_n 3, 1) := by decide +kernel
theorem dL_isWon_50 : decode cL_isWon 50 = .ok (.iadd, 1) := by decide +kernel
theorem dL_isWon_51 : decode cL_isWon 51 = .ok (.bipush 12, 2) := by decide +kernel
theorem dL_isWon_53 : decode cL_isWon 53 = .ok (.iload 5, 2) := by decide +kernel
theorem dL_isWon_55 : decode cL_isWon 55 = .ok (.imul, 1) := by decide +kernel
theorem dL_isWon_56 : decode cL_isWon 56 = .ok (.iadd, 1) := by decide +kernel
theorem dL_isWon_57 : decode cL_isWon 57 = .ok (.if_icmp .ne 51, 3) := by decide +kernel
theorem dL_isWon_60 : decode cL_isWon 60 = .ok (.aload_n 0, 1) := by decide +kernel
theorem dL_isWon_61 : decode cL_isWon 61 = .ok (.iload_n 1, 1) := by decide +kernel
theorem dL_isWon_62 : decode cL_isWon 62 = .ok (.bipush 8, 2) := by decide +kernel
theorem dL_isWon_64 : decode cL_isWon 64 = .ok (.invokevirtual 29, 3) := by decide +kernel
theorem dL_isWon_67 : decode cL_isWon 67 = .ok (.iload 4, 2) := by decide +kernel
theorem dL_isWon_69 : decode cL_isWon 69 = .ok (.iconst 1, 1) := by decide +kernel
theorem dL_isWon_70 : decode cL_isWon 70 = .ok (.iadd, 1) := by decide +kernel
theorem dL_isWon_71 : decode cL_isWon 71 = .ok (.if_icmp .ne 37, 3) := by decide +kernel
theorem dL_isWon_74 : decode cL_isWon 74 = .ok (.aload_n 0, 1) := by decide +kernel
theorem dL_isWon_75 : decode cL_isWon 75 = .ok (.bipush 9, 2) := by decide +kernel
theorem dL_isWon_77 : decode cL_isWon 77 = .ok (.invokevirtual 18, 3) := by decide +kernel
theorem dL_isWon_80 : decode cL_isWon 80 = .ok (.iload_n 1, 1) := by decide +kernel
theorem dL_isWon_81 : decode cL_isWon 81 = .ok (.if_icmp .ne 27, 3) := by decide +kernel
theorem dL_isWon_84 : decode cL_isWon 84 = .ok (.aload_n 0, 1) := by decide +kernel
theorem dL_isWon_85 : decode cL_isWon 85 = .ok (.iconst 0, 1) := by decide +kernel
theorem dL_isWon_86 : decode cL_isWon 86 = .ok (.invokevirtual 18, 3) := by decide +kernel
theorem dL_isWon_89 : decode cL_isWon 89 = .ok (.iconst 3, 1) := by decide +kernel
theorem dL_isWon_90 : decode cL_isWon 90 = .ok (.if_icmp .ne 18, 3) := by decide +kernel
theorem dL_isWon_93 : decode cL_isWon 93 = .ok (.aload_n 0, 1) := by decide +kernel
theorem dL_isWon_94 : decode cL_isWon 94 = .ok (.iload_n 1, 1) := by decide +kernel
theorem dL_isWon_95 : decode cL_isWon 95 = .ok (.bipush 6, 2) := by decide +kernel
theorem dL_isWon_97 : decode cL_isWon 97 = .ok (.invokevirtual 29, 3) := by decide +kernel
theorem dL_isWon_100 : decode cL_isWon 100 = .ok (.iconst (-1), 1) := by decide +kernel
theorem dL_isWon_101 : decode cL_isWon 101 = .ok (.if_icmp .ne 7, 3) := by decide +kernel
theorem dL_isWon_104 : decode cL_isWon 104 = .ok (.iconst 1, 1) := by decide +kernel
theorem dL_isWon_105 : decode cL_isWon 105 = .ok (.goto 4, 3) := by decide +kernel
theorem dL_isWon_108 : decode cL_isWon 108 = .ok (.iconst 0, 1) := by decide +kernel
theorem dL_isWon_109 : decode cL_isWon 109 = .ok (.ireturn, 1) := by decide +kernel
theorem dL_isWon_110 : decode cL_isWon 110 = .ok (.astore 5, 2) := by decide +kernel
theorem dL_isWon_112 : decode cL_isWon 112 = .ok (.iconst 0, 1) := by decide +kernel
theorem dL_isWon_113 : decode cL_isWon 113 = .ok (.ireturn, 1) := by decide +kernel
theorem zht_L_isWon : zht yL_isWon = [(23, 109, 110, 86)] := by decide +kernel
def f_L_isWon_0 (a0 : Nat) (i1 : Int32) (M : zM) : Option (Int32 × zM) :=
  if mK M a0 = 9 then
  xn (f_X3_ofPlayer a0 i1 ((0 : Int32)) M) fun w1 Mw1 =>
  if mK Mw1 a0 = 9 then
  xn (f_X3_many a0 ((6 : Int32)) Mw1) fun w1029 Mw1029 =>
  if mK Mw1029 a0 = 9 then
  xn (f_X3_ofPlayer a0 i1 ((8 : Int32)) Mw1029) fun w1543 Mw1543 =>
  if mK Mw1543 a0 = 9 then
  xc (f_X3_win a0 i1 Mw1543) (fun E_r1800 M_r1800 =>
  if E_r1800 = "java/lang/IllegalStateException" then
  some ((0 : Int32), M_r1800)
  else
  none) fun w1800 Mw1800 =>
  if w1800 ≤ 0 then
  some ((0 : Int32), Mw1800)
  else
  if ((13 : Int32)) ≤ w1800 then
  some ((0 : Int32), Mw1800)
  else
  if mK Mw1800 a0 = 9 then
  xn (f_X3_ofPlayer a0 i1 ((0 : Int32)) Mw1800) fun w1928 Mw1928 =>
  if w1928 = ((((w1 + w1029)) + ((((12 : Int32)) * w1800)))) then
  if mK Mw1928 a0 = 9 then
  xn (f_X3_ofPlayer a0 i1 ((8 : Int32)) Mw1928) fun w1991 Mw1991 =>
  if w1991 = ((w1543 + ((1 : Int32)))) then
  if mK Mw1991 a0 = 9 then
  xn (f_X3_many a0 ((9 : Int32)) Mw1991) fun w2022 Mw2022 =>
  if w2022 = i1 then
  if mK Mw2022 a0 = 9 then
  xn (f_X3_many a0 ((0 : Int32)) Mw2022) fun w2037 Mw2037 =>
  if w2037 = ((3 : Int32)) then
  if mK Mw2037 a0 = 9 then
  xn (f_X3_ofPlayer a0 i1 ((6 : Int32)) Mw2037) fun w2044 Mw2044 =>
  if w2044 = ((-1 : Int32)) then
  some ((1 : Int32), Mw2044)
  else
  some ((0 : Int32), Mw2044)
  else none
  else
  some ((0 : Int32), Mw2037)
  else none
  else
  some ((0 : Int32), Mw2022)
  else none
  else
  some ((0 : Int32), Mw1991)
  else none
  else
  some ((0 : Int32), Mw1928)
  else none
  else none
  else none
  else none
  else none
set_option maxRecDepth 20000 in
set_option maxHeartbeats 4000000 in
theorem s_L_isWon_0 {L : zL} {X : zX} {M0 : zM} {N : Nat × Nat} {Q : State → Prop} {r : Int32 × zM} (hq : vQ L X M0 N Q (some (.int r.1)) r.2) {a0 : Nat} {i1 : Int32} {M : zM} (h : f_L_isWon_0 a0 i1 M = some r) : V L X yL_isWon cL_isWon 6 (some FieldType.boolean) 70 M0 N Q M 0 [(0, .ref (zad L (a0))), (1, .int (i1))] [] := by
  unfold f_L_isWon_0 at h
  refine V_aload_n dL_isWon_0 rfl 0 rfl ?_
  refine V_iload_n dL_isWon_1 rfl 1 rfl ?_
  refine V_iconst (v := 0) dL_isWon_2 (by decide) ?_
  replace h := ox h
  obtain ⟨c2, h⟩ := h
  replace h := xns h
  obtain ⟨w1, Mw1, e_r1, h⟩ := h
  refine V_callVx_I (As := [.int (i1), .int ((0 : Int32))]) (rest := []) (c_X3_ofPlayer e_r1) zc_X3_ofPlayer rfl (by decide) rfl (by decide) (Or.inl c2) zm_L_29 (Nat.le_of_ble_eq_true rfl) rfl dL_isWon_3 ?_
  refine V_pc (pc' := 6) rfl ?_
  refine V_istore_n (ls' := [(2, .int (w1)), (0, .ref (zad L (a0))), (1, .int (i1))]) dL_isWon_6 rfl (by decide) rfl ?_
  refine V_aload_n dL_isWon_7 rfl 1 rfl ?_
  refine V_bipush (v := 6) dL_isWon_8 (by decide) ?_
  replace h := ox h
  obtain ⟨c1030, h⟩ := h
  replace h := xns h
  obtain ⟨w1029, Mw1029, e_r1029, h⟩ := h
  refine V_callVx_I (As := [.int ((6 : Int32))]) (rest := []) (c_X3_many e_r1029) zc_X3_many rfl (by decide) rfl (by decide) (Or.inl c1030) zm_L_18 (Nat.le_of_ble_eq_true rfl) rfl dL_isWon_10 ?_
  refine V_pc (pc' := 13) rfl ?_
  refine V_istore_n (ls' := [(3, .int (w1029)), (2, .int (w1)), (0, .ref (zad L (a0))), (1, .int (i1))]) dL_isWon_13 rfl (by decide) rfl ?_
  refine V_aload_n dL_isWon_14 rfl 2 rfl ?_
  refine V_iload_n dL_isWon_15 rfl 3 rfl ?_
  refine V_bipush (v := 8) dL_isWon_16 (by decide) ?_
  replace h := ox h
  obtain ⟨c1544, h⟩ := h
  replace h := xns h
  obtain ⟨w1543, Mw1543, e_r1543, h⟩ := h
  refine V_callVx_I (As := [.int (i1), .int ((8 : Int32))]) (rest := []) (c_X3_ofPlayer e_r1543) zc_X3_ofPlayer rfl (by decide) rfl (by decide) (Or.inl c1544) zm_L_29 (Nat.le_of_ble_eq_true rfl) rfl dL_isWon_18 ?_
  refine V_pc (pc' := 21) rfl ?_
  refine V_istore (ls' := [(4, .int (w1543)), (3, .int (w1029)), (2, .int (w1)), (0, .ref (zad L (a0))), (1, .int (i1))]) dL_isWon_21 (by decide) rfl ?_
  refine V_aload_n dL_isWon_23 rfl 3 rfl ?_
  refine V_iload_n dL_isWon_24 rfl 4 rfl ?_
  replace h := ox h
  obtain ⟨c1801, h⟩ := h
  replace h := xcs h
  rcases h with ⟨E_r1800, M_r1800, e_r1800, h⟩ | ⟨w1800, Mw1800, e_r1800, h⟩
  · by_cases c2054 : E_r1800 = "java/lang/IllegalStateException"
    · replace h := (oi h).1 c2054
      subst c2054
      refine V_callVd (As := [.int (i1)]) (rest := []) (pre := []) (suf := []) (x := ⟨23, 109, 110, 86⟩) (c_X3_win e_r1800) (by rw [zht_L_isWon]; rfl) (by decide) ⟨by decide, by decide, zk_L_86, zcs_IllegalStateException⟩ zc_X3_win rfl (by decide) rfl (by decide) (Or.inl c1801) zm_L_106 (Nat.le_of_ble_eq_true rfl) rfl dL_isWon_25 (fun q_r1800 => ?_)
      refine V_astore (ls' := [(5, .ref (q_r1800)), (4, .int (w1543)), (3, .int (w1029)), (2, .int (w1)), (0, .ref (zad L (a0))), (1, .int (i1))]) dL_isWon_110 (by decide) rfl ?_
      refine V_iconst (v := 0) dL_isWon_112 (by decide) ?_
      obtain rfl := Option.some.inj h
      exact V_zret (ty := .boolean) rfl rfl hq dL_isWon_113
    · replace h := (oi h).2 c2054
      cases h
  · refine V_callVx_I (As := [.int (i1)]) (rest := []) (c_X3_win e_r1800) zc_X3_win rfl (by decide) rfl (by decide) (Or.inl c1801) zm_L_106 (Nat.le_of_ble_eq_true rfl) rfl dL_isWon_25 ?_
    refine V_pc (pc' := 28) rfl ?_
    refine V_istore (ls' := [(5, .int (w1800)), (4, .int (w1543)), (3, .int (w1029)), (2, .int (w1)), (0, .ref (zad L (a0))), (1, .int (i1))]) dL_isWon_28 (by decide) rfl ?_
    refine V_iload dL_isWon_30 0 rfl ?_
    refine V_if_le (tgt := 108) dL_isWon_32 (by decide) (fun c2053 => ?_) (fun c2053 => ?_)
    · replace h := (oi h).1 c2053
      refine V_iconst (v := 0) dL_isWon_108 (by decide) ?_
      obtain rfl := Option.some.inj h
      exact V_zret (ty := .boolean) rfl rfl hq dL_isWon_109
    · replace h := (oi h).2 c2053
      refine V_iload dL_isWon_35 0 rfl ?_
      refine V_bipush (v := 13) dL_isWon_37 (by decide) ?_
      refine V_icmp_ge (tgt := 108) dL_isWon_39 (by decide) (fun c2052 => ?_) (fun c2052 => ?_)
      · replace h := (oi h).1 c2052
        refine V_iconst (v := 0) dL_isWon_108 (by decide) ?_
        obtain rfl := Option.some.inj h
        exact V_zret (ty := .boolean) rfl rfl hq dL_isWon_109
      · replace h := (oi h).2 c2052
        refine V_aload_n dL_isWon_42 rfl 4 rfl ?_
        refine V_iload_n dL_isWon_43 rfl 5 rfl ?_
        refine V_iconst (v := 0) dL_isWon_44 (by decide) ?_
        replace h := ox h
        obtain ⟨c1929, h⟩ := h
        replace h := xns h
        obtain ⟨w1928, Mw1928, e_r1928, h⟩ := h
        refine V_callVx_I (As := [.int (i1), .int ((0 : Int32))]) (rest := []) (c_X3_ofPlayer e_r1928) zc_X3_ofPlayer rfl (by decide) rfl (by decide) (Or.inl c1929) zm_L_29 (Nat.le_of_ble_eq_true rfl) rfl dL_isWon_45 ?_
        refine V_pc (pc' := 48) rfl ?_
        refine V_iload_n dL_isWon_48 rfl 3 rfl ?_
        refine V_iload_n dL_isWon_49 rfl 2 rfl ?_
        refine V_iadd dL_isWon_50 ?_
        refine V_bipush (v := 12) dL_isWon_51 (by decide) ?_
        refine V_iload dL_isWon_53 0 rfl ?_
        refine V_imul dL_isWon_55 ?_
        refine V_iadd dL_isWon_56 ?_
        refine V_icmp_ne (tgt := 108) dL_isWon_57 (by decide) (fun c2051 => ?_) (fun c2051 => ?_)
        · replace h := (oi h).2 c2051
          refine V_iconst (v := 0) dL_isWon_108 (by decide) ?_
          obtain rfl := Option.some.inj h
          exact V_zret (ty := .boolean) rfl rfl hq dL_isWon_109
        · replace h := (oi h).1 c2051
          refine V_aload_n dL_isWon_60 rfl 4 rfl ?_
          refine V_iload_n dL_isWon_61 rfl 5 rfl ?_
          refine V_bipush (v := 8) dL_isWon_62 (by decide) ?_
          replace h := ox h
          obtain ⟨c1992, h⟩ := h
          replace h := xns h
          obtain ⟨w1991, Mw1991, e_r1991, h⟩ := h
          refine V_callVx_I (As := [.int (i1), .int ((8 : Int32))]) (rest := []) (c_X3_ofPlayer e_r1991) zc_X3_ofPlayer rfl (by decide) rfl (by decide) (Or.inl c1992) zm_L_29 (Nat.le_of_ble_eq_true rfl) rfl dL_isWon_64 ?_
          refine V_pc (pc' := 67) rfl ?_
          refine V_iload dL_isWon_67 1 rfl ?_
          refine V_iconst (v := 1) dL_isWon_69 (by decide) ?_
          refine V_iadd dL_isWon_70 ?_
          refine V_icmp_ne (tgt := 108) dL_isWon_71 (by decide) (fun c2050 => ?_) (fun c2050 => ?_)
          · replace h := (oi h).2 c2050
            refine V_iconst (v := 0) dL_isWon_108 (by decide) ?_
            obtain rfl := Option.some.inj h
            exact V_zret (ty := .boolean) rfl rfl hq dL_isWon_109
          · replace h := (oi h).1 c2050
            refine V_aload_n dL_isWon_74 rfl 4 rfl ?_
            refine V_bipush (v := 9) dL_isWon_75 (by decide) ?_
            replace h := ox h
            obtain ⟨c2023, h⟩ := h
            replace h := xns h
            obtain ⟨w2022, Mw2022, e_r2022, h⟩ := h
            refine V_callVx_I (As := [.int ((9 : Int32))]) (rest := []) (c_X3_many e_r2022) zc_X3_many rfl (by decide) rfl (by decide) (Or.inl c2023) zm_L_18 (Nat.le_of_ble_eq_true rfl) rfl dL_isWon_77 ?_
            refine V_pc (pc' := 80) rfl ?_
            refine V_iload_n dL_isWon_80 rfl 5 rfl ?_
            refine V_icmp_ne (tgt := 108) dL_isWon_81 (by decide) (fun c2049 => ?_) (fun c2049 => ?_)
            · replace h := (oi h).2 c2049
              refine V_iconst (v := 0) dL_isWon_108 (by decide) ?_
              obtain rfl := Option.some.inj h
              exact V_zret (ty := .boolean) rfl rfl hq dL_isWon_109
            · replace h := (oi h).1 c2049
              refine V_aload_n dL_isWon_84 rfl 4 rfl ?_
              refine V_iconst (v := 0) dL_isWon_85 (by decide) ?_
              replace h := ox h
              obtain ⟨c2038, h⟩ := h
              replace h := xns h
              obtain ⟨w2037, Mw2037, e_r2037, h⟩ := h
              refine V_callVx_I (As := [.int ((0 : Int32))]) (rest := []) (c_X3_many e_r2037) zc_X3_many rfl (by decide) rfl (by decide) (Or.inl c2038) zm_L_18 (Nat.le_of_ble_eq_true rfl) rfl dL_isWon_86 ?_
              refine V_pc (pc' := 89) rfl ?_
              refine V_iconst (v := 3) dL_isWon_89 (by decide) ?_
              refine V_icmp_ne (tgt := 108) dL_isWon_90 (by decide) (fun c2048 => ?_) (fun c2048 => ?_)
              · replace h := (oi h).2 c2048
                refine V_iconst (v := 0) dL_isWon_108 (by decide) ?_
                obtain rfl := Option.some.inj h
                exact V_zret (ty := .boolean) rfl rfl hq dL_isWon_109
              · replace h := (oi h).1 c2048
                refine V_aload_n dL_isWon_93 rfl 4 rfl ?_
                refine V_iload_n dL_isWon_94 rfl 5 rfl ?_
                refine V_bipush (v := 6) dL_isWon_95 (by decide) ?_
                replace h := ox h
                obtain ⟨c2045, h⟩ := h
                replace h := xns h
                obtain ⟨w2044, Mw2044, e_r2044, h⟩ := h
                refine V_callVx_I (As := [.int (i1), .int ((6 : Int32))]) (rest := []) (c_X3_ofPlayer e_r2044) zc_X3_ofPlayer rfl (by decide) rfl (by decide) (Or.inl c2045) zm_L_29 (Nat.le_of_ble_eq_true rfl) rfl dL_isWon_97 ?_
                refine V_pc (pc' := 100) rfl ?_
                refine V_iconst (v := -1) dL_isWon_100 (by decide) ?_
                refine V_icmp_ne (tgt := 108) dL_isWon_101 (by decide) (fun c2047 => ?_) (fun c2047 => ?_)
                · replace h := (oi h).2 c2047
                  refine V_iconst (v := 0) dL_isWon_108 (by decide) ?_
                  obtain rfl := Option.some.inj h
                  exact V_zret (ty := .boolean) rfl rfl hq dL_isWon_109
                · replace h := (oi h).1 c2047
                  refine V_iconst (v := 1) dL_isWon_104 (by decide) ?_
                  refine V_goto (tgt := 109) dL_isWon_105 (by decide) ?_
                  obtain rfl := Option.some.inj h
                  exact V_zret (ty := .boolean) rfl rfl hq dL_isWon_109
def f_L_isWon (a0 : Nat) (i1 : Int32) (M : zM) : Option (Int32 × zM) := f_L_isWon_0 a0 i1 M
theorem c_L_isWon {L : zL} {l : Launch} {a0 : Nat} {i1 : Int32} {M : zM} {r : Int32 × zM} (h : f_L_isWon a0 i1 M = some r) : CH L l yL_isWon cL_isWon 6 (some FieldType.boolean) [(23, 109, 110, 86)] 70 M [.ref (zad L (a0)), .int (i1)] (some (.int r.1)) r.2 :=
  CH.of ⟨by decide +kernel, zht_L_isWon⟩ (Nat.le_of_ble_eq_true rfl) fun X Q hq => s_L_isWon_0 hq h
/-! WindsparlourLaw.isOffered(LWindsparlour;II)Z -/
theorem dL_isOffered_0 : decode cL_isOffered 0 = .ok (.aload_n 0, 1) := by decide +kernel
theorem dL_isOffered_1 : decode cL_isOffered 1 = .ok (.iconst 4, 1) := by decide +kernel
theorem dL_isOffered_2 : decode cL_isOffered 2 = .ok (.invokevirtual 18, 3) := by decide +kernel
theorem dL_isOffered_5 : decode cL_isOffered 5 = .ok (.istore_n 3, 1) := by decide +kernel
theorem dL_isOffered_6 : decode cL_isOffered 6 = .ok (.aload_n 0, 1) := by decide +kernel
theorem dL_isOffered_7 : decode cL_isOffered 7 = .ok (.iconst 1, 1) := by decide +kernel
theorem dL_isOffered_8 : decode cL_isOffered 8 = .ok (.invokevirtual 18, 3) := by decide +kernel
theorem dL_isOffered_11 : decode cL_isOffered 11 = .ok (.istore 4, 2) := by decide +kernel
theorem dL_isOffered_13 : decode cL_isOffered 13 = .ok (.iconst 0, 1) := by decide +kernel
theorem dL_isOffered_14 : decode cL_isOffered 14 = .ok (.istore 5, 2) := by decide +kernel
theorem dL_isOffered_16 : decode cL_isOffered 16 = .ok (.iload 5, 2) := by decide +kernel
theorem dL_isOffered_18 : decode cL_isOffered 18 = .ok (.iconst 4, 1) := by decide +kernel
theorem dL_isOffered_19 : decode cL_isOffered 19 = .ok (.if_icmp .ge 37, 3) := by decide +kernel
theorem dL_isOffered_22 : decode cL_isOffered 22 = .ok (.iload 5, 2) := by decide +kernel
theorem dL_isOffered_24 : decode cL_isOffered 24 = .ok (.iload 4, 2) := by decide +kernel
theorem dL_isOffered_26 : decode cL_isOffered 26 = .ok (.if_icmp .eq 24, 3) := by decide +kernel
theorem dL_isOffered_29 : decode cL_isOffered 29 = .ok (.aload_n 0, 1) := by decide +kernel
theorem dL_isOffered_30 : decode cL_isOffered 30 = .ok (.iload 5, 2) := by decide +kernel
theorem dL_isOffered_32 : decode cL_isOffered 32 = .ok (.iload_n 3, 1) := by decide +kernel
theorem dL_isOffered_33 : decode cL_isOffered 33 = .ok (.invokevirtual 96, 3) := by decide +kernel
theorem dL_isOffered_36 : decode cL_isOffered 36 = .ok (.ifCond .le 14, 3) := by decide +kernel
theorem dL_isOffered_39 : decode cL_isOffered 39 = .ok (.aload_n 0, 1) := by decide +kernel
theorem dL_isOffered_40 : decode cL_isOffered 40 = .ok (.iload 5, 2) := by decide +kernel
theorem dL_isOffered_42 : decode cL_isOffered 42 = .ok (.invokestatic 64, 3) := by decide +kernel
theorem dL_isOffered_45 : decode cL_isOffered 45 = .ok (.ifCond .eq 5, 3) := by decide +kernel
theorem dL_isOffered_48 : decode cL_isOffered 48 = .ok (.iconst 1, 1) := by decide +kernel
theorem dL_isOffered_49 : decode cL_isOffered 49 = .ok (.ireturn, 1) := by decide +kernel
theorem dL_isOffered_50 : decode cL_isOffered 50 = .ok (.iinc 5 1, 3) := by decide +kernel
theorem dL_isOffered_53 : decode cL_isOffered 53 = .ok (.goto (-37), 3) := by decide +kernel
theorem dL_isOffered_56 : decode cL_isOffered 56 = .ok (.iload_n 2, 1) := by decide +kernel
theorem dL_isOffered_57 : decode cL_isOffered 57 = .ok (.iconst 4, 1) := by decide +kernel
theorem dL_isOffered_58 : decode cL_isOffered 58 = .ok (.invokestatic 22, 3) := by decide +kernel
theorem dL_isOffered_61 : decode cL_isOffered 61 = .ok (.istore 5, 2) := by decide +kernel
theorem dL_isOffered_63 : decode cL_isOffered 63 = .ok (.aload_n 0, 1) := by decide +kernel
theorem dL_isOffered_64 : decode cL_isOffered 64 = .ok (.iload 5, 2) := by decide +kernel
theorem dL_isOffered_66 : decode cL_isOffered 66 = .ok (.iconst 1, 1) := by decide +kernel
theorem dL_isOffered_67 : decode cL_isOffered 67 = .ok (.invokevirtual 29, 3) := by decide +kernel
theorem dL_isOffered_70 : decode cL_isOffered 70 = .ok (.istore 6, 2) := by decide +kernel
theorem dL_isOffered_72 : decode cL_isOffered 72 = .ok (.iload_n 1, 1) := by decide +kernel
theorem dL_isOffered_73 : decode cL_isOffered 73 = .ok (.iconst 3, 1) := by decide +kernel
theorem dL_isOffered_74 : decode cL_isOffered 74 = .ok (.invokestatic 22, 3) := by decide +kernel
theorem dL_isOffered_77 : decode cL_isOffered 77 = .ok (.istore 7, 2) := by decide +kernel
theorem dL_isOffered_79 : decode cL_isOffered 79 = .ok (.aload_n 0, 1) := by decide +kernel
theorem dL_isOffered_80 : decode cL_isOffered 80 = .ok (.iload 5, 2) := by decide +kernel
theorem dL_isOffered_82 : decode cL_isOffered 82 = .ok (.iload 7, 2) := by decide +kernel
theorem dL_isOffered_84 : decode cL_isOffered 84 = .ok (.iload_n 3, 1) := by decide +kernel
theorem dL_isOffered_85 : decode cL_isOffered 85 = .ok (.iload_n 1, 1) := by decide +kernel
theorem dL_isOffered_86 : decode cL_isOffered 86 = .ok (.iconst 3, 1) := by decide +kernel
theorem dL_isOffered_87 : decode cL_isOffered 87 = .ok (.idiv, 1) := by decide +kernel
theorem dL_isOffered_88 : decode cL_isOffered 88 = .ok (.iconst 3, 1) := by decide +kernel
theorem dL_isOffered_89 : decode cL_isOffered 89 = .ok (.invokestatic 22, 3) := by decide +kernel
theorem dL_isOffered_92 : decode cL_isOffered 92 = .ok (.isub, 1) := by decide +kernel
theorem dL_isOffered_93 : decode cL_isOffered 93 = .ok (.invokevirtual 99, 3) := by decide +kernel
theorem dL_isOffered_96 : decode cL_isOffered 96 = .ok (.istore 8, 2) := by decide +kernel
theorem dL_isOffered_98 : decode cL_isOffered 98 = .ok (.iload 8, 2) := by decide +kernel
theorem dL_isOffered_100 : decode cL_isOffered 100 = .ok (.iload 6, 2) := by decide +kernel
theorem dL_isOffered_102 : decode cL_isOffered 102 = .ok (.iconst 1, 1) := by decide +kernel
theorem dL_isOffered_103 : decode cL_isOffered 103 = .ok (.iadd, 1) := by decide +kernel
theorem dL_isOffered_104 : decode cL_isOffered 104 = .ok (.if_icmp .ne 76, 3) := by decide +kernel
theorem dL_isOffered_107 : decode cL_isOffered 107 = .ok (.iload 5, 2) := by decide +kernel
theorem dL_isOffered_109 : decode cL_isOffered 109 = .ok (.iload 4, 2) := by decide +kernel
theorem dL_isOffered_111 : decode cL_isOffered 111 = .ok (.if_icmp .eq 69, 3) := by decide +kernel
theorem dL_isOffered_114 : decode cL_isOffered 114 = .ok (.aload_n 0, 1) := by decide +kernel
theorem dL_isOffered_115 : decode cL_isOffered 115 = .ok (.iconst 0, 1) := by decide +kernel
theorem dL_isOffered_116 : decode cL_isOffered 116 = .ok (.invokevirtual 18, 3) := by decide +kernel
theorem dL_isOffered_119 : decode cL_isOffered 119 = .ok (.iconst 1, 1) := by decide +kernel
theorem dL_isOffered_120 : decode cL_isOffered 120 = .ok (.if_icmp .ne 60, 3) := by decide +kernel
theorem dL_isOffered_123 : decode cL_isOffered 123 = .ok (.aload_n 0, 1) := by decide +kernel
theorem dL_isOffered_124 : decode cL_isOffered 124 = .ok (.iconst 1, 1) := by decide +kernel
theorem dL_isOffered_125 : decode cL_isOffered 125 = .ok (.invokevirtual 18, 3) := by decide +kernel
theorem dL_isOffered_128 : decode cL_isOffered 128 = .ok (.iload 5, 2) := by decide +kernel
theorem dL_isOffered_130 : decode cL_isOffered 130 = .ok (.if_icmp .ne 50, 3) := by decide +kernel
theorem dL_isOffered_133 : decode cL_isOffered 133 = .ok (.aload_n 0, 1) := by decide +kernel
theorem dL_isOffered_134 : decode cL_isOffered 134 = .ok (.iload 5, 2) := by decide +kernel
theorem dL_isOffered_136 : decode cL_isOffered 136 = .ok (.iconst 5, 1) := by decide +kernel
theorem dL_isOffered_137 : decode cL_isOffered 137 = .ok (.invokevirtual 29, 3) := by decide +kernel
theorem dL_isOffered_140 : decode cL_isOffered 140 = .ok (.ifCond .ne 40, 3) := by decide +kernel
theorem dL_isOffered_143 : decode cL_isOffered 143 = .ok (.iload 7, 2) := by decide +kernel
theorem dL_isOffered_145 : decode cL_isOffered 145 = .ok (.iconst 1, 1) := by decide +kernel
theorem dL_isOffered_146 : decode cL_isOffered 146 = .ok (.if_icmp .ne 14, 3) := by decide +kernel
theorem dL_isOffered_149 : decode cL_isOffered 149 = .ok (.iload 5, 2) := by decide +kernel
theorem dL_isOffered_151 : decode cL_isOffered 151 = .ok (.iload 4, 2) := by decide +kernel
theorem dL_isOffered_153 : decode cL_isOffered 153 = .ok (.iconst 1, 1) := by decide +kernel
theorem dL_isOffered_154 : decode cL_isOffered 154 = .ok (.iadd, 1) := by decide +kernel
theorem dL_isOffered_155 : decode cL_isOffered 155 = .ok (.iconst 4, 1) := by decide +kernel
theorem dL_isOffered_156 : decode cL_isOffered 156 = .ok (.irem, 1) := by decide +kernel
theorem dL_isOffered_157 : decode cL_isOffered 157 = .ok (.if_icmp .ne 23, 3) := by decide +kernel
theorem dL_isOffered_160 : decode cL_isOffered 160 = .ok (.aload_n 0, 1) := by decide +kernel
theorem dL_isOffered_161 : decode cL_isOffered 161 = .ok (.iload 5, 2) := by decide +kernel
theorem dL_isOffered_163 : decode cL_isOffered 163 = .ok (.iload 6, 2) := by decide +kernel
theorem dL_isOffered_165 : decode cL_isOffered 165 = .ok (.invokevirtual 70, 3) := by decide +kernel
theorem dL_isOffered_168 : decode cL_isOffered 168 = .ok (.bipush 100, 2) := by decide +kernel
theorem dL_isOffered_170 : decode cL_isOffered 170 = .ok (.idiv, 1) := by decide +kernel
theorem dL_isOffered_171 : decode cL_isOffered 171 = .ok (.iload 7, 2) := by decide +kernel
theorem dL_isOffered_173 : decode cL_isOffered 173 = .ok (.if_icmp .ne 7, 3) := by decide +kernel
theorem dL_isOffered_176 : decode cL_isOffered 176 = .ok (.iconst 1, 1) := by decide +kernel
theorem dL_isOffered_177 : decode cL_isOffered 177 = .ok (.goto 4, 3) := by decide +kernel
theorem dL_isOffered_180 : decode cL_isOffered 180 = .ok (.iconst 0, 1) := by decide +kernel
theorem dL_isOffered_181 : decode cL_isOffered 181 = .ok (.ireturn, 1) := by decide +kernel
theorem dL_isOffered_182 : decode cL_isOffered 182 = .ok (.astore 8, 2) := by decide +kernel
theorem dL_isOffered_184 : decode cL_isOffered 184 = .ok (.aload_n 0, 1) := by decide +kernel
theorem dL_isOffered_185 : decode cL_isOffered 185 = .ok (.invokevirtual 103, 3) := by decide +kernel
theorem dL_isOffered_188 : decode cL_isOffered 188 = .ok (.iload 4, 2) := by decide +kernel
theorem dL_isOffered_190 : decode cL_isOffered 190 = .ok (.iconst 1, 1) := by decide +kernel
theorem dL_isOffered_191 : decode cL_isOffered 191 = .ok (.iadd, 1) := by decide +kernel
theorem dL_isOffered_192 : decode cL_isOffered 192 = .ok (.iconst 4, 1) := by decide +kernel
theorem dL_isOffered_193 : decode cL_isOffered 193 = .ok (.irem, 1) := by decide +kernel
theorem dL_isOffered_194 : decode cL_isOffered 194 = .ok (.if_icmp .ne 7, 3) := by decide +kernel
theorem dL_isOffered_197 : decode cL_isOffered 197 = .ok (.iconst 1, 1) := by decide +kernel
theorem dL_isOffered_198 : decode cL_isOffered 198 = .ok (.goto 4, 3) := by decide +kernel
theorem dL_isOffered_201 : decode cL_isOffered 201 = .ok (.iconst 0, 1) := by decide +kernel
theorem dL_isOffered_202 : decode cL_isOffered 202 = .ok (.ireturn, 1) := by decide +kernel
theorem zht_L_isOffered : zht yL_isOffered = [(79, 181, 182, 86)] := by decide +kernel
def f_L_isOffered_160 (a0 : Nat) (i5 : Int32) (i6 : Int32) (i7 : Int32) (M : zM) : Option (Int32 × zM) :=
  if mK M a0 = 9 then
  xn (f_X3_ofSet a0 i5 i6 M) fun w1 Mw1 =>
  if ((w1 / ((100 : Int32)))) = i7 then
  some ((1 : Int32), Mw1)
  else
  some ((0 : Int32), Mw1)
  else none
set_option maxRecDepth 20000 in
set_option maxHeartbeats 4000000 in
theorem s_L_isOffered_160 {L : zL} {X : zX} {M0 : zM} {N : Nat × Nat} {Q : State → Prop} {r : Int32 × zM} (hq : vQ L X M0 N Q (some (.int r.1)) r.2) {a0 : Nat} {i5 : Int32} {i6 : Int32} {i7 : Int32} {M : zM} (h : f_L_isOffered_160 a0 i5 i6 i7 M = some r) : V L X yL_isOffered cL_isOffered 9 (some FieldType.boolean) 71 M0 N Q M 160 [(0, .ref (zad L (a0))), (5, .int (i5)), (6, .int (i6)), (7, .int (i7))] [] := by
  unfold f_L_isOffered_160 at h
  refine V_aload_n dL_isOffered_160 rfl 0 rfl ?_
  refine V_iload dL_isOffered_161 1 rfl ?_
  refine V_iload dL_isOffered_163 2 rfl ?_
  replace h := ox h
  obtain ⟨c2, h⟩ := h
  replace h := xns h
  obtain ⟨w1, Mw1, e_r1, h⟩ := h
  refine V_callVx_I (As := [.int (i5), .int (i6)]) (rest := []) (c_X3_ofSet e_r1) zc_X3_ofSet rfl (by decide) rfl (by decide) (Or.inl c2) zm_L_70 (Nat.le_of_ble_eq_true rfl) rfl dL_isOffered_165 ?_
  refine V_pc (pc' := 168) rfl ?_
  refine V_bipush (v := 100) dL_isOffered_168 (by decide) ?_
  refine V_idiv dL_isOffered_170 (by decide) ?_
  refine V_iload dL_isOffered_171 3 rfl ?_
  refine V_icmp_ne (tgt := 180) dL_isOffered_173 (by decide) (fun c4 => ?_) (fun c4 => ?_)
  · replace h := (oi h).2 c4
    refine V_iconst (v := 0) dL_isOffered_180 (by decide) ?_
    obtain rfl := Option.some.inj h
    exact V_zret (ty := .boolean) rfl rfl hq dL_isOffered_181
  · replace h := (oi h).1 c4
    refine V_iconst (v := 1) dL_isOffered_176 (by decide) ?_
    refine V_goto (tgt := 181) dL_isOffered_177 (by decide) ?_
    obtain rfl := Option.some.inj h
    exact V_zret (ty := .boolean) rfl rfl hq dL_isOffered_181
def f_L_isOffered_16 (n : Nat) (a0 : Nat) (i1 : Int32) (i2 : Int32) (i3 : Int32) (i4 : Int32) (i5 : Int32) (M : zM) : Option (Int32 × zM) := match n with
  | 0 => none
  | n + 1 =>
    if ((4 : Int32)) ≤ i5 then
    (f_L_below i2 ((4 : Int32)) M).bind fun r1 =>
    if mK r1.2 a0 = 9 then
    xn (f_X3_ofPlayer a0 r1.1 ((1 : Int32)) r1.2) fun w2 Mw2 =>
    (f_L_below i1 ((3 : Int32)) Mw2).bind fun r105 =>
    (f_L_below ((i1 / ((3 : Int32)))) ((3 : Int32)) r105.2).bind fun r106 =>
    if mK r106.2 a0 = 9 then
    xc (f_X3_claim a0 r1.1 r105.1 ((i3 - r106.1)) r106.2) (fun E_r107 M_r107 =>
    if E_r107 = "java/lang/IllegalStateException" then
    if mK M_r107 a0 = 9 then
    xn (f_X3_pass a0 M_r107) fun w201 Mw201 =>
    if w201 = ((zmd ((i4 + ((1 : Int32)))) ((4 : Int32)))) then
    some ((1 : Int32), Mw201)
    else
    some ((0 : Int32), Mw201)
    else none
    else
    none) fun w107 Mw107 =>
    if w107 = ((w2 + ((1 : Int32)))) then
    if r1.1 = i4 then
    some ((0 : Int32), Mw107)
    else
    if mK Mw107 a0 = 9 then
    xn (f_X3_many a0 ((0 : Int32)) Mw107) fun w155 Mw155 =>
    if w155 = ((1 : Int32)) then
    if mK Mw155 a0 = 9 then
    xn (f_X3_many a0 ((1 : Int32)) Mw155) fun w178 Mw178 =>
    if w178 = r1.1 then
    if mK Mw178 a0 = 9 then
    xn (f_X3_ofPlayer a0 r1.1 ((5 : Int32)) Mw178) fun w189 Mw189 =>
    if w189 = 0 then
    if r105.1 = ((1 : Int32)) then
    if r1.1 = ((zmd ((i4 + ((1 : Int32)))) ((4 : Int32)))) then
    f_L_isOffered_160 a0 r1.1 w2 r105.1 Mw189
    else
    some ((0 : Int32), Mw189)
    else
    f_L_isOffered_160 a0 r1.1 w2 r105.1 Mw189
    else
    some ((0 : Int32), Mw189)
    else none
    else
    some ((0 : Int32), Mw178)
    else none
    else
    some ((0 : Int32), Mw155)
    else none
    else
    some ((0 : Int32), Mw107)
    else none
    else none
    else
    if i5 = i4 then
    f_L_isOffered_16 n a0 i1 i2 i3 i4 ((i5 + (1 : Int32))) M
    else
    if mK M a0 = 9 then
    xn (f_X3_worth a0 i5 i3 M) fun w206 Mw206 =>
    if w206 ≤ 0 then
    f_L_isOffered_16 n a0 i1 i2 i3 i4 ((i5 + (1 : Int32))) Mw206
    else
    (f_L_isWon a0 i5 Mw206).bind fun r211 =>
    if r211.1 = 0 then
    f_L_isOffered_16 n a0 i1 i2 i3 i4 ((i5 + (1 : Int32))) r211.2
    else
    some ((1 : Int32), r211.2)
    else none
set_option maxRecDepth 20000 in
set_option maxHeartbeats 4000000 in
theorem s_L_isOffered_16 {L : zL} {X : zX} {M0 : zM} {N : Nat × Nat} {Q : State → Prop} {r : Int32 × zM} (hq : vQ L X M0 N Q (some (.int r.1)) r.2) {n : Nat} {a0 : Nat} {i1 : Int32} {i2 : Int32} {i3 : Int32} {i4 : Int32} {i5 : Int32} {M : zM} : f_L_isOffered_16 n a0 i1 i2 i3 i4 i5 M = some r → V L X yL_isOffered cL_isOffered 9 (some FieldType.boolean) 71 M0 N Q M 16 [(0, .ref (zad L (a0))), (1, .int (i1)), (2, .int (i2)), (3, .int (i3)), (4, .int (i4)), (5, .int (i5))] [] := by
  induction n generalizing a0 i1 i2 i3 i4 i5 M with
  | zero =>
    intro h
    rw [f_L_isOffered_16] at h
    cases h
  | succ n ih0 =>
    intro h
    have ih : ∀ (a0 : Nat) (i1 : Int32) (i2 : Int32) (i3 : Int32) (i4 : Int32) (i5 : Int32) (M : zM), f_L_isOffered_16 n a0 i1 i2 i3 i4 i5 M = some r → V L X yL_isOffered cL_isOffered 9 (some FieldType.boolean) 71 M0 N Q M 16 [(0, .ref (zad L (a0))), (1, .int (i1)), (2, .int (i2)), (3, .int (i3)), (4, .int (i4)), (5, .int (i5))] [] := fun a0 i1 i2 i3 i4 i5 M h => ih0 h
    rw [f_L_isOffered_16] at h
    refine V_iload dL_isOffered_16 5 rfl ?_
    refine V_iconst (v := 4) dL_isOffered_18 (by decide) ?_
    refine V_icmp_ge (tgt := 56) dL_isOffered_19 (by decide) (fun c215 => ?_) (fun c215 => ?_)
    · replace h := (oi h).1 c215
      refine V_iload_n dL_isOffered_56 rfl 2 rfl ?_
      refine V_iconst (v := 4) dL_isOffered_57 (by decide) ?_
      replace h := ob h
      obtain ⟨r1, e_r1, h⟩ := h
      refine V_callS_I (As := [.int (i2), .int ((4 : Int32))]) (rest := []) (c_L_below e_r1) zc_L_below rfl (by decide) zm_L_22 (Nat.le_of_ble_eq_true rfl) rfl dL_isOffered_58 ?_
      refine V_pc (pc' := 61) rfl ?_
      refine V_istore (ls' := [(5, .int (r1.1)), (0, .ref (zad L (a0))), (1, .int (i1)), (2, .int (i2)), (3, .int (i3)), (4, .int (i4))]) dL_isOffered_61 (by decide) rfl ?_
      refine V_aload_n dL_isOffered_63 rfl 1 rfl ?_
      refine V_iload dL_isOffered_64 0 rfl ?_
      refine V_iconst (v := 1) dL_isOffered_66 (by decide) ?_
      replace h := ox h
      obtain ⟨c3, h⟩ := h
      replace h := xns h
      obtain ⟨w2, Mw2, e_r2, h⟩ := h
      refine V_callVx_I (As := [.int (r1.1), .int ((1 : Int32))]) (rest := []) (c_X3_ofPlayer e_r2) zc_X3_ofPlayer rfl (by decide) rfl (by decide) (Or.inl c3) zm_L_29 (Nat.le_of_ble_eq_true rfl) rfl dL_isOffered_67 ?_
      refine V_pc (pc' := 70) rfl ?_
      refine V_istore (ls' := [(6, .int (w2)), (5, .int (r1.1)), (0, .ref (zad L (a0))), (1, .int (i1)), (2, .int (i2)), (3, .int (i3)), (4, .int (i4))]) dL_isOffered_70 (by decide) rfl ?_
      refine V_iload_n dL_isOffered_72 rfl 3 rfl ?_
      refine V_iconst (v := 3) dL_isOffered_73 (by decide) ?_
      replace h := ob h
      obtain ⟨r105, e_r105, h⟩ := h
      refine V_callS_I (As := [.int (i1), .int ((3 : Int32))]) (rest := []) (c_L_below e_r105) zc_L_below rfl (by decide) zm_L_22 (Nat.le_of_ble_eq_true rfl) rfl dL_isOffered_74 ?_
      refine V_pc (pc' := 77) rfl ?_
      refine V_istore (ls' := [(7, .int (r105.1)), (6, .int (w2)), (5, .int (r1.1)), (0, .ref (zad L (a0))), (1, .int (i1)), (2, .int (i2)), (3, .int (i3)), (4, .int (i4))]) dL_isOffered_77 (by decide) rfl ?_
      refine V_aload_n dL_isOffered_79 rfl 3 rfl ?_
      refine V_iload dL_isOffered_80 2 rfl ?_
      refine V_iload dL_isOffered_82 0 rfl ?_
      refine V_iload_n dL_isOffered_84 rfl 6 rfl ?_
      refine V_iload_n dL_isOffered_85 rfl 4 rfl ?_
      refine V_iconst (v := 3) dL_isOffered_86 (by decide) ?_
      refine V_idiv dL_isOffered_87 (by decide) ?_
      refine V_iconst (v := 3) dL_isOffered_88 (by decide) ?_
      replace h := ob h
      obtain ⟨r106, e_r106, h⟩ := h
      refine V_callS_I (As := [.int ((i1 / ((3 : Int32)))), .int ((3 : Int32))]) (rest := [.int (i3), .int (r105.1), .int (r1.1), .ref (zad L (a0))]) (c_L_below e_r106) zc_L_below rfl (by decide) zm_L_22 (Nat.le_of_ble_eq_true rfl) rfl dL_isOffered_89 ?_
      refine V_pc (pc' := 92) rfl ?_
      refine V_isub dL_isOffered_92 ?_
      replace h := ox h
      obtain ⟨c108, h⟩ := h
      replace h := xcs h
      rcases h with ⟨E_r107, M_r107, e_r107, h⟩ | ⟨w107, Mw107, e_r107, h⟩
      · by_cases c205 : E_r107 = "java/lang/IllegalStateException"
        · replace h := (oi h).1 c205
          subst c205
          refine V_callVd (As := [.int (r1.1), .int (r105.1), .int ((i3 - r106.1))]) (rest := []) (pre := []) (suf := []) (x := ⟨79, 181, 182, 86⟩) (c_X3_claim e_r107) (by rw [zht_L_isOffered]; rfl) (by decide) ⟨by decide, by decide, zk_L_86, zcs_IllegalStateException⟩ zc_X3_claim rfl (by decide) rfl (by decide) (Or.inl c108) zm_L_99 (Nat.le_of_ble_eq_true rfl) rfl dL_isOffered_93 (fun q_r107 => ?_)
          refine V_astore (ls' := [(8, .ref (q_r107)), (7, .int (r105.1)), (6, .int (w2)), (5, .int (r1.1)), (0, .ref (zad L (a0))), (1, .int (i1)), (2, .int (i2)), (3, .int (i3)), (4, .int (i4))]) dL_isOffered_182 (by decide) rfl ?_
          refine V_aload_n dL_isOffered_184 rfl 4 rfl ?_
          replace h := ox h
          obtain ⟨c202, h⟩ := h
          replace h := xns h
          obtain ⟨w201, Mw201, e_r201, h⟩ := h
          refine V_callVx_I (As := []) (rest := []) (c_X3_pass e_r201) zc_X3_pass rfl (by decide) rfl (by decide) (Or.inl c202) zm_L_103 (Nat.le_of_ble_eq_true rfl) rfl dL_isOffered_185 ?_
          refine V_pc (pc' := 188) rfl ?_
          refine V_iload dL_isOffered_188 8 rfl ?_
          refine V_iconst (v := 1) dL_isOffered_190 (by decide) ?_
          refine V_iadd dL_isOffered_191 ?_
          refine V_iconst (v := 4) dL_isOffered_192 (by decide) ?_
          refine V_irem dL_isOffered_193 (by decide) ?_
          refine V_icmp_ne (tgt := 201) dL_isOffered_194 (by decide) (fun c204 => ?_) (fun c204 => ?_)
          · replace h := (oi h).2 c204
            refine V_iconst (v := 0) dL_isOffered_201 (by decide) ?_
            obtain rfl := Option.some.inj h
            exact V_zret (ty := .boolean) rfl rfl hq dL_isOffered_202
          · replace h := (oi h).1 c204
            refine V_iconst (v := 1) dL_isOffered_197 (by decide) ?_
            refine V_goto (tgt := 202) dL_isOffered_198 (by decide) ?_
            obtain rfl := Option.some.inj h
            exact V_zret (ty := .boolean) rfl rfl hq dL_isOffered_202
        · replace h := (oi h).2 c205
          cases h
      · refine V_callVx_I (As := [.int (r1.1), .int (r105.1), .int ((i3 - r106.1))]) (rest := []) (c_X3_claim e_r107) zc_X3_claim rfl (by decide) rfl (by decide) (Or.inl c108) zm_L_99 (Nat.le_of_ble_eq_true rfl) rfl dL_isOffered_93 ?_
        refine V_pc (pc' := 96) rfl ?_
        refine V_istore (ls' := [(8, .int (w107)), (7, .int (r105.1)), (6, .int (w2)), (5, .int (r1.1)), (0, .ref (zad L (a0))), (1, .int (i1)), (2, .int (i2)), (3, .int (i3)), (4, .int (i4))]) dL_isOffered_96 (by decide) rfl ?_
        refine V_iload dL_isOffered_98 0 rfl ?_
        refine V_iload dL_isOffered_100 2 rfl ?_
        refine V_iconst (v := 1) dL_isOffered_102 (by decide) ?_
        refine V_iadd dL_isOffered_103 ?_
        refine V_icmp_ne (tgt := 180) dL_isOffered_104 (by decide) (fun c200 => ?_) (fun c200 => ?_)
        · replace h := (oi h).2 c200
          refine V_iconst (v := 0) dL_isOffered_180 (by decide) ?_
          obtain rfl := Option.some.inj h
          exact V_zret (ty := .boolean) rfl rfl hq dL_isOffered_181
        · replace h := (oi h).1 c200
          refine V_iload dL_isOffered_107 3 rfl ?_
          refine V_iload dL_isOffered_109 8 rfl ?_
          refine V_icmp_eq (tgt := 180) dL_isOffered_111 (by decide) (fun c199 => ?_) (fun c199 => ?_)
          · replace h := (oi h).1 c199
            refine V_iconst (v := 0) dL_isOffered_180 (by decide) ?_
            obtain rfl := Option.some.inj h
            exact V_zret (ty := .boolean) rfl rfl hq dL_isOffered_181
          · replace h := (oi h).2 c199
            refine V_aload_n dL_isOffered_114 rfl 4 rfl ?_
            refine V_iconst (v := 0) dL_isOffered_115 (by decide) ?_
            replace h := ox h
            obtain ⟨c156, h⟩ := h
            replace h := xns h
            obtain ⟨w155, Mw155, e_r155, h⟩ := h
            refine V_callVx_I (As := [.int ((0 : Int32))]) (rest := []) (c_X3_many e_r155) zc_X3_many rfl (by decide) rfl (by decide) (Or.inl c156) zm_L_18 (Nat.le_of_ble_eq_true rfl) rfl dL_isOffered_116 ?_
            refine V_pc (pc' := 119) rfl ?_
            refine V_iconst (v := 1) dL_isOffered_119 (by decide) ?_
            refine V_icmp_ne (tgt := 180) dL_isOffered_120 (by decide) (fun c198 => ?_) (fun c198 => ?_)
            · replace h := (oi h).2 c198
              refine V_iconst (v := 0) dL_isOffered_180 (by decide) ?_
              obtain rfl := Option.some.inj h
              exact V_zret (ty := .boolean) rfl rfl hq dL_isOffered_181
            · replace h := (oi h).1 c198
              refine V_aload_n dL_isOffered_123 rfl 4 rfl ?_
              refine V_iconst (v := 1) dL_isOffered_124 (by decide) ?_
              replace h := ox h
              obtain ⟨c179, h⟩ := h
              replace h := xns h
              obtain ⟨w178, Mw178, e_r178, h⟩ := h
              refine V_callVx_I (As := [.int ((1 : Int32))]) (rest := []) (c_X3_many e_r178) zc_X3_many rfl (by decide) rfl (by decide) (Or.inl c179) zm_L_18 (Nat.le_of_ble_eq_true rfl) rfl dL_isOffered_125 ?_
              refine V_pc (pc' := 128) rfl ?_
              refine V_iload dL_isOffered_128 3 rfl ?_
              refine V_icmp_ne (tgt := 180) dL_isOffered_130 (by decide) (fun c197 => ?_) (fun c197 => ?_)
              · replace h := (oi h).2 c197
                refine V_iconst (v := 0) dL_isOffered_180 (by decide) ?_
                obtain rfl := Option.some.inj h
                exact V_zret (ty := .boolean) rfl rfl hq dL_isOffered_181
              · replace h := (oi h).1 c197
                refine V_aload_n dL_isOffered_133 rfl 4 rfl ?_
                refine V_iload dL_isOffered_134 3 rfl ?_
                refine V_iconst (v := 5) dL_isOffered_136 (by decide) ?_
                replace h := ox h
                obtain ⟨c190, h⟩ := h
                replace h := xns h
                obtain ⟨w189, Mw189, e_r189, h⟩ := h
                refine V_callVx_I (As := [.int (r1.1), .int ((5 : Int32))]) (rest := []) (c_X3_ofPlayer e_r189) zc_X3_ofPlayer rfl (by decide) rfl (by decide) (Or.inl c190) zm_L_29 (Nat.le_of_ble_eq_true rfl) rfl dL_isOffered_137 ?_
                refine V_pc (pc' := 140) rfl ?_
                refine V_if_ne (tgt := 180) dL_isOffered_140 (by decide) (fun c196 => ?_) (fun c196 => ?_)
                · replace h := (oi h).2 c196
                  refine V_iconst (v := 0) dL_isOffered_180 (by decide) ?_
                  obtain rfl := Option.some.inj h
                  exact V_zret (ty := .boolean) rfl rfl hq dL_isOffered_181
                · replace h := (oi h).1 c196
                  refine V_iload dL_isOffered_143 1 rfl ?_
                  refine V_iconst (v := 1) dL_isOffered_145 (by decide) ?_
                  refine V_icmp_ne (tgt := 160) dL_isOffered_146 (by decide) (fun c195 => ?_) (fun c195 => ?_)
                  · replace h := (oi h).2 c195
                    refine V_sub [4, 3, 2, 1] rfl ?_
                    exact s_L_isOffered_160 hq h
                  · replace h := (oi h).1 c195
                    refine V_iload dL_isOffered_149 3 rfl ?_
                    refine V_iload dL_isOffered_151 8 rfl ?_
                    refine V_iconst (v := 1) dL_isOffered_153 (by decide) ?_
                    refine V_iadd dL_isOffered_154 ?_
                    refine V_iconst (v := 4) dL_isOffered_155 (by decide) ?_
                    refine V_irem dL_isOffered_156 (by decide) ?_
                    refine V_icmp_ne (tgt := 180) dL_isOffered_157 (by decide) (fun c194 => ?_) (fun c194 => ?_)
                    · replace h := (oi h).2 c194
                      refine V_iconst (v := 0) dL_isOffered_180 (by decide) ?_
                      obtain rfl := Option.some.inj h
                      exact V_zret (ty := .boolean) rfl rfl hq dL_isOffered_181
                    · replace h := (oi h).1 c194
                      refine V_sub [4, 3, 2, 1] rfl ?_
                      exact s_L_isOffered_160 hq h
    · replace h := (oi h).2 c215
      refine V_iload dL_isOffered_22 5 rfl ?_
      refine V_iload dL_isOffered_24 4 rfl ?_
      refine V_icmp_eq (tgt := 50) dL_isOffered_26 (by decide) (fun c214 => ?_) (fun c214 => ?_)
      · replace h := (oi h).1 c214
        refine V_iinc (v := i5 + (1 : Int32)) (ls' := [(5, .int ((i5 + (1 : Int32)))), (0, .ref (zad L (a0))), (1, .int (i1)), (2, .int (i2)), (3, .int (i3)), (4, .int (i4))]) dL_isOffered_50 5 rfl (by rfl) (by decide) rfl ?_
        refine V_goto (tgt := 16) dL_isOffered_53 (by decide) ?_
        refine V_sub [1, 2, 3, 4, 5, 0] rfl ?_
        exact ih _ _ _ _ _ _ _ h
      · replace h := (oi h).2 c214
        refine V_aload_n dL_isOffered_29 rfl 0 rfl ?_
        refine V_iload dL_isOffered_30 5 rfl ?_
        refine V_iload_n dL_isOffered_32 rfl 3 rfl ?_
        replace h := ox h
        obtain ⟨c207, h⟩ := h
        replace h := xns h
        obtain ⟨w206, Mw206, e_r206, h⟩ := h
        refine V_callVx_I (As := [.int (i5), .int (i3)]) (rest := []) (c_X3_worth e_r206) zc_X3_worth rfl (by decide) rfl (by decide) (Or.inl c207) zm_L_96 (Nat.le_of_ble_eq_true rfl) rfl dL_isOffered_33 ?_
        refine V_pc (pc' := 36) rfl ?_
        refine V_if_le (tgt := 50) dL_isOffered_36 (by decide) (fun c213 => ?_) (fun c213 => ?_)
        · replace h := (oi h).1 c213
          refine V_iinc (v := i5 + (1 : Int32)) (ls' := [(5, .int ((i5 + (1 : Int32)))), (0, .ref (zad L (a0))), (1, .int (i1)), (2, .int (i2)), (3, .int (i3)), (4, .int (i4))]) dL_isOffered_50 5 rfl (by rfl) (by decide) rfl ?_
          refine V_goto (tgt := 16) dL_isOffered_53 (by decide) ?_
          refine V_sub [1, 2, 3, 4, 5, 0] rfl ?_
          exact ih _ _ _ _ _ _ _ h
        · replace h := (oi h).2 c213
          refine V_aload_n dL_isOffered_39 rfl 0 rfl ?_
          refine V_iload dL_isOffered_40 5 rfl ?_
          replace h := ob h
          obtain ⟨r211, e_r211, h⟩ := h
          refine V_callSW_I (As := [.ref (zad L (a0)), .int (i5)]) (rest := []) (c_L_isWon e_r211) zc_L_isWon rfl (by decide) zm_L_64 (Nat.le_of_ble_eq_true rfl) rfl dL_isOffered_42 ?_
          refine V_pc (pc' := 45) rfl ?_
          refine V_if_eq (tgt := 50) dL_isOffered_45 (by decide) (fun c212 => ?_) (fun c212 => ?_)
          · replace h := (oi h).1 c212
            refine V_iinc (v := i5 + (1 : Int32)) (ls' := [(5, .int ((i5 + (1 : Int32)))), (0, .ref (zad L (a0))), (1, .int (i1)), (2, .int (i2)), (3, .int (i3)), (4, .int (i4))]) dL_isOffered_50 5 rfl (by rfl) (by decide) rfl ?_
            refine V_goto (tgt := 16) dL_isOffered_53 (by decide) ?_
            refine V_sub [1, 2, 3, 4, 5, 0] rfl ?_
            exact ih _ _ _ _ _ _ _ h
          · replace h := (oi h).2 c212
            refine V_iconst (v := 1) dL_isOffered_48 (by decide) ?_
            obtain rfl := Option.some.inj h
            exact V_zret (ty := .boolean) rfl rfl hq dL_isOffered_49
def f_L_isOffered_0 (a0 : Nat) (i1 : Int32) (i2 : Int32) (M : zM) : Option (Int32 × zM) :=
  if mK M a0 = 9 then
  xn (f_X3_many a0 ((4 : Int32)) M) fun w1 Mw1 =>
  if mK Mw1 a0 = 9 then
  xn (f_X3_many a0 ((1 : Int32)) Mw1) fun w5 Mw5 =>
  f_L_isOffered_16 zN a0 i1 i2 w1 w5 ((0 : Int32)) Mw5
  else none
  else none
set_option maxRecDepth 20000 in
set_option maxHeartbeats 4000000 in
theorem s_L_isOffered_0 {L : zL} {X : zX} {M0 : zM} {N : Nat × Nat} {Q : State → Prop} {r : Int32 × zM} (hq : vQ L X M0 N Q (some (.int r.1)) r.2) {a0 : Nat} {i1 : Int32} {i2 : Int32} {M : zM} (h : f_L_isOffered_0 a0 i1 i2 M = some r) : V L X yL_isOffered cL_isOffered 9 (some FieldType.boolean) 71 M0 N Q M 0 [(0, .ref (zad L (a0))), (1, .int (i1)), (2, .int (i2))] [] := by
  unfold f_L_isOffered_0 at h
  refine V_aload_n dL_isOffered_0 rfl 0 rfl ?_
  refine V_iconst (v := 4) dL_isOffered_1 (by decide) ?_
  replace h := ox h
  obtain ⟨c2, h⟩ := h
  replace h := xns h
  obtain ⟨w1, Mw1, e_r1, h⟩ := h
  refine V_callVx_I (As := [.int ((4 : Int32))]) (rest := []) (c_X3_many e_r1) zc_X3_many rfl (by decide) rfl (by decide) (Or.inl c2) zm_L_18 (Nat.le_of_ble_eq_true rfl) rfl dL_isOffered_2 ?_
  refine V_pc (pc' := 5) rfl ?_
  refine V_istore_n (ls' := [(3, .int (w1)), (0, .ref (zad L (a0))), (1, .int (i1)), (2, .int (i2))]) dL_isOffered_5 rfl (by decide) rfl ?_
  refine V_aload_n dL_isOffered_6 rfl 1 rfl ?_
  refine V_iconst (v := 1) dL_isOffered_7 (by decide) ?_
  replace h := ox h
  obtain ⟨c6, h⟩ := h
  replace h := xns h
  obtain ⟨w5, Mw5, e_r5, h⟩ := h
  refine V_callVx_I (As := [.int ((1 : Int32))]) (rest := []) (c_X3_many e_r5) zc_X3_many rfl (by decide) rfl (by decide) (Or.inl c6) zm_L_18 (Nat.le_of_ble_eq_true rfl) rfl dL_isOffered_8 ?_
  refine V_pc (pc' := 11) rfl ?_
  refine V_istore (ls' := [(4, .int (w5)), (3, .int (w1)), (0, .ref (zad L (a0))), (1, .int (i1)), (2, .int (i2))]) dL_isOffered_11 (by decide) rfl ?_
  refine V_iconst (v := 0) dL_isOffered_13 (by decide) ?_
  refine V_istore (ls' := [(5, .int ((0 : Int32))), (4, .int (w5)), (3, .int (w1)), (0, .ref (zad L (a0))), (1, .int (i1)), (2, .int (i2))]) dL_isOffered_14 (by decide) rfl ?_
  refine V_sub [3, 4, 5, 2, 1, 0] rfl ?_
  exact s_L_isOffered_16 hq h
def f_L_isOffered (a0 : Nat) (i1 : Int32) (i2 : Int32) (M : zM) : Option (Int32 × zM) := f_L_isOffered_0 a0 i1 i2 M
theorem c_L_isOffered {L : zL} {l : Launch} {a0 : Nat} {i1 : Int32} {i2 : Int32} {M : zM} {r : Int32 × zM} (h : f_L_isOffered a0 i1 i2 M = some r) : CH L l yL_isOffered cL_isOffered 9 (some FieldType.boolean) [(79, 181, 182, 86)] 71 M [.ref (zad L (a0)), .int (i1), .int (i2)] (some (.int r.1)) r.2 :=
  CH.of ⟨by decide +kernel, zht_L_isOffered⟩ (Nat.le_of_ble_eq_true rfl) fun X Q hq => s_L_isOffered_0 hq h
/-! WindsparlourLaw.isReady(LWindsparlour;I)Z -/
theorem dL_isReady_0 : decode cL_isReady 0 = .ok (.aload_n 0, 1) := by decide +kernel
theorem dL_isReady_1 : decode cL_isReady 1 = .ok (.iload_n 1, 1) := by decide +kernel
theorem dL_isReady_2 : decode cL_isReady 2 = .ok (.invokevirtual 76, 3) := by decide +kernel
theorem dL_isReady_5 : decode cL_isReady 5 = .ok (.lstore_n 2, 1) := by decide +kernel
theorem dL_isReady_6 : decode cL_isReady 6 = .ok (.iconst 0, 1) := by decide +kernel
theorem dL_isReady_7 : decode cL_isReady 7 = .ok (.istore 4, 2) := by decide +kernel
theorem dL_isReady_9 : decode cL_isReady 9 = .ok (.iload 4, 2) := by decide +kernel
theorem dL_isReady_11 : decode cL_isReady 11 = .ok (.bipush 25, 2) := by decide +kernel
theorem dL_isReady_13 : decode cL_isReady 13 = .ok (.if_icmp .ge 45, 3) := by decide +kernel
theorem dL_isReady_16 : decode cL_isReady 16 = .ok (.aload_n 0, 1) := by decide +kernel
theorem dL_isReady_17 : decode cL_isReady 17 = .ok (.iload_n 1, 1) := by decide +kernel
theorem dL_isReady_18 : decode cL_isReady 18 = .ok (.iload 4, 2) := by decide +kernel
theorem dL_isReady_20 : decode cL_isReady 20 = .ok (.invokevirtual 96, 3) := by decide +kernel
theorem dL_isReady_23 : decode cL_isReady 23 = .ok (.ifCond .le 7, 3) := by decide +kernel
theorem dL_isReady_26 : decode cL_isReady 26 = .ok (.iconst 1, 1) := by decide +kernel
theorem dL_isReady_27 : decode cL_isReady 27 = .ok (.goto 4, 3) := by decide +kernel
theorem dL_isReady_30 : decode cL_isReady 30 = .ok (.iconst 0, 1) := by decide +kernel
theorem dL_isReady_31 : decode cL_isReady 31 = .ok (.lload_n 2, 1) := by decide +kernel
theorem dL_isReady_32 : decode cL_isReady 32 = .ok (.iload 4, 2) := by decide +kernel
theorem dL_isReady_34 : decode cL_isReady 34 = .ok (.lshr, 1) := by decide +kernel
theorem dL_isReady_35 : decode cL_isReady 35 = .ok (.lconst 1, 1) := by decide +kernel
theorem dL_isReady_36 : decode cL_isReady 36 = .ok (.land, 1) := by decide +kernel
theorem dL_isReady_37 : decode cL_isReady 37 = .ok (.lconst 1, 1) := by decide +kernel
theorem dL_isReady_38 : decode cL_isReady 38 = .ok (.lcmp, 1) := by decide +kernel
theorem dL_isReady_39 : decode cL_isReady 39 = .ok (.ifCond .ne 7, 3) := by decide +kernel
theorem dL_isReady_42 : decode cL_isReady 42 = .ok (.iconst 1, 1) := by decide +kernel
theorem dL_isReady_43 : decode cL_isReady 43 = .ok (.goto 4, 3) := by decide +kernel
theorem dL_isReady_46 : decode cL_isReady 46 = .ok (.iconst 0, 1) := by decide +kernel
theorem dL_isReady_47 : decode cL_isReady 47 = .ok (.if_icmp .eq 5, 3) := by decide +kernel
theorem dL_isReady_50 : decode cL_isReady 50 = .ok (.iconst 0, 1) := by decide +kernel
theorem dL_isReady_51 : decode cL_isReady 51 = .ok (.ireturn, 1) := by decide +kernel
theorem dL_isReady_52 : decode cL_isReady 52 = .ok (.iinc 4 1, 3) := by decide +kernel
theorem dL_isReady_55 : decode cL_isReady 55 = .ok (.goto (-46), 3) := by decide +kernel
theorem dL_isReady_58 : decode cL_isReady 58 = .ok (.lload_n 2, 1) := by decide +kernel
theorem dL_isReady_59 : decode cL_isReady 59 = .ok (.lconst 0, 1) := by decide +kernel
theorem dL_isReady_60 : decode cL_isReady 60 = .ok (.lcmp, 1) := by decide +kernel
theorem dL_isReady_61 : decode cL_isReady 61 = .ok (.ifCond .eq 13, 3) := by decide +kernel
theorem dL_isReady_64 : decode cL_isReady 64 = .ok (.aload_n 0, 1) := by decide +kernel
theorem dL_isReady_65 : decode cL_isReady 65 = .ok (.iload_n 1, 1) := by decide +kernel
theorem dL_isReady_66 : decode cL_isReady 66 = .ok (.bipush 6, 2) := by decide +kernel
theorem dL_isReady_68 : decode cL_isReady 68 = .ok (.invokevirtual 29, 3) := by decide +kernel
theorem dL_isReady_71 : decode cL_isReady 71 = .ok (.ifCond .ne 7, 3) := by decide +kernel
theorem dL_isReady_74 : decode cL_isReady 74 = .ok (.iconst 1, 1) := by decide +kernel
theorem dL_isReady_75 : decode cL_isReady 75 = .ok (.goto 4, 3) := by decide +kernel
theorem dL_isReady_78 : decode cL_isReady 78 = .ok (.iconst 0, 1) := by decide +kernel
theorem dL_isReady_79 : decode cL_isReady 79 = .ok (.ireturn, 1) := by decide +kernel
def f_L_isReady_47 (K9 : Nat → Int32 → Int64 → Int32 → zM → Option (Int32 × zM)) (a0 : Nat) (i1 : Int32) (j2 : Int64) (i4 : Int32) (i_0 : Int32) (i_1 : Int32) (M : zM) : Option (Int32 × zM) :=
  if i_1 = i_0 then
  K9 a0 i1 j2 ((i4 + (1 : Int32))) M
  else
  some ((0 : Int32), M)
set_option maxRecDepth 20000 in
set_option maxHeartbeats 4000000 in
theorem s_L_isReady_47 {L : zL} {X : zX} {M0 : zM} {N : Nat × Nat} {Q : State → Prop} {r : Int32 × zM} {K9 : Nat → Int32 → Int64 → Int32 → zM → Option (Int32 × zM)} (hK9 : ∀ (a0 : Nat) (i1 : Int32) (j2 : Int64) (i4 : Int32) (M : zM), K9 a0 i1 j2 i4 M = some r → V L X yL_isReady cL_isReady 5 (some FieldType.boolean) 70 M0 N Q M 9 [(0, .ref (zad L (a0))), (1, .int (i1)), (2, .long (j2)), (4, .int (i4))] []) (hq : vQ L X M0 N Q (some (.int r.1)) r.2) {a0 : Nat} {i1 : Int32} {j2 : Int64} {i4 : Int32} {i_0 : Int32} {i_1 : Int32} {M : zM} (h : f_L_isReady_47 K9 a0 i1 j2 i4 i_0 i_1 M = some r) : V L X yL_isReady cL_isReady 5 (some FieldType.boolean) 70 M0 N Q M 47 [(0, .ref (zad L (a0))), (1, .int (i1)), (2, .long (j2)), (4, .int (i4))] [.int (i_0), .int (i_1)] := by
  unfold f_L_isReady_47 at h
  refine V_icmp_eq (tgt := 52) dL_isReady_47 (by decide) (fun c1 => ?_) (fun c1 => ?_)
  · replace h := (oi h).1 c1
    refine V_iinc (v := i4 + (1 : Int32)) (ls' := [(4, .int ((i4 + (1 : Int32)))), (0, .ref (zad L (a0))), (1, .int (i1)), (2, .long (j2))]) dL_isReady_52 3 rfl (by rfl) (by decide) rfl ?_
    refine V_goto (tgt := 9) dL_isReady_55 (by decide) ?_
    refine V_sub [1, 2, 3, 0] rfl ?_
    exact hK9 _ _ _ _ _ h
  · replace h := (oi h).2 c1
    refine V_iconst (v := 0) dL_isReady_50 (by decide) ?_
    obtain rfl := Option.some.inj h
    exact V_zret (ty := .boolean) rfl rfl hq dL_isReady_51
def f_L_isReady_31 (K9 : Nat → Int32 → Int64 → Int32 → zM → Option (Int32 × zM)) (a0 : Nat) (i1 : Int32) (j2 : Int64) (i4 : Int32) (i_0 : Int32) (M : zM) : Option (Int32 × zM) :=
  if ((lg_cmp ((((j2 >>> (i4.toInt64 &&& 63))) &&& ((1 : Int64)))) ((1 : Int64)))) = 0 then
  f_L_isReady_47 K9 a0 i1 j2 i4 ((1 : Int32)) i_0 M
  else
  f_L_isReady_47 K9 a0 i1 j2 i4 ((0 : Int32)) i_0 M
set_option maxRecDepth 20000 in
set_option maxHeartbeats 4000000 in
theorem s_L_isReady_31 {L : zL} {X : zX} {M0 : zM} {N : Nat × Nat} {Q : State → Prop} {r : Int32 × zM} {K9 : Nat → Int32 → Int64 → Int32 → zM → Option (Int32 × zM)} (hK9 : ∀ (a0 : Nat) (i1 : Int32) (j2 : Int64) (i4 : Int32) (M : zM), K9 a0 i1 j2 i4 M = some r → V L X yL_isReady cL_isReady 5 (some FieldType.boolean) 70 M0 N Q M 9 [(0, .ref (zad L (a0))), (1, .int (i1)), (2, .long (j2)), (4, .int (i4))] []) (hq : vQ L X M0 N Q (some (.int r.1)) r.2) {a0 : Nat} {i1 : Int32} {j2 : Int64} {i4 : Int32} {i_0 : Int32} {M : zM} (h : f_L_isReady_31 K9 a0 i1 j2 i4 i_0 M = some r) : V L X yL_isReady cL_isReady 5 (some FieldType.boolean) 70 M0 N Q M 31 [(0, .ref (zad L (a0))), (1, .int (i1)), (2, .long (j2)), (4, .int (i4))] [.int (i_0)] := by
  unfold f_L_isReady_31 at h
  refine V_lload_n dL_isReady_31 rfl 2 rfl ?_
  refine V_iload dL_isReady_32 3 rfl ?_
  refine V_lshr dL_isReady_34 ?_
  refine V_lconst (v := 1) dL_isReady_35 (by decide) ?_
  refine V_land dL_isReady_36 ?_
  refine V_lconst (v := 1) dL_isReady_37 (by decide) ?_
  refine V_lcmp dL_isReady_38 ?_
  refine V_if_ne (tgt := 46) dL_isReady_39 (by decide) (fun c1 => ?_) (fun c1 => ?_)
  · replace h := (oi h).2 c1
    refine V_iconst (v := 0) dL_isReady_46 (by decide) ?_
    exact s_L_isReady_47 hK9 hq h
  · replace h := (oi h).1 c1
    refine V_iconst (v := 1) dL_isReady_42 (by decide) ?_
    refine V_goto (tgt := 47) dL_isReady_43 (by decide) ?_
    exact s_L_isReady_47 hK9 hq h
def f_L_isReady_9 (n : Nat) (a0 : Nat) (i1 : Int32) (j2 : Int64) (i4 : Int32) (M : zM) : Option (Int32 × zM) := match n with
  | 0 => none
  | n + 1 =>
    if ((25 : Int32)) ≤ i4 then
    if ((lg_cmp j2 ((0 : Int64)))) = 0 then
    some ((1 : Int32), M)
    else
    if mK M a0 = 9 then
    xn (f_X3_ofPlayer a0 i1 ((6 : Int32)) M) fun w1 Mw1 =>
    if w1 = 0 then
    some ((1 : Int32), Mw1)
    else
    some ((0 : Int32), Mw1)
    else none
    else
    if mK M a0 = 9 then
    xn (f_X3_worth a0 i1 i4 M) fun w6 Mw6 =>
    if w6 ≤ 0 then
    f_L_isReady_31 (f_L_isReady_9 n) a0 i1 j2 i4 ((0 : Int32)) Mw6
    else
    f_L_isReady_31 (f_L_isReady_9 n) a0 i1 j2 i4 ((1 : Int32)) Mw6
    else none
set_option maxRecDepth 20000 in
set_option maxHeartbeats 4000000 in
theorem s_L_isReady_9 {L : zL} {X : zX} {M0 : zM} {N : Nat × Nat} {Q : State → Prop} {r : Int32 × zM} (hq : vQ L X M0 N Q (some (.int r.1)) r.2) {n : Nat} {a0 : Nat} {i1 : Int32} {j2 : Int64} {i4 : Int32} {M : zM} : f_L_isReady_9 n a0 i1 j2 i4 M = some r → V L X yL_isReady cL_isReady 5 (some FieldType.boolean) 70 M0 N Q M 9 [(0, .ref (zad L (a0))), (1, .int (i1)), (2, .long (j2)), (4, .int (i4))] [] := by
  induction n generalizing a0 i1 j2 i4 M with
  | zero =>
    intro h
    rw [f_L_isReady_9] at h
    cases h
  | succ n ih0 =>
    intro h
    have ih : ∀ (a0 : Nat) (i1 : Int32) (j2 : Int64) (i4 : Int32) (M : zM), f_L_isReady_9 n a0 i1 j2 i4 M = some r → V L X yL_isReady cL_isReady 5 (some FieldType.boolean) 70 M0 N Q M 9 [(0, .ref (zad L (a0))), (1, .int (i1)), (2, .long (j2)), (4, .int (i4))] [] := fun a0 i1 j2 i4 M h => ih0 h
    rw [f_L_isReady_9] at h
    refine V_iload dL_isReady_9 3 rfl ?_
    refine V_bipush (v := 25) dL_isReady_11 (by decide) ?_
    refine V_icmp_ge (tgt := 58) dL_isReady_13 (by decide) (fun c10 => ?_) (fun c10 => ?_)
    · replace h := (oi h).1 c10
      refine V_lload_n dL_isReady_58 rfl 2 rfl ?_
      refine V_lconst (v := 0) dL_isReady_59 (by decide) ?_
      refine V_lcmp dL_isReady_60 ?_
      refine V_if_eq (tgt := 74) dL_isReady_61 (by decide) (fun c5 => ?_) (fun c5 => ?_)
      · replace h := (oi h).1 c5
        refine V_iconst (v := 1) dL_isReady_74 (by decide) ?_
        refine V_goto (tgt := 79) dL_isReady_75 (by decide) ?_
        obtain rfl := Option.some.inj h
        exact V_zret (ty := .boolean) rfl rfl hq dL_isReady_79
      · replace h := (oi h).2 c5
        refine V_aload_n dL_isReady_64 rfl 0 rfl ?_
        refine V_iload_n dL_isReady_65 rfl 1 rfl ?_
        refine V_bipush (v := 6) dL_isReady_66 (by decide) ?_
        replace h := ox h
        obtain ⟨c2, h⟩ := h
        replace h := xns h
        obtain ⟨w1, Mw1, e_r1, h⟩ := h
        refine V_callVx_I (As := [.int (i1), .int ((6 : Int32))]) (rest := []) (c_X3_ofPlayer e_r1) zc_X3_ofPlayer rfl (by decide) rfl (by decide) (Or.inl c2) zm_L_29 (Nat.le_of_ble_eq_true rfl) rfl dL_isReady_68 ?_
        refine V_pc (pc' := 71) rfl ?_
        refine V_if_ne (tgt := 78) dL_isReady_71 (by decide) (fun c4 => ?_) (fun c4 => ?_)
        · replace h := (oi h).2 c4
          refine V_iconst (v := 0) dL_isReady_78 (by decide) ?_
          obtain rfl := Option.some.inj h
          exact V_zret (ty := .boolean) rfl rfl hq dL_isReady_79
        · replace h := (oi h).1 c4
          refine V_iconst (v := 1) dL_isReady_74 (by decide) ?_
          refine V_goto (tgt := 79) dL_isReady_75 (by decide) ?_
          obtain rfl := Option.some.inj h
          exact V_zret (ty := .boolean) rfl rfl hq dL_isReady_79
    · replace h := (oi h).2 c10
      refine V_aload_n dL_isReady_16 rfl 0 rfl ?_
      refine V_iload_n dL_isReady_17 rfl 1 rfl ?_
      refine V_iload dL_isReady_18 3 rfl ?_
      replace h := ox h
      obtain ⟨c7, h⟩ := h
      replace h := xns h
      obtain ⟨w6, Mw6, e_r6, h⟩ := h
      refine V_callVx_I (As := [.int (i1), .int (i4)]) (rest := []) (c_X3_worth e_r6) zc_X3_worth rfl (by decide) rfl (by decide) (Or.inl c7) zm_L_96 (Nat.le_of_ble_eq_true rfl) rfl dL_isReady_20 ?_
      refine V_pc (pc' := 23) rfl ?_
      refine V_if_le (tgt := 30) dL_isReady_23 (by decide) (fun c9 => ?_) (fun c9 => ?_)
      · replace h := (oi h).1 c9
        refine V_iconst (v := 0) dL_isReady_30 (by decide) ?_
        exact s_L_isReady_31 ih hq h
      · replace h := (oi h).2 c9
        refine V_iconst (v := 1) dL_isReady_26 (by decide) ?_
        refine V_goto (tgt := 31) dL_isReady_27 (by decide) ?_
        exact s_L_isReady_31 ih hq h
def f_L_isReady_0 (a0 : Nat) (i1 : Int32) (M : zM) : Option (Int32 × zM) :=
  if mK M a0 = 9 then
  xn (f_X3_waits a0 i1 M) fun w1 Mw1 =>
  f_L_isReady_9 zN a0 i1 w1 ((0 : Int32)) Mw1
  else none
set_option maxRecDepth 20000 in
set_option maxHeartbeats 4000000 in
theorem s_L_isReady_0 {L : zL} {X : zX} {M0 : zM} {N : Nat × Nat} {Q : State → Prop} {r : Int32 × zM} (hq : vQ L X M0 N Q (some (.int r.1)) r.2) {a0 : Nat} {i1 : Int32} {M : zM} (h : f_L_isReady_0 a0 i1 M = some r) : V L X yL_isReady cL_isReady 5 (some FieldType.boolean) 70 M0 N Q M 0 [(0, .ref (zad L (a0))), (1, .int (i1))] [] := by
  unfold f_L_isReady_0 at h
  refine V_aload_n dL_isReady_0 rfl 0 rfl ?_
  refine V_iload_n dL_isReady_1 rfl 1 rfl ?_
  replace h := ox h
  obtain ⟨c2, h⟩ := h
  replace h := xns h
  obtain ⟨w1, Mw1, e_r1, h⟩ := h
  refine V_callVx_J (As := [.int (i1)]) (rest := []) (c_X3_waits e_r1) zc_X3_waits rfl (by decide) rfl (by decide) (Or.inl c2) zm_L_76 (Nat.le_of_ble_eq_true rfl) rfl dL_isReady_2 ?_
  refine V_pc (pc' := 5) rfl ?_
  refine V_lstore_n (ls' := [(2, .long (w1)), (0, .ref (zad L (a0))), (1, .int (i1))]) dL_isReady_5 rfl (by decide) rfl ?_
  refine V_iconst (v := 0) dL_isReady_6 (by decide) ?_
  refine V_istore (ls' := [(4, .int ((0 : Int32))), (2, .long (w1)), (0, .ref (zad L (a0))), (1, .int (i1))]) dL_isReady_7 (by decide) rfl ?_
  refine V_sub [2, 3, 1, 0] rfl ?_
  exact s_L_isReady_9 hq h
def f_L_isReady (a0 : Nat) (i1 : Int32) (M : zM) : Option (Int32 × zM) := f_L_isReady_0 a0 i1 M
theorem c_L_isReady {L : zL} {l : Launch} {a0 : Nat} {i1 : Int32} {M : zM} {r : Int32 × zM} (h : f_L_isReady a0 i1 M = some r) : CP L l yL_isReady cL_isReady 5 (some FieldType.boolean) 70 M [.ref (zad L (a0)), .int (i1)] (some (.int r.1)) r.2 :=
  CP.of ⟨by decide +kernel, by decide +kernel⟩ (Nat.le_of_ble_eq_true rfl) fun X Q hq => s_L_isReady_0 hq h
/-! WindsparlourLaw.isThrownAtAll(LWindsparlour;I)Z -/
theorem dL_isThrownAtAll_0 : decode cL_isThrownAtAll 0 = .ok (.iconst 0, 1) := by decide +kernel
theorem dL_isThrownAtAll_1 : decode cL_isThrownAtAll 1 = .ok (.istore_n 2, 1) := by decide +kernel
theorem dL_isThrownAtAll_2 : decode cL_isThrownAtAll 2 = .ok (.iload_n 2, 1) := by decide +kernel
theorem dL_isThrownAtAll_3 : decode cL_isThrownAtAll 3 = .ok (.bipush 25, 2) := by decide +kernel
theorem dL_isThrownAtAll_5 : decode cL_isThrownAtAll 5 = .ok (.if_icmp .ge 41, 3) := by decide +kernel
theorem dL_isThrownAtAll_8 : decode cL_isThrownAtAll 8 = .ok (.aload_n 0, 1) := by decide +kernel
theorem dL_isThrownAtAll_9 : decode cL_isThrownAtAll 9 = .ok (.iload_n 2, 1) := by decide +kernel
theorem dL_isThrownAtAll_10 : decode cL_isThrownAtAll 10 = .ok (.invokevirtual 80, 3) := by decide +kernel
theorem dL_isThrownAtAll_13 : decode cL_isThrownAtAll 13 = .ok (.aload_n 0, 1) := by decide +kernel
theorem dL_isThrownAtAll_14 : decode cL_isThrownAtAll 14 = .ok (.iload_n 1, 1) := by decide +kernel
theorem dL_isThrownAtAll_15 : decode cL_isThrownAtAll 15 = .ok (.iconst 4, 1) := by decide +kernel
theorem dL_isThrownAtAll_16 : decode cL_isThrownAtAll 16 = .ok (.invokevirtual 29, 3) := by decide +kernel
theorem dL_isThrownAtAll_19 : decode cL_isThrownAtAll 19 = .ok (.if_icmp .ne 7, 3) := by decide +kernel
theorem dL_isThrownAtAll_22 : decode cL_isThrownAtAll 22 = .ok (.iconst 1, 1) := by decide +kernel
theorem dL_isThrownAtAll_23 : decode cL_isThrownAtAll 23 = .ok (.goto 4, 3) := by decide +kernel
theorem dL_isThrownAtAll_26 : decode cL_isThrownAtAll 26 = .ok (.iconst 0, 1) := by decide +kernel
theorem dL_isThrownAtAll_27 : decode cL_isThrownAtAll 27 = .ok (.ireturn, 1) := by decide +kernel
theorem dL_isThrownAtAll_28 : decode cL_isThrownAtAll 28 = .ok (.astore_n 3, 1) := by decide +kernel
theorem dL_isThrownAtAll_29 : decode cL_isThrownAtAll 29 = .ok (.aload_n 0, 1) := by decide +kernel
theorem dL_isThrownAtAll_30 : decode cL_isThrownAtAll 30 = .ok (.iconst 0, 1) := by decide +kernel
theorem dL_isThrownAtAll_31 : decode cL_isThrownAtAll 31 = .ok (.invokevirtual 18, 3) := by decide +kernel
theorem dL_isThrownAtAll_34 : decode cL_isThrownAtAll 34 = .ok (.iconst 1, 1) := by decide +kernel
theorem dL_isThrownAtAll_35 : decode cL_isThrownAtAll 35 = .ok (.if_icmp .eq 5, 3) := by decide +kernel
theorem dL_isThrownAtAll_38 : decode cL_isThrownAtAll 38 = .ok (.iconst 0, 1) := by decide +kernel
theorem dL_isThrownAtAll_39 : decode cL_isThrownAtAll 39 = .ok (.ireturn, 1) := by decide +kernel
theorem dL_isThrownAtAll_40 : decode cL_isThrownAtAll 40 = .ok (.iinc 2 1, 3) := by decide +kernel
theorem dL_isThrownAtAll_43 : decode cL_isThrownAtAll 43 = .ok (.goto (-41), 3) := by decide +kernel
theorem dL_isThrownAtAll_46 : decode cL_isThrownAtAll 46 = .ok (.iconst 0, 1) := by decide +kernel
theorem dL_isThrownAtAll_47 : decode cL_isThrownAtAll 47 = .ok (.ireturn, 1) := by decide +kernel
theorem zht_L_isThrownAtAll : zht yL_isThrownAtAll = [(8, 27, 28, 86)] := by decide +kernel
def f_L_isThrownAtAll_2 (n : Nat) (a0 : Nat) (i1 : Int32) (i2 : Int32) (M : zM) : Option (Int32 × zM) := match n with
  | 0 => none
  | n + 1 =>
    if ((25 : Int32)) ≤ i2 then
    some ((0 : Int32), M)
    else
    if mK M a0 = 9 then
    xc (f_X3_discard a0 i2 M) (fun E_r1 M_r1 =>
    if E_r1 = "java/lang/IllegalStateException" then
    if mK M_r1 a0 = 9 then
    xn (f_X3_many a0 ((0 : Int32)) M_r1) fun w11 Mw11 =>
    if w11 = ((1 : Int32)) then
    f_L_isThrownAtAll_2 n a0 i1 ((i2 + (1 : Int32))) Mw11
    else
    some ((0 : Int32), Mw11)
    else none
    else
    none) fun w1 Mw1 =>
    if mK Mw1 a0 = 9 then
    xn (f_X3_ofPlayer a0 i1 ((4 : Int32)) Mw1) fun w7 Mw7 =>
    if w1 = w7 then
    some ((1 : Int32), Mw7)
    else
    some ((0 : Int32), Mw7)
    else none
    else none
set_option maxRecDepth 20000 in
set_option maxHeartbeats 4000000 in
theorem s_L_isThrownAtAll_2 {L : zL} {X : zX} {M0 : zM} {N : Nat × Nat} {Q : State → Prop} {r : Int32 × zM} (hq : vQ L X M0 N Q (some (.int r.1)) r.2) {n : Nat} {a0 : Nat} {i1 : Int32} {i2 : Int32} {M : zM} : f_L_isThrownAtAll_2 n a0 i1 i2 M = some r → V L X yL_isThrownAtAll cL_isThrownAtAll 4 (some FieldType.boolean) 70 M0 N Q M 2 [(0, .ref (zad L (a0))), (1, .int (i1)), (2, .int (i2))] [] := by
  induction n generalizing a0 i1 i2 M with
  | zero =>
    intro h
    rw [f_L_isThrownAtAll_2] at h
    cases h
  | succ n ih0 =>
    intro h
    have ih : ∀ (a0 : Nat) (i1 : Int32) (i2 : Int32) (M : zM), f_L_isThrownAtAll_2 n a0 i1 i2 M = some r → V L X yL_isThrownAtAll cL_isThrownAtAll 4 (some FieldType.boolean) 70 M0 N Q M 2 [(0, .ref (zad L (a0))), (1, .int (i1)), (2, .int (i2))] [] := fun a0 i1 i2 M h => ih0 h
    rw [f_L_isThrownAtAll_2] at h
    refine V_iload_n dL_isThrownAtAll_2 rfl 2 rfl ?_
    refine V_bipush (v := 25) dL_isThrownAtAll_3 (by decide) ?_
    refine V_icmp_ge (tgt := 46) dL_isThrownAtAll_5 (by decide) (fun c16 => ?_) (fun c16 => ?_)
    · replace h := (oi h).1 c16
      refine V_iconst (v := 0) dL_isThrownAtAll_46 (by decide) ?_
      obtain rfl := Option.some.inj h
      exact V_zret (ty := .boolean) rfl rfl hq dL_isThrownAtAll_47
    · replace h := (oi h).2 c16
      refine V_aload_n dL_isThrownAtAll_8 rfl 0 rfl ?_
      refine V_iload_n dL_isThrownAtAll_9 rfl 2 rfl ?_
      replace h := ox h
      obtain ⟨c2, h⟩ := h
      replace h := xcs h
      rcases h with ⟨E_r1, M_r1, e_r1, h⟩ | ⟨w1, Mw1, e_r1, h⟩
      · by_cases c15 : E_r1 = "java/lang/IllegalStateException"
        · replace h := (oi h).1 c15
          subst c15
          refine V_callVd (As := [.int (i2)]) (rest := []) (pre := []) (suf := []) (x := ⟨8, 27, 28, 86⟩) (c_X3_discard e_r1) (by rw [zht_L_isThrownAtAll]; rfl) (by decide) ⟨by decide, by decide, zk_L_86, zcs_IllegalStateException⟩ zc_X3_discard rfl (by decide) rfl (by decide) (Or.inl c2) zm_L_80 (Nat.le_of_ble_eq_true rfl) rfl dL_isThrownAtAll_10 (fun q_r1 => ?_)
          refine V_astore_n (ls' := [(3, .ref (q_r1)), (0, .ref (zad L (a0))), (1, .int (i1)), (2, .int (i2))]) dL_isThrownAtAll_28 rfl (by decide) rfl ?_
          refine V_aload_n dL_isThrownAtAll_29 rfl 1 rfl ?_
          refine V_iconst (v := 0) dL_isThrownAtAll_30 (by decide) ?_
          replace h := ox h
          obtain ⟨c12, h⟩ := h
          replace h := xns h
          obtain ⟨w11, Mw11, e_r11, h⟩ := h
          refine V_callVx_I (As := [.int ((0 : Int32))]) (rest := []) (c_X3_many e_r11) zc_X3_many rfl (by decide) rfl (by decide) (Or.inl c12) zm_L_18 (Nat.le_of_ble_eq_true rfl) rfl dL_isThrownAtAll_31 ?_
          refine V_pc (pc' := 34) rfl ?_
          refine V_iconst (v := 1) dL_isThrownAtAll_34 (by decide) ?_
          refine V_icmp_eq (tgt := 40) dL_isThrownAtAll_35 (by decide) (fun c14 => ?_) (fun c14 => ?_)
          · replace h := (oi h).1 c14
            refine V_iinc (v := i2 + (1 : Int32)) (ls' := [(2, .int ((i2 + (1 : Int32)))), (3, .ref (q_r1)), (0, .ref (zad L (a0))), (1, .int (i1))]) dL_isThrownAtAll_40 3 rfl (by rfl) (by decide) rfl ?_
            refine V_goto (tgt := 2) dL_isThrownAtAll_43 (by decide) ?_
            refine V_sub [2, 3, 0] rfl ?_
            exact ih _ _ _ _ h
          · replace h := (oi h).2 c14
            refine V_iconst (v := 0) dL_isThrownAtAll_38 (by decide) ?_
            obtain rfl := Option.some.inj h
            exact V_zret (ty := .boolean) rfl rfl hq dL_isThrownAtAll_39
        · replace h := (oi h).2 c15
          cases h
      · refine V_callVx_I (As := [.int (i2)]) (rest := []) (c_X3_discard e_r1) zc_X3_discard rfl (by decide) rfl (by decide) (Or.inl c2) zm_L_80 (Nat.le_of_ble_eq_true rfl) rfl dL_isThrownAtAll_10 ?_
        refine V_pc (pc' := 13) rfl ?_
        refine V_aload_n dL_isThrownAtAll_13 rfl 0 rfl ?_
        refine V_iload_n dL_isThrownAtAll_14 rfl 1 rfl ?_
        refine V_iconst (v := 4) dL_isThrownAtAll_15 (by decide) ?_
        replace h := ox h
        obtain ⟨c8, h⟩ := h
        replace h := xns h
        obtain ⟨w7, Mw7, e_r7, h⟩ := h
        refine V_callVx_I (As := [.int (i1), .int ((4 : Int32))]) (rest := [.int (w1)]) (c_X3_ofPlayer e_r7) zc_X3_ofPlayer rfl (by decide) rfl (by decide) (Or.inl c8) zm_L_29 (Nat.le_of_ble_eq_true rfl) rfl dL_isThrownAtAll_16 ?_
        refine V_pc (pc' := 19) rfl ?_
        refine V_icmp_ne (tgt := 26) dL_isThrownAtAll_19 (by decide) (fun c10 => ?_) (fun c10 => ?_)
        · replace h := (oi h).2 c10
          refine V_iconst (v := 0) dL_isThrownAtAll_26 (by decide) ?_
          obtain rfl := Option.some.inj h
          exact V_zret (ty := .boolean) rfl rfl hq dL_isThrownAtAll_27
        · replace h := (oi h).1 c10
          refine V_iconst (v := 1) dL_isThrownAtAll_22 (by decide) ?_
          refine V_goto (tgt := 27) dL_isThrownAtAll_23 (by decide) ?_
          obtain rfl := Option.some.inj h
          exact V_zret (ty := .boolean) rfl rfl hq dL_isThrownAtAll_27
def f_L_isThrownAtAll_0 (a0 : Nat) (i1 : Int32) (M : zM) : Option (Int32 × zM) :=
  f_L_isThrownAtAll_2 zN a0 i1 ((0 : Int32)) M
set_option maxRecDepth 20000 in
set_option maxHeartbeats 4000000 in
theorem s_L_isThrownAtAll_0 {L : zL} {X : zX} {M0 : zM} {N : Nat × Nat} {Q : State → Prop} {r : Int32 × zM} (hq : vQ L X M0 N Q (some (.int r.1)) r.2) {a0 : Nat} {i1 : Int32} {M : zM} (h : f_L_isThrownAtAll_0 a0 i1 M = some r) : V L X yL_isThrownAtAll cL_isThrownAtAll 4 (some FieldType.boolean) 70 M0 N Q M 0 [(0, .ref (zad L (a0))), (1, .int (i1))] [] := by
  unfold f_L_isThrownAtAll_0 at h
  refine V_iconst (v := 0) dL_isThrownAtAll_0 (by decide) ?_
  refine V_istore_n (ls' := [(2, .int ((0 : Int32))), (0, .ref (zad L (a0))), (1, .int (i1))]) dL_isThrownAtAll_1 rfl (by decide) rfl ?_
  refine V_sub [1, 2, 0] rfl ?_
  exact s_L_isThrownAtAll_2 hq h
def f_L_isThrownAtAll (a0 : Nat) (i1 : Int32) (M : zM) : Option (Int32 × zM) := f_L_isThrownAtAll_0 a0 i1 M
theorem c_L_isThrownAtAll {L : zL} {l : Launch} {a0 : Nat} {i1 : Int32} {M : zM} {r : Int32 × zM} (h : f_L_isThrownAtAll a0 i1 M = some r) : CH L l yL_isThrownAtAll cL_isThrownAtAll 4 (some FieldType.boolean) [(8, 27, 28, 86)] 70 M [.ref (zad L (a0)), .int (i1)] (some (.int r.1)) r.2 :=
  CH.of ⟨by decide +kernel, zht_L_isThrownAtAll⟩ (Nat.le_of_ble_eq_true rfl) fun X Q hq => s_L_isThrownAtAll_0 hq h
