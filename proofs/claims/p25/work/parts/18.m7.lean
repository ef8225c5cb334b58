/-! ===== METHODS, by program ===== -/
/-! WindsparlourLaw.isTurn(LWindsparlour;II)Z -/
theorem dL_isTurn_0 : decode cL_isTurn 0 = .ok (.aload_n 0, 1) := by decide +kernel
theorem dL_isTurn_1 : decode cL_isTurn 1 = .ok (.iconst 1, 1) := by decide +kernel
theorem dL_isTurn_2 : decode cL_isTurn 2 = .ok (.invokevirtual 18, 3) := by decide +kernel
theorem dL_isTurn_5 : decode cL_isTurn 5 = .ok (.istore_n 3, 1) := by decide +kernel
theorem dL_isTurn_6 : decode cL_isTurn 6 = .ok (.aload_n 0, 1) := by decide +kernel
theorem dL_isTurn_7 : decode cL_isTurn 7 = .ok (.invokevirtual 61, 3) := by decide +kernel
theorem dL_isTurn_10 : decode cL_isTurn 10 = .ok (.istore 4, 2) := by decide +kernel
theorem dL_isTurn_12 : decode cL_isTurn 12 = .ok (.aload_n 0, 1) := by decide +kernel
theorem dL_isTurn_13 : decode cL_isTurn 13 = .ok (.iload_n 3, 1) := by decide +kernel
theorem dL_isTurn_14 : decode cL_isTurn 14 = .ok (.bipush 6, 2) := by decide +kernel
theorem dL_isTurn_16 : decode cL_isTurn 16 = .ok (.invokevirtual 29, 3) := by decide +kernel
theorem dL_isTurn_19 : decode cL_isTurn 19 = .ok (.istore 5, 2) := by decide +kernel
theorem dL_isTurn_21 : decode cL_isTurn 21 = .ok (.iload 5, 2) := by decide +kernel
theorem dL_isTurn_23 : decode cL_isTurn 23 = .ok (.iconst (-1), 1) := by decide +kernel
theorem dL_isTurn_24 : decode cL_isTurn 24 = .ok (.if_icmp .ne 13, 3) := by decide +kernel
theorem dL_isTurn_27 : decode cL_isTurn 27 = .ok (.aload_n 0, 1) := by decide +kernel
theorem dL_isTurn_28 : decode cL_isTurn 28 = .ok (.iload_n 3, 1) := by decide +kernel
theorem dL_isTurn_29 : decode cL_isTurn 29 = .ok (.invokestatic 64, 3) := by decide +kernel
theorem dL_isTurn_32 : decode cL_isTurn 32 = .ok (.ifCond .eq 5, 3) := by decide +kernel
theorem dL_isTurn_35 : decode cL_isTurn 35 = .ok (.iconst 1, 1) := by decide +kernel
theorem dL_isTurn_36 : decode cL_isTurn 36 = .ok (.ireturn, 1) := by decide +kernel
theorem dL_isTurn_37 : decode cL_isTurn 37 = .ok (.iload_n 1, 1) := by decide +kernel
theorem dL_isTurn_38 : decode cL_isTurn 38 = .ok (.iconst 3, 1) := by decide +kernel
theorem dL_isTurn_39 : decode cL_isTurn 39 = .ok (.invokestatic 22, 3) := by decide +kernel
theorem dL_isTurn_42 : decode cL_isTurn 42 = .ok (.ifCond .le 8, 3) := by decide +kernel
theorem dL_isTurn_45 : decode cL_isTurn 45 = .ok (.iload 4, 2) := by decide +kernel
theorem dL_isTurn_47 : decode cL_isTurn 47 = .ok (.goto 9, 3) := by decide +kernel
theorem dL_isTurn_50 : decode cL_isTurn 50 = .ok (.iload_n 2, 1) := by decide +kernel
theorem dL_isTurn_51 : decode cL_isTurn 51 = .ok (.bipush 25, 2) := by decide +kernel
theorem dL_isTurn_53 : decode cL_isTurn 53 = .ok (.invokestatic 22, 3) := by decide +kernel
theorem dL_isTurn_56 : decode cL_isTurn 56 = .ok (.istore 6, 2) := by decide +kernel
theorem dL_isTurn_58 : decode cL_isTurn 58 = .ok (.aload_n 0, 1) := by decide +kernel
theorem dL_isTurn_59 : decode cL_isTurn 59 = .ok (.iload_n 3, 1) := by decide +kernel
theorem dL_isTurn_60 : decode cL_isTurn 60 = .ok (.iload 4, 2) := by decide +kernel
theorem dL_isTurn_62 : decode cL_isTurn 62 = .ok (.invokevirtual 36, 3) := by decide +kernel
theorem dL_isTurn_65 : decode cL_isTurn 65 = .ok (.ifCond .ne 5, 3) := by decide +kernel
theorem dL_isTurn_68 : decode cL_isTurn 68 = .ok (.iconst 0, 1) := by decide +kernel
theorem dL_isTurn_69 : decode cL_isTurn 69 = .ok (.ireturn, 1) := by decide +kernel
theorem dL_isTurn_70 : decode cL_isTurn 70 = .ok (.aload_n 0, 1) := by decide +kernel
theorem dL_isTurn_71 : decode cL_isTurn 71 = .ok (.iload_n 3, 1) := by decide +kernel
theorem dL_isTurn_72 : decode cL_isTurn 72 = .ok (.iconst 4, 1) := by decide +kernel
theorem dL_isTurn_73 : decode cL_isTurn 73 = .ok (.invokevirtual 29, 3) := by decide +kernel
theorem dL_isTurn_76 : decode cL_isTurn 76 = .ok (.istore 7, 2) := by decide +kernel
theorem dL_isTurn_78 : decode cL_isTurn 78 = .ok (.aload_n 0, 1) := by decide +kernel
theorem dL_isTurn_79 : decode cL_isTurn 79 = .ok (.iload_n 3, 1) := by decide +kernel
theorem dL_isTurn_80 : decode cL_isTurn 80 = .ok (.iload 6, 2) := by decide +kernel
theorem dL_isTurn_82 : decode cL_isTurn 82 = .ok (.invokevirtual 36, 3) := by decide +kernel
theorem dL_isTurn_85 : decode cL_isTurn 85 = .ok (.istore 8, 2) := by decide +kernel
theorem dL_isTurn_87 : decode cL_isTurn 87 = .ok (.aload_n 0, 1) := by decide +kernel
theorem dL_isTurn_88 : decode cL_isTurn 88 = .ok (.iload_n 3, 1) := by decide +kernel
theorem dL_isTurn_89 : decode cL_isTurn 89 = .ok (.iconst 5, 1) := by decide +kernel
theorem dL_isTurn_90 : decode cL_isTurn 90 = .ok (.invokevirtual 29, 3) := by decide +kernel
theorem dL_isTurn_93 : decode cL_isTurn 93 = .ok (.iconst 1, 1) := by decide +kernel
theorem dL_isTurn_94 : decode cL_isTurn 94 = .ok (.if_icmp .ne 7, 3) := by decide +kernel
theorem dL_isTurn_97 : decode cL_isTurn 97 = .ok (.iconst 1, 1) := by decide +kernel
theorem dL_isTurn_98 : decode cL_isTurn 98 = .ok (.goto 4, 3) := by decide +kernel
theorem dL_isTurn_101 : decode cL_isTurn 101 = .ok (.iconst 0, 1) := by decide +kernel
theorem dL_isTurn_102 : decode cL_isTurn 102 = .ok (.istore 9, 2) := by decide +kernel
theorem dL_isTurn_104 : decode cL_isTurn 104 = .ok (.iload_n 1, 1) := by decide +kernel
theorem dL_isTurn_105 : decode cL_isTurn 105 = .ok (.iconst 3, 1) := by decide +kernel
theorem dL_isTurn_106 : decode cL_isTurn 106 = .ok (.idiv, 1) := by decide +kernel
theorem dL_isTurn_107 : decode cL_isTurn 107 = .ok (.iconst 3, 1) := by decide +kernel
theorem dL_isTurn_108 : decode cL_isTurn 108 = .ok (.invokestatic 22, 3) := by decide +kernel
theorem dL_isTurn_111 : decode cL_isTurn 111 = .ok (.ifCond .ne 71, 3) := by decide +kernel
theorem dL_isTurn_114 : decode cL_isTurn 114 = .ok (.iload 8, 2) := by decide +kernel
theorem dL_isTurn_116 : decode cL_isTurn 116 = .ok (.iconst 4, 1) := by decide +kernel
theorem dL_isTurn_117 : decode cL_isTurn 117 = .ok (.if_icmp .ne 65, 3) := by decide +kernel
theorem dL_isTurn_120 : decode cL_isTurn 120 = .ok (.aload_n 0, 1) := by decide +kernel
theorem dL_isTurn_121 : decode cL_isTurn 121 = .ok (.iload_n 3, 1) := by decide +kernel
theorem dL_isTurn_122 : decode cL_isTurn 122 = .ok (.iconst 1, 1) := by decide +kernel
theorem dL_isTurn_123 : decode cL_isTurn 123 = .ok (.invokevirtual 29, 3) := by decide +kernel
theorem dL_isTurn_126 : decode cL_isTurn 126 = .ok (.istore 10, 2) := by decide +kernel
theorem dL_isTurn_128 : decode cL_isTurn 128 = .ok (.aload_n 0, 1) := by decide +kernel
theorem dL_isTurn_129 : decode cL_isTurn 129 = .ok (.iload 6, 2) := by decide +kernel
theorem dL_isTurn_131 : decode cL_isTurn 131 = .ok (.invokevirtual 67, 3) := by decide +kernel
theorem dL_isTurn_134 : decode cL_isTurn 134 = .ok (.istore 11, 2) := by decide +kernel
theorem dL_isTurn_136 : decode cL_isTurn 136 = .ok (.aload_n 0, 1) := by decide +kernel
theorem dL_isTurn_137 : decode cL_isTurn 137 = .ok (.iload_n 3, 1) := by decide +kernel
theorem dL_isTurn_138 : decode cL_isTurn 138 = .ok (.iload 10, 2) := by decide +kernel
theorem dL_isTurn_140 : decode cL_isTurn 140 = .ok (.invokevirtual 70, 3) := by decide +kernel
theorem dL_isTurn_143 : decode cL_isTurn 143 = .ok (.sipush 300, 3) := by decide +kernel
theorem dL_isTurn_146 : decode cL_isTurn 146 = .ok (.iload 6, 2) := by decide +kernel
theorem dL_isTurn_148 : decode cL_isTurn 148 = .ok (.iadd, 1) := by decide +kernel
theorem dL_isTurn_149 : decode cL_isTurn 149 = .ok (.if_icmp .ne 31, 3) := by decide +kernel
theorem dL_isTurn_152 : decode cL_isTurn 152 = .ok (.aload_n 0, 1) := by decide +kernel
theorem dL_isTurn_153 : decode cL_isTurn 153 = .ok (.iload_n 3, 1) := by decide +kernel
theorem dL_isTurn_154 : decode cL_isTurn 154 = .ok (.iload 11, 2) := by decide +kernel
theorem dL_isTurn_156 : decode cL_isTurn 156 = .ok (.invokevirtual 36, 3) := by decide +kernel
theorem dL_isTurn_159 : decode cL_isTurn 159 = .ok (.ifCond .le 21, 3) := by decide +kernel
theorem dL_isTurn_162 : decode cL_isTurn 162 = .ok (.iload 9, 2) := by decide +kernel
theorem dL_isTurn_164 : decode cL_isTurn 164 = .ok (.ifCond .ne 16, 3) := by decide +kernel
theorem dL_isTurn_167 : decode cL_isTurn 167 = .ok (.aload_n 0, 1) := by decide +kernel
theorem dL_isTurn_168 : decode cL_isTurn 168 = .ok (.iconst 5, 1) := by decide +kernel
theorem dL_isTurn_169 : decode cL_isTurn 169 = .ok (.invokevirtual 18, 3) := by decide +kernel
theorem dL_isTurn_172 : decode cL_isTurn 172 = .ok (.iconst 5, 1) := by decide +kernel
theorem dL_isTurn_173 : decode cL_isTurn 173 = .ok (.if_icmp .ge 7, 3) := by decide +kernel
theorem dL_isTurn_176 : decode cL_isTurn 176 = .ok (.iconst 1, 1) := by decide +kernel
theorem dL_isTurn_177 : decode cL_isTurn 177 = .ok (.goto 4, 3) := by decide +kernel
theorem dL_isTurn_180 : decode cL_isTurn 180 = .ok (.iconst 0, 1) := by decide +kernel
theorem dL_isTurn_181 : decode cL_isTurn 181 = .ok (.ireturn, 1) := by decide +kernel
theorem dL_isTurn_182 : decode cL_isTurn 182 = .ok (.iload_n 1, 1) := by decide +kernel
theorem dL_isTurn_183 : decode cL_isTurn 183 = .ok (.iconst 5, 1) := by decide +kernel
theorem dL_isTurn_184 : decode cL_isTurn 184 = .ok (.idiv, 1) := by decide +kernel
theorem dL_isTurn_185 : decode cL_isTurn 185 = .ok (.iconst 2, 1) := by decide +kernel
theorem dL_isTurn_186 : decode cL_isTurn 186 = .ok (.invokestatic 22, 3) := by decide +kernel
theorem dL_isTurn_189 : decode cL_isTurn 189 = .ok (.ifCond .ne 65, 3) := by decide +kernel
theorem dL_isTurn_192 : decode cL_isTurn 192 = .ok (.aload_n 0, 1) := by decide +kernel
theorem dL_isTurn_193 : decode cL_isTurn 193 = .ok (.iload_n 3, 1) := by decide +kernel
theorem dL_isTurn_194 : decode cL_isTurn 194 = .ok (.iconst 0, 1) := by decide +kernel
theorem dL_isTurn_195 : decode cL_isTurn 195 = .ok (.invokevirtual 29, 3) := by decide +kernel
theorem dL_isTurn_198 : decode cL_isTurn 198 = .ok (.istore 10, 2) := by decide +kernel
theorem dL_isTurn_200 : decode cL_isTurn 200 = .ok (.aload_n 0, 1) := by decide +kernel
theorem dL_isTurn_201 : decode cL_isTurn 201 = .ok (.iload 6, 2) := by decide +kernel
theorem dL_isTurn_203 : decode cL_isTurn 203 = .ok (.invokevirtual 73, 3) := by decide +kernel
theorem dL_isTurn_206 : decode cL_isTurn 206 = .ok (.iload 10, 2) := by decide +kernel
theorem dL_isTurn_208 : decode cL_isTurn 208 = .ok (.bipush 10, 2) := by decide +kernel
theorem dL_isTurn_210 : decode cL_isTurn 210 = .ok (.isub, 1) := by decide +kernel
theorem dL_isTurn_211 : decode cL_isTurn 211 = .ok (.if_icmp .ne 41, 3) := by decide +kernel
theorem dL_isTurn_214 : decode cL_isTurn 214 = .ok (.aload_n 0, 1) := by decide +kernel
theorem dL_isTurn_215 : decode cL_isTurn 215 = .ok (.iload_n 3, 1) := by decide +kernel
theorem dL_isTurn_216 : decode cL_isTurn 216 = .ok (.bipush 6, 2) := by decide +kernel
theorem dL_isTurn_218 : decode cL_isTurn 218 = .ok (.invokevirtual 29, 3) := by decide +kernel
theorem dL_isTurn_221 : decode cL_isTurn 221 = .ok (.ifCond .ne 31, 3) := by decide +kernel
theorem dL_isTurn_224 : decode cL_isTurn 224 = .ok (.aload_n 0, 1) := by decide +kernel
theorem dL_isTurn_225 : decode cL_isTurn 225 = .ok (.iload_n 3, 1) := by decide +kernel
theorem dL_isTurn_226 : decode cL_isTurn 226 = .ok (.invokevirtual 76, 3) := by decide +kernel
theorem dL_isTurn_229 : decode cL_isTurn 229 = .ok (.lconst 0, 1) := by decide +kernel
theorem dL_isTurn_230 : decode cL_isTurn 230 = .ok (.lcmp, 1) := by decide +kernel
theorem dL_isTurn_231 : decode cL_isTurn 231 = .ok (.ifCond .eq 21, 3) := by decide +kernel
theorem dL_isTurn_234 : decode cL_isTurn 234 = .ok (.aload_n 0, 1) := by decide +kernel
theorem dL_isTurn_235 : decode cL_isTurn 235 = .ok (.iload_n 3, 1) := by decide +kernel
theorem dL_isTurn_236 : decode cL_isTurn 236 = .ok (.iconst 2, 1) := by decide +kernel
theorem dL_isTurn_237 : decode cL_isTurn 237 = .ok (.invokevirtual 29, 3) := by decide +kernel
theorem dL_isTurn_240 : decode cL_isTurn 240 = .ok (.ifCond .ne 12, 3) := by decide +kernel
theorem dL_isTurn_243 : decode cL_isTurn 243 = .ok (.iload 9, 2) := by decide +kernel
theorem dL_isTurn_245 : decode cL_isTurn 245 = .ok (.ifCond .ne 7, 3) := by decide +kernel
theorem dL_isTurn_248 : decode cL_isTurn 248 = .ok (.iconst 1, 1) := by decide +kernel
theorem dL_isTurn_249 : decode cL_isTurn 249 = .ok (.goto 4, 3) := by decide +kernel
theorem dL_isTurn_252 : decode cL_isTurn 252 = .ok (.iconst 0, 1) := by decide +kernel
theorem dL_isTurn_253 : decode cL_isTurn 253 = .ok (.ireturn, 1) := by decide +kernel
theorem dL_isTurn_254 : decode cL_isTurn 254 = .ok (.aload_n 0, 1) := by decide +kernel
theorem dL_isTurn_255 : decode cL_isTurn 255 = .ok (.iload 6, 2) := by decide +kernel
theorem dL_isTurn_257 : decode cL_isTurn 257 = .ok (.invokevirtual 80, 3) := by decide +kernel
theorem dL_isTurn_260 : decode cL_isTurn 260 = .ok (.iload 7, 2) := by decide +kernel
theorem dL_isTurn_262 : decode cL_isTurn 262 = .ok (.iconst 1, 1) := by decide +kernel
theorem dL_isTurn_263 : decode cL_isTurn 263 = .ok (.iadd, 1) := by decide +kernel
theorem dL_isTurn_264 : decode cL_isTurn 264 = .ok (.if_icmp .ne 29, 3) := by decide +kernel
theorem dL_isTurn_267 : decode cL_isTurn 267 = .ok (.aload_n 0, 1) := by decide +kernel
theorem dL_isTurn_268 : decode cL_isTurn 268 = .ok (.iload_n 3, 1) := by decide +kernel
theorem dL_isTurn_269 : decode cL_isTurn 269 = .ok (.iload 7, 2) := by decide +kernel
theorem dL_isTurn_271 : decode cL_isTurn 271 = .ok (.invokevirtual 83, 3) := by decide +kernel
theorem dL_isTurn_274 : decode cL_isTurn 274 = .ok (.iload 6, 2) := by decide +kernel
theorem dL_isTurn_276 : decode cL_isTurn 276 = .ok (.if_icmp .ne 17, 3) := by decide +kernel
theorem dL_isTurn_279 : decode cL_isTurn 279 = .ok (.aload_n 0, 1) := by decide +kernel
theorem dL_isTurn_280 : decode cL_isTurn 280 = .ok (.iload_n 3, 1) := by decide +kernel
theorem dL_isTurn_281 : decode cL_isTurn 281 = .ok (.iload 6, 2) := by decide +kernel
theorem dL_isTurn_283 : decode cL_isTurn 283 = .ok (.invokevirtual 36, 3) := by decide +kernel
theorem dL_isTurn_286 : decode cL_isTurn 286 = .ok (.iload 8, 2) := by decide +kernel
theorem dL_isTurn_288 : decode cL_isTurn 288 = .ok (.iconst 1, 1) := by decide +kernel
theorem dL_isTurn_289 : decode cL_isTurn 289 = .ok (.isub, 1) := by decide +kernel
theorem dL_isTurn_290 : decode cL_isTurn 290 = .ok (.if_icmp .eq 5, 3) := by decide +kernel
theorem dL_isTurn_293 : decode cL_isTurn 293 = .ok (.iconst 0, 1) := by decide +kernel
theorem dL_isTurn_294 : decode cL_isTurn 294 = .ok (.ireturn, 1) := by decide +kernel
theorem dL_isTurn_295 : decode cL_isTurn 295 = .ok (.goto 11, 3) := by decide +kernel
theorem dL_isTurn_298 : decode cL_isTurn 298 = .ok (.astore 10, 2) := by decide +kernel
theorem dL_isTurn_300 : decode cL_isTurn 300 = .ok (.aload_n 0, 1) := by decide +kernel
theorem dL_isTurn_301 : decode cL_isTurn 301 = .ok (.iload_n 3, 1) := by decide +kernel
theorem dL_isTurn_302 : decode cL_isTurn 302 = .ok (.invokestatic 88, 3) := by decide +kernel
theorem dL_isTurn_305 : decode cL_isTurn 305 = .ok (.ireturn, 1) := by decide +kernel
theorem dL_isTurn_306 : decode cL_isTurn 306 = .ok (.aload_n 0, 1) := by decide +kernel
theorem dL_isTurn_307 : decode cL_isTurn 307 = .ok (.iload_n 3, 1) := by decide +kernel
theorem dL_isTurn_308 : decode cL_isTurn 308 = .ok (.bipush 6, 2) := by decide +kernel
theorem dL_isTurn_310 : decode cL_isTurn 310 = .ok (.invokevirtual 29, 3) := by decide +kernel
theorem dL_isTurn_313 : decode cL_isTurn 313 = .ok (.istore 10, 2) := by decide +kernel
theorem dL_isTurn_315 : decode cL_isTurn 315 = .ok (.iload 10, 2) := by decide +kernel
theorem dL_isTurn_317 : decode cL_isTurn 317 = .ok (.iload 5, 2) := by decide +kernel
theorem dL_isTurn_319 : decode cL_isTurn 319 = .ok (.if_icmp .lt 53, 3) := by decide +kernel
theorem dL_isTurn_322 : decode cL_isTurn 322 = .ok (.iload 6, 2) := by decide +kernel
theorem dL_isTurn_324 : decode cL_isTurn 324 = .ok (.iload 4, 2) := by decide +kernel
theorem dL_isTurn_326 : decode cL_isTurn 326 = .ok (.if_icmp .ne 14, 3) := by decide +kernel
theorem dL_isTurn_329 : decode cL_isTurn 329 = .ok (.iload 10, 2) := by decide +kernel
theorem dL_isTurn_331 : decode cL_isTurn 331 = .ok (.iconst 0, 1) := by decide +kernel
theorem dL_isTurn_332 : decode cL_isTurn 332 = .ok (.iload 5, 2) := by decide +kernel
theorem dL_isTurn_334 : decode cL_isTurn 334 = .ok (.invokestatic 91, 3) := by decide +kernel
theorem dL_isTurn_337 : decode cL_isTurn 337 = .ok (.if_icmp .ne 35, 3) := by decide +kernel
theorem dL_isTurn_340 : decode cL_isTurn 340 = .ok (.aload_n 0, 1) := by decide +kernel
theorem dL_isTurn_341 : decode cL_isTurn 341 = .ok (.iload_n 3, 1) := by decide +kernel
theorem dL_isTurn_342 : decode cL_isTurn 342 = .ok (.invokevirtual 76, 3) := by decide +kernel
theorem dL_isTurn_345 : decode cL_isTurn 345 = .ok (.lconst 0, 1) := by decide +kernel
theorem dL_isTurn_346 : decode cL_isTurn 346 = .ok (.lcmp, 1) := by decide +kernel
theorem dL_isTurn_347 : decode cL_isTurn 347 = .ok (.ifCond .eq 7, 3) := by decide +kernel
theorem dL_isTurn_350 : decode cL_isTurn 350 = .ok (.iconst 1, 1) := by decide +kernel
theorem dL_isTurn_351 : decode cL_isTurn 351 = .ok (.goto 4, 3) := by decide +kernel
theorem dL_isTurn_354 : decode cL_isTurn 354 = .ok (.iconst 0, 1) := by decide +kernel
theorem dL_isTurn_355 : decode cL_isTurn 355 = .ok (.iload 10, 2) := by decide +kernel
theorem dL_isTurn_357 : decode cL_isTurn 357 = .ok (.ifCond .ne 7, 3) := by decide +kernel
theorem dL_isTurn_360 : decode cL_isTurn 360 = .ok (.iconst 1, 1) := by decide +kernel
theorem dL_isTurn_361 : decode cL_isTurn 361 = .ok (.goto 4, 3) := by decide +kernel
theorem dL_isTurn_364 : decode cL_isTurn 364 = .ok (.iconst 0, 1) := by decide +kernel
theorem dL_isTurn_365 : decode cL_isTurn 365 = .ok (.if_icmp .ne 7, 3) := by decide +kernel
theorem dL_isTurn_368 : decode cL_isTurn 368 = .ok (.iconst 1, 1) := by decide +kernel
theorem dL_isTurn_369 : decode cL_isTurn 369 = .ok (.goto 4, 3) := by decide +kernel
theorem dL_isTurn_372 : decode cL_isTurn 372 = .ok (.iconst 0, 1) := by decide +kernel
theorem dL_isTurn_373 : decode cL_isTurn 373 = .ok (.ireturn, 1) := by decide +kernel
theorem zht_L_isTurn : zht yL_isTurn = [(104, 181, 298, 86), (182, 253, 298, 86), (254, 294, 298, 86)] := by decide +kernel
def f_L_isTurn_365 (i_0 : Int32) (i_1 : Int32) (M : zM) : Option (Int32 × zM) :=
  if i_1 = i_0 then
  some ((1 : Int32), M)
  else
  some ((0 : Int32), M)
set_option maxRecDepth 20000 in
set_option maxHeartbeats 4000000 in
theorem s_L_isTurn_365 {L : zL} {X : zX} {M0 : zM} {N : Nat × Nat} {Q : State → Prop} {r : Int32 × zM} (hq : vQ L X M0 N Q (some (.int r.1)) r.2) {i_0 : Int32} {i_1 : Int32} {M : zM} (h : f_L_isTurn_365 i_0 i_1 M = some r) : V L X yL_isTurn cL_isTurn 12 (some FieldType.boolean) 71 M0 N Q M 365 [] [.int (i_0), .int (i_1)] := by
  unfold f_L_isTurn_365 at h
  refine V_icmp_ne (tgt := 372) dL_isTurn_365 (by decide) (fun c1 => ?_) (fun c1 => ?_)
  · replace h := (oi h).2 c1
    refine V_iconst (v := 0) dL_isTurn_372 (by decide) ?_
    obtain rfl := Option.some.inj h
    exact V_zret (ty := .boolean) rfl rfl hq dL_isTurn_373
  · replace h := (oi h).1 c1
    refine V_iconst (v := 1) dL_isTurn_368 (by decide) ?_
    refine V_goto (tgt := 373) dL_isTurn_369 (by decide) ?_
    obtain rfl := Option.some.inj h
    exact V_zret (ty := .boolean) rfl rfl hq dL_isTurn_373
def f_L_isTurn_355 (i10 : Int32) (i_0 : Int32) (M : zM) : Option (Int32 × zM) :=
  if i10 = 0 then
  f_L_isTurn_365 ((1 : Int32)) i_0 M
  else
  f_L_isTurn_365 ((0 : Int32)) i_0 M
set_option maxRecDepth 20000 in
set_option maxHeartbeats 4000000 in
theorem s_L_isTurn_355 {L : zL} {X : zX} {M0 : zM} {N : Nat × Nat} {Q : State → Prop} {r : Int32 × zM} (hq : vQ L X M0 N Q (some (.int r.1)) r.2) {i10 : Int32} {i_0 : Int32} {M : zM} (h : f_L_isTurn_355 i10 i_0 M = some r) : V L X yL_isTurn cL_isTurn 12 (some FieldType.boolean) 71 M0 N Q M 355 [(10, .int (i10))] [.int (i_0)] := by
  unfold f_L_isTurn_355 at h
  refine V_iload dL_isTurn_355 0 rfl ?_
  refine V_if_ne (tgt := 364) dL_isTurn_357 (by decide) (fun c1 => ?_) (fun c1 => ?_)
  · replace h := (oi h).2 c1
    refine V_iconst (v := 0) dL_isTurn_364 (by decide) ?_
    refine V_sub [] rfl ?_
    exact s_L_isTurn_365 hq h
  · replace h := (oi h).1 c1
    refine V_iconst (v := 1) dL_isTurn_360 (by decide) ?_
    refine V_goto (tgt := 365) dL_isTurn_361 (by decide) ?_
    refine V_sub [] rfl ?_
    exact s_L_isTurn_365 hq h
def f_L_isTurn_340 (a0 : Nat) (i3 : Int32) (i10 : Int32) (M : zM) : Option (Int32 × zM) :=
  if mK M a0 = 9 then
  xn (f_X3_waits a0 i3 M) fun w1 Mw1 =>
  if ((lg_cmp w1 ((0 : Int64)))) = 0 then
  f_L_isTurn_355 i10 ((0 : Int32)) Mw1
  else
  f_L_isTurn_355 i10 ((1 : Int32)) Mw1
  else none
set_option maxRecDepth 20000 in
set_option maxHeartbeats 4000000 in
theorem s_L_isTurn_340 {L : zL} {X : zX} {M0 : zM} {N : Nat × Nat} {Q : State → Prop} {r : Int32 × zM} (hq : vQ L X M0 N Q (some (.int r.1)) r.2) {a0 : Nat} {i3 : Int32} {i10 : Int32} {M : zM} (h : f_L_isTurn_340 a0 i3 i10 M = some r) : V L X yL_isTurn cL_isTurn 12 (some FieldType.boolean) 71 M0 N Q M 340 [(0, .ref (zad L (a0))), (3, .int (i3)), (10, .int (i10))] [] := by
  unfold f_L_isTurn_340 at h
  refine V_aload_n dL_isTurn_340 rfl 0 rfl ?_
  refine V_iload_n dL_isTurn_341 rfl 1 rfl ?_
  replace h := ox h
  obtain ⟨c2, h⟩ := h
  replace h := xns h
  obtain ⟨w1, Mw1, e_r1, h⟩ := h
  refine V_callVx_J (As := [.int (i3)]) (rest := []) (c_X3_waits e_r1) zc_X3_waits rfl (by decide) rfl (by decide) (Or.inl c2) zm_L_76 (Nat.le_of_ble_eq_true rfl) rfl dL_isTurn_342 ?_
  refine V_pc (pc' := 345) rfl ?_
  refine V_lconst (v := 0) dL_isTurn_345 (by decide) ?_
  refine V_lcmp dL_isTurn_346 ?_
  refine V_if_eq (tgt := 354) dL_isTurn_347 (by decide) (fun c4 => ?_) (fun c4 => ?_)
  · replace h := (oi h).1 c4
    refine V_iconst (v := 0) dL_isTurn_354 (by decide) ?_
    refine V_sub [2] rfl ?_
    exact s_L_isTurn_355 hq h
  · replace h := (oi h).2 c4
    refine V_iconst (v := 1) dL_isTurn_350 (by decide) ?_
    refine V_goto (tgt := 355) dL_isTurn_351 (by decide) ?_
    refine V_sub [2] rfl ?_
    exact s_L_isTurn_355 hq h
def f_L_isTurn_182 (a0 : Nat) (i1 : Int32) (i3 : Int32) (i4 : Int32) (i5 : Int32) (i6 : Int32) (i7 : Int32) (i8 : Int32) (i9 : Int32) (M : zM) : Option (Int32 × zM) :=
  (f_L_below ((i1 / ((5 : Int32)))) ((2 : Int32)) M).bind fun r1 =>
  if r1.1 = 0 then
  if mK r1.2 a0 = 9 then
  xn (f_X3_ofPlayer a0 i3 ((0 : Int32)) r1.2) fun w113 Mw113 =>
  if mK Mw113 a0 = 9 then
  xc (f_X3_call a0 i6 Mw113) (fun E_r194 M_r194 =>
  if E_r194 = "java/lang/IllegalStateException" then
  (f_L_isThrownAtAll a0 i3 M_r194).bind fun r270 =>
  if r270.1 = 0 ∨ r270.1 = 1 then some (r270.1, r270.2) else none
  else
  none) fun w194 Mw194 =>
  if w194 = ((w113 - ((10 : Int32)))) then
  if mK Mw194 a0 = 9 then
  xn (f_X3_ofPlayer a0 i3 ((6 : Int32)) Mw194) fun w233 Mw233 =>
  if w233 = 0 then
  if mK Mw233 a0 = 9 then
  xn (f_X3_waits a0 i3 Mw233) fun w252 Mw252 =>
  if ((lg_cmp w252 ((0 : Int64)))) = 0 then
  some ((0 : Int32), Mw252)
  else
  if mK Mw252 a0 = 9 then
  xn (f_X3_ofPlayer a0 i3 ((2 : Int32)) Mw252) fun w261 Mw261 =>
  if w261 = 0 then
  if i9 = 0 then
  some ((1 : Int32), Mw261)
  else
  some ((0 : Int32), Mw261)
  else
  some ((0 : Int32), Mw261)
  else none
  else none
  else
  some ((0 : Int32), Mw233)
  else none
  else
  some ((0 : Int32), Mw194)
  else none
  else none
  else
  if mK r1.2 a0 = 9 then
  xc (f_X3_discard a0 i6 r1.2) (fun E_r2 M_r2 =>
  if E_r2 = "java/lang/IllegalStateException" then
  (f_L_isThrownAtAll a0 i3 M_r2).bind fun r110 =>
  if r110.1 = 0 ∨ r110.1 = 1 then some (r110.1, r110.2) else none
  else
  none) fun w2 Mw2 =>
  if w2 = ((i7 + ((1 : Int32)))) then
  if mK Mw2 a0 = 9 then
  xn (f_X3_river a0 i3 i7 Mw2) fun w57 Mw57 =>
  if w57 = i6 then
  if mK Mw57 a0 = 9 then
  xn (f_X3_has a0 i3 i6 Mw57) fun w84 Mw84 =>
  if w84 = ((i8 - ((1 : Int32)))) then
  if mK Mw84 a0 = 9 then
  xn (f_X3_ofPlayer a0 i3 ((6 : Int32)) Mw84) fun w97 Mw97 =>
  if w97 < i5 then
  some ((0 : Int32), Mw97)
  else
  if i6 = i4 then
  (f_J9_max_7cf53 ((0 : Int32)) i5 Mw97).bind fun r103 =>
  if w97 = r103.1 then
  f_L_isTurn_340 a0 i3 w97 r103.2
  else
  some ((0 : Int32), r103.2)
  else
  f_L_isTurn_340 a0 i3 w97 Mw97
  else none
  else
  some ((0 : Int32), Mw84)
  else none
  else
  some ((0 : Int32), Mw57)
  else none
  else
  some ((0 : Int32), Mw2)
  else none
set_option maxRecDepth 20000 in
set_option maxHeartbeats 4000000 in
theorem s_L_isTurn_182 {L : zL} {X : zX} {M0 : zM} {N : Nat × Nat} {Q : State → Prop} {r : Int32 × zM} (hq : vQ L X M0 N Q (some (.int r.1)) r.2) {a0 : Nat} {i1 : Int32} {i3 : Int32} {i4 : Int32} {i5 : Int32} {i6 : Int32} {i7 : Int32} {i8 : Int32} {i9 : Int32} {M : zM} (h : f_L_isTurn_182 a0 i1 i3 i4 i5 i6 i7 i8 i9 M = some r) : V L X yL_isTurn cL_isTurn 12 (some FieldType.boolean) 71 M0 N Q M 182 [(0, .ref (zad L (a0))), (1, .int (i1)), (3, .int (i3)), (4, .int (i4)), (5, .int (i5)), (6, .int (i6)), (7, .int (i7)), (8, .int (i8)), (9, .int (i9))] [] := by
  unfold f_L_isTurn_182 at h
  refine V_iload_n dL_isTurn_182 rfl 1 rfl ?_
  refine V_iconst (v := 5) dL_isTurn_183 (by decide) ?_
  refine V_idiv dL_isTurn_184 (by decide) ?_
  refine V_iconst (v := 2) dL_isTurn_185 (by decide) ?_
  replace h := ob h
  obtain ⟨r1, e_r1, h⟩ := h
  refine V_callS_I (As := [.int ((i1 / ((5 : Int32)))), .int ((2 : Int32))]) (rest := []) (c_L_below e_r1) zc_L_below rfl (by decide) zm_L_22 (Nat.le_of_ble_eq_true rfl) rfl dL_isTurn_186 ?_
  refine V_pc (pc' := 189) rfl ?_
  refine V_if_ne (tgt := 254) dL_isTurn_189 (by decide) (fun c273 => ?_) (fun c273 => ?_)
  · replace h := (oi h).2 c273
    refine V_aload_n dL_isTurn_254 rfl 0 rfl ?_
    refine V_iload dL_isTurn_255 5 rfl ?_
    replace h := ox h
    obtain ⟨c3, h⟩ := h
    replace h := xcs h
    rcases h with ⟨E_r2, M_r2, e_r2, h⟩ | ⟨w2, Mw2, e_r2, h⟩
    · by_cases c112 : E_r2 = "java/lang/IllegalStateException"
      · replace h := (oi h).1 c112
        subst c112
        refine V_callVd (As := [.int (i6)]) (rest := []) (pre := [⟨104, 181, 298, 86⟩, ⟨182, 253, 298, 86⟩]) (suf := []) (x := ⟨254, 294, 298, 86⟩) (c_X3_discard e_r2) (by rw [zht_L_isTurn]; rfl) (by decide) ⟨by decide, by decide, zk_L_86, zcs_IllegalStateException⟩ zc_X3_discard rfl (by decide) rfl (by decide) (Or.inl c3) zm_L_80 (Nat.le_of_ble_eq_true rfl) rfl dL_isTurn_257 (fun q_r2 => ?_)
        refine V_astore (ls' := [(10, .ref (q_r2)), (0, .ref (zad L (a0))), (1, .int (i1)), (3, .int (i3)), (4, .int (i4)), (5, .int (i5)), (6, .int (i6)), (7, .int (i7)), (8, .int (i8)), (9, .int (i9))]) dL_isTurn_298 (by decide) rfl ?_
        refine V_aload_n dL_isTurn_300 rfl 1 rfl ?_
        refine V_iload_n dL_isTurn_301 rfl 3 rfl ?_
        replace h := ob h
        obtain ⟨r110, e_r110, h⟩ := h
        refine V_callSW_I (As := [.ref (zad L (a0)), .int (i3)]) (rest := []) (c_L_isThrownAtAll e_r110) zc_L_isThrownAtAll rfl (by decide) zm_L_88 (Nat.le_of_ble_eq_true rfl) rfl dL_isTurn_302 ?_
        refine V_pc (pc' := 305) rfl ?_
        replace h := ox h
        obtain ⟨c111, h⟩ := h
        obtain rfl := Option.some.inj h
        exact V_zret (ty := .boolean) rfl (by rcases c111 with e | e <;> rw [e] <;> rfl) hq dL_isTurn_305
      · replace h := (oi h).2 c112
        cases h
    · refine V_callVx_I (As := [.int (i6)]) (rest := []) (c_X3_discard e_r2) zc_X3_discard rfl (by decide) rfl (by decide) (Or.inl c3) zm_L_80 (Nat.le_of_ble_eq_true rfl) rfl dL_isTurn_257 ?_
      refine V_pc (pc' := 260) rfl ?_
      refine V_iload dL_isTurn_260 6 rfl ?_
      refine V_iconst (v := 1) dL_isTurn_262 (by decide) ?_
      refine V_iadd dL_isTurn_263 ?_
      refine V_icmp_ne (tgt := 293) dL_isTurn_264 (by decide) (fun c109 => ?_) (fun c109 => ?_)
      · replace h := (oi h).2 c109
        refine V_iconst (v := 0) dL_isTurn_293 (by decide) ?_
        obtain rfl := Option.some.inj h
        exact V_zret (ty := .boolean) rfl rfl hq dL_isTurn_294
      · replace h := (oi h).1 c109
        refine V_aload_n dL_isTurn_267 rfl 0 rfl ?_
        refine V_iload_n dL_isTurn_268 rfl 2 rfl ?_
        refine V_iload dL_isTurn_269 6 rfl ?_
        replace h := ox h
        obtain ⟨c58, h⟩ := h
        replace h := xns h
        obtain ⟨w57, Mw57, e_r57, h⟩ := h
        refine V_callVx_I (As := [.int (i3), .int (i7)]) (rest := []) (c_X3_river e_r57) zc_X3_river rfl (by decide) rfl (by decide) (Or.inl c58) zm_L_83 (Nat.le_of_ble_eq_true rfl) rfl dL_isTurn_271 ?_
        refine V_pc (pc' := 274) rfl ?_
        refine V_iload dL_isTurn_274 5 rfl ?_
        refine V_icmp_ne (tgt := 293) dL_isTurn_276 (by decide) (fun c108 => ?_) (fun c108 => ?_)
        · replace h := (oi h).2 c108
          refine V_iconst (v := 0) dL_isTurn_293 (by decide) ?_
          obtain rfl := Option.some.inj h
          exact V_zret (ty := .boolean) rfl rfl hq dL_isTurn_294
        · replace h := (oi h).1 c108
          refine V_aload_n dL_isTurn_279 rfl 0 rfl ?_
          refine V_iload_n dL_isTurn_280 rfl 2 rfl ?_
          refine V_iload dL_isTurn_281 5 rfl ?_
          replace h := ox h
          obtain ⟨c85, h⟩ := h
          replace h := xns h
          obtain ⟨w84, Mw84, e_r84, h⟩ := h
          refine V_callVx_I (As := [.int (i3), .int (i6)]) (rest := []) (c_X3_has e_r84) zc_X3_has rfl (by decide) rfl (by decide) (Or.inl c85) zm_L_36 (Nat.le_of_ble_eq_true rfl) rfl dL_isTurn_283 ?_
          refine V_pc (pc' := 286) rfl ?_
          refine V_iload dL_isTurn_286 7 rfl ?_
          refine V_iconst (v := 1) dL_isTurn_288 (by decide) ?_
          refine V_isub dL_isTurn_289 ?_
          refine V_icmp_eq (tgt := 295) dL_isTurn_290 (by decide) (fun c107 => ?_) (fun c107 => ?_)
          · replace h := (oi h).1 c107
            refine V_goto (tgt := 306) dL_isTurn_295 (by decide) ?_
            refine V_aload_n dL_isTurn_306 rfl 0 rfl ?_
            refine V_iload_n dL_isTurn_307 rfl 2 rfl ?_
            refine V_bipush (v := 6) dL_isTurn_308 (by decide) ?_
            replace h := ox h
            obtain ⟨c98, h⟩ := h
            replace h := xns h
            obtain ⟨w97, Mw97, e_r97, h⟩ := h
            refine V_callVx_I (As := [.int (i3), .int ((6 : Int32))]) (rest := []) (c_X3_ofPlayer e_r97) zc_X3_ofPlayer rfl (by decide) rfl (by decide) (Or.inl c98) zm_L_29 (Nat.le_of_ble_eq_true rfl) rfl dL_isTurn_310 ?_
            refine V_pc (pc' := 313) rfl ?_
            refine V_istore (ls' := [(10, .int (w97)), (0, .ref (zad L (a0))), (1, .int (i1)), (3, .int (i3)), (4, .int (i4)), (5, .int (i5)), (6, .int (i6)), (7, .int (i7)), (8, .int (i8)), (9, .int (i9))]) dL_isTurn_313 (by decide) rfl ?_
            refine V_iload dL_isTurn_315 0 rfl ?_
            refine V_iload dL_isTurn_317 5 rfl ?_
            refine V_icmp_lt (tgt := 372) dL_isTurn_319 (by decide) (fun c106 => ?_) (fun c106 => ?_)
            · replace h := (oi h).1 c106
              refine V_iconst (v := 0) dL_isTurn_372 (by decide) ?_
              obtain rfl := Option.some.inj h
              exact V_zret (ty := .boolean) rfl rfl hq dL_isTurn_373
            · replace h := (oi h).2 c106
              refine V_iload dL_isTurn_322 6 rfl ?_
              refine V_iload dL_isTurn_324 4 rfl ?_
              refine V_icmp_ne (tgt := 340) dL_isTurn_326 (by decide) (fun c105 => ?_) (fun c105 => ?_)
              · replace h := (oi h).2 c105
                refine V_sub [1, 3, 0] rfl ?_
                exact s_L_isTurn_340 hq h
              · replace h := (oi h).1 c105
                refine V_iload dL_isTurn_329 0 rfl ?_
                refine V_iconst (v := 0) dL_isTurn_331 (by decide) ?_
                refine V_iload dL_isTurn_332 5 rfl ?_
                replace h := ob h
                obtain ⟨r103, e_r103, h⟩ := h
                refine V_callS_I (As := [.int ((0 : Int32)), .int (i5)]) (rest := [.int (w97)]) (c_J9_max_7cf53 e_r103) zc_J9_max_7cf53 rfl (by decide) zm_L_91 (Nat.le_of_ble_eq_true rfl) rfl dL_isTurn_334 ?_
                refine V_pc (pc' := 337) rfl ?_
                refine V_icmp_ne (tgt := 372) dL_isTurn_337 (by decide) (fun c104 => ?_) (fun c104 => ?_)
                · replace h := (oi h).2 c104
                  refine V_iconst (v := 0) dL_isTurn_372 (by decide) ?_
                  obtain rfl := Option.some.inj h
                  exact V_zret (ty := .boolean) rfl rfl hq dL_isTurn_373
                · replace h := (oi h).1 c104
                  refine V_sub [1, 3, 0] rfl ?_
                  exact s_L_isTurn_340 hq h
          · replace h := (oi h).2 c107
            refine V_iconst (v := 0) dL_isTurn_293 (by decide) ?_
            obtain rfl := Option.some.inj h
            exact V_zret (ty := .boolean) rfl rfl hq dL_isTurn_294
  · replace h := (oi h).1 c273
    refine V_aload_n dL_isTurn_192 rfl 0 rfl ?_
    refine V_iload_n dL_isTurn_193 rfl 2 rfl ?_
    refine V_iconst (v := 0) dL_isTurn_194 (by decide) ?_
    replace h := ox h
    obtain ⟨c114, h⟩ := h
    replace h := xns h
    obtain ⟨w113, Mw113, e_r113, h⟩ := h
    refine V_callVx_I (As := [.int (i3), .int ((0 : Int32))]) (rest := []) (c_X3_ofPlayer e_r113) zc_X3_ofPlayer rfl (by decide) rfl (by decide) (Or.inl c114) zm_L_29 (Nat.le_of_ble_eq_true rfl) rfl dL_isTurn_195 ?_
    refine V_pc (pc' := 198) rfl ?_
    refine V_istore (ls' := [(10, .int (w113)), (0, .ref (zad L (a0))), (1, .int (i1)), (3, .int (i3)), (4, .int (i4)), (5, .int (i5)), (6, .int (i6)), (7, .int (i7)), (8, .int (i8)), (9, .int (i9))]) dL_isTurn_198 (by decide) rfl ?_
    refine V_aload_n dL_isTurn_200 rfl 1 rfl ?_
    refine V_iload dL_isTurn_201 6 rfl ?_
    replace h := ox h
    obtain ⟨c195, h⟩ := h
    replace h := xcs h
    rcases h with ⟨E_r194, M_r194, e_r194, h⟩ | ⟨w194, Mw194, e_r194, h⟩
    · by_cases c272 : E_r194 = "java/lang/IllegalStateException"
      · replace h := (oi h).1 c272
        subst c272
        refine V_callVd (As := [.int (i6)]) (rest := []) (pre := [⟨104, 181, 298, 86⟩]) (suf := [⟨254, 294, 298, 86⟩]) (x := ⟨182, 253, 298, 86⟩) (c_X3_call e_r194) (by rw [zht_L_isTurn]; rfl) (by decide) ⟨by decide, by decide, zk_L_86, zcs_IllegalStateException⟩ zc_X3_call rfl (by decide) rfl (by decide) (Or.inl c195) zm_L_73 (Nat.le_of_ble_eq_true rfl) rfl dL_isTurn_203 (fun q_r194 => ?_)
        refine V_astore (ls' := [(10, .ref (q_r194)), (0, .ref (zad L (a0))), (1, .int (i1)), (3, .int (i3)), (4, .int (i4)), (5, .int (i5)), (6, .int (i6)), (7, .int (i7)), (8, .int (i8)), (9, .int (i9))]) dL_isTurn_298 (by decide) rfl ?_
        refine V_aload_n dL_isTurn_300 rfl 1 rfl ?_
        refine V_iload_n dL_isTurn_301 rfl 3 rfl ?_
        replace h := ob h
        obtain ⟨r270, e_r270, h⟩ := h
        refine V_callSW_I (As := [.ref (zad L (a0)), .int (i3)]) (rest := []) (c_L_isThrownAtAll e_r270) zc_L_isThrownAtAll rfl (by decide) zm_L_88 (Nat.le_of_ble_eq_true rfl) rfl dL_isTurn_302 ?_
        refine V_pc (pc' := 305) rfl ?_
        replace h := ox h
        obtain ⟨c271, h⟩ := h
        obtain rfl := Option.some.inj h
        exact V_zret (ty := .boolean) rfl (by rcases c271 with e | e <;> rw [e] <;> rfl) hq dL_isTurn_305
      · replace h := (oi h).2 c272
        cases h
    · refine V_callVx_I (As := [.int (i6)]) (rest := []) (c_X3_call e_r194) zc_X3_call rfl (by decide) rfl (by decide) (Or.inl c195) zm_L_73 (Nat.le_of_ble_eq_true rfl) rfl dL_isTurn_203 ?_
      refine V_pc (pc' := 206) rfl ?_
      refine V_iload dL_isTurn_206 0 rfl ?_
      refine V_bipush (v := 10) dL_isTurn_208 (by decide) ?_
      refine V_isub dL_isTurn_210 ?_
      refine V_icmp_ne (tgt := 252) dL_isTurn_211 (by decide) (fun c269 => ?_) (fun c269 => ?_)
      · replace h := (oi h).2 c269
        refine V_iconst (v := 0) dL_isTurn_252 (by decide) ?_
        obtain rfl := Option.some.inj h
        exact V_zret (ty := .boolean) rfl rfl hq dL_isTurn_253
      · replace h := (oi h).1 c269
        refine V_aload_n dL_isTurn_214 rfl 1 rfl ?_
        refine V_iload_n dL_isTurn_215 rfl 3 rfl ?_
        refine V_bipush (v := 6) dL_isTurn_216 (by decide) ?_
        replace h := ox h
        obtain ⟨c234, h⟩ := h
        replace h := xns h
        obtain ⟨w233, Mw233, e_r233, h⟩ := h
        refine V_callVx_I (As := [.int (i3), .int ((6 : Int32))]) (rest := []) (c_X3_ofPlayer e_r233) zc_X3_ofPlayer rfl (by decide) rfl (by decide) (Or.inl c234) zm_L_29 (Nat.le_of_ble_eq_true rfl) rfl dL_isTurn_218 ?_
        refine V_pc (pc' := 221) rfl ?_
        refine V_if_ne (tgt := 252) dL_isTurn_221 (by decide) (fun c268 => ?_) (fun c268 => ?_)
        · replace h := (oi h).2 c268
          refine V_iconst (v := 0) dL_isTurn_252 (by decide) ?_
          obtain rfl := Option.some.inj h
          exact V_zret (ty := .boolean) rfl rfl hq dL_isTurn_253
        · replace h := (oi h).1 c268
          refine V_aload_n dL_isTurn_224 rfl 1 rfl ?_
          refine V_iload_n dL_isTurn_225 rfl 3 rfl ?_
          replace h := ox h
          obtain ⟨c253, h⟩ := h
          replace h := xns h
          obtain ⟨w252, Mw252, e_r252, h⟩ := h
          refine V_callVx_J (As := [.int (i3)]) (rest := []) (c_X3_waits e_r252) zc_X3_waits rfl (by decide) rfl (by decide) (Or.inl c253) zm_L_76 (Nat.le_of_ble_eq_true rfl) rfl dL_isTurn_226 ?_
          refine V_pc (pc' := 229) rfl ?_
          refine V_lconst (v := 0) dL_isTurn_229 (by decide) ?_
          refine V_lcmp dL_isTurn_230 ?_
          refine V_if_eq (tgt := 252) dL_isTurn_231 (by decide) (fun c267 => ?_) (fun c267 => ?_)
          · replace h := (oi h).1 c267
            refine V_iconst (v := 0) dL_isTurn_252 (by decide) ?_
            obtain rfl := Option.some.inj h
            exact V_zret (ty := .boolean) rfl rfl hq dL_isTurn_253
          · replace h := (oi h).2 c267
            refine V_aload_n dL_isTurn_234 rfl 1 rfl ?_
            refine V_iload_n dL_isTurn_235 rfl 3 rfl ?_
            refine V_iconst (v := 2) dL_isTurn_236 (by decide) ?_
            replace h := ox h
            obtain ⟨c262, h⟩ := h
            replace h := xns h
            obtain ⟨w261, Mw261, e_r261, h⟩ := h
            refine V_callVx_I (As := [.int (i3), .int ((2 : Int32))]) (rest := []) (c_X3_ofPlayer e_r261) zc_X3_ofPlayer rfl (by decide) rfl (by decide) (Or.inl c262) zm_L_29 (Nat.le_of_ble_eq_true rfl) rfl dL_isTurn_237 ?_
            refine V_pc (pc' := 240) rfl ?_
            refine V_if_ne (tgt := 252) dL_isTurn_240 (by decide) (fun c266 => ?_) (fun c266 => ?_)
            · replace h := (oi h).2 c266
              refine V_iconst (v := 0) dL_isTurn_252 (by decide) ?_
              obtain rfl := Option.some.inj h
              exact V_zret (ty := .boolean) rfl rfl hq dL_isTurn_253
            · replace h := (oi h).1 c266
              refine V_iload dL_isTurn_243 9 rfl ?_
              refine V_if_ne (tgt := 252) dL_isTurn_245 (by decide) (fun c265 => ?_) (fun c265 => ?_)
              · replace h := (oi h).2 c265
                refine V_iconst (v := 0) dL_isTurn_252 (by decide) ?_
                obtain rfl := Option.some.inj h
                exact V_zret (ty := .boolean) rfl rfl hq dL_isTurn_253
              · replace h := (oi h).1 c265
                refine V_iconst (v := 1) dL_isTurn_248 (by decide) ?_
                refine V_goto (tgt := 253) dL_isTurn_249 (by decide) ?_
                obtain rfl := Option.some.inj h
                exact V_zret (ty := .boolean) rfl rfl hq dL_isTurn_253
def f_L_isTurn_102 (a0 : Nat) (i1 : Int32) (i3 : Int32) (i4 : Int32) (i5 : Int32) (i6 : Int32) (i7 : Int32) (i8 : Int32) (i_0 : Int32) (M : zM) : Option (Int32 × zM) :=
  (f_L_below ((i1 / ((3 : Int32)))) ((3 : Int32)) M).bind fun r1 =>
  if r1.1 = 0 then
  if i8 = ((4 : Int32)) then
  if mK r1.2 a0 = 9 then
  xn (f_X3_ofPlayer a0 i3 ((1 : Int32)) r1.2) fun w2 Mw2 =>
  if mK Mw2 a0 = 9 then
  xc (f_X3_four a0 i6 Mw2) (fun E_r73 M_r73 =>
  if E_r73 = "java/lang/IllegalStateException" then
  (f_L_isThrownAtAll a0 i3 M_r73).bind fun r139 =>
  if r139.1 = 0 ∨ r139.1 = 1 then some (r139.1, r139.2) else none
  else
  none) fun w73 Mw73 =>
  if mK Mw73 a0 = 9 then
  xn (f_X3_ofSet a0 i3 w2 Mw73) fun w107 Mw107 =>
  if w107 = ((((300 : Int32)) + i6)) then
  if mK Mw107 a0 = 9 then
  xn (f_X3_has a0 i3 w73 Mw107) fun w124 Mw124 =>
  if w124 ≤ 0 then
  some ((0 : Int32), Mw124)
  else
  if i_0 = 0 then
  if mK Mw124 a0 = 9 then
  xn (f_X3_many a0 ((5 : Int32)) Mw124) fun w132 Mw132 =>
  if ((5 : Int32)) ≤ w132 then
  some ((0 : Int32), Mw132)
  else
  some ((1 : Int32), Mw132)
  else none
  else
  some ((0 : Int32), Mw124)
  else none
  else
  some ((0 : Int32), Mw107)
  else none
  else none
  else none
  else
  f_L_isTurn_182 a0 i1 i3 i4 i5 i6 i7 i8 i_0 r1.2
  else
  f_L_isTurn_182 a0 i1 i3 i4 i5 i6 i7 i8 i_0 r1.2
set_option maxRecDepth 20000 in
set_option maxHeartbeats 4000000 in
theorem s_L_isTurn_102 {L : zL} {X : zX} {M0 : zM} {N : Nat × Nat} {Q : State → Prop} {r : Int32 × zM} (hq : vQ L X M0 N Q (some (.int r.1)) r.2) {a0 : Nat} {i1 : Int32} {i3 : Int32} {i4 : Int32} {i5 : Int32} {i6 : Int32} {i7 : Int32} {i8 : Int32} {i_0 : Int32} {M : zM} (h : f_L_isTurn_102 a0 i1 i3 i4 i5 i6 i7 i8 i_0 M = some r) : V L X yL_isTurn cL_isTurn 12 (some FieldType.boolean) 71 M0 N Q M 102 [(0, .ref (zad L (a0))), (1, .int (i1)), (3, .int (i3)), (4, .int (i4)), (5, .int (i5)), (6, .int (i6)), (7, .int (i7)), (8, .int (i8))] [.int (i_0)] := by
  unfold f_L_isTurn_102 at h
  refine V_istore (ls' := [(9, .int (i_0)), (0, .ref (zad L (a0))), (1, .int (i1)), (3, .int (i3)), (4, .int (i4)), (5, .int (i5)), (6, .int (i6)), (7, .int (i7)), (8, .int (i8))]) dL_isTurn_102 (by decide) rfl ?_
  refine V_iload_n dL_isTurn_104 rfl 2 rfl ?_
  refine V_iconst (v := 3) dL_isTurn_105 (by decide) ?_
  refine V_idiv dL_isTurn_106 (by decide) ?_
  refine V_iconst (v := 3) dL_isTurn_107 (by decide) ?_
  replace h := ob h
  obtain ⟨r1, e_r1, h⟩ := h
  refine V_callS_I (As := [.int ((i1 / ((3 : Int32)))), .int ((3 : Int32))]) (rest := []) (c_L_below e_r1) zc_L_below rfl (by decide) zm_L_22 (Nat.le_of_ble_eq_true rfl) rfl dL_isTurn_108 ?_
  refine V_pc (pc' := 111) rfl ?_
  refine V_if_ne (tgt := 182) dL_isTurn_111 (by decide) (fun c143 => ?_) (fun c143 => ?_)
  · replace h := (oi h).2 c143
    refine V_sub [1, 2, 3, 4, 5, 6, 7, 8, 0] rfl ?_
    exact s_L_isTurn_182 hq h
  · replace h := (oi h).1 c143
    refine V_iload dL_isTurn_114 8 rfl ?_
    refine V_iconst (v := 4) dL_isTurn_116 (by decide) ?_
    refine V_icmp_ne (tgt := 182) dL_isTurn_117 (by decide) (fun c142 => ?_) (fun c142 => ?_)
    · replace h := (oi h).2 c142
      refine V_sub [1, 2, 3, 4, 5, 6, 7, 8, 0] rfl ?_
      exact s_L_isTurn_182 hq h
    · replace h := (oi h).1 c142
      refine V_aload_n dL_isTurn_120 rfl 1 rfl ?_
      refine V_iload_n dL_isTurn_121 rfl 3 rfl ?_
      refine V_iconst (v := 1) dL_isTurn_122 (by decide) ?_
      replace h := ox h
      obtain ⟨c3, h⟩ := h
      replace h := xns h
      obtain ⟨w2, Mw2, e_r2, h⟩ := h
      refine V_callVx_I (As := [.int (i3), .int ((1 : Int32))]) (rest := []) (c_X3_ofPlayer e_r2) zc_X3_ofPlayer rfl (by decide) rfl (by decide) (Or.inl c3) zm_L_29 (Nat.le_of_ble_eq_true rfl) rfl dL_isTurn_123 ?_
      refine V_pc (pc' := 126) rfl ?_
      refine V_istore (ls' := [(10, .int (w2)), (9, .int (i_0)), (0, .ref (zad L (a0))), (1, .int (i1)), (3, .int (i3)), (4, .int (i4)), (5, .int (i5)), (6, .int (i6)), (7, .int (i7)), (8, .int (i8))]) dL_isTurn_126 (by decide) rfl ?_
      refine V_aload_n dL_isTurn_128 rfl 2 rfl ?_
      refine V_iload dL_isTurn_129 7 rfl ?_
      replace h := ox h
      obtain ⟨c74, h⟩ := h
      replace h := xcs h
      rcases h with ⟨E_r73, M_r73, e_r73, h⟩ | ⟨w73, Mw73, e_r73, h⟩
      · by_cases c141 : E_r73 = "java/lang/IllegalStateException"
        · replace h := (oi h).1 c141
          subst c141
          refine V_callVd (As := [.int (i6)]) (rest := []) (pre := []) (suf := [⟨182, 253, 298, 86⟩, ⟨254, 294, 298, 86⟩]) (x := ⟨104, 181, 298, 86⟩) (c_X3_four e_r73) (by rw [zht_L_isTurn]; rfl) (by decide) ⟨by decide, by decide, zk_L_86, zcs_IllegalStateException⟩ zc_X3_four rfl (by decide) rfl (by decide) (Or.inl c74) zm_L_67 (Nat.le_of_ble_eq_true rfl) rfl dL_isTurn_131 (fun q_r73 => ?_)
          refine V_astore (ls' := [(10, .ref (q_r73)), (9, .int (i_0)), (0, .ref (zad L (a0))), (1, .int (i1)), (3, .int (i3)), (4, .int (i4)), (5, .int (i5)), (6, .int (i6)), (7, .int (i7)), (8, .int (i8))]) dL_isTurn_298 (by decide) rfl ?_
          refine V_aload_n dL_isTurn_300 rfl 2 rfl ?_
          refine V_iload_n dL_isTurn_301 rfl 4 rfl ?_
          replace h := ob h
          obtain ⟨r139, e_r139, h⟩ := h
          refine V_callSW_I (As := [.ref (zad L (a0)), .int (i3)]) (rest := []) (c_L_isThrownAtAll e_r139) zc_L_isThrownAtAll rfl (by decide) zm_L_88 (Nat.le_of_ble_eq_true rfl) rfl dL_isTurn_302 ?_
          refine V_pc (pc' := 305) rfl ?_
          replace h := ox h
          obtain ⟨c140, h⟩ := h
          obtain rfl := Option.some.inj h
          exact V_zret (ty := .boolean) rfl (by rcases c140 with e | e <;> rw [e] <;> rfl) hq dL_isTurn_305
        · replace h := (oi h).2 c141
          cases h
      · refine V_callVx_I (As := [.int (i6)]) (rest := []) (c_X3_four e_r73) zc_X3_four rfl (by decide) rfl (by decide) (Or.inl c74) zm_L_67 (Nat.le_of_ble_eq_true rfl) rfl dL_isTurn_131 ?_
        refine V_pc (pc' := 134) rfl ?_
        refine V_istore (ls' := [(11, .int (w73)), (10, .int (w2)), (9, .int (i_0)), (0, .ref (zad L (a0))), (1, .int (i1)), (3, .int (i3)), (4, .int (i4)), (5, .int (i5)), (6, .int (i6)), (7, .int (i7)), (8, .int (i8))]) dL_isTurn_134 (by decide) rfl ?_
        refine V_aload_n dL_isTurn_136 rfl 3 rfl ?_
        refine V_iload_n dL_isTurn_137 rfl 5 rfl ?_
        refine V_iload dL_isTurn_138 1 rfl ?_
        replace h := ox h
        obtain ⟨c108, h⟩ := h
        replace h := xns h
        obtain ⟨w107, Mw107, e_r107, h⟩ := h
        refine V_callVx_I (As := [.int (i3), .int (w2)]) (rest := []) (c_X3_ofSet e_r107) zc_X3_ofSet rfl (by decide) rfl (by decide) (Or.inl c108) zm_L_70 (Nat.le_of_ble_eq_true rfl) rfl dL_isTurn_140 ?_
        refine V_pc (pc' := 143) rfl ?_
        refine V_sipush (v := 300) dL_isTurn_143 (by decide) ?_
        refine V_iload dL_isTurn_146 8 rfl ?_
        refine V_iadd dL_isTurn_148 ?_
        refine V_icmp_ne (tgt := 180) dL_isTurn_149 (by decide) (fun c138 => ?_) (fun c138 => ?_)
        · replace h := (oi h).2 c138
          refine V_iconst (v := 0) dL_isTurn_180 (by decide) ?_
          obtain rfl := Option.some.inj h
          exact V_zret (ty := .boolean) rfl rfl hq dL_isTurn_181
        · replace h := (oi h).1 c138
          refine V_aload_n dL_isTurn_152 rfl 3 rfl ?_
          refine V_iload_n dL_isTurn_153 rfl 5 rfl ?_
          refine V_iload dL_isTurn_154 0 rfl ?_
          replace h := ox h
          obtain ⟨c125, h⟩ := h
          replace h := xns h
          obtain ⟨w124, Mw124, e_r124, h⟩ := h
          refine V_callVx_I (As := [.int (i3), .int (w73)]) (rest := []) (c_X3_has e_r124) zc_X3_has rfl (by decide) rfl (by decide) (Or.inl c125) zm_L_36 (Nat.le_of_ble_eq_true rfl) rfl dL_isTurn_156 ?_
          refine V_pc (pc' := 159) rfl ?_
          refine V_if_le (tgt := 180) dL_isTurn_159 (by decide) (fun c137 => ?_) (fun c137 => ?_)
          · replace h := (oi h).1 c137
            refine V_iconst (v := 0) dL_isTurn_180 (by decide) ?_
            obtain rfl := Option.some.inj h
            exact V_zret (ty := .boolean) rfl rfl hq dL_isTurn_181
          · replace h := (oi h).2 c137
            refine V_iload dL_isTurn_162 2 rfl ?_
            refine V_if_ne (tgt := 180) dL_isTurn_164 (by decide) (fun c136 => ?_) (fun c136 => ?_)
            · replace h := (oi h).2 c136
              refine V_iconst (v := 0) dL_isTurn_180 (by decide) ?_
              obtain rfl := Option.some.inj h
              exact V_zret (ty := .boolean) rfl rfl hq dL_isTurn_181
            · replace h := (oi h).1 c136
              refine V_aload_n dL_isTurn_167 rfl 3 rfl ?_
              refine V_iconst (v := 5) dL_isTurn_168 (by decide) ?_
              replace h := ox h
              obtain ⟨c133, h⟩ := h
              replace h := xns h
              obtain ⟨w132, Mw132, e_r132, h⟩ := h
              refine V_callVx_I (As := [.int ((5 : Int32))]) (rest := []) (c_X3_many e_r132) zc_X3_many rfl (by decide) rfl (by decide) (Or.inl c133) zm_L_18 (Nat.le_of_ble_eq_true rfl) rfl dL_isTurn_169 ?_
              refine V_pc (pc' := 172) rfl ?_
              refine V_iconst (v := 5) dL_isTurn_172 (by decide) ?_
              refine V_icmp_ge (tgt := 180) dL_isTurn_173 (by decide) (fun c135 => ?_) (fun c135 => ?_)
              · replace h := (oi h).1 c135
                refine V_iconst (v := 0) dL_isTurn_180 (by decide) ?_
                obtain rfl := Option.some.inj h
                exact V_zret (ty := .boolean) rfl rfl hq dL_isTurn_181
              · replace h := (oi h).2 c135
                refine V_iconst (v := 1) dL_isTurn_176 (by decide) ?_
                refine V_goto (tgt := 181) dL_isTurn_177 (by decide) ?_
                obtain rfl := Option.some.inj h
                exact V_zret (ty := .boolean) rfl rfl hq dL_isTurn_181
def f_L_isTurn_56 (a0 : Nat) (i1 : Int32) (i3 : Int32) (i4 : Int32) (i5 : Int32) (i_0 : Int32) (M : zM) : Option (Int32 × zM) :=
  if mK M a0 = 9 then
  xn (f_X3_has a0 i3 i4 M) fun w1 Mw1 =>
  if w1 = 0 then
  some ((0 : Int32), Mw1)
  else
  if mK Mw1 a0 = 9 then
  xn (f_X3_ofPlayer a0 i3 ((4 : Int32)) Mw1) fun w26 Mw26 =>
  if mK Mw26 a0 = 9 then
  xn (f_X3_has a0 i3 i_0 Mw26) fun w38 Mw38 =>
  if mK Mw38 a0 = 9 then
  xn (f_X3_ofPlayer a0 i3 ((5 : Int32)) Mw38) fun w44 Mw44 =>
  if w44 = ((1 : Int32)) then
  f_L_isTurn_102 a0 i1 i3 i4 i5 i_0 w26 w38 ((1 : Int32)) Mw44
  else
  f_L_isTurn_102 a0 i1 i3 i4 i5 i_0 w26 w38 ((0 : Int32)) Mw44
  else none
  else none
  else none
  else none
set_option maxRecDepth 20000 in
set_option maxHeartbeats 4000000 in
theorem s_L_isTurn_56 {L : zL} {X : zX} {M0 : zM} {N : Nat × Nat} {Q : State → Prop} {r : Int32 × zM} (hq : vQ L X M0 N Q (some (.int r.1)) r.2) {a0 : Nat} {i1 : Int32} {i3 : Int32} {i4 : Int32} {i5 : Int32} {i_0 : Int32} {M : zM} (h : f_L_isTurn_56 a0 i1 i3 i4 i5 i_0 M = some r) : V L X yL_isTurn cL_isTurn 12 (some FieldType.boolean) 71 M0 N Q M 56 [(0, .ref (zad L (a0))), (1, .int (i1)), (3, .int (i3)), (4, .int (i4)), (5, .int (i5))] [.int (i_0)] := by
  unfold f_L_isTurn_56 at h
  refine V_istore (ls' := [(6, .int (i_0)), (0, .ref (zad L (a0))), (1, .int (i1)), (3, .int (i3)), (4, .int (i4)), (5, .int (i5))]) dL_isTurn_56 (by decide) rfl ?_
  refine V_aload_n dL_isTurn_58 rfl 1 rfl ?_
  refine V_iload_n dL_isTurn_59 rfl 3 rfl ?_
  refine V_iload dL_isTurn_60 4 rfl ?_
  replace h := ox h
  obtain ⟨c2, h⟩ := h
  replace h := xns h
  obtain ⟨w1, Mw1, e_r1, h⟩ := h
  refine V_callVx_I (As := [.int (i3), .int (i4)]) (rest := []) (c_X3_has e_r1) zc_X3_has rfl (by decide) rfl (by decide) (Or.inl c2) zm_L_36 (Nat.le_of_ble_eq_true rfl) rfl dL_isTurn_62 ?_
  refine V_pc (pc' := 65) rfl ?_
  refine V_if_ne (tgt := 70) dL_isTurn_65 (by decide) (fun c48 => ?_) (fun c48 => ?_)
  · replace h := (oi h).2 c48
    refine V_aload_n dL_isTurn_70 rfl 1 rfl ?_
    refine V_iload_n dL_isTurn_71 rfl 3 rfl ?_
    refine V_iconst (v := 4) dL_isTurn_72 (by decide) ?_
    replace h := ox h
    obtain ⟨c27, h⟩ := h
    replace h := xns h
    obtain ⟨w26, Mw26, e_r26, h⟩ := h
    refine V_callVx_I (As := [.int (i3), .int ((4 : Int32))]) (rest := []) (c_X3_ofPlayer e_r26) zc_X3_ofPlayer rfl (by decide) rfl (by decide) (Or.inl c27) zm_L_29 (Nat.le_of_ble_eq_true rfl) rfl dL_isTurn_73 ?_
    refine V_pc (pc' := 76) rfl ?_
    refine V_istore (ls' := [(7, .int (w26)), (6, .int (i_0)), (0, .ref (zad L (a0))), (1, .int (i1)), (3, .int (i3)), (4, .int (i4)), (5, .int (i5))]) dL_isTurn_76 (by decide) rfl ?_
    refine V_aload_n dL_isTurn_78 rfl 2 rfl ?_
    refine V_iload_n dL_isTurn_79 rfl 4 rfl ?_
    refine V_iload dL_isTurn_80 1 rfl ?_
    replace h := ox h
    obtain ⟨c39, h⟩ := h
    replace h := xns h
    obtain ⟨w38, Mw38, e_r38, h⟩ := h
    refine V_callVx_I (As := [.int (i3), .int (i_0)]) (rest := []) (c_X3_has e_r38) zc_X3_has rfl (by decide) rfl (by decide) (Or.inl c39) zm_L_36 (Nat.le_of_ble_eq_true rfl) rfl dL_isTurn_82 ?_
    refine V_pc (pc' := 85) rfl ?_
    refine V_istore (ls' := [(8, .int (w38)), (7, .int (w26)), (6, .int (i_0)), (0, .ref (zad L (a0))), (1, .int (i1)), (3, .int (i3)), (4, .int (i4)), (5, .int (i5))]) dL_isTurn_85 (by decide) rfl ?_
    refine V_aload_n dL_isTurn_87 rfl 3 rfl ?_
    refine V_iload_n dL_isTurn_88 rfl 5 rfl ?_
    refine V_iconst (v := 5) dL_isTurn_89 (by decide) ?_
    replace h := ox h
    obtain ⟨c45, h⟩ := h
    replace h := xns h
    obtain ⟨w44, Mw44, e_r44, h⟩ := h
    refine V_callVx_I (As := [.int (i3), .int ((5 : Int32))]) (rest := []) (c_X3_ofPlayer e_r44) zc_X3_ofPlayer rfl (by decide) rfl (by decide) (Or.inl c45) zm_L_29 (Nat.le_of_ble_eq_true rfl) rfl dL_isTurn_90 ?_
    refine V_pc (pc' := 93) rfl ?_
    refine V_iconst (v := 1) dL_isTurn_93 (by decide) ?_
    refine V_icmp_ne (tgt := 101) dL_isTurn_94 (by decide) (fun c47 => ?_) (fun c47 => ?_)
    · replace h := (oi h).2 c47
      refine V_iconst (v := 0) dL_isTurn_101 (by decide) ?_
      refine V_sub [3, 4, 5, 6, 7, 2, 1, 0] rfl ?_
      exact s_L_isTurn_102 hq h
    · replace h := (oi h).1 c47
      refine V_iconst (v := 1) dL_isTurn_97 (by decide) ?_
      refine V_goto (tgt := 102) dL_isTurn_98 (by decide) ?_
      refine V_sub [3, 4, 5, 6, 7, 2, 1, 0] rfl ?_
      exact s_L_isTurn_102 hq h
  · replace h := (oi h).1 c48
    refine V_iconst (v := 0) dL_isTurn_68 (by decide) ?_
    obtain rfl := Option.some.inj h
    exact V_zret (ty := .boolean) rfl rfl hq dL_isTurn_69
def f_L_isTurn_37 (a0 : Nat) (i1 : Int32) (i2 : Int32) (i3 : Int32) (i4 : Int32) (i5 : Int32) (M : zM) : Option (Int32 × zM) :=
  (f_L_below i1 ((3 : Int32)) M).bind fun r1 =>
  if r1.1 ≤ 0 then
  (f_L_below i2 ((25 : Int32)) r1.2).bind fun r2 =>
  f_L_isTurn_56 a0 i1 i3 i4 i5 r2.1 r2.2
  else
  f_L_isTurn_56 a0 i1 i3 i4 i5 i4 r1.2
set_option maxRecDepth 20000 in
set_option maxHeartbeats 4000000 in
theorem s_L_isTurn_37 {L : zL} {X : zX} {M0 : zM} {N : Nat × Nat} {Q : State → Prop} {r : Int32 × zM} (hq : vQ L X M0 N Q (some (.int r.1)) r.2) {a0 : Nat} {i1 : Int32} {i2 : Int32} {i3 : Int32} {i4 : Int32} {i5 : Int32} {M : zM} (h : f_L_isTurn_37 a0 i1 i2 i3 i4 i5 M = some r) : V L X yL_isTurn cL_isTurn 12 (some FieldType.boolean) 71 M0 N Q M 37 [(0, .ref (zad L (a0))), (1, .int (i1)), (2, .int (i2)), (3, .int (i3)), (4, .int (i4)), (5, .int (i5))] [] := by
  unfold f_L_isTurn_37 at h
  refine V_iload_n dL_isTurn_37 rfl 1 rfl ?_
  refine V_iconst (v := 3) dL_isTurn_38 (by decide) ?_
  replace h := ob h
  obtain ⟨r1, e_r1, h⟩ := h
  refine V_callS_I (As := [.int (i1), .int ((3 : Int32))]) (rest := []) (c_L_below e_r1) zc_L_below rfl (by decide) zm_L_22 (Nat.le_of_ble_eq_true rfl) rfl dL_isTurn_39 ?_
  refine V_pc (pc' := 42) rfl ?_
  refine V_if_le (tgt := 50) dL_isTurn_42 (by decide) (fun c3 => ?_) (fun c3 => ?_)
  · replace h := (oi h).1 c3
    refine V_iload_n dL_isTurn_50 rfl 2 rfl ?_
    refine V_bipush (v := 25) dL_isTurn_51 (by decide) ?_
    replace h := ob h
    obtain ⟨r2, e_r2, h⟩ := h
    refine V_callS_I (As := [.int (i2), .int ((25 : Int32))]) (rest := []) (c_L_below e_r2) zc_L_below rfl (by decide) zm_L_22 (Nat.le_of_ble_eq_true rfl) rfl dL_isTurn_53 ?_
    refine V_pc (pc' := 56) rfl ?_
    refine V_sub [0, 1, 3, 4, 5] rfl ?_
    exact s_L_isTurn_56 hq h
  · replace h := (oi h).2 c3
    refine V_iload dL_isTurn_45 4 rfl ?_
    refine V_goto (tgt := 56) dL_isTurn_47 (by decide) ?_
    refine V_sub [0, 1, 3, 4, 5] rfl ?_
    exact s_L_isTurn_56 hq h
def f_L_isTurn_0 (a0 : Nat) (i1 : Int32) (i2 : Int32) (M : zM) : Option (Int32 × zM) :=
  if mK M a0 = 9 then
  xn (f_X3_many a0 ((1 : Int32)) M) fun w1 Mw1 =>
  if mK Mw1 a0 = 9 then
  (f_X3_best a0 Mw1).bind fun r13 =>
  if mK r13.2 a0 = 9 then
  xn (f_X3_ofPlayer a0 w1 ((6 : Int32)) r13.2) fun w15 Mw15 =>
  if w15 = ((-1 : Int32)) then
  (f_L_isWon a0 w1 Mw15).bind fun r20 =>
  if r20.1 = 0 then
  f_L_isTurn_37 a0 i1 i2 w1 r13.1 w15 r20.2
  else
  some ((1 : Int32), r20.2)
  else
  f_L_isTurn_37 a0 i1 i2 w1 r13.1 w15 Mw15
  else none
  else none
  else none
set_option maxRecDepth 20000 in
set_option maxHeartbeats 4000000 in
theorem s_L_isTurn_0 {L : zL} {X : zX} {M0 : zM} {N : Nat × Nat} {Q : State → Prop} {r : Int32 × zM} (hq : vQ L X M0 N Q (some (.int r.1)) r.2) {a0 : Nat} {i1 : Int32} {i2 : Int32} {M : zM} (h : f_L_isTurn_0 a0 i1 i2 M = some r) : V L X yL_isTurn cL_isTurn 12 (some FieldType.boolean) 71 M0 N Q M 0 [(0, .ref (zad L (a0))), (1, .int (i1)), (2, .int (i2))] [] := by
  unfold f_L_isTurn_0 at h
  refine V_aload_n dL_isTurn_0 rfl 0 rfl ?_
  refine V_iconst (v := 1) dL_isTurn_1 (by decide) ?_
  replace h := ox h
  obtain ⟨c2, h⟩ := h
  replace h := xns h
  obtain ⟨w1, Mw1, e_r1, h⟩ := h
  refine V_callVx_I (As := [.int ((1 : Int32))]) (rest := []) (c_X3_many e_r1) zc_X3_many rfl (by decide) rfl (by decide) (Or.inl c2) zm_L_18 (Nat.le_of_ble_eq_true rfl) rfl dL_isTurn_2 ?_
  refine V_pc (pc' := 5) rfl ?_
  refine V_istore_n (ls' := [(3, .int (w1)), (0, .ref (zad L (a0))), (1, .int (i1)), (2, .int (i2))]) dL_isTurn_5 rfl (by decide) rfl ?_
  refine V_aload_n dL_isTurn_6 rfl 1 rfl ?_
  replace h := ox h
  obtain ⟨c14, h⟩ := h
  replace h := ob h
  obtain ⟨r13, e_r13, h⟩ := h
  refine V_callV_I (As := []) (rest := []) (c_X3_best e_r13) zc_X3_best rfl (by decide) rfl (by decide) (Or.inl c14) zm_L_61 (Nat.le_of_ble_eq_true rfl) rfl dL_isTurn_7 ?_
  refine V_pc (pc' := 10) rfl ?_
  refine V_istore (ls' := [(4, .int (r13.1)), (3, .int (w1)), (0, .ref (zad L (a0))), (1, .int (i1)), (2, .int (i2))]) dL_isTurn_10 (by decide) rfl ?_
  refine V_aload_n dL_isTurn_12 rfl 2 rfl ?_
  refine V_iload_n dL_isTurn_13 rfl 1 rfl ?_
  refine V_bipush (v := 6) dL_isTurn_14 (by decide) ?_
  replace h := ox h
  obtain ⟨c16, h⟩ := h
  replace h := xns h
  obtain ⟨w15, Mw15, e_r15, h⟩ := h
  refine V_callVx_I (As := [.int (w1), .int ((6 : Int32))]) (rest := []) (c_X3_ofPlayer e_r15) zc_X3_ofPlayer rfl (by decide) rfl (by decide) (Or.inl c16) zm_L_29 (Nat.le_of_ble_eq_true rfl) rfl dL_isTurn_16 ?_
  refine V_pc (pc' := 19) rfl ?_
  refine V_istore (ls' := [(5, .int (w15)), (4, .int (r13.1)), (3, .int (w1)), (0, .ref (zad L (a0))), (1, .int (i1)), (2, .int (i2))]) dL_isTurn_19 (by decide) rfl ?_
  refine V_iload dL_isTurn_21 0 rfl ?_
  refine V_iconst (v := -1) dL_isTurn_23 (by decide) ?_
  refine V_icmp_ne (tgt := 37) dL_isTurn_24 (by decide) (fun c22 => ?_) (fun c22 => ?_)
  · replace h := (oi h).2 c22
    refine V_sub [3, 4, 5, 2, 1, 0] rfl ?_
    exact s_L_isTurn_37 hq h
  · replace h := (oi h).1 c22
    refine V_aload_n dL_isTurn_27 rfl 3 rfl ?_
    refine V_iload_n dL_isTurn_28 rfl 2 rfl ?_
    replace h := ob h
    obtain ⟨r20, e_r20, h⟩ := h
    refine V_callSW_I (As := [.ref (zad L (a0)), .int (w1)]) (rest := []) (c_L_isWon e_r20) zc_L_isWon rfl (by decide) zm_L_64 (Nat.le_of_ble_eq_true rfl) rfl dL_isTurn_29 ?_
    refine V_pc (pc' := 32) rfl ?_
    refine V_if_eq (tgt := 37) dL_isTurn_32 (by decide) (fun c21 => ?_) (fun c21 => ?_)
    · replace h := (oi h).1 c21
      refine V_sub [3, 4, 5, 2, 1, 0] rfl ?_
      exact s_L_isTurn_37 hq h
    · replace h := (oi h).2 c21
      refine V_iconst (v := 1) dL_isTurn_35 (by decide) ?_
      obtain rfl := Option.some.inj h
      exact V_zret (ty := .boolean) rfl rfl hq dL_isTurn_36
def f_L_isTurn (a0 : Nat) (i1 : Int32) (i2 : Int32) (M : zM) : Option (Int32 × zM) := f_L_isTurn_0 a0 i1 i2 M
theorem c_L_isTurn {L : zL} {l : Launch} {a0 : Nat} {i1 : Int32} {i2 : Int32} {M : zM} {r : Int32 × zM} (h : f_L_isTurn a0 i1 i2 M = some r) : CH L l yL_isTurn cL_isTurn 12 (some FieldType.boolean) [(104, 181, 298, 86), (182, 253, 298, 86), (254, 294, 298, 86)] 71 M [.ref (zad L (a0)), .int (i1), .int (i2)] (some (.int r.1)) r.2 :=
  CH.of ⟨by decide +kernel, zht_L_isTurn⟩ (Nat.le_of_ble_eq_true rfl) fun X Q hq => s_L_isTurn_0 hq h
/-! WindsparlourLaw.law([I)Z -/
theorem dL_law_0 : decode cL_law 0 = .ok (.new 9, 3) := by decide +kernel
theorem dL_law_3 : decode cL_law 3 = .ok (.dup, 1) := by decide +kernel
theorem dL_law_4 : decode cL_law 4 = .ok (.invokespecial 11, 3) := by decide +kernel
theorem dL_law_7 : decode cL_law 7 = .ok (.astore_n 1, 1) := by decide +kernel
theorem dL_law_8 : decode cL_law 8 = .ok (.iconst 0, 1) := by decide +kernel
theorem dL_law_9 : decode cL_law 9 = .ok (.istore_n 2, 1) := by decide +kernel
theorem dL_law_10 : decode cL_law 10 = .ok (.iconst 0, 1) := by decide +kernel
theorem dL_law_11 : decode cL_law 11 = .ok (.istore_n 3, 1) := by decide +kernel
theorem dL_law_12 : decode cL_law 12 = .ok (.iload_n 3, 1) := by decide +kernel
theorem dL_law_13 : decode cL_law 13 = .ok (.sipush 130, 3) := by decide +kernel
theorem dL_law_16 : decode cL_law 16 = .ok (.if_icmp .ge 303, 3) := by decide +kernel
theorem dL_law_19 : decode cL_law 19 = .ok (.aload_n 0, 1) := by decide +kernel
theorem dL_law_20 : decode cL_law 20 = .ok (.iload_n 3, 1) := by decide +kernel
theorem dL_law_21 : decode cL_law 21 = .ok (.bipush 16, 2) := by decide +kernel
theorem dL_law_23 : decode cL_law 23 = .ok (.irem, 1) := by decide +kernel
theorem dL_law_24 : decode cL_law 24 = .ok (.invokestatic 12, 3) := by decide +kernel
theorem dL_law_27 : decode cL_law 27 = .ok (.bipush 31, 2) := by decide +kernel
theorem dL_law_29 : decode cL_law 29 = .ok (.iload_n 3, 1) := by decide +kernel
theorem dL_law_30 : decode cL_law 30 = .ok (.imul, 1) := by decide +kernel
theorem dL_law_31 : decode cL_law 31 = .ok (.iadd, 1) := by decide +kernel
theorem dL_law_32 : decode cL_law 32 = .ok (.istore 4, 2) := by decide +kernel
theorem dL_law_34 : decode cL_law 34 = .ok (.aload_n 0, 1) := by decide +kernel
theorem dL_law_35 : decode cL_law 35 = .ok (.bipush 7, 2) := by decide +kernel
theorem dL_law_37 : decode cL_law 37 = .ok (.iload_n 3, 1) := by decide +kernel
theorem dL_law_38 : decode cL_law 38 = .ok (.imul, 1) := by decide +kernel
theorem dL_law_39 : decode cL_law 39 = .ok (.iconst 3, 1) := by decide +kernel
theorem dL_law_40 : decode cL_law 40 = .ok (.iadd, 1) := by decide +kernel
theorem dL_law_41 : decode cL_law 41 = .ok (.bipush 16, 2) := by decide +kernel
theorem dL_law_43 : decode cL_law 43 = .ok (.irem, 1) := by decide +kernel
theorem dL_law_44 : decode cL_law 44 = .ok (.invokestatic 12, 3) := by decide +kernel
theorem dL_law_47 : decode cL_law 47 = .ok (.iconst 5, 1) := by decide +kernel
theorem dL_law_48 : decode cL_law 48 = .ok (.iload_n 3, 1) := by decide +kernel
theorem dL_law_49 : decode cL_law 49 = .ok (.imul, 1) := by decide +kernel
theorem dL_law_50 : decode cL_law 50 = .ok (.iadd, 1) := by decide +kernel
theorem dL_law_51 : decode cL_law 51 = .ok (.istore 5, 2) := by decide +kernel
theorem dL_law_53 : decode cL_law 53 = .ok (.aload_n 1, 1) := by decide +kernel
theorem dL_law_54 : decode cL_law 54 = .ok (.iconst 0, 1) := by decide +kernel
theorem dL_law_55 : decode cL_law 55 = .ok (.invokevirtual 18, 3) := by decide +kernel
theorem dL_law_58 : decode cL_law 58 = .ok (.tableswitch 233 0 3 #[108, 220, 233, 30], 30) := by decide +kernel
theorem dL_law_88 : decode cL_law 88 = .ok (.iconst 4, 1) := by decide +kernel
theorem dL_law_89 : decode cL_law 89 = .ok (.newarray .int, 2) := by decide +kernel
theorem dL_law_91 : decode cL_law 91 = .ok (.dup, 1) := by decide +kernel
theorem dL_law_92 : decode cL_law 92 = .ok (.iconst 0, 1) := by decide +kernel
theorem dL_law_93 : decode cL_law 93 = .ok (.iconst 1, 1) := by decide +kernel
theorem dL_law_94 : decode cL_law 94 = .ok (.iastore, 1) := by decide +kernel
theorem dL_law_95 : decode cL_law 95 = .ok (.dup, 1) := by decide +kernel
theorem dL_law_96 : decode cL_law 96 = .ok (.iconst 1, 1) := by decide +kernel
theorem dL_law_97 : decode cL_law 97 = .ok (.iconst 3, 1) := by decide +kernel
theorem dL_law_98 : decode cL_law 98 = .ok (.iastore, 1) := by decide +kernel
theorem dL_law_99 : decode cL_law 99 = .ok (.dup, 1) := by decide +kernel
theorem dL_law_100 : decode cL_law 100 = .ok (.iconst 2, 1) := by decide +kernel
theorem dL_law_101 : decode cL_law 101 = .ok (.bipush 7, 2) := by decide +kernel
theorem dL_law_103 : decode cL_law 103 = .ok (.iastore, 1) := by decide +kernel
theorem dL_law_104 : decode cL_law 104 = .ok (.dup, 1) := by decide +kernel
theorem dL_law_105 : decode cL_law 105 = .ok (.iconst 3, 1) := by decide +kernel
theorem dL_law_106 : decode cL_law 106 = .ok (.bipush 9, 2) := by decide +kernel
theorem dL_law_108 : decode cL_law 108 = .ok (.iastore, 1) := by decide +kernel
theorem dL_law_109 : decode cL_law 109 = .ok (.astore 6, 2) := by decide +kernel
theorem dL_law_111 : decode cL_law 111 = .ok (.aload_n 1, 1) := by decide +kernel
theorem dL_law_112 : decode cL_law 112 = .ok (.bipush 10, 2) := by decide +kernel
theorem dL_law_114 : decode cL_law 114 = .ok (.iload 4, 2) := by decide +kernel
theorem dL_law_116 : decode cL_law 116 = .ok (.bipush 10, 2) := by decide +kernel
theorem dL_law_118 : decode cL_law 118 = .ok (.invokestatic 22, 3) := by decide +kernel
theorem dL_law_121 : decode cL_law 121 = .ok (.imul, 1) := by decide +kernel
theorem dL_law_122 : decode cL_law 122 = .ok (.aload 6, 2) := by decide +kernel
theorem dL_law_124 : decode cL_law 124 = .ok (.iload 4, 2) := by decide +kernel
theorem dL_law_126 : decode cL_law 126 = .ok (.bipush 10, 2) := by decide +kernel
theorem dL_law_128 : decode cL_law 128 = .ok (.idiv, 1) := by decide +kernel
theorem dL_law_129 : decode cL_law 129 = .ok (.iconst 4, 1) := by decide +kernel
theorem dL_law_130 : decode cL_law 130 = .ok (.invokestatic 22, 3) := by decide +kernel
theorem dL_law_133 : decode cL_law 133 = .ok (.iaload, 1) := by decide +kernel
theorem dL_law_134 : decode cL_law 134 = .ok (.iadd, 1) := by decide +kernel
theorem dL_law_135 : decode cL_law 135 = .ok (.iload 5, 2) := by decide +kernel
theorem dL_law_137 : decode cL_law 137 = .ok (.bipush 100, 2) := by decide +kernel
theorem dL_law_139 : decode cL_law 139 = .ok (.invokestatic 22, 3) := by decide +kernel
theorem dL_law_142 : decode cL_law 142 = .ok (.invokevirtual 26, 3) := by decide +kernel
theorem dL_law_145 : decode cL_law 145 = .ok (.iload_n 2, 1) := by decide +kernel
theorem dL_law_146 : decode cL_law 146 = .ok (.iconst 4, 1) := by decide +kernel
theorem dL_law_147 : decode cL_law 147 = .ok (.irem, 1) := by decide +kernel
theorem dL_law_148 : decode cL_law 148 = .ok (.if_icmp .ne 16, 3) := by decide +kernel
theorem dL_law_151 : decode cL_law 151 = .ok (.aload_n 1, 1) := by decide +kernel
theorem dL_law_152 : decode cL_law 152 = .ok (.bipush 7, 2) := by decide +kernel
theorem dL_law_154 : decode cL_law 154 = .ok (.invokevirtual 18, 3) := by decide +kernel
theorem dL_law_157 : decode cL_law 157 = .ok (.iinc 2 1, 3) := by decide +kernel
theorem dL_law_160 : decode cL_law 160 = .ok (.iload_n 2, 1) := by decide +kernel
theorem dL_law_161 : decode cL_law 161 = .ok (.if_icmp .eq 143, 3) := by decide +kernel
theorem dL_law_164 : decode cL_law 164 = .ok (.iconst 0, 1) := by decide +kernel
theorem dL_law_165 : decode cL_law 165 = .ok (.ireturn, 1) := by decide +kernel
theorem dL_law_166 : decode cL_law 166 = .ok (.aload_n 1, 1) := by decide +kernel
theorem dL_law_167 : decode cL_law 167 = .ok (.iconst 2, 1) := by decide +kernel
theorem dL_law_168 : decode cL_law 168 = .ok (.invokevirtual 18, 3) := by decide +kernel
theorem dL_law_171 : decode cL_law 171 = .ok (.istore 7, 2) := by decide +kernel
theorem dL_law_173 : decode cL_law 173 = .ok (.aload_n 1, 1) := by decide +kernel
theorem dL_law_174 : decode cL_law 174 = .ok (.iconst 1, 1) := by decide +kernel
theorem dL_law_175 : decode cL_law 175 = .ok (.invokevirtual 18, 3) := by decide +kernel
theorem dL_law_178 : decode cL_law 178 = .ok (.istore 8, 2) := by decide +kernel
theorem dL_law_180 : decode cL_law 180 = .ok (.aload_n 1, 1) := by decide +kernel
theorem dL_law_181 : decode cL_law 181 = .ok (.iload 8, 2) := by decide +kernel
theorem dL_law_183 : decode cL_law 183 = .ok (.bipush 6, 2) := by decide +kernel
theorem dL_law_185 : decode cL_law 185 = .ok (.invokevirtual 29, 3) := by decide +kernel
theorem dL_law_188 : decode cL_law 188 = .ok (.istore 9, 2) := by decide +kernel
theorem dL_law_190 : decode cL_law 190 = .ok (.aload_n 1, 1) := by decide +kernel
theorem dL_law_191 : decode cL_law 191 = .ok (.invokevirtual 32, 3) := by decide +kernel
theorem dL_law_194 : decode cL_law 194 = .ok (.istore 10, 2) := by decide +kernel
theorem dL_law_196 : decode cL_law 196 = .ok (.aload_n 1, 1) := by decide +kernel
theorem dL_law_197 : decode cL_law 197 = .ok (.iload 8, 2) := by decide +kernel
theorem dL_law_199 : decode cL_law 199 = .ok (.bipush 6, 2) := by decide +kernel
theorem dL_law_201 : decode cL_law 201 = .ok (.invokevirtual 29, 3) := by decide +kernel
theorem dL_law_204 : decode cL_law 204 = .ok (.istore 11, 2) := by decide +kernel
theorem dL_law_206 : decode cL_law 206 = .ok (.iload 10, 2) := by decide +kernel
theorem dL_law_208 : decode cL_law 208 = .ok (.ifCond .ge 7, 3) := by decide +kernel
theorem dL_law_211 : decode cL_law 211 = .ok (.iconst 1, 1) := by decide +kernel
theorem dL_law_212 : decode cL_law 212 = .ok (.goto 4, 3) := by decide +kernel
theorem dL_law_215 : decode cL_law 215 = .ok (.iconst 0, 1) := by decide +kernel
theorem dL_law_216 : decode cL_law 216 = .ok (.iload 7, 2) := by decide +kernel
theorem dL_law_218 : decode cL_law 218 = .ok (.bipush 24, 2) := by decide +kernel
theorem dL_law_220 : decode cL_law 220 = .ok (.if_icmp .ne 7, 3) := by decide +kernel
theorem dL_law_223 : decode cL_law 223 = .ok (.iconst 1, 1) := by decide +kernel
theorem dL_law_224 : decode cL_law 224 = .ok (.goto 4, 3) := by decide +kernel
theorem dL_law_227 : decode cL_law 227 = .ok (.iconst 0, 1) := by decide +kernel
theorem dL_law_228 : decode cL_law 228 = .ok (.if_icmp .ne 48, 3) := by decide +kernel
theorem dL_law_231 : decode cL_law 231 = .ok (.iload 10, 2) := by decide +kernel
theorem dL_law_233 : decode cL_law 233 = .ok (.ifCond .lt 27, 3) := by decide +kernel
theorem dL_law_236 : decode cL_law 236 = .ok (.aload_n 1, 1) := by decide +kernel
theorem dL_law_237 : decode cL_law 237 = .ok (.iconst 2, 1) := by decide +kernel
theorem dL_law_238 : decode cL_law 238 = .ok (.invokevirtual 18, 3) := by decide +kernel
theorem dL_law_241 : decode cL_law 241 = .ok (.iload 7, 2) := by decide +kernel
theorem dL_law_243 : decode cL_law 243 = .ok (.iconst 1, 1) := by decide +kernel
theorem dL_law_244 : decode cL_law 244 = .ok (.isub, 1) := by decide +kernel
theorem dL_law_245 : decode cL_law 245 = .ok (.if_icmp .ne 31, 3) := by decide +kernel
theorem dL_law_248 : decode cL_law 248 = .ok (.aload_n 1, 1) := by decide +kernel
theorem dL_law_249 : decode cL_law 249 = .ok (.iload 8, 2) := by decide +kernel
theorem dL_law_251 : decode cL_law 251 = .ok (.iload 10, 2) := by decide +kernel
theorem dL_law_253 : decode cL_law 253 = .ok (.invokevirtual 36, 3) := by decide +kernel
theorem dL_law_256 : decode cL_law 256 = .ok (.iconst 1, 1) := by decide +kernel
theorem dL_law_257 : decode cL_law 257 = .ok (.if_icmp .lt 19, 3) := by decide +kernel
theorem dL_law_260 : decode cL_law 260 = .ok (.iload 11, 2) := by decide +kernel
theorem dL_law_262 : decode cL_law 262 = .ok (.iload 9, 2) := by decide +kernel
theorem dL_law_264 : decode cL_law 264 = .ok (.if_icmp .gt 12, 3) := by decide +kernel
theorem dL_law_267 : decode cL_law 267 = .ok (.iload 11, 2) := by decide +kernel
theorem dL_law_269 : decode cL_law 269 = .ok (.iload 9, 2) := by decide +kernel
theorem dL_law_271 : decode cL_law 271 = .ok (.iconst 1, 1) := by decide +kernel
theorem dL_law_272 : decode cL_law 272 = .ok (.isub, 1) := by decide +kernel
theorem dL_law_273 : decode cL_law 273 = .ok (.if_icmp .ge 31, 3) := by decide +kernel
theorem dL_law_276 : decode cL_law 276 = .ok (.iconst 0, 1) := by decide +kernel
theorem dL_law_277 : decode cL_law 277 = .ok (.ireturn, 1) := by decide +kernel
theorem dL_law_278 : decode cL_law 278 = .ok (.aload_n 1, 1) := by decide +kernel
theorem dL_law_279 : decode cL_law 279 = .ok (.iload 4, 2) := by decide +kernel
theorem dL_law_281 : decode cL_law 281 = .ok (.iload 5, 2) := by decide +kernel
theorem dL_law_283 : decode cL_law 283 = .ok (.invokestatic 39, 3) := by decide +kernel
theorem dL_law_286 : decode cL_law 286 = .ok (.ifCond .ne 18, 3) := by decide +kernel
theorem dL_law_289 : decode cL_law 289 = .ok (.iconst 0, 1) := by decide +kernel
theorem dL_law_290 : decode cL_law 290 = .ok (.ireturn, 1) := by decide +kernel
theorem dL_law_291 : decode cL_law 291 = .ok (.aload_n 1, 1) := by decide +kernel
theorem dL_law_292 : decode cL_law 292 = .ok (.iload 4, 2) := by decide +kernel
theorem dL_law_294 : decode cL_law 294 = .ok (.iload 5, 2) := by decide +kernel
theorem dL_law_296 : decode cL_law 296 = .ok (.invokestatic 43, 3) := by decide +kernel
theorem dL_law_299 : decode cL_law 299 = .ok (.ifCond .ne 5, 3) := by decide +kernel
theorem dL_law_302 : decode cL_law 302 = .ok (.iconst 0, 1) := by decide +kernel
theorem dL_law_303 : decode cL_law 303 = .ok (.ireturn, 1) := by decide +kernel
theorem dL_law_304 : decode cL_law 304 = .ok (.aload_n 1, 1) := by decide +kernel
theorem dL_law_305 : decode cL_law 305 = .ok (.invokestatic 46, 3) := by decide +kernel
theorem dL_law_308 : decode cL_law 308 = .ok (.ifCond .ne 5, 3) := by decide +kernel
theorem dL_law_311 : decode cL_law 311 = .ok (.iconst 0, 1) := by decide +kernel
theorem dL_law_312 : decode cL_law 312 = .ok (.ireturn, 1) := by decide +kernel
theorem dL_law_313 : decode cL_law 313 = .ok (.iinc 3 1, 3) := by decide +kernel
theorem dL_law_316 : decode cL_law 316 = .ok (.goto (-304), 3) := by decide +kernel
theorem dL_law_319 : decode cL_law 319 = .ok (.aload_n 1, 1) := by decide +kernel
theorem dL_law_320 : decode cL_law 320 = .ok (.invokevirtual 50, 3) := by decide +kernel
theorem dL_law_323 : decode cL_law 323 = .ok (.lstore_n 3, 1) := by decide +kernel
theorem dL_law_324 : decode cL_law 324 = .ok (.aload_n 0, 1) := by decide +kernel
theorem dL_law_325 : decode cL_law 325 = .ok (.iconst 0, 1) := by decide +kernel
theorem dL_law_326 : decode cL_law 326 = .ok (.invokestatic 12, 3) := by decide +kernel
theorem dL_law_329 : decode cL_law 329 = .ok (.iconst 4, 1) := by decide +kernel
theorem dL_law_330 : decode cL_law 330 = .ok (.invokestatic 22, 3) := by decide +kernel
theorem dL_law_333 : decode cL_law 333 = .ok (.istore 5, 2) := by decide +kernel
theorem dL_law_335 : decode cL_law 335 = .ok (.aload_n 1, 1) := by decide +kernel
theorem dL_law_336 : decode cL_law 336 = .ok (.iload 5, 2) := by decide +kernel
theorem dL_law_338 : decode cL_law 338 = .ok (.invokestatic 54, 3) := by decide +kernel
theorem dL_law_341 : decode cL_law 341 = .ok (.ifCond .eq 23, 3) := by decide +kernel
theorem dL_law_344 : decode cL_law 344 = .ok (.aload_n 1, 1) := by decide +kernel
theorem dL_law_345 : decode cL_law 345 = .ok (.iload 5, 2) := by decide +kernel
theorem dL_law_347 : decode cL_law 347 = .ok (.invokevirtual 58, 3) := by decide +kernel
theorem dL_law_350 : decode cL_law 350 = .ok (.ifCond .lt 14, 3) := by decide +kernel
theorem dL_law_353 : decode cL_law 353 = .ok (.aload_n 1, 1) := by decide +kernel
theorem dL_law_354 : decode cL_law 354 = .ok (.iload 5, 2) := by decide +kernel
theorem dL_law_356 : decode cL_law 356 = .ok (.invokevirtual 58, 3) := by decide +kernel
theorem dL_law_359 : decode cL_law 359 = .ok (.bipush 90, 2) := by decide +kernel
theorem dL_law_361 : decode cL_law 361 = .ok (.if_icmp .le 5, 3) := by decide +kernel
theorem dL_law_364 : decode cL_law 364 = .ok (.iconst 0, 1) := by decide +kernel
theorem dL_law_365 : decode cL_law 365 = .ok (.ireturn, 1) := by decide +kernel
theorem dL_law_366 : decode cL_law 366 = .ok (.aload_n 1, 1) := by decide +kernel
theorem dL_law_367 : decode cL_law 367 = .ok (.invokevirtual 50, 3) := by decide +kernel
theorem dL_law_370 : decode cL_law 370 = .ok (.lload_n 3, 1) := by decide +kernel
theorem dL_law_371 : decode cL_law 371 = .ok (.lcmp, 1) := by decide +kernel
theorem dL_law_372 : decode cL_law 372 = .ok (.ifCond .ne 7, 3) := by decide +kernel
theorem dL_law_375 : decode cL_law 375 = .ok (.iconst 1, 1) := by decide +kernel
theorem dL_law_376 : decode cL_law 376 = .ok (.goto 4, 3) := by decide +kernel
theorem dL_law_379 : decode cL_law 379 = .ok (.iconst 0, 1) := by decide +kernel
theorem dL_law_380 : decode cL_law 380 = .ok (.ireturn, 1) := by decide +kernel
def f_L_law_304 (K12 : Nat → Nat → Int32 → Int32 → zM → Option (Unit × zM)) (a0 : Nat) (a1 : Nat) (i2 : Int32) (i3 : Int32) (M : zM) : Option (Unit × zM) :=
  (f_L_areWell a1 M).bind fun r1 =>
  if r1.1 = 0 then
  none
  else
  K12 a0 a1 i2 ((i3 + (1 : Int32))) r1.2
set_option maxRecDepth 20000 in
set_option maxHeartbeats 4000000 in
theorem s_L_law_304 {L : zL} {X : zX} {M0 : zM} {N : Nat × Nat} {Q : State → Prop} {r : Unit × zM} {K12 : Nat → Nat → Int32 → Int32 → zM → Option (Unit × zM)} (hK12 : ∀ (a0 : Nat) (a1 : Nat) (i2 : Int32) (i3 : Int32) (M : zM), K12 a0 a1 i2 i3 M = some r → V L X yL_law cL_law 12 (some FieldType.boolean) 72 M0 N Q M 12 [(0, .ref (zad L (a0))), (1, .ref (zad L (a1))), (2, .int (i2)), (3, .int (i3))] []) (hq : ∀ {M : zM} {pc : Nat} {ls : List (Nat × Value)}, M = r.2 → decode cL_law pc = .ok (.ireturn, 1) → V L X yL_law cL_law 12 (some FieldType.boolean) 72 M0 N Q M pc ls [.int 1]) {a0 : Nat} {a1 : Nat} {i2 : Int32} {i3 : Int32} {M : zM} (h : f_L_law_304 K12 a0 a1 i2 i3 M = some r) : V L X yL_law cL_law 12 (some FieldType.boolean) 72 M0 N Q M 304 [(0, .ref (zad L (a0))), (1, .ref (zad L (a1))), (2, .int (i2)), (3, .int (i3))] [] := by
  unfold f_L_law_304 at h
  refine V_aload_n dL_law_304 rfl 1 rfl ?_
  replace h := ob h
  obtain ⟨r1, e_r1, h⟩ := h
  refine V_callS_I (As := [.ref (zad L (a1))]) (rest := []) (c_L_areWell e_r1) zc_L_areWell rfl (by decide) zm_L_46 (Nat.le_of_ble_eq_true rfl) rfl dL_law_305 ?_
  refine V_pc (pc' := 308) rfl ?_
  refine V_if_ne (tgt := 313) dL_law_308 (by decide) (fun c2 => ?_) (fun c2 => ?_)
  · replace h := (oi h).2 c2
    refine V_iinc (v := i3 + (1 : Int32)) (ls' := [(3, .int ((i3 + (1 : Int32)))), (0, .ref (zad L (a0))), (1, .ref (zad L (a1))), (2, .int (i2))]) dL_law_313 3 rfl (by rfl) (by decide) rfl ?_
    refine V_goto (tgt := 12) dL_law_316 (by decide) ?_
    refine V_sub [1, 2, 3, 0] rfl ?_
    exact hK12 _ _ _ _ _ h
  · replace h := (oi h).1 c2
    refine V_iconst (v := 0) dL_law_311 (by decide) ?_
    cases h
def f_L_law_260 (K12 : Nat → Nat → Int32 → Int32 → zM → Option (Unit × zM)) (a0 : Nat) (a1 : Nat) (i2 : Int32) (i3 : Int32) (i9 : Int32) (i11 : Int32) (M : zM) : Option (Unit × zM) :=
  if i9 < i11 then
  none
  else
  if ((i9 - ((1 : Int32)))) ≤ i11 then
  f_L_law_304 K12 a0 a1 i2 i3 M
  else
  none
set_option maxRecDepth 20000 in
set_option maxHeartbeats 4000000 in
theorem s_L_law_260 {L : zL} {X : zX} {M0 : zM} {N : Nat × Nat} {Q : State → Prop} {r : Unit × zM} {K12 : Nat → Nat → Int32 → Int32 → zM → Option (Unit × zM)} (hK12 : ∀ (a0 : Nat) (a1 : Nat) (i2 : Int32) (i3 : Int32) (M : zM), K12 a0 a1 i2 i3 M = some r → V L X yL_law cL_law 12 (some FieldType.boolean) 72 M0 N Q M 12 [(0, .ref (zad L (a0))), (1, .ref (zad L (a1))), (2, .int (i2)), (3, .int (i3))] []) (hq : ∀ {M : zM} {pc : Nat} {ls : List (Nat × Value)}, M = r.2 → decode cL_law pc = .ok (.ireturn, 1) → V L X yL_law cL_law 12 (some FieldType.boolean) 72 M0 N Q M pc ls [.int 1]) {a0 : Nat} {a1 : Nat} {i2 : Int32} {i3 : Int32} {i9 : Int32} {i11 : Int32} {M : zM} (h : f_L_law_260 K12 a0 a1 i2 i3 i9 i11 M = some r) : V L X yL_law cL_law 12 (some FieldType.boolean) 72 M0 N Q M 260 [(0, .ref (zad L (a0))), (1, .ref (zad L (a1))), (2, .int (i2)), (3, .int (i3)), (9, .int (i9)), (11, .int (i11))] [] := by
  unfold f_L_law_260 at h
  refine V_iload dL_law_260 5 rfl ?_
  refine V_iload dL_law_262 4 rfl ?_
  refine V_icmp_gt (tgt := 276) dL_law_264 (by decide) (fun c2 => ?_) (fun c2 => ?_)
  · replace h := (oi h).1 c2
    refine V_iconst (v := 0) dL_law_276 (by decide) ?_
    cases h
  · replace h := (oi h).2 c2
    refine V_iload dL_law_267 5 rfl ?_
    refine V_iload dL_law_269 4 rfl ?_
    refine V_iconst (v := 1) dL_law_271 (by decide) ?_
    refine V_isub dL_law_272 ?_
    refine V_icmp_ge (tgt := 304) dL_law_273 (by decide) (fun c1 => ?_) (fun c1 => ?_)
    · replace h := (oi h).1 c1
      refine V_sub [0, 1, 2, 3] rfl ?_
      exact s_L_law_304 hK12 hq h
    · replace h := (oi h).2 c1
      refine V_iconst (v := 0) dL_law_276 (by decide) ?_
      cases h
def f_L_law_228 (K12 : Nat → Nat → Int32 → Int32 → zM → Option (Unit × zM)) (a0 : Nat) (a1 : Nat) (i2 : Int32) (i3 : Int32) (i7 : Int32) (i8 : Int32) (i9 : Int32) (i10 : Int32) (i11 : Int32) (i_0 : Int32) (i_1 : Int32) (M : zM) : Option (Unit × zM) :=
  if i_1 = i_0 then
  if i10 < 0 then
  f_L_law_260 K12 a0 a1 i2 i3 i9 i11 M
  else
  if mK M a1 = 9 then
  xn (f_X3_many a1 ((2 : Int32)) M) fun w1 Mw1 =>
  if w1 = ((i7 - ((1 : Int32)))) then
  if mK Mw1 a1 = 9 then
  xn (f_X3_has a1 i8 i10 Mw1) fun w8 Mw8 =>
  if w8 < ((1 : Int32)) then
  none
  else
  f_L_law_260 K12 a0 a1 i2 i3 i9 i11 Mw8
  else none
  else
  none
  else none
  else
  none
set_option maxRecDepth 20000 in
set_option maxHeartbeats 4000000 in
theorem s_L_law_228 {L : zL} {X : zX} {M0 : zM} {N : Nat × Nat} {Q : State → Prop} {r : Unit × zM} {K12 : Nat → Nat → Int32 → Int32 → zM → Option (Unit × zM)} (hK12 : ∀ (a0 : Nat) (a1 : Nat) (i2 : Int32) (i3 : Int32) (M : zM), K12 a0 a1 i2 i3 M = some r → V L X yL_law cL_law 12 (some FieldType.boolean) 72 M0 N Q M 12 [(0, .ref (zad L (a0))), (1, .ref (zad L (a1))), (2, .int (i2)), (3, .int (i3))] []) (hq : ∀ {M : zM} {pc : Nat} {ls : List (Nat × Value)}, M = r.2 → decode cL_law pc = .ok (.ireturn, 1) → V L X yL_law cL_law 12 (some FieldType.boolean) 72 M0 N Q M pc ls [.int 1]) {a0 : Nat} {a1 : Nat} {i2 : Int32} {i3 : Int32} {i7 : Int32} {i8 : Int32} {i9 : Int32} {i10 : Int32} {i11 : Int32} {i_0 : Int32} {i_1 : Int32} {M : zM} (h : f_L_law_228 K12 a0 a1 i2 i3 i7 i8 i9 i10 i11 i_0 i_1 M = some r) : V L X yL_law cL_law 12 (some FieldType.boolean) 72 M0 N Q M 228 [(0, .ref (zad L (a0))), (1, .ref (zad L (a1))), (2, .int (i2)), (3, .int (i3)), (7, .int (i7)), (8, .int (i8)), (9, .int (i9)), (10, .int (i10)), (11, .int (i11))] [.int (i_0), .int (i_1)] := by
  unfold f_L_law_228 at h
  refine V_icmp_ne (tgt := 276) dL_law_228 (by decide) (fun c14 => ?_) (fun c14 => ?_)
  · replace h := (oi h).2 c14
    refine V_iconst (v := 0) dL_law_276 (by decide) ?_
    cases h
  · replace h := (oi h).1 c14
    refine V_iload dL_law_231 7 rfl ?_
    refine V_if_lt (tgt := 260) dL_law_233 (by decide) (fun c13 => ?_) (fun c13 => ?_)
    · replace h := (oi h).1 c13
      refine V_sub [0, 1, 2, 3, 6, 8] rfl ?_
      exact s_L_law_260 hK12 hq h
    · replace h := (oi h).2 c13
      refine V_aload_n dL_law_236 rfl 1 rfl ?_
      refine V_iconst (v := 2) dL_law_237 (by decide) ?_
      replace h := ox h
      obtain ⟨c2, h⟩ := h
      replace h := xns h
      obtain ⟨w1, Mw1, e_r1, h⟩ := h
      refine V_callVx_I (As := [.int ((2 : Int32))]) (rest := []) (c_X3_many e_r1) zc_X3_many rfl (by decide) rfl (by decide) (Or.inl c2) zm_L_18 (Nat.le_of_ble_eq_true rfl) rfl dL_law_238 ?_
      refine V_pc (pc' := 241) rfl ?_
      refine V_iload dL_law_241 4 rfl ?_
      refine V_iconst (v := 1) dL_law_243 (by decide) ?_
      refine V_isub dL_law_244 ?_
      refine V_icmp_ne (tgt := 276) dL_law_245 (by decide) (fun c12 => ?_) (fun c12 => ?_)
      · replace h := (oi h).2 c12
        refine V_iconst (v := 0) dL_law_276 (by decide) ?_
        cases h
      · replace h := (oi h).1 c12
        refine V_aload_n dL_law_248 rfl 1 rfl ?_
        refine V_iload dL_law_249 5 rfl ?_
        refine V_iload dL_law_251 7 rfl ?_
        replace h := ox h
        obtain ⟨c9, h⟩ := h
        replace h := xns h
        obtain ⟨w8, Mw8, e_r8, h⟩ := h
        refine V_callVx_I (As := [.int (i8), .int (i10)]) (rest := []) (c_X3_has e_r8) zc_X3_has rfl (by decide) rfl (by decide) (Or.inl c9) zm_L_36 (Nat.le_of_ble_eq_true rfl) rfl dL_law_253 ?_
        refine V_pc (pc' := 256) rfl ?_
        refine V_iconst (v := 1) dL_law_256 (by decide) ?_
        refine V_icmp_lt (tgt := 276) dL_law_257 (by decide) (fun c11 => ?_) (fun c11 => ?_)
        · replace h := (oi h).1 c11
          refine V_iconst (v := 0) dL_law_276 (by decide) ?_
          cases h
        · replace h := (oi h).2 c11
          refine V_sub [0, 1, 2, 3, 6, 8] rfl ?_
          exact s_L_law_260 hK12 hq h
def f_L_law_216 (K12 : Nat → Nat → Int32 → Int32 → zM → Option (Unit × zM)) (a0 : Nat) (a1 : Nat) (i2 : Int32) (i3 : Int32) (i7 : Int32) (i8 : Int32) (i9 : Int32) (i10 : Int32) (i11 : Int32) (i_0 : Int32) (M : zM) : Option (Unit × zM) :=
  if i7 = ((24 : Int32)) then
  f_L_law_228 K12 a0 a1 i2 i3 i7 i8 i9 i10 i11 ((1 : Int32)) i_0 M
  else
  f_L_law_228 K12 a0 a1 i2 i3 i7 i8 i9 i10 i11 ((0 : Int32)) i_0 M
set_option maxRecDepth 20000 in
set_option maxHeartbeats 4000000 in
theorem s_L_law_216 {L : zL} {X : zX} {M0 : zM} {N : Nat × Nat} {Q : State → Prop} {r : Unit × zM} {K12 : Nat → Nat → Int32 → Int32 → zM → Option (Unit × zM)} (hK12 : ∀ (a0 : Nat) (a1 : Nat) (i2 : Int32) (i3 : Int32) (M : zM), K12 a0 a1 i2 i3 M = some r → V L X yL_law cL_law 12 (some FieldType.boolean) 72 M0 N Q M 12 [(0, .ref (zad L (a0))), (1, .ref (zad L (a1))), (2, .int (i2)), (3, .int (i3))] []) (hq : ∀ {M : zM} {pc : Nat} {ls : List (Nat × Value)}, M = r.2 → decode cL_law pc = .ok (.ireturn, 1) → V L X yL_law cL_law 12 (some FieldType.boolean) 72 M0 N Q M pc ls [.int 1]) {a0 : Nat} {a1 : Nat} {i2 : Int32} {i3 : Int32} {i7 : Int32} {i8 : Int32} {i9 : Int32} {i10 : Int32} {i11 : Int32} {i_0 : Int32} {M : zM} (h : f_L_law_216 K12 a0 a1 i2 i3 i7 i8 i9 i10 i11 i_0 M = some r) : V L X yL_law cL_law 12 (some FieldType.boolean) 72 M0 N Q M 216 [(0, .ref (zad L (a0))), (1, .ref (zad L (a1))), (2, .int (i2)), (3, .int (i3)), (7, .int (i7)), (8, .int (i8)), (9, .int (i9)), (10, .int (i10)), (11, .int (i11))] [.int (i_0)] := by
  unfold f_L_law_216 at h
  refine V_iload dL_law_216 4 rfl ?_
  refine V_bipush (v := 24) dL_law_218 (by decide) ?_
  refine V_icmp_ne (tgt := 227) dL_law_220 (by decide) (fun c1 => ?_) (fun c1 => ?_)
  · replace h := (oi h).2 c1
    refine V_iconst (v := 0) dL_law_227 (by decide) ?_
    exact s_L_law_228 hK12 hq h
  · replace h := (oi h).1 c1
    refine V_iconst (v := 1) dL_law_223 (by decide) ?_
    refine V_goto (tgt := 228) dL_law_224 (by decide) ?_
    exact s_L_law_228 hK12 hq h
def f_L_law_12 (n : Nat) (a0 : Nat) (a1 : Nat) (i2 : Int32) (i3 : Int32) (M : zM) : Option (Unit × zM) := match n with
  | 0 => none
  | n + 1 =>
    if ((130 : Int32)) ≤ i3 then
    if mK M a1 = 9 then
    xn (f_X3_digest a1 M) fun w1 Mw1 =>
    (f_L_cell a0 ((0 : Int32)) Mw1).bind fun r35 =>
    (f_L_below r35.1 ((4 : Int32)) r35.2).bind fun r36 =>
    (f_L_isReady a1 r36.1 r36.2).bind fun r37 =>
    if r37.1 = 0 then
    none
    else
    if mK r37.2 a1 = 9 then
    xn (f_X3_outs a1 r36.1 r37.2) fun w38 Mw38 =>
    if w38 < 0 then
    none
    else
    if mK Mw38 a1 = 9 then
    xn (f_X3_outs a1 r36.1 Mw38) fun w53 Mw53 =>
    if w53 ≤ ((90 : Int32)) then
    if mK Mw53 a1 = 9 then
    xn (f_X3_digest a1 Mw53) fun w60 Mw60 =>
    if ((lg_cmp w60 w1)) = 0 then
    some ((), Mw60)
    else
    none
    else none
    else
    none
    else none
    else none
    else none
    else
    (f_L_cell a0 ((zmd i3 ((16 : Int32)))) M).bind fun r67 =>
    (f_L_cell a0 ((zmd ((((((7 : Int32)) * i3)) + ((3 : Int32)))) ((16 : Int32)))) r67.2).bind fun r68 =>
    if mK r68.2 a1 = 9 then
    xn (f_X3_many a1 ((0 : Int32)) r68.2) fun w69 Mw69 =>
    if w69 = 0 then
    if mK Mw69 a1 = 9 then
    xn (f_X3_many a1 ((2 : Int32)) Mw69) fun w227 Mw227 =>
    if mK Mw227 a1 = 9 then
    xn (f_X3_many a1 ((1 : Int32)) Mw227) fun w275 Mw275 =>
    if mK Mw275 a1 = 9 then
    xn (f_X3_ofPlayer a1 w275 ((6 : Int32)) Mw275) fun w299 Mw299 =>
    if mK Mw299 a1 = 9 then
    xn (f_X3_draw a1 Mw299) fun w311 Mw311 =>
    if mK Mw311 a1 = 9 then
    xn (f_X3_ofPlayer a1 w275 ((6 : Int32)) Mw311) fun w317 Mw317 =>
    if 0 ≤ w311 then
    f_L_law_216 (f_L_law_12 n) a0 a1 i2 i3 w227 w275 w299 w311 w317 ((0 : Int32)) Mw317
    else
    f_L_law_216 (f_L_law_12 n) a0 a1 i2 i3 w227 w275 w299 w311 w317 ((1 : Int32)) Mw317
    else none
    else none
    else none
    else none
    else none
    else
    if w69 = 1 then
    (f_L_isTurn a1 ((r67.1 + ((((31 : Int32)) * i3)))) ((r68.1 + ((((5 : Int32)) * i3)))) Mw69).bind fun r225 =>
    if r225.1 = 0 then
    none
    else
    f_L_law_304 (f_L_law_12 n) a0 a1 i2 i3 r225.2
    else
    if w69 = 2 then
    (f_L_isOffered a1 ((r67.1 + ((((31 : Int32)) * i3)))) ((r68.1 + ((((5 : Int32)) * i3)))) Mw69).bind fun r223 =>
    if r223.1 = 0 then
    none
    else
    f_L_law_304 (f_L_law_12 n) a0 a1 i2 i3 r223.2
    else
    if w69 = 3 then
    (aA 0 Mw69 ((4 : Int32))).bind fun r202 =>
    (tA r202.2 r202.1 ((0 : Int32)) ((1 : Int32))).bind fun M203 =>
    (tA M203 r202.1 ((1 : Int32)) ((3 : Int32))).bind fun M204 =>
    (tA M204 r202.1 ((2 : Int32)) ((7 : Int32))).bind fun M205 =>
    (tA M205 r202.1 ((3 : Int32)) ((9 : Int32))).bind fun M206 =>
    (f_L_below ((r67.1 + ((((31 : Int32)) * i3)))) ((10 : Int32)) M206).bind fun r207 =>
    (f_L_below ((((r67.1 + ((((31 : Int32)) * i3)))) / ((10 : Int32)))) ((4 : Int32)) r207.2).bind fun r208 =>
    (lA 0 r208.2 r202.1 r208.1).bind fun v209 =>
    (f_L_below ((r68.1 + ((((5 : Int32)) * i3)))) ((100 : Int32)) r208.2).bind fun r210 =>
    if mK r210.2 a1 = 9 then
    xn (f_X3_lay a1 ((((((10 : Int32)) * r207.1)) + v209)) r210.1 r210.2) fun w211 Mw211 =>
    if w211 = ((zmd i2 ((4 : Int32)))) then
    if mK Mw211 a1 = 9 then
    xn (f_X3_many a1 ((7 : Int32)) Mw211) fun w218 Mw218 =>
    if w218 = ((i2 + (1 : Int32))) then
    f_L_law_304 (f_L_law_12 n) a0 a1 ((i2 + (1 : Int32))) i3 Mw218
    else
    none
    else none
    else
    none
    else none
    else
    (f_L_isOffered a1 ((r67.1 + ((((31 : Int32)) * i3)))) ((r68.1 + ((((5 : Int32)) * i3)))) Mw69).bind fun r200 =>
    if r200.1 = 0 then
    none
    else
    f_L_law_304 (f_L_law_12 n) a0 a1 i2 i3 r200.2
    else none
set_option maxRecDepth 20000 in
set_option maxHeartbeats 4000000 in
theorem s_L_law_12 {L : zL} {X : zX} {M0 : zM} {N : Nat × Nat} {Q : State → Prop} {r : Unit × zM} (hq : ∀ {M : zM} {pc : Nat} {ls : List (Nat × Value)}, M = r.2 → decode cL_law pc = .ok (.ireturn, 1) → V L X yL_law cL_law 12 (some FieldType.boolean) 72 M0 N Q M pc ls [.int 1]) {n : Nat} {a0 : Nat} {a1 : Nat} {i2 : Int32} {i3 : Int32} {M : zM} : f_L_law_12 n a0 a1 i2 i3 M = some r → V L X yL_law cL_law 12 (some FieldType.boolean) 72 M0 N Q M 12 [(0, .ref (zad L (a0))), (1, .ref (zad L (a1))), (2, .int (i2)), (3, .int (i3))] [] := by
  induction n generalizing a0 a1 i2 i3 M with
  | zero =>
    intro h
    rw [f_L_law_12] at h
    cases h
  | succ n ih0 =>
    intro h
    have ih : ∀ (a0 : Nat) (a1 : Nat) (i2 : Int32) (i3 : Int32) (M : zM), f_L_law_12 n a0 a1 i2 i3 M = some r → V L X yL_law cL_law 12 (some FieldType.boolean) 72 M0 N Q M 12 [(0, .ref (zad L (a0))), (1, .ref (zad L (a1))), (2, .int (i2)), (3, .int (i3))] [] := fun a0 a1 i2 i3 M h => ih0 h
    rw [f_L_law_12] at h
    refine V_iload_n dL_law_12 rfl 3 rfl ?_
    refine V_sipush (v := 130) dL_law_13 (by decide) ?_
    refine V_icmp_ge (tgt := 319) dL_law_16 (by decide) (fun c321 => ?_) (fun c321 => ?_)
    · replace h := (oi h).1 c321
      refine V_aload_n dL_law_319 rfl 1 rfl ?_
      replace h := ox h
      obtain ⟨c2, h⟩ := h
      replace h := xns h
      obtain ⟨w1, Mw1, e_r1, h⟩ := h
      refine V_callVx_J (As := []) (rest := []) (c_X3_digest e_r1) zc_X3_digest rfl (by decide) rfl (by decide) (Or.inl c2) zm_L_50 (Nat.le_of_ble_eq_true rfl) rfl dL_law_320 ?_
      refine V_pc (pc' := 323) rfl ?_
      refine V_lstore_n (ls' := [(3, .long (w1)), (0, .ref (zad L (a0))), (1, .ref (zad L (a1))), (2, .int (i2))]) dL_law_323 rfl (by decide) rfl ?_
      refine V_aload_n dL_law_324 rfl 1 rfl ?_
      refine V_iconst (v := 0) dL_law_325 (by decide) ?_
      replace h := ob h
      obtain ⟨r35, e_r35, h⟩ := h
      refine V_callS_I (As := [.ref (zad L (a0)), .int ((0 : Int32))]) (rest := []) (c_L_cell e_r35) zc_L_cell rfl (by decide) zm_L_12 (Nat.le_of_ble_eq_true rfl) rfl dL_law_326 ?_
      refine V_pc (pc' := 329) rfl ?_
      refine V_iconst (v := 4) dL_law_329 (by decide) ?_
      replace h := ob h
      obtain ⟨r36, e_r36, h⟩ := h
      refine V_callS_I (As := [.int (r35.1), .int ((4 : Int32))]) (rest := []) (c_L_below e_r36) zc_L_below rfl (by decide) zm_L_22 (Nat.le_of_ble_eq_true rfl) rfl dL_law_330 ?_
      refine V_pc (pc' := 333) rfl ?_
      refine V_istore (ls' := [(5, .int (r36.1)), (3, .long (w1)), (0, .ref (zad L (a0))), (1, .ref (zad L (a1))), (2, .int (i2))]) dL_law_333 (by decide) rfl ?_
      refine V_aload_n dL_law_335 rfl 3 rfl ?_
      refine V_iload dL_law_336 0 rfl ?_
      replace h := ob h
      obtain ⟨r37, e_r37, h⟩ := h
      refine V_callS_I (As := [.ref (zad L (a1)), .int (r36.1)]) (rest := []) (c_L_isReady e_r37) zc_L_isReady rfl (by decide) zm_L_54 (Nat.le_of_ble_eq_true rfl) rfl dL_law_338 ?_
      refine V_pc (pc' := 341) rfl ?_
      refine V_if_eq (tgt := 364) dL_law_341 (by decide) (fun c66 => ?_) (fun c66 => ?_)
      · replace h := (oi h).1 c66
        refine V_iconst (v := 0) dL_law_364 (by decide) ?_
        cases h
      · replace h := (oi h).2 c66
        refine V_aload_n dL_law_344 rfl 3 rfl ?_
        refine V_iload dL_law_345 0 rfl ?_
        replace h := ox h
        obtain ⟨c39, h⟩ := h
        replace h := xns h
        obtain ⟨w38, Mw38, e_r38, h⟩ := h
        refine V_callVx_I (As := [.int (r36.1)]) (rest := []) (c_X3_outs e_r38) zc_X3_outs rfl (by decide) rfl (by decide) (Or.inl c39) zm_L_58 (Nat.le_of_ble_eq_true rfl) rfl dL_law_347 ?_
        refine V_pc (pc' := 350) rfl ?_
        refine V_if_lt (tgt := 364) dL_law_350 (by decide) (fun c65 => ?_) (fun c65 => ?_)
        · replace h := (oi h).1 c65
          refine V_iconst (v := 0) dL_law_364 (by decide) ?_
          cases h
        · replace h := (oi h).2 c65
          refine V_aload_n dL_law_353 rfl 3 rfl ?_
          refine V_iload dL_law_354 0 rfl ?_
          replace h := ox h
          obtain ⟨c54, h⟩ := h
          replace h := xns h
          obtain ⟨w53, Mw53, e_r53, h⟩ := h
          refine V_callVx_I (As := [.int (r36.1)]) (rest := []) (c_X3_outs e_r53) zc_X3_outs rfl (by decide) rfl (by decide) (Or.inl c54) zm_L_58 (Nat.le_of_ble_eq_true rfl) rfl dL_law_356 ?_
          refine V_pc (pc' := 359) rfl ?_
          refine V_bipush (v := 90) dL_law_359 (by decide) ?_
          refine V_icmp_le (tgt := 366) dL_law_361 (by decide) (fun c64 => ?_) (fun c64 => ?_)
          · replace h := (oi h).1 c64
            refine V_aload_n dL_law_366 rfl 3 rfl ?_
            replace h := ox h
            obtain ⟨c61, h⟩ := h
            replace h := xns h
            obtain ⟨w60, Mw60, e_r60, h⟩ := h
            refine V_callVx_J (As := []) (rest := []) (c_X3_digest e_r60) zc_X3_digest rfl (by decide) rfl (by decide) (Or.inl c61) zm_L_50 (Nat.le_of_ble_eq_true rfl) rfl dL_law_367 ?_
            refine V_pc (pc' := 370) rfl ?_
            refine V_lload_n dL_law_370 rfl 1 rfl ?_
            refine V_lcmp dL_law_371 ?_
            refine V_if_ne (tgt := 379) dL_law_372 (by decide) (fun c63 => ?_) (fun c63 => ?_)
            · replace h := (oi h).2 c63
              refine V_iconst (v := 0) dL_law_379 (by decide) ?_
              cases h
            · replace h := (oi h).1 c63
              refine V_iconst (v := 1) dL_law_375 (by decide) ?_
              refine V_goto (tgt := 380) dL_law_376 (by decide) ?_
              obtain rfl := Option.some.inj h
              exact hq rfl dL_law_380
          · replace h := (oi h).2 c64
            refine V_iconst (v := 0) dL_law_364 (by decide) ?_
            cases h
    · replace h := (oi h).2 c321
      refine V_aload_n dL_law_19 rfl 0 rfl ?_
      refine V_iload_n dL_law_20 rfl 3 rfl ?_
      refine V_bipush (v := 16) dL_law_21 (by decide) ?_
      refine V_irem dL_law_23 (by decide) ?_
      replace h := ob h
      obtain ⟨r67, e_r67, h⟩ := h
      refine V_callS_I (As := [.ref (zad L (a0)), .int ((zmd i3 ((16 : Int32))))]) (rest := []) (c_L_cell e_r67) zc_L_cell rfl (by decide) zm_L_12 (Nat.le_of_ble_eq_true rfl) rfl dL_law_24 ?_
      refine V_pc (pc' := 27) rfl ?_
      refine V_bipush (v := 31) dL_law_27 (by decide) ?_
      refine V_iload_n dL_law_29 rfl 3 rfl ?_
      refine V_imul dL_law_30 ?_
      refine V_iadd dL_law_31 ?_
      refine V_istore (ls' := [(4, .int ((r67.1 + ((((31 : Int32)) * i3))))), (0, .ref (zad L (a0))), (1, .ref (zad L (a1))), (2, .int (i2)), (3, .int (i3))]) dL_law_32 (by decide) rfl ?_
      refine V_aload_n dL_law_34 rfl 1 rfl ?_
      refine V_bipush (v := 7) dL_law_35 (by decide) ?_
      refine V_iload_n dL_law_37 rfl 4 rfl ?_
      refine V_imul dL_law_38 ?_
      refine V_iconst (v := 3) dL_law_39 (by decide) ?_
      refine V_iadd dL_law_40 ?_
      refine V_bipush (v := 16) dL_law_41 (by decide) ?_
      refine V_irem dL_law_43 (by decide) ?_
      replace h := ob h
      obtain ⟨r68, e_r68, h⟩ := h
      refine V_callS_I (As := [.ref (zad L (a0)), .int ((zmd ((((((7 : Int32)) * i3)) + ((3 : Int32)))) ((16 : Int32))))]) (rest := []) (c_L_cell e_r68) zc_L_cell rfl (by decide) zm_L_12 (Nat.le_of_ble_eq_true rfl) rfl dL_law_44 ?_
      refine V_pc (pc' := 47) rfl ?_
      refine V_iconst (v := 5) dL_law_47 (by decide) ?_
      refine V_iload_n dL_law_48 rfl 4 rfl ?_
      refine V_imul dL_law_49 ?_
      refine V_iadd dL_law_50 ?_
      refine V_istore (ls' := [(5, .int ((r68.1 + ((((5 : Int32)) * i3))))), (4, .int ((r67.1 + ((((31 : Int32)) * i3))))), (0, .ref (zad L (a0))), (1, .ref (zad L (a1))), (2, .int (i2)), (3, .int (i3))]) dL_law_51 (by decide) rfl ?_
      refine V_aload_n dL_law_53 rfl 3 rfl ?_
      refine V_iconst (v := 0) dL_law_54 (by decide) ?_
      replace h := ox h
      obtain ⟨c70, h⟩ := h
      replace h := xns h
      obtain ⟨w69, Mw69, e_r69, h⟩ := h
      refine V_callVx_I (As := [.int ((0 : Int32))]) (rest := []) (c_X3_many e_r69) zc_X3_many rfl (by decide) rfl (by decide) (Or.inl c70) zm_L_18 (Nat.le_of_ble_eq_true rfl) rfl dL_law_55 ?_
      refine V_pc (pc' := 58) rfl ?_
      by_cases c196 : w69 = 0
      · replace h := (oi h).1 c196
        refine V_tabIn (off := 108) (tgt := 166) dL_law_58 (by rw [c196]; decide) (by rw [c196]; decide) (by rw [c196]; decide) (by decide) ?_
        refine V_aload_n dL_law_166 rfl 3 rfl ?_
        refine V_iconst (v := 2) dL_law_167 (by decide) ?_
        replace h := ox h
        obtain ⟨c228, h⟩ := h
        replace h := xns h
        obtain ⟨w227, Mw227, e_r227, h⟩ := h
        refine V_callVx_I (As := [.int ((2 : Int32))]) (rest := []) (c_X3_many e_r227) zc_X3_many rfl (by decide) rfl (by decide) (Or.inl c228) zm_L_18 (Nat.le_of_ble_eq_true rfl) rfl dL_law_168 ?_
        refine V_pc (pc' := 171) rfl ?_
        refine V_istore (ls' := [(7, .int (w227)), (5, .int ((r68.1 + ((((5 : Int32)) * i3))))), (4, .int ((r67.1 + ((((31 : Int32)) * i3))))), (0, .ref (zad L (a0))), (1, .ref (zad L (a1))), (2, .int (i2)), (3, .int (i3))]) dL_law_171 (by decide) rfl ?_
        refine V_aload_n dL_law_173 rfl 4 rfl ?_
        refine V_iconst (v := 1) dL_law_174 (by decide) ?_
        replace h := ox h
        obtain ⟨c276, h⟩ := h
        replace h := xns h
        obtain ⟨w275, Mw275, e_r275, h⟩ := h
        refine V_callVx_I (As := [.int ((1 : Int32))]) (rest := []) (c_X3_many e_r275) zc_X3_many rfl (by decide) rfl (by decide) (Or.inl c276) zm_L_18 (Nat.le_of_ble_eq_true rfl) rfl dL_law_175 ?_
        refine V_pc (pc' := 178) rfl ?_
        refine V_istore (ls' := [(8, .int (w275)), (7, .int (w227)), (5, .int ((r68.1 + ((((5 : Int32)) * i3))))), (4, .int ((r67.1 + ((((31 : Int32)) * i3))))), (0, .ref (zad L (a0))), (1, .ref (zad L (a1))), (2, .int (i2)), (3, .int (i3))]) dL_law_178 (by decide) rfl ?_
        refine V_aload_n dL_law_180 rfl 5 rfl ?_
        refine V_iload dL_law_181 0 rfl ?_
        refine V_bipush (v := 6) dL_law_183 (by decide) ?_
        replace h := ox h
        obtain ⟨c300, h⟩ := h
        replace h := xns h
        obtain ⟨w299, Mw299, e_r299, h⟩ := h
        refine V_callVx_I (As := [.int (w275), .int ((6 : Int32))]) (rest := []) (c_X3_ofPlayer e_r299) zc_X3_ofPlayer rfl (by decide) rfl (by decide) (Or.inl c300) zm_L_29 (Nat.le_of_ble_eq_true rfl) rfl dL_law_185 ?_
        refine V_pc (pc' := 188) rfl ?_
        refine V_istore (ls' := [(9, .int (w299)), (8, .int (w275)), (7, .int (w227)), (5, .int ((r68.1 + ((((5 : Int32)) * i3))))), (4, .int ((r67.1 + ((((31 : Int32)) * i3))))), (0, .ref (zad L (a0))), (1, .ref (zad L (a1))), (2, .int (i2)), (3, .int (i3))]) dL_law_188 (by decide) rfl ?_
        refine V_aload_n dL_law_190 rfl 6 rfl ?_
        replace h := ox h
        obtain ⟨c312, h⟩ := h
        replace h := xns h
        obtain ⟨w311, Mw311, e_r311, h⟩ := h
        refine V_callVx_I (As := []) (rest := []) (c_X3_draw e_r311) zc_X3_draw rfl (by decide) rfl (by decide) (Or.inl c312) zm_L_32 (Nat.le_of_ble_eq_true rfl) rfl dL_law_191 ?_
        refine V_pc (pc' := 194) rfl ?_
        refine V_istore (ls' := [(10, .int (w311)), (9, .int (w299)), (8, .int (w275)), (7, .int (w227)), (5, .int ((r68.1 + ((((5 : Int32)) * i3))))), (4, .int ((r67.1 + ((((31 : Int32)) * i3))))), (0, .ref (zad L (a0))), (1, .ref (zad L (a1))), (2, .int (i2)), (3, .int (i3))]) dL_law_194 (by decide) rfl ?_
        refine V_aload_n dL_law_196 rfl 7 rfl ?_
        refine V_iload dL_law_197 2 rfl ?_
        refine V_bipush (v := 6) dL_law_199 (by decide) ?_
        replace h := ox h
        obtain ⟨c318, h⟩ := h
        replace h := xns h
        obtain ⟨w317, Mw317, e_r317, h⟩ := h
        refine V_callVx_I (As := [.int (w275), .int ((6 : Int32))]) (rest := []) (c_X3_ofPlayer e_r317) zc_X3_ofPlayer rfl (by decide) rfl (by decide) (Or.inl c318) zm_L_29 (Nat.le_of_ble_eq_true rfl) rfl dL_law_201 ?_
        refine V_pc (pc' := 204) rfl ?_
        refine V_istore (ls' := [(11, .int (w317)), (10, .int (w311)), (9, .int (w299)), (8, .int (w275)), (7, .int (w227)), (5, .int ((r68.1 + ((((5 : Int32)) * i3))))), (4, .int ((r67.1 + ((((31 : Int32)) * i3))))), (0, .ref (zad L (a0))), (1, .ref (zad L (a1))), (2, .int (i2)), (3, .int (i3))]) dL_law_204 (by decide) rfl ?_
        refine V_iload dL_law_206 1 rfl ?_
        refine V_if_ge (tgt := 215) dL_law_208 (by decide) (fun c320 => ?_) (fun c320 => ?_)
        · replace h := (oi h).1 c320
          refine V_iconst (v := 0) dL_law_215 (by decide) ?_
          refine V_sub [7, 8, 9, 10, 4, 3, 2, 1, 0] rfl ?_
          exact s_L_law_216 ih hq h
        · replace h := (oi h).2 c320
          refine V_iconst (v := 1) dL_law_211 (by decide) ?_
          refine V_goto (tgt := 216) dL_law_212 (by decide) ?_
          refine V_sub [7, 8, 9, 10, 4, 3, 2, 1, 0] rfl ?_
          exact s_L_law_216 ih hq h
      · replace h := (oi h).2 c196
        by_cases c197 : w69 = 1
        · replace h := (oi h).1 c197
          refine V_tabIn (off := 220) (tgt := 278) dL_law_58 (by rw [c197]; decide) (by rw [c197]; decide) (by rw [c197]; decide) (by decide) ?_
          refine V_aload_n dL_law_278 rfl 3 rfl ?_
          refine V_iload dL_law_279 1 rfl ?_
          refine V_iload dL_law_281 0 rfl ?_
          replace h := ob h
          obtain ⟨r225, e_r225, h⟩ := h
          refine V_callSW_I (As := [.ref (zad L (a1)), .int ((r67.1 + ((((31 : Int32)) * i3)))), .int ((r68.1 + ((((5 : Int32)) * i3))))]) (rest := []) (c_L_isTurn e_r225) zc_L_isTurn rfl (by decide) zm_L_39 (Nat.le_of_ble_eq_true rfl) rfl dL_law_283 ?_
          refine V_pc (pc' := 286) rfl ?_
          refine V_if_ne (tgt := 304) dL_law_286 (by decide) (fun c226 => ?_) (fun c226 => ?_)
          · replace h := (oi h).2 c226
            refine V_sub [2, 3, 4, 5] rfl ?_
            exact s_L_law_304 ih hq h
          · replace h := (oi h).1 c226
            refine V_iconst (v := 0) dL_law_289 (by decide) ?_
            cases h
        · replace h := (oi h).2 c197
          by_cases c198 : w69 = 2
          · replace h := (oi h).1 c198
            refine V_tabIn (off := 233) (tgt := 291) dL_law_58 (by rw [c198]; decide) (by rw [c198]; decide) (by rw [c198]; decide) (by decide) ?_
            refine V_aload_n dL_law_291 rfl 3 rfl ?_
            refine V_iload dL_law_292 1 rfl ?_
            refine V_iload dL_law_294 0 rfl ?_
            replace h := ob h
            obtain ⟨r223, e_r223, h⟩ := h
            refine V_callSW_I (As := [.ref (zad L (a1)), .int ((r67.1 + ((((31 : Int32)) * i3)))), .int ((r68.1 + ((((5 : Int32)) * i3))))]) (rest := []) (c_L_isOffered e_r223) zc_L_isOffered rfl (by decide) zm_L_43 (Nat.le_of_ble_eq_true rfl) rfl dL_law_296 ?_
            refine V_pc (pc' := 299) rfl ?_
            refine V_if_ne (tgt := 304) dL_law_299 (by decide) (fun c224 => ?_) (fun c224 => ?_)
            · replace h := (oi h).2 c224
              refine V_sub [2, 3, 4, 5] rfl ?_
              exact s_L_law_304 ih hq h
            · replace h := (oi h).1 c224
              refine V_iconst (v := 0) dL_law_302 (by decide) ?_
              cases h
          · replace h := (oi h).2 c198
            by_cases c199 : w69 = 3
            · replace h := (oi h).1 c199
              refine V_tabIn (off := 30) (tgt := 88) dL_law_58 (by rw [c199]; decide) (by rw [c199]; decide) (by rw [c199]; decide) (by decide) ?_
              refine V_iconst (v := 4) dL_law_88 (by decide) ?_
              replace h := ob h
              obtain ⟨r202, e_r202, h⟩ := h
              refine V_newa (t := 0) (by decide) rfl zna_0 e_r202 dL_law_89 ?_
              refine V_pc (pc' := 91) rfl ?_
              refine V_dup dL_law_91 rfl ?_
              refine V_iconst (v := 0) dL_law_92 (by decide) ?_
              refine V_iconst (v := 1) dL_law_93 (by decide) ?_
              replace h := ob h
              obtain ⟨M203, e_M203, h⟩ := h
              refine V_iast e_M203 dL_law_94 ?_
              refine V_dup dL_law_95 rfl ?_
              refine V_iconst (v := 1) dL_law_96 (by decide) ?_
              refine V_iconst (v := 3) dL_law_97 (by decide) ?_
              replace h := ob h
              obtain ⟨M204, e_M204, h⟩ := h
              refine V_iast e_M204 dL_law_98 ?_
              refine V_dup dL_law_99 rfl ?_
              refine V_iconst (v := 2) dL_law_100 (by decide) ?_
              refine V_bipush (v := 7) dL_law_101 (by decide) ?_
              replace h := ob h
              obtain ⟨M205, e_M205, h⟩ := h
              refine V_iast e_M205 dL_law_103 ?_
              refine V_dup dL_law_104 rfl ?_
              refine V_iconst (v := 3) dL_law_105 (by decide) ?_
              refine V_bipush (v := 9) dL_law_106 (by decide) ?_
              replace h := ob h
              obtain ⟨M206, e_M206, h⟩ := h
              refine V_iast e_M206 dL_law_108 ?_
              refine V_astore (ls' := [(6, .ref (zad L (r202.1))), (5, .int ((r68.1 + ((((5 : Int32)) * i3))))), (4, .int ((r67.1 + ((((31 : Int32)) * i3))))), (0, .ref (zad L (a0))), (1, .ref (zad L (a1))), (2, .int (i2)), (3, .int (i3))]) dL_law_109 (by decide) rfl ?_
              refine V_aload_n dL_law_111 rfl 4 rfl ?_
              refine V_bipush (v := 10) dL_law_112 (by decide) ?_
              refine V_iload dL_law_114 2 rfl ?_
              refine V_bipush (v := 10) dL_law_116 (by decide) ?_
              replace h := ob h
              obtain ⟨r207, e_r207, h⟩ := h
              refine V_callS_I (As := [.int ((r67.1 + ((((31 : Int32)) * i3)))), .int ((10 : Int32))]) (rest := [.int ((10 : Int32)), .ref (zad L (a1))]) (c_L_below e_r207) zc_L_below rfl (by decide) zm_L_22 (Nat.le_of_ble_eq_true rfl) rfl dL_law_118 ?_
              refine V_pc (pc' := 121) rfl ?_
              refine V_imul dL_law_121 ?_
              refine V_aload dL_law_122 0 rfl ?_
              refine V_iload dL_law_124 2 rfl ?_
              refine V_bipush (v := 10) dL_law_126 (by decide) ?_
              refine V_idiv dL_law_128 (by decide) ?_
              refine V_iconst (v := 4) dL_law_129 (by decide) ?_
              replace h := ob h
              obtain ⟨r208, e_r208, h⟩ := h
              refine V_callS_I (As := [.int ((((r67.1 + ((((31 : Int32)) * i3)))) / ((10 : Int32)))), .int ((4 : Int32))]) (rest := [.ref (zad L (r202.1)), .int ((((10 : Int32)) * r207.1)), .ref (zad L (a1))]) (c_L_below e_r208) zc_L_below rfl (by decide) zm_L_22 (Nat.le_of_ble_eq_true rfl) rfl dL_law_130 ?_
              refine V_pc (pc' := 133) rfl ?_
              replace h := ob h
              obtain ⟨v209, e_v209, h⟩ := h
              refine V_iald e_v209 dL_law_133 ?_
              refine V_pc (pc' := 134) rfl ?_
              refine V_iadd dL_law_134 ?_
              refine V_iload dL_law_135 1 rfl ?_
              refine V_bipush (v := 100) dL_law_137 (by decide) ?_
              replace h := ob h
              obtain ⟨r210, e_r210, h⟩ := h
              refine V_callS_I (As := [.int ((r68.1 + ((((5 : Int32)) * i3)))), .int ((100 : Int32))]) (rest := [.int ((((((10 : Int32)) * r207.1)) + v209)), .ref (zad L (a1))]) (c_L_below e_r210) zc_L_below rfl (by decide) zm_L_22 (Nat.le_of_ble_eq_true rfl) rfl dL_law_139 ?_
              refine V_pc (pc' := 142) rfl ?_
              replace h := ox h
              obtain ⟨c212, h⟩ := h
              replace h := xns h
              obtain ⟨w211, Mw211, e_r211, h⟩ := h
              refine V_callVx_I (As := [.int ((((((10 : Int32)) * r207.1)) + v209)), .int (r210.1)]) (rest := []) (c_X3_lay e_r211) zc_X3_lay rfl (by decide) rfl (by decide) (Or.inl c212) zm_L_26 (Nat.le_of_ble_eq_true rfl) rfl dL_law_142 ?_
              refine V_pc (pc' := 145) rfl ?_
              refine V_iload_n dL_law_145 rfl 5 rfl ?_
              refine V_iconst (v := 4) dL_law_146 (by decide) ?_
              refine V_irem dL_law_147 (by decide) ?_
              refine V_icmp_ne (tgt := 164) dL_law_148 (by decide) (fun c222 => ?_) (fun c222 => ?_)
              · replace h := (oi h).2 c222
                refine V_iconst (v := 0) dL_law_164 (by decide) ?_
                cases h
              · replace h := (oi h).1 c222
                refine V_aload_n dL_law_151 rfl 4 rfl ?_
                refine V_bipush (v := 7) dL_law_152 (by decide) ?_
                replace h := ox h
                obtain ⟨c219, h⟩ := h
                replace h := xns h
                obtain ⟨w218, Mw218, e_r218, h⟩ := h
                refine V_callVx_I (As := [.int ((7 : Int32))]) (rest := []) (c_X3_many e_r218) zc_X3_many rfl (by decide) rfl (by decide) (Or.inl c219) zm_L_18 (Nat.le_of_ble_eq_true rfl) rfl dL_law_154 ?_
                refine V_pc (pc' := 157) rfl ?_
                refine V_iinc (v := i2 + (1 : Int32)) (ls' := [(2, .int ((i2 + (1 : Int32)))), (6, .ref (zad L (r202.1))), (5, .int ((r68.1 + ((((5 : Int32)) * i3))))), (4, .int ((r67.1 + ((((31 : Int32)) * i3))))), (0, .ref (zad L (a0))), (1, .ref (zad L (a1))), (3, .int (i3))]) dL_law_157 5 rfl (by rfl) (by decide) rfl ?_
                refine V_iload_n dL_law_160 rfl 0 rfl ?_
                refine V_icmp_eq (tgt := 304) dL_law_161 (by decide) (fun c221 => ?_) (fun c221 => ?_)
                · replace h := (oi h).1 c221
                  refine V_sub [4, 5, 0, 6] rfl ?_
                  exact s_L_law_304 ih hq h
                · replace h := (oi h).2 c221
                  refine V_iconst (v := 0) dL_law_164 (by decide) ?_
                  cases h
            · replace h := (oi h).2 c199
              have hsw : (w69).toInt < 0 ∨ 3 < (w69).toInt := by
                have q0 : ¬ (w69).toInt = 0 := fun e => c196 (Int32.toInt_inj.mp (e.trans (by decide)))
                have q1 : ¬ (w69).toInt = 1 := fun e => c197 (Int32.toInt_inj.mp (e.trans (by decide)))
                have q2 : ¬ (w69).toInt = 2 := fun e => c198 (Int32.toInt_inj.mp (e.trans (by decide)))
                have q3 : ¬ (w69).toInt = 3 := fun e => c199 (Int32.toInt_inj.mp (e.trans (by decide)))
                omega
              refine V_tabOut (tgt := 291) dL_law_58 hsw (by decide) ?_
              refine V_aload_n dL_law_291 rfl 3 rfl ?_
              refine V_iload dL_law_292 1 rfl ?_
              refine V_iload dL_law_294 0 rfl ?_
              replace h := ob h
              obtain ⟨r200, e_r200, h⟩ := h
              refine V_callSW_I (As := [.ref (zad L (a1)), .int ((r67.1 + ((((31 : Int32)) * i3)))), .int ((r68.1 + ((((5 : Int32)) * i3))))]) (rest := []) (c_L_isOffered e_r200) zc_L_isOffered rfl (by decide) zm_L_43 (Nat.le_of_ble_eq_true rfl) rfl dL_law_296 ?_
              refine V_pc (pc' := 299) rfl ?_
              refine V_if_ne (tgt := 304) dL_law_299 (by decide) (fun c201 => ?_) (fun c201 => ?_)
              · replace h := (oi h).2 c201
                refine V_sub [2, 3, 4, 5] rfl ?_
                exact s_L_law_304 ih hq h
              · replace h := (oi h).1 c201
                refine V_iconst (v := 0) dL_law_302 (by decide) ?_
                cases h
def f_L_law_0 (a0 : Nat) (M : zM) : Option (Unit × zM) :=
  (f_X3_init (mX M) (nO M 9 16)).bind fun r1 =>
  f_L_law_12 zNL a0 (mX M) ((0 : Int32)) ((0 : Int32)) r1.2
set_option maxRecDepth 20000 in
set_option maxHeartbeats 4000000 in
theorem s_L_law_0 {L : zL} {X : zX} {M0 : zM} {N : Nat × Nat} {Q : State → Prop} {r : Unit × zM} (hq : ∀ {M : zM} {pc : Nat} {ls : List (Nat × Value)}, M = r.2 → decode cL_law pc = .ok (.ireturn, 1) → V L X yL_law cL_law 12 (some FieldType.boolean) 72 M0 N Q M pc ls [.int 1]) {a0 : Nat} {M : zM} (h : f_L_law_0 a0 M = some r) : V L X yL_law cL_law 12 (some FieldType.boolean) 72 M0 N Q M 0 [(0, .ref (zad L (a0)))] [] := by
  unfold f_L_law_0 at h
  refine V_new (by decide) rfl zin9 zty9 zdf9 zn_L_9 dL_law_0 ?_
  refine V_dup dL_law_3 rfl ?_
  replace h := ob h
  obtain ⟨r1, e_r1, h⟩ := h
  refine V_callI_V (As := []) (rest := [.ref (zad L (mX M))]) (c_X3_init e_r1) zc_X3_init rfl (by decide) zm_L_11 rfl (Nat.le_of_ble_eq_true rfl) rfl dL_law_4 ?_
  refine V_pc (pc' := 7) rfl ?_
  refine V_astore_n (ls' := [(1, .ref (zad L (mX M))), (0, .ref (zad L (a0)))]) dL_law_7 rfl (by decide) rfl ?_
  refine V_iconst (v := 0) dL_law_8 (by decide) ?_
  refine V_istore_n (ls' := [(2, .int ((0 : Int32))), (1, .ref (zad L (mX M))), (0, .ref (zad L (a0)))]) dL_law_9 rfl (by decide) rfl ?_
  refine V_iconst (v := 0) dL_law_10 (by decide) ?_
  refine V_istore_n (ls' := [(3, .int ((0 : Int32))), (2, .int ((0 : Int32))), (1, .ref (zad L (mX M))), (0, .ref (zad L (a0)))]) dL_law_11 rfl (by decide) rfl ?_
  refine V_sub [3, 2, 1, 0] rfl ?_
  exact s_L_law_12 hq h
def f_L_law (a0 : Nat) (M : zM) : Option (Unit × zM) := f_L_law_0 a0 M
