theorem dX11_roomOf_53 : decode cX11_roomOf 53 = .ok (.ireturn, 1) := by decide +kernel
theorem dX11_roomOf_54 : decode cX11_roomOf 54 = .ok (.aload_n 0, 1) := by decide +kernel
theorem dX11_roomOf_55 : decode cX11_roomOf 55 = .ok (.getfield 47, 3) := by decide +kernel
theorem dX11_roomOf_58 : decode cX11_roomOf 58 = .ok (.iload_n 1, 1) := by decide +kernel
theorem dX11_roomOf_59 : decode cX11_roomOf 59 = .ok (.iaload, 1) := by decide +kernel
theorem dX11_roomOf_60 : decode cX11_roomOf 60 = .ok (.ireturn, 1) := by decide +kernel
theorem dX11_step_0 : decode cX11_step 0 = .ok (.aload_n 0, 1) := by decide +kernel
theorem dX11_step_1 : decode cX11_step 1 = .ok (.getfield 9, 3) := by decide +kernel
theorem dX11_step_4 : decode cX11_step 4 = .ok (.iload_n 1, 1) := by decide +kernel
theorem dX11_step_5 : decode cX11_step 5 = .ok (.iaload, 1) := by decide +kernel
theorem dX11_step_6 : decode cX11_step 6 = .ok (.istore_n 2, 1) := by decide +kernel
theorem dX11_step_7 : decode cX11_step 7 = .ok (.aload_n 0, 1) := by decide +kernel
theorem dX11_step_8 : decode cX11_step 8 = .ok (.getfield 13, 3) := by decide +kernel
theorem dX11_step_11 : decode cX11_step 11 = .ok (.iload_n 1, 1) := by decide +kernel
theorem dX11_step_12 : decode cX11_step 12 = .ok (.iaload, 1) := by decide +kernel
theorem dX11_step_13 : decode cX11_step 13 = .ok (.istore_n 3, 1) := by decide +kernel
theorem dX11_step_14 : decode cX11_step 14 = .ok (.aload_n 0, 1) := by decide +kernel
theorem dX11_step_15 : decode cX11_step 15 = .ok (.getfield 96, 3) := by decide +kernel
theorem dX11_step_18 : decode cX11_step 18 = .ok (.ifCond .ne 7, 3) := by decide +kernel
theorem dX11_step_21 : decode cX11_step 21 = .ok (.iconst (-1), 1) := by decide +kernel
theorem dX11_step_22 : decode cX11_step 22 = .ok (.goto 9, 3) := by decide +kernel
theorem dX11_step_25 : decode cX11_step 25 = .ok (.aload_n 0, 1) := by decide +kernel
theorem dX11_step_26 : decode cX11_step 26 = .ok (.getfield 38, 3) := by decide +kernel
theorem dX11_step_29 : decode cX11_step 29 = .ok (.iconst 0, 1) := by decide +kernel
theorem dX11_step_30 : decode cX11_step 30 = .ok (.iaload, 1) := by decide +kernel
theorem dX11_step_31 : decode cX11_step 31 = .ok (.istore 4, 2) := by decide +kernel
theorem dX11_step_33 : decode cX11_step 33 = .ok (.aload_n 0, 1) := by decide +kernel
theorem dX11_step_34 : decode cX11_step 34 = .ok (.getfield 59, 3) := by decide +kernel
theorem dX11_step_37 : decode cX11_step 37 = .ok (.iload_n 3, 1) := by decide +kernel
theorem dX11_step_38 : decode cX11_step 38 = .ok (.iaload, 1) := by decide +kernel
theorem dX11_step_39 : decode cX11_step 39 = .ok (.istore 5, 2) := by decide +kernel
theorem dX11_step_41 : decode cX11_step 41 = .ok (.bipush 6, 2) := by decide +kernel
theorem dX11_step_43 : decode cX11_step 43 = .ok (.iload_n 1, 1) := by decide +kernel
theorem dX11_step_44 : decode cX11_step 44 = .ok (.imul, 1) := by decide +kernel
theorem dX11_step_45 : decode cX11_step 45 = .ok (.istore 6, 2) := by decide +kernel
theorem dX11_step_47 : decode cX11_step 47 = .ok (.aload_n 0, 1) := by decide +kernel
theorem dX11_step_48 : decode cX11_step 48 = .ok (.getfield 29, 3) := by decide +kernel
theorem dX11_step_51 : decode cX11_step 51 = .ok (.iload 6, 2) := by decide +kernel
theorem dX11_step_53 : decode cX11_step 53 = .ok (.aload_n 0, 1) := by decide +kernel
theorem dX11_step_54 : decode cX11_step 54 = .ok (.iload_n 2, 1) := by decide +kernel
theorem dX11_step_55 : decode cX11_step 55 = .ok (.iload_n 3, 1) := by decide +kernel
theorem dX11_step_56 : decode cX11_step 56 = .ok (.invokevirtual 175, 3) := by decide +kernel
theorem dX11_step_59 : decode cX11_step 59 = .ok (.iastore, 1) := by decide +kernel
theorem dX11_step_60 : decode cX11_step 60 = .ok (.aload_n 0, 1) := by decide +kernel
theorem dX11_step_61 : decode cX11_step 61 = .ok (.getfield 29, 3) := by decide +kernel
theorem dX11_step_64 : decode cX11_step 64 = .ok (.iload 6, 2) := by decide +kernel
theorem dX11_step_66 : decode cX11_step 66 = .ok (.iconst 1, 1) := by decide +kernel
theorem dX11_step_67 : decode cX11_step 67 = .ok (.iadd, 1) := by decide +kernel
theorem dX11_step_68 : decode cX11_step 68 = .ok (.aload_n 0, 1) := by decide +kernel
theorem dX11_step_69 : decode cX11_step 69 = .ok (.iload_n 2, 1) := by decide +kernel
theorem dX11_step_70 : decode cX11_step 70 = .ok (.iload_n 3, 1) := by decide +kernel
theorem dX11_step_71 : decode cX11_step 71 = .ok (.invokevirtual 178, 3) := by decide +kernel
theorem dX11_step_74 : decode cX11_step 74 = .ok (.iastore, 1) := by decide +kernel
theorem dX11_step_75 : decode cX11_step 75 = .ok (.aload_n 0, 1) := by decide +kernel
theorem dX11_step_76 : decode cX11_step 76 = .ok (.getfield 29, 3) := by decide +kernel
theorem dX11_step_79 : decode cX11_step 79 = .ok (.iload 6, 2) := by decide +kernel
theorem dX11_step_81 : decode cX11_step 81 = .ok (.iconst 2, 1) := by decide +kernel
theorem dX11_step_82 : decode cX11_step 82 = .ok (.iadd, 1) := by decide +kernel
theorem dX11_step_83 : decode cX11_step 83 = .ok (.aload_n 0, 1) := by decide +kernel
theorem dX11_step_84 : decode cX11_step 84 = .ok (.iload_n 2, 1) := by decide +kernel
theorem dX11_step_85 : decode cX11_step 85 = .ok (.iload_n 3, 1) := by decide +kernel
theorem dX11_step_86 : decode cX11_step 86 = .ok (.invokevirtual 181, 3) := by decide +kernel
theorem dX11_step_89 : decode cX11_step 89 = .ok (.iastore, 1) := by decide +kernel
theorem dX11_step_90 : decode cX11_step 90 = .ok (.aload_n 0, 1) := by decide +kernel
theorem dX11_step_91 : decode cX11_step 91 = .ok (.getfield 29, 3) := by decide +kernel
theorem dX11_step_94 : decode cX11_step 94 = .ok (.iload 6, 2) := by decide +kernel
theorem dX11_step_96 : decode cX11_step 96 = .ok (.iconst 3, 1) := by decide +kernel
theorem dX11_step_97 : decode cX11_step 97 = .ok (.iadd, 1) := by decide +kernel
theorem dX11_step_98 : decode cX11_step 98 = .ok (.aload_n 0, 1) := by decide +kernel
theorem dX11_step_99 : decode cX11_step 99 = .ok (.iload_n 2, 1) := by decide +kernel
theorem dX11_step_100 : decode cX11_step 100 = .ok (.iload_n 3, 1) := by decide +kernel
theorem dX11_step_101 : decode cX11_step 101 = .ok (.invokevirtual 184, 3) := by decide +kernel
theorem dX11_step_104 : decode cX11_step 104 = .ok (.iastore, 1) := by decide +kernel
theorem dX11_step_105 : decode cX11_step 105 = .ok (.aload_n 0, 1) := by decide +kernel
theorem dX11_step_106 : decode cX11_step 106 = .ok (.getfield 29, 3) := by decide +kernel
theorem dX11_step_109 : decode cX11_step 109 = .ok (.iload 6, 2) := by decide +kernel
theorem dX11_step_111 : decode cX11_step 111 = .ok (.iconst 4, 1) := by decide +kernel
theorem dX11_step_112 : decode cX11_step 112 = .ok (.iadd, 1) := by decide +kernel
theorem dX11_step_113 : decode cX11_step 113 = .ok (.aload_n 0, 1) := by decide +kernel
theorem dX11_step_114 : decode cX11_step 114 = .ok (.iload_n 2, 1) := by decide +kernel
theorem dX11_step_115 : decode cX11_step 115 = .ok (.iload_n 3, 1) := by decide +kernel
theorem dX11_step_116 : decode cX11_step 116 = .ok (.invokevirtual 187, 3) := by decide +kernel
theorem dX11_step_119 : decode cX11_step 119 = .ok (.iastore, 1) := by decide +kernel
theorem dX11_step_120 : decode cX11_step 120 = .ok (.aload_n 0, 1) := by decide +kernel
theorem dX11_step_121 : decode cX11_step 121 = .ok (.getfield 29, 3) := by decide +kernel
theorem dX11_step_124 : decode cX11_step 124 = .ok (.iload 6, 2) := by decide +kernel
theorem dX11_step_126 : decode cX11_step 126 = .ok (.iconst 5, 1) := by decide +kernel
theorem dX11_step_127 : decode cX11_step 127 = .ok (.iadd, 1) := by decide +kernel
theorem dX11_step_128 : decode cX11_step 128 = .ok (.aload_n 0, 1) := by decide +kernel
theorem dX11_step_129 : decode cX11_step 129 = .ok (.iload_n 2, 1) := by decide +kernel
theorem dX11_step_130 : decode cX11_step 130 = .ok (.iload_n 3, 1) := by decide +kernel
theorem dX11_step_131 : decode cX11_step 131 = .ok (.invokevirtual 190, 3) := by decide +kernel
theorem dX11_step_134 : decode cX11_step 134 = .ok (.iastore, 1) := by decide +kernel
theorem dX11_step_135 : decode cX11_step 135 = .ok (.iload_n 2, 1) := by decide +kernel
theorem dX11_step_136 : decode cX11_step 136 = .ok (.ifCond .ne 23, 3) := by decide +kernel
theorem dX11_step_139 : decode cX11_step 139 = .ok (.aload_n 0, 1) := by decide +kernel
theorem dX11_step_140 : decode cX11_step 140 = .ok (.dup, 1) := by decide +kernel
theorem dX11_step_141 : decode cX11_step 141 = .ok (.getfield 96, 3) := by decide +kernel
theorem dX11_step_144 : decode cX11_step 144 = .ok (.iconst 1, 1) := by decide +kernel
theorem dX11_step_145 : decode cX11_step 145 = .ok (.iadd, 1) := by decide +kernel
theorem dX11_step_146 : decode cX11_step 146 = .ok (.putfield 96, 3) := by decide +kernel
theorem dX11_step_149 : decode cX11_step 149 = .ok (.aload_n 0, 1) := by decide +kernel
theorem dX11_step_150 : decode cX11_step 150 = .ok (.getfield 59, 3) := by decide +kernel
theorem dX11_step_153 : decode cX11_step 153 = .ok (.iload_n 3, 1) := by decide +kernel
theorem dX11_step_154 : decode cX11_step 154 = .ok (.dup2, 1) := by decide +kernel
theorem dX11_step_155 : decode cX11_step 155 = .ok (.iaload, 1) := by decide +kernel
theorem dX11_step_156 : decode cX11_step 156 = .ok (.iconst 1, 1) := by decide +kernel
theorem dX11_step_157 : decode cX11_step 157 = .ok (.iadd, 1) := by decide +kernel
theorem dX11_step_158 : decode cX11_step 158 = .ok (.iastore, 1) := by decide +kernel
theorem dX11_step_159 : decode cX11_step 159 = .ok (.iload_n 2, 1) := by decide +kernel
theorem dX11_step_160 : decode cX11_step 160 = .ok (.iconst 2, 1) := by decide +kernel
theorem dX11_step_161 : decode cX11_step 161 = .ok (.if_icmp .ne 28, 3) := by decide +kernel
theorem dX11_step_164 : decode cX11_step 164 = .ok (.iload 5, 2) := by decide +kernel
theorem dX11_step_166 : decode cX11_step 166 = .ok (.ifCond .le 23, 3) := by decide +kernel
theorem dX11_step_169 : decode cX11_step 169 = .ok (.aload_n 0, 1) := by decide +kernel
theorem dX11_step_170 : decode cX11_step 170 = .ok (.dup, 1) := by decide +kernel
theorem dX11_step_171 : decode cX11_step 171 = .ok (.getfield 96, 3) := by decide +kernel
theorem dX11_step_174 : decode cX11_step 174 = .ok (.iconst 1, 1) := by decide +kernel
theorem dX11_step_175 : decode cX11_step 175 = .ok (.isub, 1) := by decide +kernel
theorem dX11_step_176 : decode cX11_step 176 = .ok (.putfield 96, 3) := by decide +kernel
theorem dX11_step_179 : decode cX11_step 179 = .ok (.aload_n 0, 1) := by decide +kernel
theorem dX11_step_180 : decode cX11_step 180 = .ok (.getfield 59, 3) := by decide +kernel
theorem dX11_step_183 : decode cX11_step 183 = .ok (.iload_n 3, 1) := by decide +kernel
theorem dX11_step_184 : decode cX11_step 184 = .ok (.dup2, 1) := by decide +kernel
theorem dX11_step_185 : decode cX11_step 185 = .ok (.iaload, 1) := by decide +kernel
theorem dX11_step_186 : decode cX11_step 186 = .ok (.iconst 1, 1) := by decide +kernel
theorem dX11_step_187 : decode cX11_step 187 = .ok (.isub, 1) := by decide +kernel
theorem dX11_step_188 : decode cX11_step 188 = .ok (.iastore, 1) := by decide +kernel
theorem dX11_step_189 : decode cX11_step 189 = .ok (.iload_n 2, 1) := by decide +kernel
theorem dX11_step_190 : decode cX11_step 190 = .ok (.tableswitch 113 0 6 #[42, 55, 55, 42, 74, 88, 102], 42) := by decide +kernel
theorem dX11_step_232 : decode cX11_step 232 = .ok (.aload_n 0, 1) := by decide +kernel
theorem dX11_step_233 : decode cX11_step 233 = .ok (.getfield 23, 3) := by decide +kernel
theorem dX11_step_236 : decode cX11_step 236 = .ok (.iload_n 1, 1) := by decide +kernel
theorem dX11_step_237 : decode cX11_step 237 = .ok (.aload_n 0, 1) := by decide +kernel
theorem dX11_step_238 : decode cX11_step 238 = .ok (.getfield 96, 3) := by decide +kernel
theorem dX11_step_241 : decode cX11_step 241 = .ok (.iastore, 1) := by decide +kernel
theorem dX11_step_242 : decode cX11_step 242 = .ok (.goto 69, 3) := by decide +kernel
theorem dX11_step_245 : decode cX11_step 245 = .ok (.aload_n 0, 1) := by decide +kernel
theorem dX11_step_246 : decode cX11_step 246 = .ok (.getfield 23, 3) := by decide +kernel
theorem dX11_step_249 : decode cX11_step 249 = .ok (.iload_n 1, 1) := by decide +kernel
theorem dX11_step_250 : decode cX11_step 250 = .ok (.iload 5, 2) := by decide +kernel
theorem dX11_step_252 : decode cX11_step 252 = .ok (.ifCond .le 7, 3) := by decide +kernel
theorem dX11_step_255 : decode cX11_step 255 = .ok (.iconst 1, 1) := by decide +kernel
theorem dX11_step_256 : decode cX11_step 256 = .ok (.goto 4, 3) := by decide +kernel
theorem dX11_step_259 : decode cX11_step 259 = .ok (.iconst 0, 1) := by decide +kernel
theorem dX11_step_260 : decode cX11_step 260 = .ok (.iastore, 1) := by decide +kernel
theorem dX11_step_261 : decode cX11_step 261 = .ok (.goto 50, 3) := by decide +kernel
theorem dX11_step_264 : decode cX11_step 264 = .ok (.aload_n 0, 1) := by decide +kernel
theorem dX11_step_265 : decode cX11_step 265 = .ok (.getfield 23, 3) := by decide +kernel
theorem dX11_step_268 : decode cX11_step 268 = .ok (.iload_n 1, 1) := by decide +kernel
theorem dX11_step_269 : decode cX11_step 269 = .ok (.aload_n 0, 1) := by decide +kernel
theorem dX11_step_270 : decode cX11_step 270 = .ok (.iconst 0, 1) := by decide +kernel
theorem dX11_step_271 : decode cX11_step 271 = .ok (.invokevirtual 172, 3) := by decide +kernel
theorem dX11_step_274 : decode cX11_step 274 = .ok (.iastore, 1) := by decide +kernel
theorem dX11_step_275 : decode cX11_step 275 = .ok (.goto 36, 3) := by decide +kernel
theorem dX11_step_278 : decode cX11_step 278 = .ok (.aload_n 0, 1) := by decide +kernel
theorem dX11_step_279 : decode cX11_step 279 = .ok (.getfield 23, 3) := by decide +kernel
theorem dX11_step_282 : decode cX11_step 282 = .ok (.iload_n 1, 1) := by decide +kernel
theorem dX11_step_283 : decode cX11_step 283 = .ok (.aload_n 0, 1) := by decide +kernel
theorem dX11_step_284 : decode cX11_step 284 = .ok (.iload_n 3, 1) := by decide +kernel
theorem dX11_step_285 : decode cX11_step 285 = .ok (.invokevirtual 172, 3) := by decide +kernel
theorem dX11_step_288 : decode cX11_step 288 = .ok (.iastore, 1) := by decide +kernel
theorem dX11_step_289 : decode cX11_step 289 = .ok (.goto 22, 3) := by decide +kernel
theorem dX11_step_292 : decode cX11_step 292 = .ok (.aload_n 0, 1) := by decide +kernel
theorem dX11_step_293 : decode cX11_step 293 = .ok (.getfield 23, 3) := by decide +kernel
theorem dX11_step_296 : decode cX11_step 296 = .ok (.iload_n 1, 1) := by decide +kernel
theorem dX11_step_297 : decode cX11_step 297 = .ok (.iload 4, 2) := by decide +kernel
theorem dX11_step_299 : decode cX11_step 299 = .ok (.iastore, 1) := by decide +kernel
theorem dX11_step_300 : decode cX11_step 300 = .ok (.goto 11, 3) := by decide +kernel
theorem dX11_step_303 : decode cX11_step 303 = .ok (.aload_n 0, 1) := by decide +kernel
theorem dX11_step_304 : decode cX11_step 304 = .ok (.getfield 23, 3) := by decide +kernel
theorem dX11_step_307 : decode cX11_step 307 = .ok (.iload_n 1, 1) := by decide +kernel
theorem dX11_step_308 : decode cX11_step 308 = .ok (.iload 5, 2) := by decide +kernel
theorem dX11_step_310 : decode cX11_step 310 = .ok (.iastore, 1) := by decide +kernel
theorem dX11_step_311 : decode cX11_step 311 = .ok (.aload_n 0, 1) := by decide +kernel
theorem dX11_step_312 : decode cX11_step 312 = .ok (.getfield 26, 3) := by decide +kernel
theorem dX11_step_315 : decode cX11_step 315 = .ok (.iload_n 1, 1) := by decide +kernel
theorem dX11_step_316 : decode cX11_step 316 = .ok (.aload_n 0, 1) := by decide +kernel
theorem dX11_step_317 : decode cX11_step 317 = .ok (.getfield 96, 3) := by decide +kernel
theorem dX11_step_320 : decode cX11_step 320 = .ok (.iastore, 1) := by decide +kernel
theorem dX11_step_321 : decode cX11_step 321 = .ok (.iconst 0, 1) := by decide +kernel
theorem dX11_step_322 : decode cX11_step 322 = .ok (.istore 7, 2) := by decide +kernel
theorem dX11_step_324 : decode cX11_step 324 = .ok (.iload 7, 2) := by decide +kernel
theorem dX11_step_326 : decode cX11_step 326 = .ok (.bipush 6, 2) := by decide +kernel
theorem dX11_step_328 : decode cX11_step 328 = .ok (.if_icmp .ge 63, 3) := by decide +kernel
theorem dX11_step_331 : decode cX11_step 331 = .ok (.aload_n 0, 1) := by decide +kernel
theorem dX11_step_332 : decode cX11_step 332 = .ok (.getfield 32, 3) := by decide +kernel
theorem dX11_step_335 : decode cX11_step 335 = .ok (.iload 7, 2) := by decide +kernel
theorem dX11_step_337 : decode cX11_step 337 = .ok (.aload_n 0, 1) := by decide +kernel
theorem dX11_step_338 : decode cX11_step 338 = .ok (.iload 7, 2) := by decide +kernel
theorem dX11_step_340 : decode cX11_step 340 = .ok (.invokevirtual 193, 3) := by decide +kernel
theorem dX11_step_343 : decode cX11_step 343 = .ok (.iastore, 1) := by decide +kernel
theorem dX11_step_344 : decode cX11_step 344 = .ok (.aload_n 0, 1) := by decide +kernel
theorem dX11_step_345 : decode cX11_step 345 = .ok (.getfield 35, 3) := by decide +kernel
theorem dX11_step_348 : decode cX11_step 348 = .ok (.iload 7, 2) := by decide +kernel
theorem dX11_step_350 : decode cX11_step 350 = .ok (.aload_n 0, 1) := by decide +kernel
theorem dX11_step_351 : decode cX11_step 351 = .ok (.getfield 32, 3) := by decide +kernel
theorem dX11_step_354 : decode cX11_step 354 = .ok (.iload 7, 2) := by decide +kernel
theorem dX11_step_356 : decode cX11_step 356 = .ok (.iaload, 1) := by decide +kernel
theorem dX11_step_357 : decode cX11_step 357 = .ok (.aload_n 0, 1) := by decide +kernel
theorem dX11_step_358 : decode cX11_step 358 = .ok (.getfield 35, 3) := by decide +kernel
theorem dX11_step_361 : decode cX11_step 361 = .ok (.iload 7, 2) := by decide +kernel
theorem dX11_step_363 : decode cX11_step 363 = .ok (.iaload, 1) := by decide +kernel
theorem dX11_step_364 : decode cX11_step 364 = .ok (.if_icmp .le 13, 3) := by decide +kernel
theorem dX11_step_367 : decode cX11_step 367 = .ok (.aload_n 0, 1) := by decide +kernel
theorem dX11_step_368 : decode cX11_step 368 = .ok (.getfield 32, 3) := by decide +kernel
theorem dX11_step_371 : decode cX11_step 371 = .ok (.iload 7, 2) := by decide +kernel
theorem dX11_step_373 : decode cX11_step 373 = .ok (.iaload, 1) := by decide +kernel
theorem dX11_step_374 : decode cX11_step 374 = .ok (.goto 10, 3) := by decide +kernel
theorem dX11_step_377 : decode cX11_step 377 = .ok (.aload_n 0, 1) := by decide +kernel
theorem dX11_step_378 : decode cX11_step 378 = .ok (.getfield 35, 3) := by decide +kernel
theorem dX11_step_381 : decode cX11_step 381 = .ok (.iload 7, 2) := by decide +kernel
theorem dX11_step_383 : decode cX11_step 383 = .ok (.iaload, 1) := by decide +kernel
theorem dX11_step_384 : decode cX11_step 384 = .ok (.iastore, 1) := by decide +kernel
theorem dX11_step_385 : decode cX11_step 385 = .ok (.iinc 7 1, 3) := by decide +kernel
theorem dX11_step_388 : decode cX11_step 388 = .ok (.goto (-64), 3) := by decide +kernel
theorem dX11_step_391 : decode cX11_step 391 = .ok (.return_, 1) := by decide +kernel
theorem dX11_doAll_0 : decode cX11_doAll 0 = .ok (.aload_n 0, 1) := by decide +kernel
theorem dX11_doAll_1 : decode cX11_doAll 1 = .ok (.getfield 77, 3) := by decide +kernel
theorem dX11_doAll_4 : decode cX11_doAll 4 = .ok (.ifCond .eq 4, 3) := by decide +kernel
theorem dX11_doAll_7 : decode cX11_doAll 7 = .ok (.return_, 1) := by decide +kernel
theorem dX11_doAll_8 : decode cX11_doAll 8 = .ok (.aload_n 0, 1) := by decide +kernel
theorem dX11_doAll_9 : decode cX11_doAll 9 = .ok (.iconst 1, 1) := by decide +kernel
theorem dX11_doAll_10 : decode cX11_doAll 10 = .ok (.putfield 77, 3) := by decide +kernel
theorem dX11_doAll_13 : decode cX11_doAll 13 = .ok (.aload_n 0, 1) := by decide +kernel
theorem dX11_doAll_14 : decode cX11_doAll 14 = .ok (.iconst 0, 1) := by decide +kernel
theorem dX11_doAll_15 : decode cX11_doAll 15 = .ok (.putfield 96, 3) := by decide +kernel
theorem dX11_doAll_18 : decode cX11_doAll 18 = .ok (.aload_n 0, 1) := by decide +kernel
theorem dX11_doAll_19 : decode cX11_doAll 19 = .ok (.bipush 8, 2) := by decide +kernel
theorem dX11_doAll_21 : decode cX11_doAll 21 = .ok (.putfield 121, 3) := by decide +kernel
theorem dX11_doAll_24 : decode cX11_doAll 24 = .ok (.aload_n 0, 1) := by decide +kernel
theorem dX11_doAll_25 : decode cX11_doAll 25 = .ok (.iconst 0, 1) := by decide +kernel
theorem dX11_doAll_26 : decode cX11_doAll 26 = .ok (.putfield 131, 3) := by decide +kernel
theorem dX11_doAll_29 : decode cX11_doAll 29 = .ok (.aload_n 0, 1) := by decide +kernel
theorem dX11_doAll_30 : decode cX11_doAll 30 = .ok (.iconst 0, 1) := by decide +kernel
theorem dX11_doAll_31 : decode cX11_doAll 31 = .ok (.putfield 153, 3) := by decide +kernel
theorem dX11_doAll_34 : decode cX11_doAll 34 = .ok (.iconst 0, 1) := by decide +kernel
theorem dX11_doAll_35 : decode cX11_doAll 35 = .ok (.istore_n 1, 1) := by decide +kernel
theorem dX11_doAll_36 : decode cX11_doAll 36 = .ok (.iload_n 1, 1) := by decide +kernel
theorem dX11_doAll_37 : decode cX11_doAll 37 = .ok (.bipush 64, 2) := by decide +kernel
theorem dX11_doAll_39 : decode cX11_doAll 39 = .ok (.if_icmp .ge 23, 3) := by decide +kernel
theorem dX11_doAll_42 : decode cX11_doAll 42 = .ok (.aload_n 0, 1) := by decide +kernel
theorem dX11_doAll_43 : decode cX11_doAll 43 = .ok (.getfield 56, 3) := by decide +kernel
theorem dX11_doAll_46 : decode cX11_doAll 46 = .ok (.iload_n 1, 1) := by decide +kernel
theorem dX11_doAll_47 : decode cX11_doAll 47 = .ok (.iconst 0, 1) := by decide +kernel
theorem dX11_doAll_48 : decode cX11_doAll 48 = .ok (.iastore, 1) := by decide +kernel
theorem dX11_doAll_49 : decode cX11_doAll 49 = .ok (.aload_n 0, 1) := by decide +kernel
theorem dX11_doAll_50 : decode cX11_doAll 50 = .ok (.getfield 59, 3) := by decide +kernel
theorem dX11_doAll_53 : decode cX11_doAll 53 = .ok (.iload_n 1, 1) := by decide +kernel
theorem dX11_doAll_54 : decode cX11_doAll 54 = .ok (.iconst 0, 1) := by decide +kernel
theorem dX11_doAll_55 : decode cX11_doAll 55 = .ok (.iastore, 1) := by decide +kernel
theorem dX11_doAll_56 : decode cX11_doAll 56 = .ok (.iinc 1 1, 3) := by decide +kernel
theorem dX11_doAll_59 : decode cX11_doAll 59 = .ok (.goto (-23), 3) := by decide +kernel
theorem dX11_doAll_62 : decode cX11_doAll 62 = .ok (.iconst 0, 1) := by decide +kernel
theorem dX11_doAll_63 : decode cX11_doAll 63 = .ok (.istore_n 1, 1) := by decide +kernel
theorem dX11_doAll_64 : decode cX11_doAll 64 = .ok (.iload_n 1, 1) := by decide +kernel
theorem dX11_doAll_65 : decode cX11_doAll 65 = .ok (.bipush 6, 2) := by decide +kernel
theorem dX11_doAll_67 : decode cX11_doAll 67 = .ok (.if_icmp .ge 34, 3) := by decide +kernel
theorem dX11_doAll_70 : decode cX11_doAll 70 = .ok (.aload_n 0, 1) := by decide +kernel
theorem dX11_doAll_71 : decode cX11_doAll 71 = .ok (.getfield 47, 3) := by decide +kernel
theorem dX11_doAll_74 : decode cX11_doAll 74 = .ok (.iload_n 1, 1) := by decide +kernel
theorem dX11_doAll_75 : decode cX11_doAll 75 = .ok (.iconst 4, 1) := by decide +kernel
theorem dX11_doAll_76 : decode cX11_doAll 76 = .ok (.iastore, 1) := by decide +kernel
theorem dX11_doAll_77 : decode cX11_doAll 77 = .ok (.aload_n 0, 1) := by decide +kernel
theorem dX11_doAll_78 : decode cX11_doAll 78 = .ok (.getfield 32, 3) := by decide +kernel
theorem dX11_doAll_81 : decode cX11_doAll 81 = .ok (.iload_n 1, 1) := by decide +kernel
theorem dX11_doAll_82 : decode cX11_doAll 82 = .ok (.aload_n 0, 1) := by decide +kernel
theorem dX11_doAll_83 : decode cX11_doAll 83 = .ok (.iload_n 1, 1) := by decide +kernel
theorem dX11_doAll_84 : decode cX11_doAll 84 = .ok (.invokevirtual 193, 3) := by decide +kernel
theorem dX11_doAll_87 : decode cX11_doAll 87 = .ok (.iastore, 1) := by decide +kernel
theorem dX11_doAll_88 : decode cX11_doAll 88 = .ok (.aload_n 0, 1) := by decide +kernel
theorem dX11_doAll_89 : decode cX11_doAll 89 = .ok (.getfield 35, 3) := by decide +kernel
theorem dX11_doAll_92 : decode cX11_doAll 92 = .ok (.iload_n 1, 1) := by decide +kernel
theorem dX11_doAll_93 : decode cX11_doAll 93 = .ok (.iconst 0, 1) := by decide +kernel
theorem dX11_doAll_94 : decode cX11_doAll 94 = .ok (.iastore, 1) := by decide +kernel
theorem dX11_doAll_95 : decode cX11_doAll 95 = .ok (.iinc 1 1, 3) := by decide +kernel
theorem dX11_doAll_98 : decode cX11_doAll 98 = .ok (.goto (-34), 3) := by decide +kernel
theorem dX11_doAll_101 : decode cX11_doAll 101 = .ok (.iconst 0, 1) := by decide +kernel
theorem dX11_doAll_102 : decode cX11_doAll 102 = .ok (.istore_n 1, 1) := by decide +kernel
theorem dX11_doAll_103 : decode cX11_doAll 103 = .ok (.iload_n 1, 1) := by decide +kernel
theorem dX11_doAll_104 : decode cX11_doAll 104 = .ok (.aload_n 0, 1) := by decide +kernel
theorem dX11_doAll_105 : decode cX11_doAll 105 = .ok (.getfield 74, 3) := by decide +kernel
theorem dX11_doAll_108 : decode cX11_doAll 108 = .ok (.if_icmp .ge 14, 3) := by decide +kernel
theorem dX11_doAll_111 : decode cX11_doAll 111 = .ok (.aload_n 0, 1) := by decide +kernel
theorem dX11_doAll_112 : decode cX11_doAll 112 = .ok (.iload_n 1, 1) := by decide +kernel
theorem dX11_doAll_113 : decode cX11_doAll 113 = .ok (.invokevirtual 196, 3) := by decide +kernel
theorem dX11_doAll_116 : decode cX11_doAll 116 = .ok (.iinc 1 1, 3) := by decide +kernel
theorem dX11_doAll_119 : decode cX11_doAll 119 = .ok (.goto (-16), 3) := by decide +kernel
theorem dX11_doAll_122 : decode cX11_doAll 122 = .ok (.return_, 1) := by decide +kernel
theorem dX11_isCall_0 : decode cX11_isCall 0 = .ok (.iload_n 1, 1) := by decide +kernel
theorem dX11_isCall_1 : decode cX11_isCall 1 = .ok (.iconst 0, 1) := by decide +kernel
theorem dX11_isCall_2 : decode cX11_isCall 2 = .ok (.aload_n 0, 1) := by decide +kernel
theorem dX11_isCall_3 : decode cX11_isCall 3 = .ok (.getfield 74, 3) := by decide +kernel
theorem dX11_isCall_6 : decode cX11_isCall 6 = .ok (.iconst 1, 1) := by decide +kernel
theorem dX11_isCall_7 : decode cX11_isCall 7 = .ok (.isub, 1) := by decide +kernel
theorem dX11_isCall_8 : decode cX11_isCall 8 = .ok (.invokestatic 81, 3) := by decide +kernel
theorem dX11_isCall_11 : decode cX11_isCall 11 = .ok (.ireturn, 1) := by decide +kernel
theorem dX11_isShelf_0 : decode cX11_isShelf 0 = .ok (.iload_n 0, 1) := by decide +kernel
theorem dX11_isShelf_1 : decode cX11_isShelf 1 = .ok (.iconst 0, 1) := by decide +kernel
theorem dX11_isShelf_2 : decode cX11_isShelf 2 = .ok (.iconst 5, 1) := by decide +kernel
theorem dX11_isShelf_3 : decode cX11_isShelf 3 = .ok (.invokestatic 81, 3) := by decide +kernel
theorem dX11_isShelf_6 : decode cX11_isShelf 6 = .ok (.ireturn, 1) := by decide +kernel
theorem dX11_told_0 : decode cX11_told 0 = .ok (.aload_n 0, 1) := by decide +kernel
theorem dX11_told_1 : decode cX11_told 1 = .ok (.iconst 0, 1) := by decide +kernel
theorem dX11_told_2 : decode cX11_told 2 = .ok (.putfield 71, 3) := by decide +kernel
theorem dX11_told_5 : decode cX11_told 5 = .ok (.aload_n 0, 1) := by decide +kernel
theorem dX11_told_6 : decode cX11_told 6 = .ok (.iload_n 1, 1) := by decide +kernel
theorem dX11_told_7 : decode cX11_told 7 = .ok (.invokevirtual 200, 3) := by decide +kernel
theorem dX11_told_10 : decode cX11_told 10 = .ok (.ifCond .eq 12, 3) := by decide +kernel
theorem dX11_told_13 : decode cX11_told 13 = .ok (.iload_n 2, 1) := by decide +kernel
theorem dX11_told_14 : decode cX11_told 14 = .ok (.iconst 0, 1) := by decide +kernel
theorem dX11_told_15 : decode cX11_told 15 = .ok (.iconst 2, 1) := by decide +kernel
theorem dX11_told_16 : decode cX11_told 16 = .ok (.invokestatic 81, 3) := by decide +kernel
theorem dX11_told_19 : decode cX11_told 19 = .ok (.ifCond .ne 5, 3) := by decide +kernel
theorem dX11_told_22 : decode cX11_told 22 = .ok (.iconst (-1), 1) := by decide +kernel
theorem dX11_told_23 : decode cX11_told 23 = .ok (.ireturn, 1) := by decide +kernel
theorem dX11_told_24 : decode cX11_told 24 = .ok (.aload_n 0, 1) := by decide +kernel
theorem dX11_told_25 : decode cX11_told 25 = .ok (.invokevirtual 204, 3) := by decide +kernel
theorem dX11_told_28 : decode cX11_told 28 = .ok (.iload_n 2, 1) := by decide +kernel
theorem dX11_told_29 : decode cX11_told 29 = .ok (.ifCond .ne 12, 3) := by decide +kernel
theorem dX11_told_32 : decode cX11_told 32 = .ok (.aload_n 0, 1) := by decide +kernel
theorem dX11_told_33 : decode cX11_told 33 = .ok (.getfield 9, 3) := by decide +kernel
theorem dX11_told_36 : decode cX11_told 36 = .ok (.iload_n 1, 1) := by decide +kernel
theorem dX11_told_37 : decode cX11_told 37 = .ok (.iaload, 1) := by decide +kernel
theorem dX11_told_38 : decode cX11_told 38 = .ok (.goto 23, 3) := by decide +kernel
theorem dX11_told_41 : decode cX11_told 41 = .ok (.iload_n 2, 1) := by decide +kernel
theorem dX11_told_42 : decode cX11_told 42 = .ok (.iconst 1, 1) := by decide +kernel
theorem dX11_told_43 : decode cX11_told 43 = .ok (.if_icmp .ne 12, 3) := by decide +kernel
theorem dX11_told_46 : decode cX11_told 46 = .ok (.aload_n 0, 1) := by decide +kernel
theorem dX11_told_47 : decode cX11_told 47 = .ok (.getfield 13, 3) := by decide +kernel
theorem dX11_told_50 : decode cX11_told 50 = .ok (.iload_n 1, 1) := by decide +kernel
theorem dX11_told_51 : decode cX11_told 51 = .ok (.iaload, 1) := by decide +kernel
theorem dX11_told_52 : decode cX11_told 52 = .ok (.goto 9, 3) := by decide +kernel
theorem dX11_told_55 : decode cX11_told 55 = .ok (.aload_n 0, 1) := by decide +kernel
theorem dX11_told_56 : decode cX11_told 56 = .ok (.getfield 26, 3) := by decide +kernel
theorem dX11_told_59 : decode cX11_told 59 = .ok (.iload_n 1, 1) := by decide +kernel
theorem dX11_told_60 : decode cX11_told 60 = .ok (.iaload, 1) := by decide +kernel
theorem dX11_told_61 : decode cX11_told 61 = .ok (.ireturn, 1) := by decide +kernel
theorem dX11_answer_0 : decode cX11_answer 0 = .ok (.aload_n 0, 1) := by decide +kernel
theorem dX11_answer_1 : decode cX11_answer 1 = .ok (.iconst 0, 1) := by decide +kernel
theorem dX11_answer_2 : decode cX11_answer 2 = .ok (.putfield 71, 3) := by decide +kernel
theorem dX11_answer_5 : decode cX11_answer 5 = .ok (.aload_n 0, 1) := by decide +kernel
theorem dX11_answer_6 : decode cX11_answer 6 = .ok (.iload_n 1, 1) := by decide +kernel
theorem dX11_answer_7 : decode cX11_answer 7 = .ok (.invokevirtual 200, 3) := by decide +kernel
theorem dX11_answer_10 : decode cX11_answer 10 = .ok (.ifCond .ne 10, 3) := by decide +kernel
theorem dX11_answer_13 : decode cX11_answer 13 = .ok (.aload_n 0, 1) := by decide +kernel
theorem dX11_answer_14 : decode cX11_answer 14 = .ok (.iconst 1, 1) := by decide +kernel
theorem dX11_answer_15 : decode cX11_answer 15 = .ok (.putfield 71, 3) := by decide +kernel
theorem dX11_answer_18 : decode cX11_answer 18 = .ok (.iconst 0, 1) := by decide +kernel
theorem dX11_answer_19 : decode cX11_answer 19 = .ok (.ireturn, 1) := by decide +kernel
theorem dX11_answer_20 : decode cX11_answer 20 = .ok (.aload_n 0, 1) := by decide +kernel
theorem dX11_answer_21 : decode cX11_answer 21 = .ok (.invokevirtual 204, 3) := by decide +kernel
theorem dX11_answer_24 : decode cX11_answer 24 = .ok (.aload_n 0, 1) := by decide +kernel
theorem dX11_answer_25 : decode cX11_answer 25 = .ok (.getfield 23, 3) := by decide +kernel
theorem dX11_answer_28 : decode cX11_answer 28 = .ok (.iload_n 1, 1) := by decide +kernel
theorem dX11_answer_29 : decode cX11_answer 29 = .ok (.iaload, 1) := by decide +kernel
theorem dX11_answer_30 : decode cX11_answer 30 = .ok (.ireturn, 1) := by decide +kernel
theorem dX11_cost_0 : decode cX11_cost 0 = .ok (.aload_n 0, 1) := by decide +kernel
theorem dX11_cost_1 : decode cX11_cost 1 = .ok (.iconst 0, 1) := by decide +kernel
theorem dX11_cost_2 : decode cX11_cost 2 = .ok (.putfield 71, 3) := by decide +kernel
theorem dX11_cost_5 : decode cX11_cost 5 = .ok (.iload_n 1, 1) := by decide +kernel
theorem dX11_cost_6 : decode cX11_cost 6 = .ok (.invokestatic 207, 3) := by decide +kernel
theorem dX11_cost_9 : decode cX11_cost 9 = .ok (.ifCond .eq 11, 3) := by decide +kernel
theorem dX11_cost_12 : decode cX11_cost 12 = .ok (.aload_n 0, 1) := by decide +kernel
theorem dX11_cost_13 : decode cX11_cost 13 = .ok (.iload_n 2, 1) := by decide +kernel
theorem dX11_cost_14 : decode cX11_cost 14 = .ok (.invokevirtual 200, 3) := by decide +kernel
theorem dX11_cost_17 : decode cX11_cost 17 = .ok (.ifCond .ne 5, 3) := by decide +kernel
theorem dX11_cost_20 : decode cX11_cost 20 = .ok (.iconst (-1), 1) := by decide +kernel
theorem dX11_cost_21 : decode cX11_cost 21 = .ok (.ireturn, 1) := by decide +kernel
theorem dX11_cost_22 : decode cX11_cost 22 = .ok (.aload_n 0, 1) := by decide +kernel
theorem dX11_cost_23 : decode cX11_cost 23 = .ok (.invokevirtual 204, 3) := by decide +kernel
theorem dX11_cost_26 : decode cX11_cost 26 = .ok (.aload_n 0, 1) := by decide +kernel
theorem dX11_cost_27 : decode cX11_cost 27 = .ok (.getfield 29, 3) := by decide +kernel
theorem dX11_cost_30 : decode cX11_cost 30 = .ok (.bipush 6, 2) := by decide +kernel
theorem dX11_cost_32 : decode cX11_cost 32 = .ok (.iload_n 2, 1) := by decide +kernel
theorem dX11_cost_33 : decode cX11_cost 33 = .ok (.imul, 1) := by decide +kernel
theorem dX11_cost_34 : decode cX11_cost 34 = .ok (.iload_n 1, 1) := by decide +kernel
theorem dX11_cost_35 : decode cX11_cost 35 = .ok (.iadd, 1) := by decide +kernel
theorem dX11_cost_36 : decode cX11_cost 36 = .ok (.iaload, 1) := by decide +kernel
theorem dX11_cost_37 : decode cX11_cost 37 = .ok (.ireturn, 1) := by decide +kernel
theorem dX11_ascending_0 : decode cX11_ascending 0 = .ok (.iload_n 1, 1) := by decide +kernel
theorem dX11_ascending_1 : decode cX11_ascending 1 = .ok (.istore_n 2, 1) := by decide +kernel
theorem dX11_ascending_2 : decode cX11_ascending 2 = .ok (.iconst 0, 1) := by decide +kernel
theorem dX11_ascending_3 : decode cX11_ascending 3 = .ok (.istore_n 3, 1) := by decide +kernel
theorem dX11_ascending_4 : decode cX11_ascending 4 = .ok (.iload_n 2, 1) := by decide +kernel
theorem dX11_ascending_5 : decode cX11_ascending 5 = .ok (.aload_n 0, 1) := by decide +kernel
theorem dX11_ascending_6 : decode cX11_ascending 6 = .ok (.getfield 59, 3) := by decide +kernel
theorem dX11_ascending_9 : decode cX11_ascending 9 = .ok (.iload_n 3, 1) := by decide +kernel
theorem dX11_ascending_10 : decode cX11_ascending 10 = .ok (.iaload, 1) := by decide +kernel
theorem dX11_ascending_11 : decode cX11_ascending 11 = .ok (.if_icmp .lt 18, 3) := by decide +kernel
theorem dX11_ascending_14 : decode cX11_ascending 14 = .ok (.iload_n 2, 1) := by decide +kernel
theorem dX11_ascending_15 : decode cX11_ascending 15 = .ok (.aload_n 0, 1) := by decide +kernel
theorem dX11_ascending_16 : decode cX11_ascending 16 = .ok (.getfield 59, 3) := by decide +kernel
theorem dX11_ascending_19 : decode cX11_ascending 19 = .ok (.iload_n 3, 1) := by decide +kernel
theorem dX11_ascending_20 : decode cX11_ascending 20 = .ok (.iaload, 1) := by decide +kernel
theorem dX11_ascending_21 : decode cX11_ascending 21 = .ok (.isub, 1) := by decide +kernel
theorem dX11_ascending_22 : decode cX11_ascending 22 = .ok (.istore_n 2, 1) := by decide +kernel
theorem dX11_ascending_23 : decode cX11_ascending 23 = .ok (.iinc 3 1, 3) := by decide +kernel
theorem dX11_ascending_26 : decode cX11_ascending 26 = .ok (.goto (-22), 3) := by decide +kernel
theorem dX11_ascending_29 : decode cX11_ascending 29 = .ok (.iload_n 3, 1) := by decide +kernel
theorem dX11_ascending_30 : decode cX11_ascending 30 = .ok (.ireturn, 1) := by decide +kernel
theorem dX11_chained_0 : decode cX11_chained 0 = .ok (.iload_n 1, 1) := by decide +kernel
theorem dX11_chained_1 : decode cX11_chained 1 = .ok (.istore_n 2, 1) := by decide +kernel
theorem dX11_chained_2 : decode cX11_chained 2 = .ok (.iconst 0, 1) := by decide +kernel
theorem dX11_chained_3 : decode cX11_chained 3 = .ok (.istore_n 3, 1) := by decide +kernel
theorem dX11_chained_4 : decode cX11_chained 4 = .ok (.iload_n 2, 1) := by decide +kernel
theorem dX11_chained_5 : decode cX11_chained 5 = .ok (.aload_n 0, 1) := by decide +kernel
theorem dX11_chained_6 : decode cX11_chained 6 = .ok (.iload_n 3, 1) := by decide +kernel
theorem dX11_chained_7 : decode cX11_chained 7 = .ok (.invokevirtual 124, 3) := by decide +kernel
theorem dX11_chained_10 : decode cX11_chained 10 = .ok (.if_icmp .lt 17, 3) := by decide +kernel
theorem dX11_chained_13 : decode cX11_chained 13 = .ok (.iload_n 2, 1) := by decide +kernel
theorem dX11_chained_14 : decode cX11_chained 14 = .ok (.aload_n 0, 1) := by decide +kernel
theorem dX11_chained_15 : decode cX11_chained 15 = .ok (.iload_n 3, 1) := by decide +kernel
theorem dX11_chained_16 : decode cX11_chained 16 = .ok (.invokevirtual 124, 3) := by decide +kernel
theorem dX11_chained_19 : decode cX11_chained 19 = .ok (.isub, 1) := by decide +kernel
theorem dX11_chained_20 : decode cX11_chained 20 = .ok (.istore_n 2, 1) := by decide +kernel
theorem dX11_chained_21 : decode cX11_chained 21 = .ok (.iinc 3 1, 3) := by decide +kernel
theorem dX11_chained_24 : decode cX11_chained 24 = .ok (.goto (-20), 3) := by decide +kernel
theorem dX11_chained_27 : decode cX11_chained 27 = .ok (.aload_n 0, 1) := by decide +kernel
theorem dX11_chained_28 : decode cX11_chained 28 = .ok (.getfield 50, 3) := by decide +kernel
theorem dX11_chained_31 : decode cX11_chained 31 = .ok (.aload_n 0, 1) := by decide +kernel
theorem dX11_chained_32 : decode cX11_chained 32 = .ok (.iload_n 3, 1) := by decide +kernel
theorem dX11_chained_33 : decode cX11_chained 33 = .ok (.iload_n 2, 1) := by decide +kernel
theorem dX11_chained_34 : decode cX11_chained 34 = .ok (.aload_n 0, 1) := by decide +kernel
theorem dX11_chained_35 : decode cX11_chained 35 = .ok (.getfield 96, 3) := by decide +kernel
theorem dX11_chained_38 : decode cX11_chained 38 = .ok (.invokevirtual 127, 3) := by decide +kernel
theorem dX11_chained_41 : decode cX11_chained 41 = .ok (.iaload, 1) := by decide +kernel
theorem dX11_chained_42 : decode cX11_chained 42 = .ok (.ireturn, 1) := by decide +kernel
theorem dX11_key_0 : decode cX11_key 0 = .ok (.aload_n 0, 1) := by decide +kernel
theorem dX11_key_1 : decode cX11_key 1 = .ok (.iconst 0, 1) := by decide +kernel
theorem dX11_key_2 : decode cX11_key 2 = .ok (.putfield 71, 3) := by decide +kernel
theorem dX11_key_5 : decode cX11_key 5 = .ok (.iload_n 1, 1) := by decide +kernel
theorem dX11_key_6 : decode cX11_key 6 = .ok (.invokestatic 207, 3) := by decide +kernel
theorem dX11_key_9 : decode cX11_key 9 = .ok (.ifCond .ne 5, 3) := by decide +kernel
theorem dX11_key_12 : decode cX11_key 12 = .ok (.iconst (-1), 1) := by decide +kernel
theorem dX11_key_13 : decode cX11_key 13 = .ok (.ireturn, 1) := by decide +kernel
theorem dX11_key_14 : decode cX11_key 14 = .ok (.aload_n 0, 1) := by decide +kernel
theorem dX11_key_15 : decode cX11_key 15 = .ok (.invokevirtual 204, 3) := by decide +kernel
theorem dX11_key_18 : decode cX11_key 18 = .ok (.iload_n 2, 1) := by decide +kernel
theorem dX11_key_19 : decode cX11_key 19 = .ok (.iconst 0, 1) := by decide +kernel
theorem dX11_key_20 : decode cX11_key 20 = .ok (.aload_n 0, 1) := by decide +kernel
theorem dX11_key_21 : decode cX11_key 21 = .ok (.getfield 96, 3) := by decide +kernel
theorem dX11_key_24 : decode cX11_key 24 = .ok (.iconst 1, 1) := by decide +kernel
theorem dX11_key_25 : decode cX11_key 25 = .ok (.isub, 1) := by decide +kernel
theorem dX11_key_26 : decode cX11_key 26 = .ok (.invokestatic 81, 3) := by decide +kernel
theorem dX11_key_29 : decode cX11_key 29 = .ok (.ifCond .ne 5, 3) := by decide +kernel
theorem dX11_key_32 : decode cX11_key 32 = .ok (.iconst (-1), 1) := by decide +kernel
theorem dX11_key_33 : decode cX11_key 33 = .ok (.ireturn, 1) := by decide +kernel
theorem dX11_key_34 : decode cX11_key 34 = .ok (.iload_n 1, 1) := by decide +kernel
theorem dX11_key_35 : decode cX11_key 35 = .ok (.tableswitch 60 0 4 #[33, 40, 47, 60, 53], 33) := by decide +kernel
theorem dX11_key_68 : decode cX11_key 68 = .ok (.aload_n 0, 1) := by decide +kernel
theorem dX11_key_69 : decode cX11_key 69 = .ok (.getfield 38, 3) := by decide +kernel
theorem dX11_key_72 : decode cX11_key 72 = .ok (.iload_n 2, 1) := by decide +kernel
theorem dX11_key_73 : decode cX11_key 73 = .ok (.iaload, 1) := by decide +kernel
theorem dX11_key_74 : decode cX11_key 74 = .ok (.ireturn, 1) := by decide +kernel
theorem dX11_key_75 : decode cX11_key 75 = .ok (.aload_n 0, 1) := by decide +kernel
theorem dX11_key_76 : decode cX11_key 76 = .ok (.getfield 41, 3) := by decide +kernel
theorem dX11_key_79 : decode cX11_key 79 = .ok (.iload_n 2, 1) := by decide +kernel
theorem dX11_key_80 : decode cX11_key 80 = .ok (.iaload, 1) := by decide +kernel
theorem dX11_key_81 : decode cX11_key 81 = .ok (.ireturn, 1) := by decide +kernel
theorem dX11_key_82 : decode cX11_key 82 = .ok (.aload_n 0, 1) := by decide +kernel
theorem dX11_key_83 : decode cX11_key 83 = .ok (.iload_n 2, 1) := by decide +kernel
theorem dX11_key_84 : decode cX11_key 84 = .ok (.invokevirtual 210, 3) := by decide +kernel
theorem dX11_key_87 : decode cX11_key 87 = .ok (.ireturn, 1) := by decide +kernel
theorem dX11_key_88 : decode cX11_key 88 = .ok (.aload_n 0, 1) := by decide +kernel
theorem dX11_key_89 : decode cX11_key 89 = .ok (.getfield 44, 3) := by decide +kernel
theorem dX11_key_92 : decode cX11_key 92 = .ok (.iload_n 2, 1) := by decide +kernel
theorem dX11_key_93 : decode cX11_key 93 = .ok (.iaload, 1) := by decide +kernel
theorem dX11_key_94 : decode cX11_key 94 = .ok (.ireturn, 1) := by decide +kernel
theorem dX11_key_95 : decode cX11_key 95 = .ok (.aload_n 0, 1) := by decide +kernel
theorem dX11_key_96 : decode cX11_key 96 = .ok (.iload_n 2, 1) := by decide +kernel
theorem dX11_key_97 : decode cX11_key 97 = .ok (.invokevirtual 213, 3) := by decide +kernel
theorem dX11_key_100 : decode cX11_key 100 = .ok (.ireturn, 1) := by decide +kernel
theorem dX11_hasFirst_0 : decode cX11_hasFirst 0 = .ok (.iconst 0, 1) := by decide +kernel
theorem dX11_hasFirst_1 : decode cX11_hasFirst 1 = .ok (.istore_n 1, 1) := by decide +kernel
theorem dX11_hasFirst_2 : decode cX11_hasFirst 2 = .ok (.iload_n 1, 1) := by decide +kernel
theorem dX11_hasFirst_3 : decode cX11_hasFirst 3 = .ok (.aload_n 0, 1) := by decide +kernel
theorem dX11_hasFirst_4 : decode cX11_hasFirst 4 = .ok (.getfield 74, 3) := by decide +kernel
theorem dX11_hasFirst_7 : decode cX11_hasFirst 7 = .ok (.if_icmp .ge 22, 3) := by decide +kernel
theorem dX11_hasFirst_10 : decode cX11_hasFirst 10 = .ok (.aload_n 0, 1) := by decide +kernel
theorem dX11_hasFirst_11 : decode cX11_hasFirst 11 = .ok (.getfield 9, 3) := by decide +kernel
theorem dX11_hasFirst_14 : decode cX11_hasFirst 14 = .ok (.iload_n 1, 1) := by decide +kernel
theorem dX11_hasFirst_15 : decode cX11_hasFirst 15 = .ok (.iaload, 1) := by decide +kernel
theorem dX11_hasFirst_16 : decode cX11_hasFirst 16 = .ok (.bipush 6, 2) := by decide +kernel
theorem dX11_hasFirst_18 : decode cX11_hasFirst 18 = .ok (.if_icmp .ne 5, 3) := by decide +kernel
theorem dX11_hasFirst_21 : decode cX11_hasFirst 21 = .ok (.iconst 1, 1) := by decide +kernel
theorem dX11_hasFirst_22 : decode cX11_hasFirst 22 = .ok (.ireturn, 1) := by decide +kernel
theorem dX11_hasFirst_23 : decode cX11_hasFirst 23 = .ok (.iinc 1 1, 3) := by decide +kernel
theorem dX11_hasFirst_26 : decode cX11_hasFirst 26 = .ok (.goto (-24), 3) := by decide +kernel
theorem dX11_hasFirst_29 : decode cX11_hasFirst 29 = .ok (.iconst 0, 1) := by decide +kernel
theorem dX11_hasFirst_30 : decode cX11_hasFirst 30 = .ok (.ireturn, 1) := by decide +kernel
theorem dX11_isOffered_0 : decode cX11_isOffered 0 = .ok (.aload_n 0, 1) := by decide +kernel
theorem dX11_isOffered_1 : decode cX11_isOffered 1 = .ok (.getfield 90, 3) := by decide +kernel
theorem dX11_isOffered_4 : decode cX11_isOffered 4 = .ok (.ifCond .eq 11, 3) := by decide +kernel
theorem dX11_isOffered_7 : decode cX11_isOffered 7 = .ok (.iload_n 1, 1) := by decide +kernel
theorem dX11_isOffered_8 : decode cX11_isOffered 8 = .ok (.iconst 2, 1) := by decide +kernel
theorem dX11_isOffered_9 : decode cX11_isOffered 9 = .ok (.irem, 1) := by decide +kernel
theorem dX11_isOffered_10 : decode cX11_isOffered 10 = .ok (.ifCond .ne 5, 3) := by decide +kernel
theorem dX11_isOffered_13 : decode cX11_isOffered 13 = .ok (.iconst 0, 1) := by decide +kernel
theorem dX11_isOffered_14 : decode cX11_isOffered 14 = .ok (.ireturn, 1) := by decide +kernel
theorem dX11_isOffered_15 : decode cX11_isOffered 15 = .ok (.iload_n 1, 1) := by decide +kernel
theorem dX11_isOffered_16 : decode cX11_isOffered 16 = .ok (.ifCond .eq 17, 3) := by decide +kernel
theorem dX11_isOffered_19 : decode cX11_isOffered 19 = .ok (.aload_n 0, 1) := by decide +kernel
theorem dX11_isOffered_20 : decode cX11_isOffered 20 = .ok (.getfield 93, 3) := by decide +kernel
theorem dX11_isOffered_23 : decode cX11_isOffered 23 = .ok (.ifCond .ne 14, 3) := by decide +kernel
theorem dX11_isOffered_26 : decode cX11_isOffered 26 = .ok (.aload_n 0, 1) := by decide +kernel
theorem dX11_isOffered_27 : decode cX11_isOffered 27 = .ok (.invokevirtual 216, 3) := by decide +kernel
theorem dX11_isOffered_30 : decode cX11_isOffered 30 = .ok (.ifCond .ne 7, 3) := by decide +kernel
theorem dX11_isOffered_33 : decode cX11_isOffered 33 = .ok (.iconst 1, 1) := by decide +kernel
theorem dX11_isOffered_34 : decode cX11_isOffered 34 = .ok (.goto 4, 3) := by decide +kernel
theorem dX11_isOffered_37 : decode cX11_isOffered 37 = .ok (.iconst 0, 1) := by decide +kernel
theorem dX11_isOffered_38 : decode cX11_isOffered 38 = .ok (.ireturn, 1) := by decide +kernel
theorem dX11_stepsOf_0 : decode cX11_stepsOf 0 = .ok (.iconst 0, 1) := by decide +kernel
theorem dX11_stepsOf_1 : decode cX11_stepsOf 1 = .ok (.istore_n 3, 1) := by decide +kernel
theorem dX11_stepsOf_2 : decode cX11_stepsOf 2 = .ok (.iload_n 2, 1) := by decide +kernel
theorem dX11_stepsOf_3 : decode cX11_stepsOf 3 = .ok (.istore 4, 2) := by decide +kernel
theorem dX11_stepsOf_5 : decode cX11_stepsOf 5 = .ok (.iload 4, 2) := by decide +kernel
theorem dX11_stepsOf_7 : decode cX11_stepsOf 7 = .ok (.aload_n 0, 1) := by decide +kernel
theorem dX11_stepsOf_8 : decode cX11_stepsOf 8 = .ok (.getfield 74, 3) := by decide +kernel
theorem dX11_stepsOf_11 : decode cX11_stepsOf 11 = .ok (.if_icmp .ge 24, 3) := by decide +kernel
theorem dX11_stepsOf_14 : decode cX11_stepsOf 14 = .ok (.iload_n 3, 1) := by decide +kernel
theorem dX11_stepsOf_15 : decode cX11_stepsOf 15 = .ok (.aload_n 0, 1) := by decide +kernel
theorem dX11_stepsOf_16 : decode cX11_stepsOf 16 = .ok (.getfield 29, 3) := by decide +kernel
theorem dX11_stepsOf_19 : decode cX11_stepsOf 19 = .ok (.bipush 6, 2) := by decide +kernel
theorem dX11_stepsOf_21 : decode cX11_stepsOf 21 = .ok (.iload 4, 2) := by decide +kernel
theorem dX11_stepsOf_23 : decode cX11_stepsOf 23 = .ok (.imul, 1) := by decide +kernel
theorem dX11_stepsOf_24 : decode cX11_stepsOf 24 = .ok (.iload_n 1, 1) := by decide +kernel
theorem dX11_stepsOf_25 : decode cX11_stepsOf 25 = .ok (.iadd, 1) := by decide +kernel
theorem dX11_stepsOf_26 : decode cX11_stepsOf 26 = .ok (.iaload, 1) := by decide +kernel
theorem dX11_stepsOf_27 : decode cX11_stepsOf 27 = .ok (.iadd, 1) := by decide +kernel
theorem dX11_stepsOf_28 : decode cX11_stepsOf 28 = .ok (.istore_n 3, 1) := by decide +kernel
theorem dX11_stepsOf_29 : decode cX11_stepsOf 29 = .ok (.iinc 4 1, 3) := by decide +kernel
theorem dX11_stepsOf_32 : decode cX11_stepsOf 32 = .ok (.goto (-27), 3) := by decide +kernel
theorem dX11_stepsOf_35 : decode cX11_stepsOf 35 = .ok (.iload_n 3, 1) := by decide +kernel
theorem dX11_stepsOf_36 : decode cX11_stepsOf 36 = .ok (.ireturn, 1) := by decide +kernel
theorem dX11_worstOf_0 : decode cX11_worstOf 0 = .ok (.iconst (-1), 1) := by decide +kernel
theorem dX11_worstOf_1 : decode cX11_worstOf 1 = .ok (.istore_n 2, 1) := by decide +kernel
theorem dX11_worstOf_2 : decode cX11_worstOf 2 = .ok (.iconst 0, 1) := by decide +kernel
theorem dX11_worstOf_3 : decode cX11_worstOf 3 = .ok (.istore_n 3, 1) := by decide +kernel
theorem dX11_worstOf_4 : decode cX11_worstOf 4 = .ok (.iload_n 3, 1) := by decide +kernel
theorem dX11_worstOf_5 : decode cX11_worstOf 5 = .ok (.aload_n 0, 1) := by decide +kernel
theorem dX11_worstOf_6 : decode cX11_worstOf 6 = .ok (.getfield 74, 3) := by decide +kernel
theorem dX11_worstOf_9 : decode cX11_worstOf 9 = .ok (.if_icmp .ge 41, 3) := by decide +kernel
theorem dX11_worstOf_12 : decode cX11_worstOf 12 = .ok (.iload_n 2, 1) := by decide +kernel
theorem dX11_worstOf_13 : decode cX11_worstOf 13 = .ok (.iconst (-1), 1) := by decide +kernel
theorem dX11_worstOf_14 : decode cX11_worstOf 14 = .ok (.if_icmp .eq 28, 3) := by decide +kernel
theorem dX11_worstOf_17 : decode cX11_worstOf 17 = .ok (.aload_n 0, 1) := by decide +kernel
theorem dX11_worstOf_18 : decode cX11_worstOf 18 = .ok (.getfield 29, 3) := by decide +kernel
theorem dX11_worstOf_21 : decode cX11_worstOf 21 = .ok (.bipush 6, 2) := by decide +kernel
theorem dX11_worstOf_23 : decode cX11_worstOf 23 = .ok (.iload_n 3, 1) := by decide +kernel
theorem dX11_worstOf_24 : decode cX11_worstOf 24 = .ok (.imul, 1) := by decide +kernel
theorem dX11_worstOf_25 : decode cX11_worstOf 25 = .ok (.iload_n 1, 1) := by decide +kernel
theorem dX11_worstOf_26 : decode cX11_worstOf 26 = .ok (.iadd, 1) := by decide +kernel
theorem dX11_worstOf_27 : decode cX11_worstOf 27 = .ok (.iaload, 1) := by decide +kernel
theorem dX11_worstOf_28 : decode cX11_worstOf 28 = .ok (.aload_n 0, 1) := by decide +kernel
theorem dX11_worstOf_29 : decode cX11_worstOf 29 = .ok (.getfield 29, 3) := by decide +kernel
theorem dX11_worstOf_32 : decode cX11_worstOf 32 = .ok (.bipush 6, 2) := by decide +kernel
theorem dX11_worstOf_34 : decode cX11_worstOf 34 = .ok (.iload_n 2, 1) := by decide +kernel
theorem dX11_worstOf_35 : decode cX11_worstOf 35 = .ok (.imul, 1) := by decide +kernel
theorem dX11_worstOf_36 : decode cX11_worstOf 36 = .ok (.iload_n 1, 1) := by decide +kernel
theorem dX11_worstOf_37 : decode cX11_worstOf 37 = .ok (.iadd, 1) := by decide +kernel
theorem dX11_worstOf_38 : decode cX11_worstOf 38 = .ok (.iaload, 1) := by decide +kernel
theorem dX11_worstOf_39 : decode cX11_worstOf 39 = .ok (.if_icmp .le 5, 3) := by decide +kernel
theorem dX11_worstOf_42 : decode cX11_worstOf 42 = .ok (.iload_n 3, 1) := by decide +kernel
theorem dX11_worstOf_43 : decode cX11_worstOf 43 = .ok (.istore_n 2, 1) := by decide +kernel
theorem dX11_worstOf_44 : decode cX11_worstOf 44 = .ok (.iinc 3 1, 3) := by decide +kernel
theorem dX11_worstOf_47 : decode cX11_worstOf 47 = .ok (.goto (-43), 3) := by decide +kernel
theorem dX11_worstOf_50 : decode cX11_worstOf 50 = .ok (.iload_n 2, 1) := by decide +kernel
theorem dX11_worstOf_51 : decode cX11_worstOf 51 = .ok (.ireturn, 1) := by decide +kernel
theorem dX11_sum_0 : decode cX11_sum 0 = .ok (.aload_n 0, 1) := by decide +kernel
theorem dX11_sum_1 : decode cX11_sum 1 = .ok (.iconst 0, 1) := by decide +kernel
theorem dX11_sum_2 : decode cX11_sum 2 = .ok (.putfield 71, 3) := by decide +kernel
theorem dX11_sum_5 : decode cX11_sum 5 = .ok (.iload_n 1, 1) := by decide +kernel
theorem dX11_sum_6 : decode cX11_sum 6 = .ok (.invokestatic 207, 3) := by decide +kernel
theorem dX11_sum_9 : decode cX11_sum 9 = .ok (.ifCond .eq 12, 3) := by decide +kernel
theorem dX11_sum_12 : decode cX11_sum 12 = .ok (.iload_n 2, 1) := by decide +kernel
theorem dX11_sum_13 : decode cX11_sum 13 = .ok (.iconst 0, 1) := by decide +kernel
theorem dX11_sum_14 : decode cX11_sum 14 = .ok (.iconst 5, 1) := by decide +kernel
theorem dX11_sum_15 : decode cX11_sum 15 = .ok (.invokestatic 81, 3) := by decide +kernel
theorem dX11_sum_18 : decode cX11_sum 18 = .ok (.ifCond .ne 5, 3) := by decide +kernel
theorem dX11_sum_21 : decode cX11_sum 21 = .ok (.iconst (-1), 1) := by decide +kernel
theorem dX11_sum_22 : decode cX11_sum 22 = .ok (.ireturn, 1) := by decide +kernel
theorem dX11_sum_23 : decode cX11_sum 23 = .ok (.aload_n 0, 1) := by decide +kernel
theorem dX11_sum_24 : decode cX11_sum 24 = .ok (.invokevirtual 204, 3) := by decide +kernel
theorem dX11_sum_27 : decode cX11_sum 27 = .ok (.aload_n 0, 1) := by decide +kernel
theorem dX11_sum_28 : decode cX11_sum 28 = .ok (.iload_n 1, 1) := by decide +kernel
theorem dX11_sum_29 : decode cX11_sum 29 = .ok (.invokevirtual 220, 3) := by decide +kernel
theorem dX11_sum_32 : decode cX11_sum 32 = .ok (.istore_n 3, 1) := by decide +kernel
theorem dX11_sum_33 : decode cX11_sum 33 = .ok (.iload_n 2, 1) := by decide +kernel
theorem dX11_sum_34 : decode cX11_sum 34 = .ok (.tableswitch 85 0 4 #[34, 41, 62, 64, 71], 34) := by decide +kernel
theorem dX11_sum_68 : decode cX11_sum 68 = .ok (.aload_n 0, 1) := by decide +kernel
theorem dX11_sum_69 : decode cX11_sum 69 = .ok (.iload_n 1, 1) := by decide +kernel
theorem dX11_sum_70 : decode cX11_sum 70 = .ok (.iconst 0, 1) := by decide +kernel
theorem dX11_sum_71 : decode cX11_sum 71 = .ok (.invokevirtual 223, 3) := by decide +kernel
theorem dX11_sum_74 : decode cX11_sum 74 = .ok (.ireturn, 1) := by decide +kernel
theorem dX11_sum_75 : decode cX11_sum 75 = .ok (.iload_n 3, 1) := by decide +kernel
theorem dX11_sum_76 : decode cX11_sum 76 = .ok (.iconst (-1), 1) := by decide +kernel
theorem dX11_sum_77 : decode cX11_sum 77 = .ok (.if_icmp .ne 7, 3) := by decide +kernel
theorem dX11_sum_80 : decode cX11_sum 80 = .ok (.iconst 0, 1) := by decide +kernel
theorem dX11_sum_81 : decode cX11_sum 81 = .ok (.goto 14, 3) := by decide +kernel
theorem dX11_sum_84 : decode cX11_sum 84 = .ok (.aload_n 0, 1) := by decide +kernel
theorem dX11_sum_85 : decode cX11_sum 85 = .ok (.getfield 29, 3) := by decide +kernel
theorem dX11_sum_88 : decode cX11_sum 88 = .ok (.bipush 6, 2) := by decide +kernel
theorem dX11_sum_90 : decode cX11_sum 90 = .ok (.iload_n 3, 1) := by decide +kernel
theorem dX11_sum_91 : decode cX11_sum 91 = .ok (.imul, 1) := by decide +kernel
theorem dX11_sum_92 : decode cX11_sum 92 = .ok (.iload_n 1, 1) := by decide +kernel
theorem dX11_sum_93 : decode cX11_sum 93 = .ok (.iadd, 1) := by decide +kernel
theorem dX11_sum_94 : decode cX11_sum 94 = .ok (.iaload, 1) := by decide +kernel
theorem dX11_sum_95 : decode cX11_sum 95 = .ok (.ireturn, 1) := by decide +kernel
theorem dX11_sum_96 : decode cX11_sum 96 = .ok (.iload_n 3, 1) := by decide +kernel
theorem dX11_sum_97 : decode cX11_sum 97 = .ok (.ireturn, 1) := by decide +kernel
theorem dX11_sum_98 : decode cX11_sum 98 = .ok (.aload_n 0, 1) := by decide +kernel
theorem dX11_sum_99 : decode cX11_sum 99 = .ok (.getfield 35, 3) := by decide +kernel
theorem dX11_sum_102 : decode cX11_sum 102 = .ok (.iload_n 1, 1) := by decide +kernel
theorem dX11_sum_103 : decode cX11_sum 103 = .ok (.iaload, 1) := by decide +kernel
theorem dX11_sum_104 : decode cX11_sum 104 = .ok (.ireturn, 1) := by decide +kernel
theorem dX11_sum_105 : decode cX11_sum 105 = .ok (.aload_n 0, 1) := by decide +kernel
theorem dX11_sum_106 : decode cX11_sum 106 = .ok (.iload_n 1, 1) := by decide +kernel
theorem dX11_sum_107 : decode cX11_sum 107 = .ok (.invokevirtual 226, 3) := by decide +kernel
theorem dX11_sum_110 : decode cX11_sum 110 = .ok (.ifCond .eq 7, 3) := by decide +kernel
theorem dX11_sum_113 : decode cX11_sum 113 = .ok (.iconst 1, 1) := by decide +kernel
theorem dX11_sum_114 : decode cX11_sum 114 = .ok (.goto 4, 3) := by decide +kernel
theorem dX11_sum_117 : decode cX11_sum 117 = .ok (.iconst 0, 1) := by decide +kernel
theorem dX11_sum_118 : decode cX11_sum 118 = .ok (.ireturn, 1) := by decide +kernel
theorem dX11_sum_119 : decode cX11_sum 119 = .ok (.aload_n 0, 1) := by decide +kernel
theorem dX11_sum_120 : decode cX11_sum 120 = .ok (.getfield 32, 3) := by decide +kernel
theorem dX11_sum_123 : decode cX11_sum 123 = .ok (.iload_n 1, 1) := by decide +kernel
theorem dX11_sum_124 : decode cX11_sum 124 = .ok (.iaload, 1) := by decide +kernel
theorem dX11_sum_125 : decode cX11_sum 125 = .ok (.ireturn, 1) := by decide +kernel
theorem dX11_best_0 : decode cX11_best 0 = .ok (.aload_n 0, 1) := by decide +kernel
theorem dX11_best_1 : decode cX11_best 1 = .ok (.iconst 0, 1) := by decide +kernel
theorem dX11_best_2 : decode cX11_best 2 = .ok (.putfield 71, 3) := by decide +kernel
theorem dX11_best_5 : decode cX11_best 5 = .ok (.aload_n 0, 1) := by decide +kernel
theorem dX11_best_6 : decode cX11_best 6 = .ok (.invokevirtual 204, 3) := by decide +kernel
theorem dX11_best_9 : decode cX11_best 9 = .ok (.iconst (-1), 1) := by decide +kernel
theorem dX11_best_10 : decode cX11_best 10 = .ok (.istore_n 3, 1) := by decide +kernel
theorem dX11_best_11 : decode cX11_best 11 = .ok (.iconst 0, 1) := by decide +kernel
theorem dX11_best_12 : decode cX11_best 12 = .ok (.istore 4, 2) := by decide +kernel
theorem dX11_best_14 : decode cX11_best 14 = .ok (.iload 4, 2) := by decide +kernel
theorem dX11_best_16 : decode cX11_best 16 = .ok (.bipush 6, 2) := by decide +kernel
theorem dX11_best_18 : decode cX11_best 18 = .ok (.if_icmp .ge 87, 3) := by decide +kernel
theorem dX11_best_21 : decode cX11_best 21 = .ok (.aload_n 0, 1) := by decide +kernel
theorem dX11_best_22 : decode cX11_best 22 = .ok (.iload 4, 2) := by decide +kernel
theorem dX11_best_24 : decode cX11_best 24 = .ok (.invokevirtual 220, 3) := by decide +kernel
theorem dX11_best_27 : decode cX11_best 27 = .ok (.istore 5, 2) := by decide +kernel
theorem dX11_best_29 : decode cX11_best 29 = .ok (.aload_n 0, 1) := by decide +kernel
theorem dX11_best_30 : decode cX11_best 30 = .ok (.iload 4, 2) := by decide +kernel
theorem dX11_best_32 : decode cX11_best 32 = .ok (.invokevirtual 226, 3) := by decide +kernel
theorem dX11_best_35 : decode cX11_best 35 = .ok (.ifCond .eq 64, 3) := by decide +kernel
theorem dX11_best_38 : decode cX11_best 38 = .ok (.aload_n 0, 1) := by decide +kernel
theorem dX11_best_39 : decode cX11_best 39 = .ok (.getfield 35, 3) := by decide +kernel
theorem dX11_best_42 : decode cX11_best 42 = .ok (.iload 4, 2) := by decide +kernel
theorem dX11_best_44 : decode cX11_best 44 = .ok (.iaload, 1) := by decide +kernel
theorem dX11_best_45 : decode cX11_best 45 = .ok (.iload_n 2, 1) := by decide +kernel
theorem dX11_best_46 : decode cX11_best 46 = .ok (.if_icmp .gt 53, 3) := by decide +kernel
theorem dX11_best_49 : decode cX11_best 49 = .ok (.iload 5, 2) := by decide +kernel
theorem dX11_best_51 : decode cX11_best 51 = .ok (.iconst (-1), 1) := by decide +kernel
theorem dX11_best_52 : decode cX11_best 52 = .ok (.if_icmp .eq 23, 3) := by decide +kernel
theorem dX11_best_55 : decode cX11_best 55 = .ok (.aload_n 0, 1) := by decide +kernel
theorem dX11_best_56 : decode cX11_best 56 = .ok (.getfield 29, 3) := by decide +kernel
theorem dX11_best_59 : decode cX11_best 59 = .ok (.bipush 6, 2) := by decide +kernel
theorem dX11_best_61 : decode cX11_best 61 = .ok (.iload 5, 2) := by decide +kernel
theorem dX11_best_63 : decode cX11_best 63 = .ok (.imul, 1) := by decide +kernel
theorem dX11_best_64 : decode cX11_best 64 = .ok (.iload 4, 2) := by decide +kernel
theorem dX11_best_66 : decode cX11_best 66 = .ok (.iadd, 1) := by decide +kernel
theorem dX11_best_67 : decode cX11_best 67 = .ok (.iaload, 1) := by decide +kernel
theorem dX11_best_68 : decode cX11_best 68 = .ok (.iload_n 1, 1) := by decide +kernel
theorem dX11_best_69 : decode cX11_best 69 = .ok (.if_icmp .le 6, 3) := by decide +kernel
theorem dX11_best_72 : decode cX11_best 72 = .ok (.goto 27, 3) := by decide +kernel
theorem dX11_best_75 : decode cX11_best 75 = .ok (.iload_n 3, 1) := by decide +kernel
theorem dX11_best_76 : decode cX11_best 76 = .ok (.iconst (-1), 1) := by decide +kernel
theorem dX11_best_77 : decode cX11_best 77 = .ok (.if_icmp .eq 19, 3) := by decide +kernel
theorem dX11_best_80 : decode cX11_best 80 = .ok (.aload_n 0, 1) := by decide +kernel
theorem dX11_best_81 : decode cX11_best 81 = .ok (.iload 4, 2) := by decide +kernel
theorem dX11_best_83 : decode cX11_best 83 = .ok (.iconst 0, 1) := by decide +kernel
theorem dX11_best_84 : decode cX11_best 84 = .ok (.invokevirtual 223, 3) := by decide +kernel
theorem dX11_best_87 : decode cX11_best 87 = .ok (.aload_n 0, 1) := by decide +kernel
theorem dX11_best_88 : decode cX11_best 88 = .ok (.iload_n 3, 1) := by decide +kernel
theorem dX11_best_89 : decode cX11_best 89 = .ok (.iconst 0, 1) := by decide +kernel
theorem dX11_best_90 : decode cX11_best 90 = .ok (.invokevirtual 223, 3) := by decide +kernel
theorem dX11_best_93 : decode cX11_best 93 = .ok (.if_icmp .ge 6, 3) := by decide +kernel
theorem dX11_best_96 : decode cX11_best 96 = .ok (.iload 4, 2) := by decide +kernel
theorem dX11_best_98 : decode cX11_best 98 = .ok (.istore_n 3, 1) := by decide +kernel
theorem dX11_best_99 : decode cX11_best 99 = .ok (.iinc 4 1, 3) := by decide +kernel
theorem dX11_best_102 : decode cX11_best 102 = .ok (.goto (-88), 3) := by decide +kernel
theorem dX11_best_105 : decode cX11_best 105 = .ok (.iload_n 3, 1) := by decide +kernel
theorem dX11_best_106 : decode cX11_best 106 = .ok (.ireturn, 1) := by decide +kernel
theorem dX11_drift_0 : decode cX11_drift 0 = .ok (.aload_n 0, 1) := by decide +kernel
theorem dX11_drift_1 : decode cX11_drift 1 = .ok (.iconst 0, 1) := by decide +kernel
theorem dX11_drift_2 : decode cX11_drift 2 = .ok (.putfield 71, 3) := by decide +kernel
theorem dX11_drift_5 : decode cX11_drift 5 = .ok (.iload_n 1, 1) := by decide +kernel
theorem dX11_drift_6 : decode cX11_drift 6 = .ok (.invokestatic 207, 3) := by decide +kernel
theorem dX11_drift_9 : decode cX11_drift 9 = .ok (.ifCond .eq 24, 3) := by decide +kernel
theorem dX11_drift_12 : decode cX11_drift 12 = .ok (.iload_n 2, 1) := by decide +kernel
theorem dX11_drift_13 : decode cX11_drift 13 = .ok (.iconst 1, 1) := by decide +kernel
theorem dX11_drift_14 : decode cX11_drift 14 = .ok (.aload_n 0, 1) := by decide +kernel
theorem dX11_drift_15 : decode cX11_drift 15 = .ok (.getfield 74, 3) := by decide +kernel
theorem dX11_drift_18 : decode cX11_drift 18 = .ok (.invokestatic 81, 3) := by decide +kernel
theorem dX11_drift_21 : decode cX11_drift 21 = .ok (.ifCond .eq 12, 3) := by decide +kernel
theorem dX11_drift_24 : decode cX11_drift 24 = .ok (.iload_n 3, 1) := by decide +kernel
theorem dX11_drift_25 : decode cX11_drift 25 = .ok (.iconst 0, 1) := by decide +kernel
theorem dX11_drift_26 : decode cX11_drift 26 = .ok (.iconst 1, 1) := by decide +kernel
theorem dX11_drift_27 : decode cX11_drift 27 = .ok (.invokestatic 81, 3) := by decide +kernel
theorem dX11_drift_30 : decode cX11_drift 30 = .ok (.ifCond .ne 5, 3) := by decide +kernel
theorem dX11_drift_33 : decode cX11_drift 33 = .ok (.iconst (-1), 1) := by decide +kernel
theorem dX11_drift_34 : decode cX11_drift 34 = .ok (.ireturn, 1) := by decide +kernel
theorem dX11_drift_35 : decode cX11_drift 35 = .ok (.aload_n 0, 1) := by decide +kernel
theorem dX11_drift_36 : decode cX11_drift 36 = .ok (.invokevirtual 204, 3) := by decide +kernel
theorem dX11_drift_39 : decode cX11_drift 39 = .ok (.iconst (-1), 1) := by decide +kernel
theorem dX11_drift_40 : decode cX11_drift 40 = .ok (.istore 4, 2) := by decide +kernel
theorem dX11_drift_42 : decode cX11_drift 42 = .ok (.iconst 0, 1) := by decide +kernel
theorem dX11_drift_43 : decode cX11_drift 43 = .ok (.istore 5, 2) := by decide +kernel
theorem dX11_drift_45 : decode cX11_drift 45 = .ok (.iload 5, 2) := by decide +kernel
theorem dX11_drift_47 : decode cX11_drift 47 = .ok (.bipush 6, 2) := by decide +kernel
theorem dX11_drift_49 : decode cX11_drift 49 = .ok (.if_icmp .ge 55, 3) := by decide +kernel
theorem dX11_drift_52 : decode cX11_drift 52 = .ok (.aload_n 0, 1) := by decide +kernel
theorem dX11_drift_53 : decode cX11_drift 53 = .ok (.iload 5, 2) := by decide +kernel
theorem dX11_drift_55 : decode cX11_drift 55 = .ok (.invokevirtual 226, 3) := by decide +kernel
theorem dX11_drift_58 : decode cX11_drift 58 = .ok (.ifCond .eq 40, 3) := by decide +kernel
theorem dX11_drift_61 : decode cX11_drift 61 = .ok (.iload 4, 2) := by decide +kernel
theorem dX11_drift_63 : decode cX11_drift 63 = .ok (.iconst (-1), 1) := by decide +kernel
theorem dX11_drift_64 : decode cX11_drift 64 = .ok (.if_icmp .eq 30, 3) := by decide +kernel
theorem dX11_drift_67 : decode cX11_drift 67 = .ok (.aload_n 0, 1) := by decide +kernel
theorem dX11_drift_68 : decode cX11_drift 68 = .ok (.iload 5, 2) := by decide +kernel
theorem dX11_drift_70 : decode cX11_drift 70 = .ok (.aload_n 0, 1) := by decide +kernel
theorem dX11_drift_71 : decode cX11_drift 71 = .ok (.getfield 74, 3) := by decide +kernel
theorem dX11_drift_74 : decode cX11_drift 74 = .ok (.iload_n 2, 1) := by decide +kernel
theorem dX11_drift_75 : decode cX11_drift 75 = .ok (.isub, 1) := by decide +kernel
theorem dX11_drift_76 : decode cX11_drift 76 = .ok (.invokevirtual 223, 3) := by decide +kernel
theorem dX11_drift_79 : decode cX11_drift 79 = .ok (.aload_n 0, 1) := by decide +kernel
theorem dX11_drift_80 : decode cX11_drift 80 = .ok (.iload 4, 2) := by decide +kernel
theorem dX11_drift_82 : decode cX11_drift 82 = .ok (.aload_n 0, 1) := by decide +kernel
theorem dX11_drift_83 : decode cX11_drift 83 = .ok (.getfield 74, 3) := by decide +kernel
theorem dX11_drift_86 : decode cX11_drift 86 = .ok (.iload_n 2, 1) := by decide +kernel
theorem dX11_drift_87 : decode cX11_drift 87 = .ok (.isub, 1) := by decide +kernel
theorem dX11_drift_88 : decode cX11_drift 88 = .ok (.invokevirtual 223, 3) := by decide +kernel
theorem dX11_drift_91 : decode cX11_drift 91 = .ok (.if_icmp .ge 7, 3) := by decide +kernel
theorem dX11_drift_94 : decode cX11_drift 94 = .ok (.iload 5, 2) := by decide +kernel
theorem dX11_drift_96 : decode cX11_drift 96 = .ok (.istore 4, 2) := by decide +kernel
theorem dX11_drift_98 : decode cX11_drift 98 = .ok (.iinc 5 1, 3) := by decide +kernel
theorem dX11_drift_101 : decode cX11_drift 101 = .ok (.goto (-56), 3) := by decide +kernel
theorem dX11_drift_104 : decode cX11_drift 104 = .ok (.iload 4, 2) := by decide +kernel
theorem dX11_drift_106 : decode cX11_drift 106 = .ok (.iconst (-1), 1) := by decide +kernel
theorem dX11_drift_107 : decode cX11_drift 107 = .ok (.if_icmp .eq 7, 3) := by decide +kernel
theorem dX11_drift_110 : decode cX11_drift 110 = .ok (.iload_n 3, 1) := by decide +kernel
theorem dX11_drift_111 : decode cX11_drift 111 = .ok (.ifCond .ne 6, 3) := by decide +kernel
theorem dX11_drift_114 : decode cX11_drift 114 = .ok (.iload 4, 2) := by decide +kernel
theorem dX11_drift_116 : decode cX11_drift 116 = .ok (.ireturn, 1) := by decide +kernel
theorem dX11_drift_117 : decode cX11_drift 117 = .ok (.aload_n 0, 1) := by decide +kernel
theorem dX11_drift_118 : decode cX11_drift 118 = .ok (.iload_n 1, 1) := by decide +kernel
theorem dX11_drift_119 : decode cX11_drift 119 = .ok (.aload_n 0, 1) := by decide +kernel
theorem dX11_drift_120 : decode cX11_drift 120 = .ok (.getfield 74, 3) := by decide +kernel
theorem dX11_drift_123 : decode cX11_drift 123 = .ok (.iload_n 2, 1) := by decide +kernel
theorem dX11_drift_124 : decode cX11_drift 124 = .ok (.isub, 1) := by decide +kernel
theorem dX11_drift_125 : decode cX11_drift 125 = .ok (.invokevirtual 223, 3) := by decide +kernel
theorem dX11_drift_128 : decode cX11_drift 128 = .ok (.istore 5, 2) := by decide +kernel
theorem dX11_drift_130 : decode cX11_drift 130 = .ok (.iload 5, 2) := by decide +kernel
theorem dX11_drift_132 : decode cX11_drift 132 = .ok (.ifCond .ne 7, 3) := by decide +kernel
theorem dX11_drift_135 : decode cX11_drift 135 = .ok (.iconst 0, 1) := by decide +kernel
theorem dX11_drift_136 : decode cX11_drift 136 = .ok (.goto 24, 3) := by decide +kernel
theorem dX11_drift_139 : decode cX11_drift 139 = .ok (.iload 5, 2) := by decide +kernel
theorem dX11_drift_141 : decode cX11_drift 141 = .ok (.aload_n 0, 1) := by decide +kernel
theorem dX11_drift_142 : decode cX11_drift 142 = .ok (.iload 4, 2) := by decide +kernel
theorem dX11_drift_144 : decode cX11_drift 144 = .ok (.aload_n 0, 1) := by decide +kernel
theorem dX11_drift_145 : decode cX11_drift 145 = .ok (.getfield 74, 3) := by decide +kernel
theorem dX11_drift_148 : decode cX11_drift 148 = .ok (.iload_n 2, 1) := by decide +kernel
theorem dX11_drift_149 : decode cX11_drift 149 = .ok (.isub, 1) := by decide +kernel
theorem dX11_drift_150 : decode cX11_drift 150 = .ok (.invokevirtual 223, 3) := by decide +kernel
theorem dX11_drift_153 : decode cX11_drift 153 = .ok (.isub, 1) := by decide +kernel
theorem dX11_drift_154 : decode cX11_drift 154 = .ok (.bipush 100, 2) := by decide +kernel
theorem dX11_drift_156 : decode cX11_drift 156 = .ok (.imul, 1) := by decide +kernel
theorem dX11_drift_157 : decode cX11_drift 157 = .ok (.iload 5, 2) := by decide +kernel
theorem dX11_drift_159 : decode cX11_drift 159 = .ok (.idiv, 1) := by decide +kernel
theorem dX11_drift_160 : decode cX11_drift 160 = .ok (.ireturn, 1) := by decide +kernel
theorem dX11_moving_0 : decode cX11_moving 0 = .ok (.aload_n 0, 1) := by decide +kernel
theorem dX11_moving_1 : decode cX11_moving 1 = .ok (.getfield 16, 3) := by decide +kernel
theorem dX11_moving_4 : decode cX11_moving 4 = .ok (.aload_n 0, 1) := by decide +kernel
theorem dX11_moving_5 : decode cX11_moving 5 = .ok (.getfield 20, 3) := by decide +kernel
theorem dX11_moving_8 : decode cX11_moving 8 = .ok (.aload_n 0, 1) := by decide +kernel
theorem dX11_moving_9 : decode cX11_moving 9 = .ok (.getfield 26, 3) := by decide +kernel
theorem dX11_moving_12 : decode cX11_moving 12 = .ok (.iload_n 1, 1) := by decide +kernel
theorem dX11_moving_13 : decode cX11_moving 13 = .ok (.iaload, 1) := by decide +kernel
theorem dX11_moving_14 : decode cX11_moving 14 = .ok (.imul, 1) := by decide +kernel
theorem dX11_moving_15 : decode cX11_moving 15 = .ok (.iadd, 1) := by decide +kernel
theorem dX11_moving_16 : decode cX11_moving 16 = .ok (.ireturn, 1) := by decide +kernel
theorem dX11_findStages_0 : decode cX11_findStages 0 = .ok (.aload_n 0, 1) := by decide +kernel
theorem dX11_findStages_1 : decode cX11_findStages 1 = .ok (.invokevirtual 204, 3) := by decide +kernel
theorem dX11_findStages_4 : decode cX11_findStages 4 = .ok (.iconst 0, 1) := by decide +kernel
theorem dX11_findStages_5 : decode cX11_findStages 5 = .ok (.istore_n 1, 1) := by decide +kernel
theorem dX11_findStages_6 : decode cX11_findStages 6 = .ok (.iconst 0, 1) := by decide +kernel
theorem dX11_findStages_7 : decode cX11_findStages 7 = .ok (.istore_n 2, 1) := by decide +kernel
theorem dX11_findStages_8 : decode cX11_findStages 8 = .ok (.iload_n 2, 1) := by decide +kernel
theorem dX11_findStages_9 : decode cX11_findStages 9 = .ok (.bipush 6, 2) := by decide +kernel
theorem dX11_findStages_11 : decode cX11_findStages 11 = .ok (.if_icmp .ge 57, 3) := by decide +kernel
theorem dX11_findStages_14 : decode cX11_findStages 14 = .ok (.iload_n 1, 1) := by decide +kernel
theorem dX11_findStages_15 : decode cX11_findStages 15 = .ok (.ifCond .ne 11, 3) := by decide +kernel
theorem dX11_findStages_18 : decode cX11_findStages 18 = .ok (.aload_n 0, 1) := by decide +kernel
theorem dX11_findStages_19 : decode cX11_findStages 19 = .ok (.iload_n 2, 1) := by decide +kernel
theorem dX11_findStages_20 : decode cX11_findStages 20 = .ok (.invokevirtual 226, 3) := by decide +kernel
theorem dX11_findStages_23 : decode cX11_findStages 23 = .ok (.ifCond .eq 7, 3) := by decide +kernel
theorem dX11_findStages_26 : decode cX11_findStages 26 = .ok (.iconst 1, 1) := by decide +kernel
theorem dX11_findStages_27 : decode cX11_findStages 27 = .ok (.goto 4, 3) := by decide +kernel
theorem dX11_findStages_30 : decode cX11_findStages 30 = .ok (.iconst 0, 1) := by decide +kernel
theorem dX11_findStages_31 : decode cX11_findStages 31 = .ok (.istore_n 1, 1) := by decide +kernel
theorem dX11_findStages_32 : decode cX11_findStages 32 = .ok (.aload_n 0, 1) := by decide +kernel
theorem dX11_findStages_33 : decode cX11_findStages 33 = .ok (.getfield 62, 3) := by decide +kernel
theorem dX11_findStages_36 : decode cX11_findStages 36 = .ok (.bipush 6, 2) := by decide +kernel
theorem dX11_findStages_38 : decode cX11_findStages 38 = .ok (.aload_n 0, 1) := by decide +kernel
theorem dX11_findStages_39 : decode cX11_findStages 39 = .ok (.getfield 74, 3) := by decide +kernel
theorem dX11_findStages_42 : decode cX11_findStages 42 = .ok (.imul, 1) := by decide +kernel
theorem dX11_findStages_43 : decode cX11_findStages 43 = .ok (.iload_n 2, 1) := by decide +kernel
theorem dX11_findStages_44 : decode cX11_findStages 44 = .ok (.iadd, 1) := by decide +kernel
theorem dX11_findStages_45 : decode cX11_findStages 45 = .ok (.iconst 0, 1) := by decide +kernel
theorem dX11_findStages_46 : decode cX11_findStages 46 = .ok (.iastore, 1) := by decide +kernel
theorem dX11_findStages_47 : decode cX11_findStages 47 = .ok (.aload_n 0, 1) := by decide +kernel
theorem dX11_findStages_48 : decode cX11_findStages 48 = .ok (.getfield 65, 3) := by decide +kernel
theorem dX11_findStages_51 : decode cX11_findStages 51 = .ok (.bipush 6, 2) := by decide +kernel
theorem dX11_findStages_53 : decode cX11_findStages 53 = .ok (.aload_n 0, 1) := by decide +kernel
theorem dX11_findStages_54 : decode cX11_findStages 54 = .ok (.getfield 74, 3) := by decide +kernel
theorem dX11_findStages_57 : decode cX11_findStages 57 = .ok (.imul, 1) := by decide +kernel
theorem dX11_findStages_58 : decode cX11_findStages 58 = .ok (.iload_n 2, 1) := by decide +kernel
theorem dX11_findStages_59 : decode cX11_findStages 59 = .ok (.iadd, 1) := by decide +kernel
theorem dX11_findStages_60 : decode cX11_findStages 60 = .ok (.iconst 0, 1) := by decide +kernel
theorem dX11_findStages_61 : decode cX11_findStages 61 = .ok (.iastore, 1) := by decide +kernel
theorem dX11_findStages_62 : decode cX11_findStages 62 = .ok (.iinc 2 1, 3) := by decide +kernel
theorem dX11_findStages_65 : decode cX11_findStages 65 = .ok (.goto (-57), 3) := by decide +kernel
theorem dX11_findStages_68 : decode cX11_findStages 68 = .ok (.aload_n 0, 1) := by decide +kernel
theorem dX11_findStages_69 : decode cX11_findStages 69 = .ok (.getfield 74, 3) := by decide +kernel
theorem dX11_findStages_72 : decode cX11_findStages 72 = .ok (.iconst 1, 1) := by decide +kernel
theorem dX11_findStages_73 : decode cX11_findStages 73 = .ok (.isub, 1) := by decide +kernel
theorem dX11_findStages_74 : decode cX11_findStages 74 = .ok (.istore_n 2, 1) := by decide +kernel
theorem dX11_findStages_75 : decode cX11_findStages 75 = .ok (.iload_n 2, 1) := by decide +kernel
theorem dX11_findStages_76 : decode cX11_findStages 76 = .ok (.ifCond .lt 166, 3) := by decide +kernel
theorem dX11_findStages_79 : decode cX11_findStages 79 = .ok (.iconst 0, 1) := by decide +kernel
theorem dX11_findStages_80 : decode cX11_findStages 80 = .ok (.istore_n 3, 1) := by decide +kernel
theorem dX11_findStages_81 : decode cX11_findStages 81 = .ok (.iload_n 3, 1) := by decide +kernel
theorem dX11_findStages_82 : decode cX11_findStages 82 = .ok (.bipush 6, 2) := by decide +kernel
theorem dX11_findStages_84 : decode cX11_findStages 84 = .ok (.if_icmp .ge 152, 3) := by decide +kernel
theorem dX11_findStages_87 : decode cX11_findStages 87 = .ok (.bipush 6, 2) := by decide +kernel
theorem dX11_findStages_89 : decode cX11_findStages 89 = .ok (.iload_n 2, 1) := by decide +kernel
theorem dX11_findStages_90 : decode cX11_findStages 90 = .ok (.imul, 1) := by decide +kernel
theorem dX11_findStages_91 : decode cX11_findStages 91 = .ok (.iload_n 3, 1) := by decide +kernel
theorem dX11_findStages_92 : decode cX11_findStages 92 = .ok (.iadd, 1) := by decide +kernel
theorem dX11_findStages_93 : decode cX11_findStages 93 = .ok (.istore 4, 2) := by decide +kernel
theorem dX11_findStages_95 : decode cX11_findStages 95 = .ok (.aload_n 0, 1) := by decide +kernel
theorem dX11_findStages_96 : decode cX11_findStages 96 = .ok (.getfield 62, 3) := by decide +kernel
theorem dX11_findStages_99 : decode cX11_findStages 99 = .ok (.iload 4, 2) := by decide +kernel
theorem dX11_findStages_101 : decode cX11_findStages 101 = .ok (.ldc 229, 2) := by decide +kernel
theorem dX11_findStages_103 : decode cX11_findStages 103 = .ok (.iastore, 1) := by decide +kernel
theorem dX11_findStages_104 : decode cX11_findStages 104 = .ok (.aload_n 0, 1) := by decide +kernel
theorem dX11_findStages_105 : decode cX11_findStages 105 = .ok (.getfield 65, 3) := by decide +kernel
theorem dX11_findStages_108 : decode cX11_findStages 108 = .ok (.iload 4, 2) := by decide +kernel
theorem dX11_findStages_110 : decode cX11_findStages 110 = .ok (.iconst 0, 1) := by decide +kernel
theorem dX11_findStages_111 : decode cX11_findStages 111 = .ok (.iastore, 1) := by decide +kernel
theorem dX11_findStages_112 : decode cX11_findStages 112 = .ok (.aload_n 0, 1) := by decide +kernel
theorem dX11_findStages_113 : decode cX11_findStages 113 = .ok (.iload_n 3, 1) := by decide +kernel
theorem dX11_findStages_114 : decode cX11_findStages 114 = .ok (.invokevirtual 226, 3) := by decide +kernel
theorem dX11_findStages_117 : decode cX11_findStages 117 = .ok (.ifCond .ne 6, 3) := by decide +kernel
theorem dX11_findStages_120 : decode cX11_findStages 120 = .ok (.goto 110, 3) := by decide +kernel
theorem dX11_findStages_123 : decode cX11_findStages 123 = .ok (.aload_n 0, 1) := by decide +kernel
theorem dX11_findStages_124 : decode cX11_findStages 124 = .ok (.iload_n 2, 1) := by decide +kernel
theorem dX11_findStages_125 : decode cX11_findStages 125 = .ok (.iload_n 3, 1) := by decide +kernel
theorem dX11_findStages_126 : decode cX11_findStages 126 = .ok (.invokevirtual 230, 3) := by decide +kernel
theorem dX11_findStages_129 : decode cX11_findStages 129 = .ok (.istore 5, 2) := by decide +kernel
theorem dX11_findStages_131 : decode cX11_findStages 131 = .ok (.iload 5, 2) := by decide +kernel
theorem dX11_findStages_133 : decode cX11_findStages 133 = .ok (.iload_n 3, 1) := by decide +kernel
theorem dX11_findStages_134 : decode cX11_findStages 134 = .ok (.if_icmp .eq 17, 3) := by decide +kernel
theorem dX11_findStages_137 : decode cX11_findStages 137 = .ok (.iload_n 2, 1) := by decide +kernel
theorem dX11_findStages_138 : decode cX11_findStages 138 = .ok (.aload_n 0, 1) := by decide +kernel
theorem dX11_findStages_139 : decode cX11_findStages 139 = .ok (.getfield 74, 3) := by decide +kernel
theorem dX11_findStages_142 : decode cX11_findStages 142 = .ok (.iconst 1, 1) := by decide +kernel
theorem dX11_findStages_143 : decode cX11_findStages 143 = .ok (.isub, 1) := by decide +kernel
theorem dX11_findStages_144 : decode cX11_findStages 144 = .ok (.if_icmp .ge 7, 3) := by decide +kernel
theorem dX11_findStages_147 : decode cX11_findStages 147 = .ok (.iconst 1, 1) := by decide +kernel
theorem dX11_findStages_148 : decode cX11_findStages 148 = .ok (.goto 4, 3) := by decide +kernel
theorem dX11_findStages_151 : decode cX11_findStages 151 = .ok (.iconst 0, 1) := by decide +kernel
theorem dX11_findStages_152 : decode cX11_findStages 152 = .ok (.istore 6, 2) := by decide +kernel
theorem dX11_findStages_154 : decode cX11_findStages 154 = .ok (.aload_n 0, 1) := by decide +kernel
theorem dX11_findStages_155 : decode cX11_findStages 155 = .ok (.getfield 62, 3) := by decide +kernel
theorem dX11_findStages_158 : decode cX11_findStages 158 = .ok (.iload 4, 2) := by decide +kernel
theorem dX11_findStages_160 : decode cX11_findStages 160 = .ok (.aload_n 0, 1) := by decide +kernel
theorem dX11_findStages_161 : decode cX11_findStages 161 = .ok (.getfield 29, 3) := by decide +kernel
theorem dX11_findStages_164 : decode cX11_findStages 164 = .ok (.iload 4, 2) := by decide +kernel
theorem dX11_findStages_166 : decode cX11_findStages 166 = .ok (.iaload, 1) := by decide +kernel
theorem dX11_findStages_167 : decode cX11_findStages 167 = .ok (.aload_n 0, 1) := by decide +kernel
theorem dX11_findStages_168 : decode cX11_findStages 168 = .ok (.getfield 62, 3) := by decide +kernel
theorem dX11_findStages_171 : decode cX11_findStages 171 = .ok (.bipush 6, 2) := by decide +kernel
theorem dX11_findStages_173 : decode cX11_findStages 173 = .ok (.iload_n 2, 1) := by decide +kernel
theorem dX11_findStages_174 : decode cX11_findStages 174 = .ok (.iconst 1, 1) := by decide +kernel
theorem dX11_findStages_175 : decode cX11_findStages 175 = .ok (.iadd, 1) := by decide +kernel
theorem dX11_findStages_176 : decode cX11_findStages 176 = .ok (.imul, 1) := by decide +kernel
theorem dX11_findStages_177 : decode cX11_findStages 177 = .ok (.iload 5, 2) := by decide +kernel
theorem dX11_findStages_179 : decode cX11_findStages 179 = .ok (.iadd, 1) := by decide +kernel
theorem dX11_findStages_180 : decode cX11_findStages 180 = .ok (.iaload, 1) := by decide +kernel
theorem dX11_findStages_181 : decode cX11_findStages 181 = .ok (.iadd, 1) := by decide +kernel
theorem dX11_findStages_182 : decode cX11_findStages 182 = .ok (.iload 6, 2) := by decide +kernel
theorem dX11_findStages_184 : decode cX11_findStages 184 = .ok (.ifCond .eq 11, 3) := by decide +kernel
theorem dX11_findStages_187 : decode cX11_findStages 187 = .ok (.aload_n 0, 1) := by decide +kernel
theorem dX11_findStages_188 : decode cX11_findStages 188 = .ok (.iload_n 2, 1) := by decide +kernel
theorem dX11_findStages_189 : decode cX11_findStages 189 = .ok (.invokevirtual 233, 3) := by decide +kernel
theorem dX11_findStages_192 : decode cX11_findStages 192 = .ok (.goto 4, 3) := by decide +kernel
theorem dX11_findStages_195 : decode cX11_findStages 195 = .ok (.iconst 0, 1) := by decide +kernel
theorem dX11_findStages_196 : decode cX11_findStages 196 = .ok (.iadd, 1) := by decide +kernel
theorem dX11_findStages_197 : decode cX11_findStages 197 = .ok (.iastore, 1) := by decide +kernel
theorem dX11_findStages_198 : decode cX11_findStages 198 = .ok (.aload_n 0, 1) := by decide +kernel
theorem dX11_findStages_199 : decode cX11_findStages 199 = .ok (.getfield 65, 3) := by decide +kernel
theorem dX11_findStages_202 : decode cX11_findStages 202 = .ok (.iload 4, 2) := by decide +kernel
theorem dX11_findStages_204 : decode cX11_findStages 204 = .ok (.aload_n 0, 1) := by decide +kernel
theorem dX11_findStages_205 : decode cX11_findStages 205 = .ok (.getfield 65, 3) := by decide +kernel
theorem dX11_findStages_208 : decode cX11_findStages 208 = .ok (.bipush 6, 2) := by decide +kernel
theorem dX11_findStages_210 : decode cX11_findStages 210 = .ok (.iload_n 2, 1) := by decide +kernel
theorem dX11_findStages_211 : decode cX11_findStages 211 = .ok (.iconst 1, 1) := by decide +kernel
theorem dX11_findStages_212 : decode cX11_findStages 212 = .ok (.iadd, 1) := by decide +kernel
theorem dX11_findStages_213 : decode cX11_findStages 213 = .ok (.imul, 1) := by decide +kernel
theorem dX11_findStages_214 : decode cX11_findStages 214 = .ok (.iload 5, 2) := by decide +kernel
theorem dX11_findStages_216 : decode cX11_findStages 216 = .ok (.iadd, 1) := by decide +kernel
theorem dX11_findStages_217 : decode cX11_findStages 217 = .ok (.iaload, 1) := by decide +kernel
theorem dX11_findStages_218 : decode cX11_findStages 218 = .ok (.iload 6, 2) := by decide +kernel
theorem dX11_findStages_220 : decode cX11_findStages 220 = .ok (.ifCond .eq 7, 3) := by decide +kernel
theorem dX11_findStages_223 : decode cX11_findStages 223 = .ok (.iconst 1, 1) := by decide +kernel
theorem dX11_findStages_224 : decode cX11_findStages 224 = .ok (.goto 4, 3) := by decide +kernel
theorem dX11_findStages_227 : decode cX11_findStages 227 = .ok (.iconst 0, 1) := by decide +kernel
theorem dX11_findStages_228 : decode cX11_findStages 228 = .ok (.iadd, 1) := by decide +kernel
theorem dX11_findStages_229 : decode cX11_findStages 229 = .ok (.iastore, 1) := by decide +kernel
theorem dX11_findStages_230 : decode cX11_findStages 230 = .ok (.iinc 3 1, 3) := by decide +kernel
theorem dX11_findStages_233 : decode cX11_findStages 233 = .ok (.goto (-152), 3) := by decide +kernel
theorem dX11_findStages_236 : decode cX11_findStages 236 = .ok (.iinc 2 (-1), 3) := by decide +kernel
theorem dX11_findStages_239 : decode cX11_findStages 239 = .ok (.goto (-164), 3) := by decide +kernel
theorem dX11_findStages_242 : decode cX11_findStages 242 = .ok (.iload_n 1, 1) := by decide +kernel
theorem dX11_findStages_243 : decode cX11_findStages 243 = .ok (.ireturn, 1) := by decide +kernel
theorem dX11_nextShelf_0 : decode cX11_nextShelf 0 = .ok (.iload_n 1, 1) := by decide +kernel
theorem dX11_nextShelf_1 : decode cX11_nextShelf 1 = .ok (.aload_n 0, 1) := by decide +kernel
theorem dX11_nextShelf_2 : decode cX11_nextShelf 2 = .ok (.getfield 74, 3) := by decide +kernel
theorem dX11_nextShelf_5 : decode cX11_nextShelf 5 = .ok (.iconst 1, 1) := by decide +kernel
theorem dX11_nextShelf_6 : decode cX11_nextShelf 6 = .ok (.isub, 1) := by decide +kernel
theorem dX11_nextShelf_7 : decode cX11_nextShelf 7 = .ok (.if_icmp .ne 5, 3) := by decide +kernel
theorem dX11_nextShelf_10 : decode cX11_nextShelf 10 = .ok (.iload_n 2, 1) := by decide +kernel
theorem dX11_nextShelf_11 : decode cX11_nextShelf 11 = .ok (.ireturn, 1) := by decide +kernel
theorem dX11_nextShelf_12 : decode cX11_nextShelf 12 = .ok (.iconst (-1), 1) := by decide +kernel
theorem dX11_nextShelf_13 : decode cX11_nextShelf 13 = .ok (.istore_n 3, 1) := by decide +kernel
theorem dX11_nextShelf_14 : decode cX11_nextShelf 14 = .ok (.iconst 0, 1) := by decide +kernel
theorem dX11_nextShelf_15 : decode cX11_nextShelf 15 = .ok (.istore 4, 2) := by decide +kernel
theorem dX11_nextShelf_17 : decode cX11_nextShelf 17 = .ok (.iconst 0, 1) := by decide +kernel
theorem dX11_nextShelf_18 : decode cX11_nextShelf 18 = .ok (.istore 5, 2) := by decide +kernel
theorem dX11_nextShelf_20 : decode cX11_nextShelf 20 = .ok (.iconst 0, 1) := by decide +kernel
theorem dX11_nextShelf_21 : decode cX11_nextShelf 21 = .ok (.istore 6, 2) := by decide +kernel
theorem dX11_nextShelf_23 : decode cX11_nextShelf 23 = .ok (.iload 6, 2) := by decide +kernel
theorem dX11_nextShelf_25 : decode cX11_nextShelf 25 = .ok (.bipush 6, 2) := by decide +kernel
theorem dX11_nextShelf_27 : decode cX11_nextShelf 27 = .ok (.if_icmp .ge 118, 3) := by decide +kernel
theorem dX11_nextShelf_30 : decode cX11_nextShelf 30 = .ok (.aload_n 0, 1) := by decide +kernel
theorem dX11_nextShelf_31 : decode cX11_nextShelf 31 = .ok (.iload 6, 2) := by decide +kernel
theorem dX11_nextShelf_33 : decode cX11_nextShelf 33 = .ok (.invokevirtual 226, 3) := by decide +kernel
theorem dX11_nextShelf_36 : decode cX11_nextShelf 36 = .ok (.ifCond .ne 6, 3) := by decide +kernel
theorem dX11_nextShelf_39 : decode cX11_nextShelf 39 = .ok (.goto 100, 3) := by decide +kernel
theorem dX11_nextShelf_42 : decode cX11_nextShelf 42 = .ok (.bipush 6, 2) := by decide +kernel
theorem dX11_nextShelf_44 : decode cX11_nextShelf 44 = .ok (.iload_n 1, 1) := by decide +kernel
theorem dX11_nextShelf_45 : decode cX11_nextShelf 45 = .ok (.iconst 1, 1) := by decide +kernel
theorem dX11_nextShelf_46 : decode cX11_nextShelf 46 = .ok (.iadd, 1) := by decide +kernel
theorem dX11_nextShelf_47 : decode cX11_nextShelf 47 = .ok (.imul, 1) := by decide +kernel
theorem dX11_nextShelf_48 : decode cX11_nextShelf 48 = .ok (.iload 6, 2) := by decide +kernel
theorem dX11_nextShelf_50 : decode cX11_nextShelf 50 = .ok (.iadd, 1) := by decide +kernel
theorem dX11_nextShelf_51 : decode cX11_nextShelf 51 = .ok (.istore 7, 2) := by decide +kernel
theorem dX11_nextShelf_53 : decode cX11_nextShelf 53 = .ok (.aload_n 0, 1) := by decide +kernel
theorem dX11_nextShelf_54 : decode cX11_nextShelf 54 = .ok (.getfield 62, 3) := by decide +kernel
theorem dX11_nextShelf_57 : decode cX11_nextShelf 57 = .ok (.iload 7, 2) := by decide +kernel
theorem dX11_nextShelf_59 : decode cX11_nextShelf 59 = .ok (.iaload, 1) := by decide +kernel
theorem dX11_nextShelf_60 : decode cX11_nextShelf 60 = .ok (.iload 6, 2) := by decide +kernel
theorem dX11_nextShelf_62 : decode cX11_nextShelf 62 = .ok (.iload_n 2, 1) := by decide +kernel
theorem dX11_nextShelf_63 : decode cX11_nextShelf 63 = .ok (.if_icmp .ne 7, 3) := by decide +kernel
theorem dX11_nextShelf_66 : decode cX11_nextShelf 66 = .ok (.iconst 0, 1) := by decide +kernel
theorem dX11_nextShelf_67 : decode cX11_nextShelf 67 = .ok (.goto 8, 3) := by decide +kernel
theorem dX11_nextShelf_70 : decode cX11_nextShelf 70 = .ok (.aload_n 0, 1) := by decide +kernel
theorem dX11_nextShelf_71 : decode cX11_nextShelf 71 = .ok (.iload_n 1, 1) := by decide +kernel
theorem dX11_nextShelf_72 : decode cX11_nextShelf 72 = .ok (.invokevirtual 233, 3) := by decide +kernel
theorem dX11_nextShelf_75 : decode cX11_nextShelf 75 = .ok (.iadd, 1) := by decide +kernel
theorem dX11_nextShelf_76 : decode cX11_nextShelf 76 = .ok (.istore 8, 2) := by decide +kernel
theorem dX11_nextShelf_78 : decode cX11_nextShelf 78 = .ok (.aload_n 0, 1) := by decide +kernel
theorem dX11_nextShelf_79 : decode cX11_nextShelf 79 = .ok (.getfield 65, 3) := by decide +kernel
theorem dX11_nextShelf_82 : decode cX11_nextShelf 82 = .ok (.iload 7, 2) := by decide +kernel
theorem dX11_nextShelf_84 : decode cX11_nextShelf 84 = .ok (.iaload, 1) := by decide +kernel
theorem dX11_nextShelf_85 : decode cX11_nextShelf 85 = .ok (.iload 6, 2) := by decide +kernel
theorem dX11_nextShelf_87 : decode cX11_nextShelf 87 = .ok (.iload_n 2, 1) := by decide +kernel
theorem dX11_nextShelf_88 : decode cX11_nextShelf 88 = .ok (.if_icmp .ne 7, 3) := by decide +kernel
theorem dX11_nextShelf_91 : decode cX11_nextShelf 91 = .ok (.iconst 0, 1) := by decide +kernel
theorem dX11_nextShelf_92 : decode cX11_nextShelf 92 = .ok (.goto 4, 3) := by decide +kernel
theorem dX11_nextShelf_95 : decode cX11_nextShelf 95 = .ok (.iconst 1, 1) := by decide +kernel
theorem dX11_nextShelf_96 : decode cX11_nextShelf 96 = .ok (.iadd, 1) := by decide +kernel
theorem dX11_nextShelf_97 : decode cX11_nextShelf 97 = .ok (.istore 9, 2) := by decide +kernel
theorem dX11_nextShelf_99 : decode cX11_nextShelf 99 = .ok (.iload_n 3, 1) := by decide +kernel
theorem dX11_nextShelf_100 : decode cX11_nextShelf 100 = .ok (.iconst (-1), 1) := by decide +kernel
theorem dX11_nextShelf_101 : decode cX11_nextShelf 101 = .ok (.if_icmp .eq 27, 3) := by decide +kernel
theorem dX11_nextShelf_104 : decode cX11_nextShelf 104 = .ok (.iload 8, 2) := by decide +kernel
theorem dX11_nextShelf_106 : decode cX11_nextShelf 106 = .ok (.iload 4, 2) := by decide +kernel
theorem dX11_nextShelf_108 : decode cX11_nextShelf 108 = .ok (.if_icmp .gt 31, 3) := by decide +kernel
theorem dX11_nextShelf_111 : decode cX11_nextShelf 111 = .ok (.iload 8, 2) := by decide +kernel
theorem dX11_nextShelf_113 : decode cX11_nextShelf 113 = .ok (.iload 4, 2) := by decide +kernel
theorem dX11_nextShelf_115 : decode cX11_nextShelf 115 = .ok (.if_icmp .ne 13, 3) := by decide +kernel
theorem dX11_nextShelf_118 : decode cX11_nextShelf 118 = .ok (.iload 9, 2) := by decide +kernel
theorem dX11_nextShelf_120 : decode cX11_nextShelf 120 = .ok (.iload 5, 2) := by decide +kernel
theorem dX11_nextShelf_122 : decode cX11_nextShelf 122 = .ok (.if_icmp .lt 6, 3) := by decide +kernel
theorem dX11_nextShelf_125 : decode cX11_nextShelf 125 = .ok (.goto 14, 3) := by decide +kernel
theorem dX11_nextShelf_128 : decode cX11_nextShelf 128 = .ok (.iload 6, 2) := by decide +kernel
theorem dX11_nextShelf_130 : decode cX11_nextShelf 130 = .ok (.istore_n 3, 1) := by decide +kernel
theorem dX11_nextShelf_131 : decode cX11_nextShelf 131 = .ok (.iload 8, 2) := by decide +kernel
theorem dX11_nextShelf_133 : decode cX11_nextShelf 133 = .ok (.istore 4, 2) := by decide +kernel
theorem dX11_nextShelf_135 : decode cX11_nextShelf 135 = .ok (.iload 9, 2) := by decide +kernel
theorem dX11_nextShelf_137 : decode cX11_nextShelf 137 = .ok (.istore 5, 2) := by decide +kernel
theorem dX11_nextShelf_139 : decode cX11_nextShelf 139 = .ok (.iinc 6 1, 3) := by decide +kernel
theorem dX11_nextShelf_142 : decode cX11_nextShelf 142 = .ok (.goto (-119), 3) := by decide +kernel
theorem dX11_nextShelf_145 : decode cX11_nextShelf 145 = .ok (.iload_n 3, 1) := by decide +kernel
theorem dX11_nextShelf_146 : decode cX11_nextShelf 146 = .ok (.ireturn, 1) := by decide +kernel
theorem dX11_firstShelf_0 : decode cX11_firstShelf 0 = .ok (.iconst (-1), 1) := by decide +kernel
theorem dX11_firstShelf_1 : decode cX11_firstShelf 1 = .ok (.istore_n 1, 1) := by decide +kernel
theorem dX11_firstShelf_2 : decode cX11_firstShelf 2 = .ok (.iconst 0, 1) := by decide +kernel
theorem dX11_firstShelf_3 : decode cX11_firstShelf 3 = .ok (.istore_n 2, 1) := by decide +kernel
theorem dX11_firstShelf_4 : decode cX11_firstShelf 4 = .ok (.iload_n 2, 1) := by decide +kernel
theorem dX11_firstShelf_5 : decode cX11_firstShelf 5 = .ok (.bipush 6, 2) := by decide +kernel
theorem dX11_firstShelf_7 : decode cX11_firstShelf 7 = .ok (.if_icmp .ge 72, 3) := by decide +kernel
theorem dX11_firstShelf_10 : decode cX11_firstShelf 10 = .ok (.aload_n 0, 1) := by decide +kernel
theorem dX11_firstShelf_11 : decode cX11_firstShelf 11 = .ok (.iload_n 2, 1) := by decide +kernel
theorem dX11_firstShelf_12 : decode cX11_firstShelf 12 = .ok (.invokevirtual 226, 3) := by decide +kernel
theorem dX11_firstShelf_15 : decode cX11_firstShelf 15 = .ok (.ifCond .ne 6, 3) := by decide +kernel
theorem dX11_firstShelf_18 : decode cX11_firstShelf 18 = .ok (.goto 55, 3) := by decide +kernel
theorem dX11_firstShelf_21 : decode cX11_firstShelf 21 = .ok (.iload_n 1, 1) := by decide +kernel
theorem dX11_firstShelf_22 : decode cX11_firstShelf 22 = .ok (.iconst (-1), 1) := by decide +kernel
theorem dX11_firstShelf_23 : decode cX11_firstShelf 23 = .ok (.if_icmp .eq 48, 3) := by decide +kernel
theorem dX11_firstShelf_26 : decode cX11_firstShelf 26 = .ok (.aload_n 0, 1) := by decide +kernel
theorem dX11_firstShelf_27 : decode cX11_firstShelf 27 = .ok (.getfield 62, 3) := by decide +kernel
theorem dX11_firstShelf_30 : decode cX11_firstShelf 30 = .ok (.iload_n 2, 1) := by decide +kernel
theorem dX11_firstShelf_31 : decode cX11_firstShelf 31 = .ok (.iaload, 1) := by decide +kernel
theorem dX11_firstShelf_32 : decode cX11_firstShelf 32 = .ok (.aload_n 0, 1) := by decide +kernel
theorem dX11_firstShelf_33 : decode cX11_firstShelf 33 = .ok (.getfield 62, 3) := by decide +kernel
theorem dX11_firstShelf_36 : decode cX11_firstShelf 36 = .ok (.iload_n 1, 1) := by decide +kernel
theorem dX11_firstShelf_37 : decode cX11_firstShelf 37 = .ok (.iaload, 1) := by decide +kernel
theorem dX11_firstShelf_38 : decode cX11_firstShelf 38 = .ok (.if_icmp .lt 33, 3) := by decide +kernel
theorem dX11_firstShelf_41 : decode cX11_firstShelf 41 = .ok (.aload_n 0, 1) := by decide +kernel
theorem dX11_firstShelf_42 : decode cX11_firstShelf 42 = .ok (.getfield 62, 3) := by decide +kernel
theorem dX11_firstShelf_45 : decode cX11_firstShelf 45 = .ok (.iload_n 2, 1) := by decide +kernel
theorem dX11_firstShelf_46 : decode cX11_firstShelf 46 = .ok (.iaload, 1) := by decide +kernel
theorem dX11_firstShelf_47 : decode cX11_firstShelf 47 = .ok (.aload_n 0, 1) := by decide +kernel
theorem dX11_firstShelf_48 : decode cX11_firstShelf 48 = .ok (.getfield 62, 3) := by decide +kernel
theorem dX11_firstShelf_51 : decode cX11_firstShelf 51 = .ok (.iload_n 1, 1) := by decide +kernel
theorem dX11_firstShelf_52 : decode cX11_firstShelf 52 = .ok (.iaload, 1) := by decide +kernel
theorem dX11_firstShelf_53 : decode cX11_firstShelf 53 = .ok (.if_icmp .ne 20, 3) := by decide +kernel
theorem dX11_firstShelf_56 : decode cX11_firstShelf 56 = .ok (.aload_n 0, 1) := by decide +kernel
theorem dX11_firstShelf_57 : decode cX11_firstShelf 57 = .ok (.getfield 65, 3) := by decide +kernel
theorem dX11_firstShelf_60 : decode cX11_firstShelf 60 = .ok (.iload_n 2, 1) := by decide +kernel
theorem dX11_firstShelf_61 : decode cX11_firstShelf 61 = .ok (.iaload, 1) := by decide +kernel
theorem dX11_firstShelf_62 : decode cX11_firstShelf 62 = .ok (.aload_n 0, 1) := by decide +kernel
theorem dX11_firstShelf_63 : decode cX11_firstShelf 63 = .ok (.getfield 65, 3) := by decide +kernel
theorem dX11_firstShelf_66 : decode cX11_firstShelf 66 = .ok (.iload_n 1, 1) := by decide +kernel
theorem dX11_firstShelf_67 : decode cX11_firstShelf 67 = .ok (.iaload, 1) := by decide +kernel
theorem dX11_firstShelf_68 : decode cX11_firstShelf 68 = .ok (.if_icmp .ge 5, 3) := by decide +kernel
theorem dX11_firstShelf_71 : decode cX11_firstShelf 71 = .ok (.iload_n 2, 1) := by decide +kernel
theorem dX11_firstShelf_72 : decode cX11_firstShelf 72 = .ok (.istore_n 1, 1) := by decide +kernel
theorem dX11_firstShelf_73 : decode cX11_firstShelf 73 = .ok (.iinc 2 1, 3) := by decide +kernel
theorem dX11_firstShelf_76 : decode cX11_firstShelf 76 = .ok (.goto (-72), 3) := by decide +kernel
theorem dX11_firstShelf_79 : decode cX11_firstShelf 79 = .ok (.iload_n 1, 1) := by decide +kernel
theorem dX11_firstShelf_80 : decode cX11_firstShelf 80 = .ok (.ireturn, 1) := by decide +kernel
theorem dX11_stages_0 : decode cX11_stages 0 = .ok (.aload_n 0, 1) := by decide +kernel
theorem dX11_stages_1 : decode cX11_stages 1 = .ok (.iconst 0, 1) := by decide +kernel
theorem dX11_stages_2 : decode cX11_stages 2 = .ok (.putfield 71, 3) := by decide +kernel
theorem dX11_stages_5 : decode cX11_stages 5 = .ok (.aload_n 0, 1) := by decide +kernel
theorem dX11_stages_6 : decode cX11_stages 6 = .ok (.invokevirtual 236, 3) := by decide +kernel
theorem dX11_stages_9 : decode cX11_stages 9 = .ok (.ifCond .ne 5, 3) := by decide +kernel
theorem dX11_stages_12 : decode cX11_stages 12 = .ok (.iconst (-1), 1) := by decide +kernel
theorem dX11_stages_13 : decode cX11_stages 13 = .ok (.ireturn, 1) := by decide +kernel
theorem dX11_stages_14 : decode cX11_stages 14 = .ok (.aload_n 0, 1) := by decide +kernel
theorem dX11_stages_15 : decode cX11_stages 15 = .ok (.getfield 74, 3) := by decide +kernel
theorem dX11_stages_18 : decode cX11_stages 18 = .ok (.ifCond .ne 7, 3) := by decide +kernel
theorem dX11_stages_21 : decode cX11_stages 21 = .ok (.iconst 0, 1) := by decide +kernel
theorem dX11_stages_22 : decode cX11_stages 22 = .ok (.goto 12, 3) := by decide +kernel
theorem dX11_stages_25 : decode cX11_stages 25 = .ok (.aload_n 0, 1) := by decide +kernel
theorem dX11_stages_26 : decode cX11_stages 26 = .ok (.getfield 62, 3) := by decide +kernel
theorem dX11_stages_29 : decode cX11_stages 29 = .ok (.aload_n 0, 1) := by decide +kernel
theorem dX11_stages_30 : decode cX11_stages 30 = .ok (.invokevirtual 239, 3) := by decide +kernel
theorem dX11_stages_33 : decode cX11_stages 33 = .ok (.iaload, 1) := by decide +kernel
theorem dX11_stages_34 : decode cX11_stages 34 = .ok (.ireturn, 1) := by decide +kernel
theorem dX11_stage_0 : decode cX11_stage 0 = .ok (.aload_n 0, 1) := by decide +kernel
theorem dX11_stage_1 : decode cX11_stage 1 = .ok (.iconst 0, 1) := by decide +kernel
theorem dX11_stage_2 : decode cX11_stage 2 = .ok (.putfield 71, 3) := by decide +kernel
theorem dX11_stage_5 : decode cX11_stage 5 = .ok (.aload_n 0, 1) := by decide +kernel
theorem dX11_stage_6 : decode cX11_stage 6 = .ok (.iload_n 1, 1) := by decide +kernel
theorem dX11_stage_7 : decode cX11_stage 7 = .ok (.invokevirtual 200, 3) := by decide +kernel
theorem dX11_stage_10 : decode cX11_stage 10 = .ok (.ifCond .eq 10, 3) := by decide +kernel
theorem dX11_stage_13 : decode cX11_stage 13 = .ok (.aload_n 0, 1) := by decide +kernel
theorem dX11_stage_14 : decode cX11_stage 14 = .ok (.invokevirtual 236, 3) := by decide +kernel
theorem dX11_stage_17 : decode cX11_stage 17 = .ok (.ifCond .ne 5, 3) := by decide +kernel
theorem dX11_stage_20 : decode cX11_stage 20 = .ok (.iconst (-1), 1) := by decide +kernel
theorem dX11_stage_21 : decode cX11_stage 21 = .ok (.ireturn, 1) := by decide +kernel
theorem dX11_stage_22 : decode cX11_stage 22 = .ok (.aload_n 0, 1) := by decide +kernel
theorem dX11_stage_23 : decode cX11_stage 23 = .ok (.invokevirtual 239, 3) := by decide +kernel
theorem dX11_stage_26 : decode cX11_stage 26 = .ok (.istore_n 2, 1) := by decide +kernel
theorem dX11_stage_27 : decode cX11_stage 27 = .ok (.iconst 0, 1) := by decide +kernel
theorem dX11_stage_28 : decode cX11_stage 28 = .ok (.istore_n 3, 1) := by decide +kernel
theorem dX11_stage_29 : decode cX11_stage 29 = .ok (.iload_n 3, 1) := by decide +kernel
theorem dX11_stage_30 : decode cX11_stage 30 = .ok (.iload_n 1, 1) := by decide +kernel
theorem dX11_stage_31 : decode cX11_stage 31 = .ok (.if_icmp .ge 16, 3) := by decide +kernel
theorem dX11_stage_34 : decode cX11_stage 34 = .ok (.aload_n 0, 1) := by decide +kernel
theorem dX11_stage_35 : decode cX11_stage 35 = .ok (.iload_n 3, 1) := by decide +kernel
theorem dX11_stage_36 : decode cX11_stage 36 = .ok (.iload_n 2, 1) := by decide +kernel
theorem dX11_stage_37 : decode cX11_stage 37 = .ok (.invokevirtual 230, 3) := by decide +kernel
theorem dX11_stage_40 : decode cX11_stage 40 = .ok (.istore_n 2, 1) := by decide +kernel
theorem dX11_stage_41 : decode cX11_stage 41 = .ok (.iinc 3 1, 3) := by decide +kernel
theorem dX11_stage_44 : decode cX11_stage 44 = .ok (.goto (-15), 3) := by decide +kernel
theorem dX11_stage_47 : decode cX11_stage 47 = .ok (.iload_n 2, 1) := by decide +kernel
theorem dX11_stage_48 : decode cX11_stage 48 = .ok (.ireturn, 1) := by decide +kernel
theorem dX11_count_0 : decode cX11_count 0 = .ok (.aload_n 0, 1) := by decide +kernel
theorem dX11_count_1 : decode cX11_count 1 = .ok (.iconst 0, 1) := by decide +kernel
theorem dX11_count_2 : decode cX11_count 2 = .ok (.putfield 71, 3) := by decide +kernel
theorem dX11_count_5 : decode cX11_count 5 = .ok (.iload_n 1, 1) := by decide +kernel
theorem dX11_count_6 : decode cX11_count 6 = .ok (.tableswitch 117 0 4 #[34, 39, 44, 49, 77], 34) := by decide +kernel
theorem dX11_count_40 : decode cX11_count 40 = .ok (.aload_n 0, 1) := by decide +kernel
theorem dX11_count_41 : decode cX11_count 41 = .ok (.getfield 74, 3) := by decide +kernel
theorem dX11_count_44 : decode cX11_count 44 = .ok (.ireturn, 1) := by decide +kernel
theorem dX11_count_45 : decode cX11_count 45 = .ok (.aload_n 0, 1) := by decide +kernel
theorem dX11_count_46 : decode cX11_count 46 = .ok (.getfield 16, 3) := by decide +kernel
theorem dX11_count_49 : decode cX11_count 49 = .ok (.ireturn, 1) := by decide +kernel
theorem dX11_count_50 : decode cX11_count 50 = .ok (.aload_n 0, 1) := by decide +kernel
theorem dX11_count_51 : decode cX11_count 51 = .ok (.getfield 20, 3) := by decide +kernel
theorem dX11_count_54 : decode cX11_count 54 = .ok (.ireturn, 1) := by decide +kernel
theorem dX11_count_55 : decode cX11_count 55 = .ok (.aload_n 0, 1) := by decide +kernel
theorem dX11_count_56 : decode cX11_count 56 = .ok (.getfield 74, 3) := by decide +kernel
theorem dX11_count_59 : decode cX11_count 59 = .ok (.ifCond .eq 10, 3) := by decide +kernel
theorem dX11_count_62 : decode cX11_count 62 = .ok (.aload_n 0, 1) := by decide +kernel
theorem dX11_count_63 : decode cX11_count 63 = .ok (.invokevirtual 236, 3) := by decide +kernel
theorem dX11_count_66 : decode cX11_count 66 = .ok (.ifCond .ne 7, 3) := by decide +kernel
theorem dX11_count_69 : decode cX11_count 69 = .ok (.iconst 0, 1) := by decide +kernel
theorem dX11_count_70 : decode cX11_count 70 = .ok (.goto 12, 3) := by decide +kernel
theorem dX11_count_73 : decode cX11_count 73 = .ok (.aload_n 0, 1) := by decide +kernel
theorem dX11_count_74 : decode cX11_count 74 = .ok (.getfield 65, 3) := by decide +kernel
theorem dX11_count_77 : decode cX11_count 77 = .ok (.aload_n 0, 1) := by decide +kernel
theorem dX11_count_78 : decode cX11_count 78 = .ok (.invokevirtual 239, 3) := by decide +kernel
theorem dX11_count_81 : decode cX11_count 81 = .ok (.iaload, 1) := by decide +kernel
theorem dX11_count_82 : decode cX11_count 82 = .ok (.ireturn, 1) := by decide +kernel
theorem dX11_count_83 : decode cX11_count 83 = .ok (.aload_n 0, 1) := by decide +kernel
theorem dX11_count_84 : decode cX11_count 84 = .ok (.getfield 90, 3) := by decide +kernel
theorem dX11_count_87 : decode cX11_count 87 = .ok (.ifCond .eq 7, 3) := by decide +kernel
theorem dX11_count_90 : decode cX11_count 90 = .ok (.iconst 2, 1) := by decide +kernel
theorem dX11_count_91 : decode cX11_count 91 = .ok (.goto 4, 3) := by decide +kernel
theorem dX11_count_94 : decode cX11_count 94 = .ok (.iconst 0, 1) := by decide +kernel
theorem dX11_count_95 : decode cX11_count 95 = .ok (.aload_n 0, 1) := by decide +kernel
theorem dX11_count_96 : decode cX11_count 96 = .ok (.getfield 93, 3) := by decide +kernel
theorem dX11_count_99 : decode cX11_count 99 = .ok (.ifCond .eq 7, 3) := by decide +kernel
theorem dX11_count_102 : decode cX11_count 102 = .ok (.iconst 4, 1) := by decide +kernel
theorem dX11_count_103 : decode cX11_count 103 = .ok (.goto 4, 3) := by decide +kernel
theorem dX11_count_106 : decode cX11_count 106 = .ok (.iconst 0, 1) := by decide +kernel
theorem dX11_count_107 : decode cX11_count 107 = .ok (.iadd, 1) := by decide +kernel
theorem dX11_count_108 : decode cX11_count 108 = .ok (.aload_n 0, 1) := by decide +kernel
theorem dX11_count_109 : decode cX11_count 109 = .ok (.invokevirtual 216, 3) := by decide +kernel
theorem dX11_count_112 : decode cX11_count 112 = .ok (.ifCond .eq 8, 3) := by decide +kernel
theorem dX11_count_115 : decode cX11_count 115 = .ok (.bipush 8, 2) := by decide +kernel
theorem dX11_count_117 : decode cX11_count 117 = .ok (.goto 4, 3) := by decide +kernel
theorem dX11_count_120 : decode cX11_count 120 = .ok (.iconst 0, 1) := by decide +kernel
theorem dX11_count_121 : decode cX11_count 121 = .ok (.iadd, 1) := by decide +kernel
theorem dX11_count_122 : decode cX11_count 122 = .ok (.ireturn, 1) := by decide +kernel
theorem dX11_count_123 : decode cX11_count 123 = .ok (.iconst (-1), 1) := by decide +kernel
theorem dX11_count_124 : decode cX11_count 124 = .ok (.ireturn, 1) := by decide +kernel
theorem dJ9_max_7cf53_0 : decode cJ9_max_7cf53 0 = .ok (.iload_n 0, 1) := by decide +kernel
theorem dJ9_max_7cf53_1 : decode cJ9_max_7cf53 1 = .ok (.iload_n 1, 1) := by decide +kernel
theorem dJ9_max_7cf53_2 : decode cJ9_max_7cf53 2 = .ok (.if_icmp .lt 7, 3) := by decide +kernel
theorem dJ9_max_7cf53_5 : decode cJ9_max_7cf53 5 = .ok (.iload_n 0, 1) := by decide +kernel
theorem dJ9_max_7cf53_6 : decode cJ9_max_7cf53 6 = .ok (.goto 4, 3) := by decide +kernel
theorem dJ9_max_7cf53_9 : decode cJ9_max_7cf53 9 = .ok (.iload_n 1, 1) := by decide +kernel
theorem dJ9_max_7cf53_10 : decode cJ9_max_7cf53 10 = .ok (.ireturn, 1) := by decide +kernel
theorem dJ7_fill_53178_0 : decode cJ7_fill_53178 0 = .ok (.iconst 0, 1) := by decide +kernel
theorem dJ7_fill_53178_1 : decode cJ7_fill_53178 1 = .ok (.istore_n 2, 1) := by decide +kernel
theorem dJ7_fill_53178_2 : decode cJ7_fill_53178 2 = .ok (.aload_n 0, 1) := by decide +kernel
theorem dJ7_fill_53178_3 : decode cJ7_fill_53178 3 = .ok (.arraylength, 1) := by decide +kernel
theorem dJ7_fill_53178_4 : decode cJ7_fill_53178 4 = .ok (.istore_n 3, 1) := by decide +kernel
theorem dJ7_fill_53178_5 : decode cJ7_fill_53178 5 = .ok (.iload_n 2, 1) := by decide +kernel
theorem dJ7_fill_53178_6 : decode cJ7_fill_53178 6 = .ok (.iload_n 3, 1) := by decide +kernel
theorem dJ7_fill_53178_7 : decode cJ7_fill_53178 7 = .ok (.if_icmp .ge 13, 3) := by decide +kernel
theorem dJ7_fill_53178_10 : decode cJ7_fill_53178 10 = .ok (.aload_n 0, 1) := by decide +kernel
theorem dJ7_fill_53178_11 : decode cJ7_fill_53178 11 = .ok (.iload_n 2, 1) := by decide +kernel
theorem dJ7_fill_53178_12 : decode cJ7_fill_53178 12 = .ok (.iload_n 1, 1) := by decide +kernel
theorem dJ7_fill_53178_13 : decode cJ7_fill_53178 13 = .ok (.iastore, 1) := by decide +kernel
theorem dJ7_fill_53178_14 : decode cJ7_fill_53178 14 = .ok (.iinc 2 1, 3) := by decide +kernel
theorem dJ7_fill_53178_17 : decode cJ7_fill_53178 17 = .ok (.goto (-12), 3) := by decide +kernel
theorem dJ7_fill_53178_20 : decode cJ7_fill_53178 20 = .ok (.return_, 1) := by decide +kernel
theorem dL_answer_0 : decode cL_answer 0 = .ok (.aload_n 2, 1) := by decide +kernel
theorem dL_answer_1 : decode cL_answer 1 = .ok (.iconst 0, 1) := by decide +kernel
theorem dL_answer_2 : decode cL_answer 2 = .ok (.aload_n 0, 1) := by decide +kernel
theorem dL_answer_3 : decode cL_answer 3 = .ok (.iload_n 1, 1) := by decide +kernel
theorem dL_answer_4 : decode cL_answer 4 = .ok (.invokevirtual 7, 3) := by decide +kernel
theorem dL_answer_7 : decode cL_answer 7 = .ok (.i2l, 1) := by decide +kernel
theorem dL_answer_8 : decode cL_answer 8 = .ok (.lastore, 1) := by decide +kernel
theorem dL_answer_9 : decode cL_answer 9 = .ok (.goto 6, 3) := by decide +kernel
theorem dL_answer_12 : decode cL_answer 12 = .ok (.astore_n 3, 1) := by decide +kernel
theorem dL_answer_13 : decode cL_answer 13 = .ok (.iconst 1, 1) := by decide +kernel
theorem dL_answer_14 : decode cL_answer 14 = .ok (.ireturn, 1) := by decide +kernel
theorem dL_answer_15 : decode cL_answer 15 = .ok (.iconst 0, 1) := by decide +kernel
theorem dL_answer_16 : decode cL_answer 16 = .ok (.ireturn, 1) := by decide +kernel
theorem dL_law_0 : decode cL_law 0 = .ok (.new 8, 3) := by decide +kernel
theorem dL_law_3 : decode cL_law 3 = .ok (.dup, 1) := by decide +kernel
theorem dL_law_4 : decode cL_law 4 = .ok (.invokespecial 15, 3) := by decide +kernel
theorem dL_law_7 : decode cL_law 7 = .ok (.astore_n 1, 1) := by decide +kernel
theorem dL_law_8 : decode cL_law 8 = .ok (.new 16, 3) := by decide +kernel
theorem dL_law_11 : decode cL_law 11 = .ok (.dup, 1) := by decide +kernel
theorem dL_law_12 : decode cL_law 12 = .ok (.invokespecial 18, 3) := by decide +kernel
theorem dL_law_15 : decode cL_law 15 = .ok (.astore_n 2, 1) := by decide +kernel
theorem dL_law_16 : decode cL_law 16 = .ok (.iconst 1, 1) := by decide +kernel
theorem dL_law_17 : decode cL_law 17 = .ok (.newarray .long, 2) := by decide +kernel
theorem dL_law_19 : decode cL_law 19 = .ok (.astore_n 3, 1) := by decide +kernel
theorem dL_law_20 : decode cL_law 20 = .ok (.iconst 0, 1) := by decide +kernel
theorem dL_law_21 : decode cL_law 21 = .ok (.istore 4, 2) := by decide +kernel
theorem dL_law_23 : decode cL_law 23 = .ok (.iload 4, 2) := by decide +kernel
theorem dL_law_25 : decode cL_law 25 = .ok (.aload_n 0, 1) := by decide +kernel
theorem dL_law_26 : decode cL_law 26 = .ok (.arraylength, 1) := by decide +kernel
theorem dL_law_27 : decode cL_law 27 = .ok (.iconst 5, 1) := by decide +kernel
theorem dL_law_28 : decode cL_law 28 = .ok (.isub, 1) := by decide +kernel
theorem dL_law_29 : decode cL_law 29 = .ok (.if_icmp .gt 655, 3) := by decide +kernel
theorem dL_law_32 : decode cL_law 32 = .ok (.aload_n 0, 1) := by decide +kernel
theorem dL_law_33 : decode cL_law 33 = .ok (.iload 4, 2) := by decide +kernel
theorem dL_law_35 : decode cL_law 35 = .ok (.iaload, 1) := by decide +kernel
theorem dL_law_36 : decode cL_law 36 = .ok (.bipush 15, 2) := by decide +kernel
theorem dL_law_38 : decode cL_law 38 = .ok (.iand, 1) := by decide +kernel
theorem dL_law_39 : decode cL_law 39 = .ok (.tableswitch 639 0 14 #[73, 110, 171, 196, 249, 286, 323, 379, 416, 453, 490, 527, 576, 589, 614], 73) := by decide +kernel
theorem dL_law_112 : decode cL_law 112 = .ok (.aload_n 1, 1) := by decide +kernel
theorem dL_law_113 : decode cL_law 113 = .ok (.aload_n 0, 1) := by decide +kernel
theorem dL_law_114 : decode cL_law 114 = .ok (.iload 4, 2) := by decide +kernel
theorem dL_law_116 : decode cL_law 116 = .ok (.iconst 1, 1) := by decide +kernel
theorem dL_law_117 : decode cL_law 117 = .ok (.iadd, 1) := by decide +kernel
theorem dL_law_118 : decode cL_law 118 = .ok (.iaload, 1) := by decide +kernel
theorem dL_law_119 : decode cL_law 119 = .ok (.aload_n 0, 1) := by decide +kernel
theorem dL_law_120 : decode cL_law 120 = .ok (.iload 4, 2) := by decide +kernel
theorem dL_law_122 : decode cL_law 122 = .ok (.iconst 2, 1) := by decide +kernel
theorem dL_law_123 : decode cL_law 123 = .ok (.iadd, 1) := by decide +kernel
theorem dL_law_124 : decode cL_law 124 = .ok (.iaload, 1) := by decide +kernel
theorem dL_law_125 : decode cL_law 125 = .ok (.invokevirtual 19, 3) := by decide +kernel
theorem dL_law_128 : decode cL_law 128 = .ok (.aload_n 2, 1) := by decide +kernel
theorem dL_law_129 : decode cL_law 129 = .ok (.aload_n 0, 1) := by decide +kernel
theorem dL_law_130 : decode cL_law 130 = .ok (.iload 4, 2) := by decide +kernel
theorem dL_law_132 : decode cL_law 132 = .ok (.iconst 1, 1) := by decide +kernel
theorem dL_law_133 : decode cL_law 133 = .ok (.iadd, 1) := by decide +kernel
theorem dL_law_134 : decode cL_law 134 = .ok (.iaload, 1) := by decide +kernel
theorem dL_law_135 : decode cL_law 135 = .ok (.aload_n 0, 1) := by decide +kernel
theorem dL_law_136 : decode cL_law 136 = .ok (.iload 4, 2) := by decide +kernel
theorem dL_law_138 : decode cL_law 138 = .ok (.iconst 2, 1) := by decide +kernel
theorem dL_law_139 : decode cL_law 139 = .ok (.iadd, 1) := by decide +kernel
theorem dL_law_140 : decode cL_law 140 = .ok (.iaload, 1) := by decide +kernel
theorem dL_law_141 : decode cL_law 141 = .ok (.invokevirtual 23, 3) := by decide +kernel
theorem dL_law_144 : decode cL_law 144 = .ok (.if_icmp .eq 534, 3) := by decide +kernel
theorem dL_law_147 : decode cL_law 147 = .ok (.iconst 0, 1) := by decide +kernel
theorem dL_law_148 : decode cL_law 148 = .ok (.ireturn, 1) := by decide +kernel
theorem dL_law_149 : decode cL_law 149 = .ok (.aload_n 1, 1) := by decide +kernel
theorem dL_law_150 : decode cL_law 150 = .ok (.aload_n 0, 1) := by decide +kernel
theorem dL_law_151 : decode cL_law 151 = .ok (.iload 4, 2) := by decide +kernel
theorem dL_law_153 : decode cL_law 153 = .ok (.iconst 1, 1) := by decide +kernel
theorem dL_law_154 : decode cL_law 154 = .ok (.iadd, 1) := by decide +kernel
theorem dL_law_155 : decode cL_law 155 = .ok (.iaload, 1) := by decide +kernel
theorem dL_law_156 : decode cL_law 156 = .ok (.aload_n 0, 1) := by decide +kernel
theorem dL_law_157 : decode cL_law 157 = .ok (.iload 4, 2) := by decide +kernel
theorem dL_law_159 : decode cL_law 159 = .ok (.iconst 2, 1) := by decide +kernel
theorem dL_law_160 : decode cL_law 160 = .ok (.iadd, 1) := by decide +kernel
theorem dL_law_161 : decode cL_law 161 = .ok (.iaload, 1) := by decide +kernel
theorem dL_law_162 : decode cL_law 162 = .ok (.aload_n 0, 1) := by decide +kernel
theorem dL_law_163 : decode cL_law 163 = .ok (.iload 4, 2) := by decide +kernel
theorem dL_law_165 : decode cL_law 165 = .ok (.iconst 3, 1) := by decide +kernel
theorem dL_law_166 : decode cL_law 166 = .ok (.iadd, 1) := by decide +kernel
theorem dL_law_167 : decode cL_law 167 = .ok (.iaload, 1) := by decide +kernel
theorem dL_law_168 : decode cL_law 168 = .ok (.aload_n 0, 1) := by decide +kernel
theorem dL_law_169 : decode cL_law 169 = .ok (.iload 4, 2) := by decide +kernel
theorem dL_law_171 : decode cL_law 171 = .ok (.iconst 4, 1) := by decide +kernel
theorem dL_law_172 : decode cL_law 172 = .ok (.iadd, 1) := by decide +kernel
theorem dL_law_173 : decode cL_law 173 = .ok (.iaload, 1) := by decide +kernel
theorem dL_law_174 : decode cL_law 174 = .ok (.invokevirtual 24, 3) := by decide +kernel
theorem dL_law_177 : decode cL_law 177 = .ok (.aload_n 2, 1) := by decide +kernel
theorem dL_law_178 : decode cL_law 178 = .ok (.aload_n 0, 1) := by decide +kernel
theorem dL_law_179 : decode cL_law 179 = .ok (.iload 4, 2) := by decide +kernel
theorem dL_law_181 : decode cL_law 181 = .ok (.iconst 1, 1) := by decide +kernel
theorem dL_law_182 : decode cL_law 182 = .ok (.iadd, 1) := by decide +kernel
theorem dL_law_183 : decode cL_law 183 = .ok (.iaload, 1) := by decide +kernel
theorem dL_law_184 : decode cL_law 184 = .ok (.aload_n 0, 1) := by decide +kernel
theorem dL_law_185 : decode cL_law 185 = .ok (.iload 4, 2) := by decide +kernel
theorem dL_law_187 : decode cL_law 187 = .ok (.iconst 2, 1) := by decide +kernel
theorem dL_law_188 : decode cL_law 188 = .ok (.iadd, 1) := by decide +kernel
theorem dL_law_189 : decode cL_law 189 = .ok (.iaload, 1) := by decide +kernel
theorem dL_law_190 : decode cL_law 190 = .ok (.aload_n 0, 1) := by decide +kernel
theorem dL_law_191 : decode cL_law 191 = .ok (.iload 4, 2) := by decide +kernel
theorem dL_law_193 : decode cL_law 193 = .ok (.iconst 3, 1) := by decide +kernel
theorem dL_law_194 : decode cL_law 194 = .ok (.iadd, 1) := by decide +kernel
theorem dL_law_195 : decode cL_law 195 = .ok (.iaload, 1) := by decide +kernel
theorem dL_law_196 : decode cL_law 196 = .ok (.aload_n 0, 1) := by decide +kernel
theorem dL_law_197 : decode cL_law 197 = .ok (.iload 4, 2) := by decide +kernel
theorem dL_law_199 : decode cL_law 199 = .ok (.iconst 4, 1) := by decide +kernel
theorem dL_law_200 : decode cL_law 200 = .ok (.iadd, 1) := by decide +kernel
theorem dL_law_201 : decode cL_law 201 = .ok (.iaload, 1) := by decide +kernel
theorem dL_law_202 : decode cL_law 202 = .ok (.invokevirtual 28, 3) := by decide +kernel
theorem dL_law_205 : decode cL_law 205 = .ok (.if_icmp .eq 473, 3) := by decide +kernel
theorem dL_law_208 : decode cL_law 208 = .ok (.iconst 0, 1) := by decide +kernel
theorem dL_law_209 : decode cL_law 209 = .ok (.ireturn, 1) := by decide +kernel
theorem dL_law_210 : decode cL_law 210 = .ok (.aload_n 1, 1) := by decide +kernel
theorem dL_law_211 : decode cL_law 211 = .ok (.aload_n 0, 1) := by decide +kernel
theorem dL_law_212 : decode cL_law 212 = .ok (.iload 4, 2) := by decide +kernel
theorem dL_law_214 : decode cL_law 214 = .ok (.iconst 1, 1) := by decide +kernel
theorem dL_law_215 : decode cL_law 215 = .ok (.iadd, 1) := by decide +kernel
theorem dL_law_216 : decode cL_law 216 = .ok (.iaload, 1) := by decide +kernel
theorem dL_law_217 : decode cL_law 217 = .ok (.invokevirtual 29, 3) := by decide +kernel
theorem dL_law_220 : decode cL_law 220 = .ok (.aload_n 2, 1) := by decide +kernel
theorem dL_law_221 : decode cL_law 221 = .ok (.aload_n 0, 1) := by decide +kernel
theorem dL_law_222 : decode cL_law 222 = .ok (.iload 4, 2) := by decide +kernel
theorem dL_law_224 : decode cL_law 224 = .ok (.iconst 1, 1) := by decide +kernel
theorem dL_law_225 : decode cL_law 225 = .ok (.iadd, 1) := by decide +kernel
theorem dL_law_226 : decode cL_law 226 = .ok (.iaload, 1) := by decide +kernel
theorem dL_law_227 : decode cL_law 227 = .ok (.invokevirtual 32, 3) := by decide +kernel
theorem dL_law_230 : decode cL_law 230 = .ok (.if_icmp .eq 448, 3) := by decide +kernel
theorem dL_law_233 : decode cL_law 233 = .ok (.iconst 0, 1) := by decide +kernel
theorem dL_law_234 : decode cL_law 234 = .ok (.ireturn, 1) := by decide +kernel
theorem dL_law_235 : decode cL_law 235 = .ok (.aload_n 1, 1) := by decide +kernel
theorem dL_law_236 : decode cL_law 236 = .ok (.aload_n 0, 1) := by decide +kernel
theorem dL_law_237 : decode cL_law 237 = .ok (.iload 4, 2) := by decide +kernel
theorem dL_law_239 : decode cL_law 239 = .ok (.iconst 1, 1) := by decide +kernel
theorem dL_law_240 : decode cL_law 240 = .ok (.iadd, 1) := by decide +kernel
theorem dL_law_241 : decode cL_law 241 = .ok (.iaload, 1) := by decide +kernel
theorem dL_law_242 : decode cL_law 242 = .ok (.aload_n 0, 1) := by decide +kernel
theorem dL_law_243 : decode cL_law 243 = .ok (.iload 4, 2) := by decide +kernel
theorem dL_law_245 : decode cL_law 245 = .ok (.iconst 2, 1) := by decide +kernel
theorem dL_law_246 : decode cL_law 246 = .ok (.iadd, 1) := by decide +kernel
theorem dL_law_247 : decode cL_law 247 = .ok (.iaload, 1) := by decide +kernel
theorem dL_law_248 : decode cL_law 248 = .ok (.ifCond .eq 7, 3) := by decide +kernel
theorem dL_law_251 : decode cL_law 251 = .ok (.iconst 1, 1) := by decide +kernel
theorem dL_law_252 : decode cL_law 252 = .ok (.goto 4, 3) := by decide +kernel
theorem dL_law_255 : decode cL_law 255 = .ok (.iconst 0, 1) := by decide +kernel
theorem dL_law_256 : decode cL_law 256 = .ok (.invokevirtual 33, 3) := by decide +kernel
theorem dL_law_259 : decode cL_law 259 = .ok (.aload_n 2, 1) := by decide +kernel
theorem dL_law_260 : decode cL_law 260 = .ok (.aload_n 0, 1) := by decide +kernel
theorem dL_law_261 : decode cL_law 261 = .ok (.iload 4, 2) := by decide +kernel
theorem dL_law_263 : decode cL_law 263 = .ok (.iconst 1, 1) := by decide +kernel
theorem dL_law_264 : decode cL_law 264 = .ok (.iadd, 1) := by decide +kernel
theorem dL_law_265 : decode cL_law 265 = .ok (.iaload, 1) := by decide +kernel
theorem dL_law_266 : decode cL_law 266 = .ok (.aload_n 0, 1) := by decide +kernel
theorem dL_law_267 : decode cL_law 267 = .ok (.iload 4, 2) := by decide +kernel
theorem dL_law_269 : decode cL_law 269 = .ok (.iconst 2, 1) := by decide +kernel
theorem dL_law_270 : decode cL_law 270 = .ok (.iadd, 1) := by decide +kernel
theorem dL_law_271 : decode cL_law 271 = .ok (.iaload, 1) := by decide +kernel
theorem dL_law_272 : decode cL_law 272 = .ok (.ifCond .eq 7, 3) := by decide +kernel
theorem dL_law_275 : decode cL_law 275 = .ok (.iconst 1, 1) := by decide +kernel
theorem dL_law_276 : decode cL_law 276 = .ok (.goto 4, 3) := by decide +kernel
theorem dL_law_279 : decode cL_law 279 = .ok (.iconst 0, 1) := by decide +kernel
theorem dL_law_280 : decode cL_law 280 = .ok (.invokevirtual 37, 3) := by decide +kernel
theorem dL_law_283 : decode cL_law 283 = .ok (.if_icmp .eq 395, 3) := by decide +kernel
theorem dL_law_286 : decode cL_law 286 = .ok (.iconst 0, 1) := by decide +kernel
theorem dL_law_287 : decode cL_law 287 = .ok (.ireturn, 1) := by decide +kernel
theorem dL_law_288 : decode cL_law 288 = .ok (.aload_n 1, 1) := by decide +kernel
theorem dL_law_289 : decode cL_law 289 = .ok (.aload_n 0, 1) := by decide +kernel
theorem dL_law_290 : decode cL_law 290 = .ok (.iload 4, 2) := by decide +kernel
theorem dL_law_292 : decode cL_law 292 = .ok (.iconst 1, 1) := by decide +kernel
theorem dL_law_293 : decode cL_law 293 = .ok (.iadd, 1) := by decide +kernel
theorem dL_law_294 : decode cL_law 294 = .ok (.iaload, 1) := by decide +kernel
theorem dL_law_295 : decode cL_law 295 = .ok (.aload_n 0, 1) := by decide +kernel
theorem dL_law_296 : decode cL_law 296 = .ok (.iload 4, 2) := by decide +kernel
theorem dL_law_298 : decode cL_law 298 = .ok (.iconst 2, 1) := by decide +kernel
theorem dL_law_299 : decode cL_law 299 = .ok (.iadd, 1) := by decide +kernel
theorem dL_law_300 : decode cL_law 300 = .ok (.iaload, 1) := by decide +kernel
theorem dL_law_301 : decode cL_law 301 = .ok (.invokevirtual 38, 3) := by decide +kernel
theorem dL_law_304 : decode cL_law 304 = .ok (.aload_n 2, 1) := by decide +kernel
theorem dL_law_305 : decode cL_law 305 = .ok (.aload_n 0, 1) := by decide +kernel
theorem dL_law_306 : decode cL_law 306 = .ok (.iload 4, 2) := by decide +kernel
theorem dL_law_308 : decode cL_law 308 = .ok (.iconst 1, 1) := by decide +kernel
theorem dL_law_309 : decode cL_law 309 = .ok (.iadd, 1) := by decide +kernel
theorem dL_law_310 : decode cL_law 310 = .ok (.iaload, 1) := by decide +kernel
theorem dL_law_311 : decode cL_law 311 = .ok (.aload_n 0, 1) := by decide +kernel
theorem dL_law_312 : decode cL_law 312 = .ok (.iload 4, 2) := by decide +kernel
theorem dL_law_314 : decode cL_law 314 = .ok (.iconst 2, 1) := by decide +kernel
theorem dL_law_315 : decode cL_law 315 = .ok (.iadd, 1) := by decide +kernel
theorem dL_law_316 : decode cL_law 316 = .ok (.iaload, 1) := by decide +kernel
theorem dL_law_317 : decode cL_law 317 = .ok (.invokevirtual 41, 3) := by decide +kernel
theorem dL_law_320 : decode cL_law 320 = .ok (.if_icmp .eq 358, 3) := by decide +kernel
theorem dL_law_323 : decode cL_law 323 = .ok (.iconst 0, 1) := by decide +kernel
theorem dL_law_324 : decode cL_law 324 = .ok (.ireturn, 1) := by decide +kernel
theorem dL_law_325 : decode cL_law 325 = .ok (.aload_n 1, 1) := by decide +kernel
theorem dL_law_326 : decode cL_law 326 = .ok (.aload_n 0, 1) := by decide +kernel
theorem dL_law_327 : decode cL_law 327 = .ok (.iload 4, 2) := by decide +kernel
theorem dL_law_329 : decode cL_law 329 = .ok (.iconst 1, 1) := by decide +kernel
theorem dL_law_330 : decode cL_law 330 = .ok (.iadd, 1) := by decide +kernel
theorem dL_law_331 : decode cL_law 331 = .ok (.iaload, 1) := by decide +kernel
theorem dL_law_332 : decode cL_law 332 = .ok (.aload_n 0, 1) := by decide +kernel
theorem dL_law_333 : decode cL_law 333 = .ok (.iload 4, 2) := by decide +kernel
theorem dL_law_335 : decode cL_law 335 = .ok (.iconst 2, 1) := by decide +kernel
theorem dL_law_336 : decode cL_law 336 = .ok (.iadd, 1) := by decide +kernel
theorem dL_law_337 : decode cL_law 337 = .ok (.iaload, 1) := by decide +kernel
theorem dL_law_338 : decode cL_law 338 = .ok (.invokevirtual 42, 3) := by decide +kernel
theorem dL_law_341 : decode cL_law 341 = .ok (.aload_n 2, 1) := by decide +kernel
theorem dL_law_342 : decode cL_law 342 = .ok (.aload_n 0, 1) := by decide +kernel
theorem dL_law_343 : decode cL_law 343 = .ok (.iload 4, 2) := by decide +kernel
theorem dL_law_345 : decode cL_law 345 = .ok (.iconst 1, 1) := by decide +kernel
theorem dL_law_346 : decode cL_law 346 = .ok (.iadd, 1) := by decide +kernel
theorem dL_law_347 : decode cL_law 347 = .ok (.iaload, 1) := by decide +kernel
theorem dL_law_348 : decode cL_law 348 = .ok (.aload_n 0, 1) := by decide +kernel
theorem dL_law_349 : decode cL_law 349 = .ok (.iload 4, 2) := by decide +kernel
theorem dL_law_351 : decode cL_law 351 = .ok (.iconst 2, 1) := by decide +kernel
theorem dL_law_352 : decode cL_law 352 = .ok (.iadd, 1) := by decide +kernel
theorem dL_law_353 : decode cL_law 353 = .ok (.iaload, 1) := by decide +kernel
theorem dL_law_354 : decode cL_law 354 = .ok (.invokevirtual 45, 3) := by decide +kernel
theorem dL_law_357 : decode cL_law 357 = .ok (.if_icmp .eq 321, 3) := by decide +kernel
theorem dL_law_360 : decode cL_law 360 = .ok (.iconst 0, 1) := by decide +kernel
theorem dL_law_361 : decode cL_law 361 = .ok (.ireturn, 1) := by decide +kernel
theorem dL_law_362 : decode cL_law 362 = .ok (.aload_n 1, 1) := by decide +kernel
theorem dL_law_363 : decode cL_law 363 = .ok (.aload_n 0, 1) := by decide +kernel
theorem dL_law_364 : decode cL_law 364 = .ok (.iload 4, 2) := by decide +kernel
theorem dL_law_366 : decode cL_law 366 = .ok (.iconst 1, 1) := by decide +kernel
theorem dL_law_367 : decode cL_law 367 = .ok (.iadd, 1) := by decide +kernel
theorem dL_law_368 : decode cL_law 368 = .ok (.iaload, 1) := by decide +kernel
theorem dL_law_369 : decode cL_law 369 = .ok (.aload_n 3, 1) := by decide +kernel
theorem dL_law_370 : decode cL_law 370 = .ok (.invokestatic 46, 3) := by decide +kernel
theorem dL_law_373 : decode cL_law 373 = .ok (.istore 5, 2) := by decide +kernel
theorem dL_law_375 : decode cL_law 375 = .ok (.aload_n 2, 1) := by decide +kernel
theorem dL_law_376 : decode cL_law 376 = .ok (.aload_n 0, 1) := by decide +kernel
theorem dL_law_377 : decode cL_law 377 = .ok (.iload 4, 2) := by decide +kernel
theorem dL_law_379 : decode cL_law 379 = .ok (.iconst 1, 1) := by decide +kernel
theorem dL_law_380 : decode cL_law 380 = .ok (.iadd, 1) := by decide +kernel
theorem dL_law_381 : decode cL_law 381 = .ok (.iaload, 1) := by decide +kernel
theorem dL_law_382 : decode cL_law 382 = .ok (.invokevirtual 51, 3) := by decide +kernel
theorem dL_law_385 : decode cL_law 385 = .ok (.istore 6, 2) := by decide +kernel
theorem dL_law_387 : decode cL_law 387 = .ok (.aload_n 2, 1) := by decide +kernel
theorem dL_law_388 : decode cL_law 388 = .ok (.invokevirtual 52, 3) := by decide +kernel
theorem dL_law_391 : decode cL_law 391 = .ok (.iload 5, 2) := by decide +kernel
theorem dL_law_393 : decode cL_law 393 = .ok (.if_icmp .eq 5, 3) := by decide +kernel
theorem dL_law_396 : decode cL_law 396 = .ok (.iconst 0, 1) := by decide +kernel
theorem dL_law_397 : decode cL_law 397 = .ok (.ireturn, 1) := by decide +kernel
theorem dL_law_398 : decode cL_law 398 = .ok (.iload 5, 2) := by decide +kernel
theorem dL_law_400 : decode cL_law 400 = .ok (.ifCond .ne 15, 3) := by decide +kernel
theorem dL_law_403 : decode cL_law 403 = .ok (.aload_n 3, 1) := by decide +kernel
theorem dL_law_404 : decode cL_law 404 = .ok (.iconst 0, 1) := by decide +kernel
theorem dL_law_405 : decode cL_law 405 = .ok (.laload, 1) := by decide +kernel
theorem dL_law_406 : decode cL_law 406 = .ok (.iload 6, 2) := by decide +kernel
theorem dL_law_408 : decode cL_law 408 = .ok (.i2l, 1) := by decide +kernel
theorem dL_law_409 : decode cL_law 409 = .ok (.lcmp, 1) := by decide +kernel
theorem dL_law_410 : decode cL_law 410 = .ok (.ifCond .eq 5, 3) := by decide +kernel
theorem dL_law_413 : decode cL_law 413 = .ok (.iconst 0, 1) := by decide +kernel
theorem dL_law_414 : decode cL_law 414 = .ok (.ireturn, 1) := by decide +kernel
theorem dL_law_415 : decode cL_law 415 = .ok (.goto 263, 3) := by decide +kernel
theorem dL_law_418 : decode cL_law 418 = .ok (.aload_n 1, 1) := by decide +kernel
theorem dL_law_419 : decode cL_law 419 = .ok (.aload_n 0, 1) := by decide +kernel
theorem dL_law_420 : decode cL_law 420 = .ok (.iload 4, 2) := by decide +kernel
theorem dL_law_422 : decode cL_law 422 = .ok (.iconst 1, 1) := by decide +kernel
theorem dL_law_423 : decode cL_law 423 = .ok (.iadd, 1) := by decide +kernel
theorem dL_law_424 : decode cL_law 424 = .ok (.iaload, 1) := by decide +kernel
theorem dL_law_425 : decode cL_law 425 = .ok (.aload_n 0, 1) := by decide +kernel
theorem dL_law_426 : decode cL_law 426 = .ok (.iload 4, 2) := by decide +kernel
theorem dL_law_428 : decode cL_law 428 = .ok (.iconst 2, 1) := by decide +kernel
theorem dL_law_429 : decode cL_law 429 = .ok (.iadd, 1) := by decide +kernel
theorem dL_law_430 : decode cL_law 430 = .ok (.iaload, 1) := by decide +kernel
theorem dL_law_431 : decode cL_law 431 = .ok (.invokevirtual 56, 3) := by decide +kernel
theorem dL_law_434 : decode cL_law 434 = .ok (.aload_n 2, 1) := by decide +kernel
theorem dL_law_435 : decode cL_law 435 = .ok (.aload_n 0, 1) := by decide +kernel
theorem dL_law_436 : decode cL_law 436 = .ok (.iload 4, 2) := by decide +kernel
theorem dL_law_438 : decode cL_law 438 = .ok (.iconst 1, 1) := by decide +kernel
theorem dL_law_439 : decode cL_law 439 = .ok (.iadd, 1) := by decide +kernel
theorem dL_law_440 : decode cL_law 440 = .ok (.iaload, 1) := by decide +kernel
theorem dL_law_441 : decode cL_law 441 = .ok (.aload_n 0, 1) := by decide +kernel
theorem dL_law_442 : decode cL_law 442 = .ok (.iload 4, 2) := by decide +kernel
theorem dL_law_444 : decode cL_law 444 = .ok (.iconst 2, 1) := by decide +kernel
theorem dL_law_445 : decode cL_law 445 = .ok (.iadd, 1) := by decide +kernel
theorem dL_law_446 : decode cL_law 446 = .ok (.iaload, 1) := by decide +kernel
theorem dL_law_447 : decode cL_law 447 = .ok (.invokevirtual 59, 3) := by decide +kernel
theorem dL_law_450 : decode cL_law 450 = .ok (.if_icmp .eq 228, 3) := by decide +kernel
theorem dL_law_453 : decode cL_law 453 = .ok (.iconst 0, 1) := by decide +kernel
theorem dL_law_454 : decode cL_law 454 = .ok (.ireturn, 1) := by decide +kernel
theorem dL_law_455 : decode cL_law 455 = .ok (.aload_n 1, 1) := by decide +kernel
theorem dL_law_456 : decode cL_law 456 = .ok (.aload_n 0, 1) := by decide +kernel
theorem dL_law_457 : decode cL_law 457 = .ok (.iload 4, 2) := by decide +kernel
theorem dL_law_459 : decode cL_law 459 = .ok (.iconst 1, 1) := by decide +kernel
theorem dL_law_460 : decode cL_law 460 = .ok (.iadd, 1) := by decide +kernel
theorem dL_law_461 : decode cL_law 461 = .ok (.iaload, 1) := by decide +kernel
theorem dL_law_462 : decode cL_law 462 = .ok (.aload_n 0, 1) := by decide +kernel
theorem dL_law_463 : decode cL_law 463 = .ok (.iload 4, 2) := by decide +kernel
theorem dL_law_465 : decode cL_law 465 = .ok (.iconst 2, 1) := by decide +kernel
theorem dL_law_466 : decode cL_law 466 = .ok (.iadd, 1) := by decide +kernel
theorem dL_law_467 : decode cL_law 467 = .ok (.iaload, 1) := by decide +kernel
theorem dL_law_468 : decode cL_law 468 = .ok (.invokevirtual 60, 3) := by decide +kernel
theorem dL_law_471 : decode cL_law 471 = .ok (.aload_n 2, 1) := by decide +kernel
theorem dL_law_472 : decode cL_law 472 = .ok (.aload_n 0, 1) := by decide +kernel
theorem dL_law_473 : decode cL_law 473 = .ok (.iload 4, 2) := by decide +kernel
theorem dL_law_475 : decode cL_law 475 = .ok (.iconst 1, 1) := by decide +kernel
theorem dL_law_476 : decode cL_law 476 = .ok (.iadd, 1) := by decide +kernel
theorem dL_law_477 : decode cL_law 477 = .ok (.iaload, 1) := by decide +kernel
theorem dL_law_478 : decode cL_law 478 = .ok (.aload_n 0, 1) := by decide +kernel
theorem dL_law_479 : decode cL_law 479 = .ok (.iload 4, 2) := by decide +kernel
theorem dL_law_481 : decode cL_law 481 = .ok (.iconst 2, 1) := by decide +kernel
theorem dL_law_482 : decode cL_law 482 = .ok (.iadd, 1) := by decide +kernel
theorem dL_law_483 : decode cL_law 483 = .ok (.iaload, 1) := by decide +kernel
theorem dL_law_484 : decode cL_law 484 = .ok (.invokevirtual 63, 3) := by decide +kernel
theorem dL_law_487 : decode cL_law 487 = .ok (.if_icmp .eq 191, 3) := by decide +kernel
theorem dL_law_490 : decode cL_law 490 = .ok (.iconst 0, 1) := by decide +kernel
theorem dL_law_491 : decode cL_law 491 = .ok (.ireturn, 1) := by decide +kernel
theorem dL_law_492 : decode cL_law 492 = .ok (.aload_n 1, 1) := by decide +kernel
theorem dL_law_493 : decode cL_law 493 = .ok (.aload_n 0, 1) := by decide +kernel
theorem dL_law_494 : decode cL_law 494 = .ok (.iload 4, 2) := by decide +kernel
theorem dL_law_496 : decode cL_law 496 = .ok (.iconst 1, 1) := by decide +kernel
theorem dL_law_497 : decode cL_law 497 = .ok (.iadd, 1) := by decide +kernel
theorem dL_law_498 : decode cL_law 498 = .ok (.iaload, 1) := by decide +kernel
theorem dL_law_499 : decode cL_law 499 = .ok (.aload_n 0, 1) := by decide +kernel
theorem dL_law_500 : decode cL_law 500 = .ok (.iload 4, 2) := by decide +kernel
theorem dL_law_502 : decode cL_law 502 = .ok (.iconst 2, 1) := by decide +kernel
theorem dL_law_503 : decode cL_law 503 = .ok (.iadd, 1) := by decide +kernel
theorem dL_law_504 : decode cL_law 504 = .ok (.iaload, 1) := by decide +kernel
theorem dL_law_505 : decode cL_law 505 = .ok (.invokevirtual 64, 3) := by decide +kernel
theorem dL_law_508 : decode cL_law 508 = .ok (.aload_n 2, 1) := by decide +kernel
theorem dL_law_509 : decode cL_law 509 = .ok (.aload_n 0, 1) := by decide +kernel
theorem dL_law_510 : decode cL_law 510 = .ok (.iload 4, 2) := by decide +kernel
theorem dL_law_512 : decode cL_law 512 = .ok (.iconst 1, 1) := by decide +kernel
theorem dL_law_513 : decode cL_law 513 = .ok (.iadd, 1) := by decide +kernel
theorem dL_law_514 : decode cL_law 514 = .ok (.iaload, 1) := by decide +kernel
theorem dL_law_515 : decode cL_law 515 = .ok (.aload_n 0, 1) := by decide +kernel
theorem dL_law_516 : decode cL_law 516 = .ok (.iload 4, 2) := by decide +kernel
theorem dL_law_518 : decode cL_law 518 = .ok (.iconst 2, 1) := by decide +kernel
theorem dL_law_519 : decode cL_law 519 = .ok (.iadd, 1) := by decide +kernel
theorem dL_law_520 : decode cL_law 520 = .ok (.iaload, 1) := by decide +kernel
theorem dL_law_521 : decode cL_law 521 = .ok (.invokevirtual 67, 3) := by decide +kernel
theorem dL_law_524 : decode cL_law 524 = .ok (.if_icmp .eq 154, 3) := by decide +kernel
theorem dL_law_527 : decode cL_law 527 = .ok (.iconst 0, 1) := by decide +kernel
theorem dL_law_528 : decode cL_law 528 = .ok (.ireturn, 1) := by decide +kernel
theorem dL_law_529 : decode cL_law 529 = .ok (.aload_n 1, 1) := by decide +kernel
theorem dL_law_530 : decode cL_law 530 = .ok (.aload_n 0, 1) := by decide +kernel
theorem dL_law_531 : decode cL_law 531 = .ok (.iload 4, 2) := by decide +kernel
theorem dL_law_533 : decode cL_law 533 = .ok (.iconst 1, 1) := by decide +kernel
theorem dL_law_534 : decode cL_law 534 = .ok (.iadd, 1) := by decide +kernel
theorem dL_law_535 : decode cL_law 535 = .ok (.iaload, 1) := by decide +kernel
theorem dL_law_536 : decode cL_law 536 = .ok (.aload_n 0, 1) := by decide +kernel
theorem dL_law_537 : decode cL_law 537 = .ok (.iload 4, 2) := by decide +kernel
theorem dL_law_539 : decode cL_law 539 = .ok (.iconst 2, 1) := by decide +kernel
theorem dL_law_540 : decode cL_law 540 = .ok (.iadd, 1) := by decide +kernel
theorem dL_law_541 : decode cL_law 541 = .ok (.iaload, 1) := by decide +kernel
theorem dL_law_542 : decode cL_law 542 = .ok (.invokevirtual 68, 3) := by decide +kernel
theorem dL_law_545 : decode cL_law 545 = .ok (.aload_n 2, 1) := by decide +kernel
theorem dL_law_546 : decode cL_law 546 = .ok (.aload_n 0, 1) := by decide +kernel
theorem dL_law_547 : decode cL_law 547 = .ok (.iload 4, 2) := by decide +kernel
theorem dL_law_549 : decode cL_law 549 = .ok (.iconst 1, 1) := by decide +kernel
theorem dL_law_550 : decode cL_law 550 = .ok (.iadd, 1) := by decide +kernel
theorem dL_law_551 : decode cL_law 551 = .ok (.iaload, 1) := by decide +kernel
theorem dL_law_552 : decode cL_law 552 = .ok (.aload_n 0, 1) := by decide +kernel
theorem dL_law_553 : decode cL_law 553 = .ok (.iload 4, 2) := by decide +kernel
theorem dL_law_555 : decode cL_law 555 = .ok (.iconst 2, 1) := by decide +kernel
theorem dL_law_556 : decode cL_law 556 = .ok (.iadd, 1) := by decide +kernel
theorem dL_law_557 : decode cL_law 557 = .ok (.iaload, 1) := by decide +kernel
theorem dL_law_558 : decode cL_law 558 = .ok (.invokevirtual 71, 3) := by decide +kernel
theorem dL_law_561 : decode cL_law 561 = .ok (.if_icmp .eq 117, 3) := by decide +kernel
theorem dL_law_564 : decode cL_law 564 = .ok (.iconst 0, 1) := by decide +kernel
theorem dL_law_565 : decode cL_law 565 = .ok (.ireturn, 1) := by decide +kernel
theorem dL_law_566 : decode cL_law 566 = .ok (.aload_n 1, 1) := by decide +kernel
theorem dL_law_567 : decode cL_law 567 = .ok (.aload_n 0, 1) := by decide +kernel
theorem dL_law_568 : decode cL_law 568 = .ok (.iload 4, 2) := by decide +kernel
theorem dL_law_570 : decode cL_law 570 = .ok (.iconst 1, 1) := by decide +kernel
theorem dL_law_571 : decode cL_law 571 = .ok (.iadd, 1) := by decide +kernel
theorem dL_law_572 : decode cL_law 572 = .ok (.iaload, 1) := by decide +kernel
theorem dL_law_573 : decode cL_law 573 = .ok (.aload_n 0, 1) := by decide +kernel
theorem dL_law_574 : decode cL_law 574 = .ok (.iload 4, 2) := by decide +kernel
theorem dL_law_576 : decode cL_law 576 = .ok (.iconst 2, 1) := by decide +kernel
theorem dL_law_577 : decode cL_law 577 = .ok (.iadd, 1) := by decide +kernel
theorem dL_law_578 : decode cL_law 578 = .ok (.iaload, 1) := by decide +kernel
theorem dL_law_579 : decode cL_law 579 = .ok (.aload_n 0, 1) := by decide +kernel
theorem dL_law_580 : decode cL_law 580 = .ok (.iload 4, 2) := by decide +kernel
theorem dL_law_582 : decode cL_law 582 = .ok (.iconst 3, 1) := by decide +kernel
theorem dL_law_583 : decode cL_law 583 = .ok (.iadd, 1) := by decide +kernel
theorem dL_law_584 : decode cL_law 584 = .ok (.iaload, 1) := by decide +kernel
theorem dL_law_585 : decode cL_law 585 = .ok (.invokevirtual 72, 3) := by decide +kernel
theorem dL_law_588 : decode cL_law 588 = .ok (.aload_n 2, 1) := by decide +kernel
theorem dL_law_589 : decode cL_law 589 = .ok (.aload_n 0, 1) := by decide +kernel
theorem dL_law_590 : decode cL_law 590 = .ok (.iload 4, 2) := by decide +kernel
theorem dL_law_592 : decode cL_law 592 = .ok (.iconst 1, 1) := by decide +kernel
theorem dL_law_593 : decode cL_law 593 = .ok (.iadd, 1) := by decide +kernel
theorem dL_law_594 : decode cL_law 594 = .ok (.iaload, 1) := by decide +kernel
theorem dL_law_595 : decode cL_law 595 = .ok (.aload_n 0, 1) := by decide +kernel
theorem dL_law_596 : decode cL_law 596 = .ok (.iload 4, 2) := by decide +kernel
theorem dL_law_598 : decode cL_law 598 = .ok (.iconst 2, 1) := by decide +kernel
theorem dL_law_599 : decode cL_law 599 = .ok (.iadd, 1) := by decide +kernel
theorem dL_law_600 : decode cL_law 600 = .ok (.iaload, 1) := by decide +kernel
theorem dL_law_601 : decode cL_law 601 = .ok (.aload_n 0, 1) := by decide +kernel
theorem dL_law_602 : decode cL_law 602 = .ok (.iload 4, 2) := by decide +kernel
theorem dL_law_604 : decode cL_law 604 = .ok (.iconst 3, 1) := by decide +kernel
theorem dL_law_605 : decode cL_law 605 = .ok (.iadd, 1) := by decide +kernel
theorem dL_law_606 : decode cL_law 606 = .ok (.iaload, 1) := by decide +kernel
theorem dL_law_607 : decode cL_law 607 = .ok (.invokevirtual 76, 3) := by decide +kernel
theorem dL_law_610 : decode cL_law 610 = .ok (.if_icmp .eq 68, 3) := by decide +kernel
theorem dL_law_613 : decode cL_law 613 = .ok (.iconst 0, 1) := by decide +kernel
theorem dL_law_614 : decode cL_law 614 = .ok (.ireturn, 1) := by decide +kernel
theorem dL_law_615 : decode cL_law 615 = .ok (.aload_n 1, 1) := by decide +kernel
theorem dL_law_616 : decode cL_law 616 = .ok (.invokevirtual 77, 3) := by decide +kernel
theorem dL_law_619 : decode cL_law 619 = .ok (.aload_n 2, 1) := by decide +kernel
theorem dL_law_620 : decode cL_law 620 = .ok (.invokevirtual 80, 3) := by decide +kernel
theorem dL_law_623 : decode cL_law 623 = .ok (.if_icmp .eq 55, 3) := by decide +kernel
theorem dL_law_626 : decode cL_law 626 = .ok (.iconst 0, 1) := by decide +kernel
theorem dL_law_627 : decode cL_law 627 = .ok (.ireturn, 1) := by decide +kernel
theorem dL_law_628 : decode cL_law 628 = .ok (.aload_n 1, 1) := by decide +kernel
theorem dL_law_629 : decode cL_law 629 = .ok (.aload_n 0, 1) := by decide +kernel
theorem dL_law_630 : decode cL_law 630 = .ok (.iload 4, 2) := by decide +kernel
theorem dL_law_632 : decode cL_law 632 = .ok (.iconst 1, 1) := by decide +kernel
theorem dL_law_633 : decode cL_law 633 = .ok (.iadd, 1) := by decide +kernel
theorem dL_law_634 : decode cL_law 634 = .ok (.iaload, 1) := by decide +kernel
theorem dL_law_635 : decode cL_law 635 = .ok (.invokevirtual 81, 3) := by decide +kernel
theorem dL_law_638 : decode cL_law 638 = .ok (.aload_n 2, 1) := by decide +kernel
theorem dL_law_639 : decode cL_law 639 = .ok (.aload_n 0, 1) := by decide +kernel
theorem dL_law_640 : decode cL_law 640 = .ok (.iload 4, 2) := by decide +kernel
theorem dL_law_642 : decode cL_law 642 = .ok (.iconst 1, 1) := by decide +kernel
theorem dL_law_643 : decode cL_law 643 = .ok (.iadd, 1) := by decide +kernel
theorem dL_law_644 : decode cL_law 644 = .ok (.iaload, 1) := by decide +kernel
theorem dL_law_645 : decode cL_law 645 = .ok (.invokevirtual 84, 3) := by decide +kernel
theorem dL_law_648 : decode cL_law 648 = .ok (.if_icmp .eq 30, 3) := by decide +kernel
theorem dL_law_651 : decode cL_law 651 = .ok (.iconst 0, 1) := by decide +kernel
theorem dL_law_652 : decode cL_law 652 = .ok (.ireturn, 1) := by decide +kernel
theorem dL_law_653 : decode cL_law 653 = .ok (.aload_n 1, 1) := by decide +kernel
theorem dL_law_654 : decode cL_law 654 = .ok (.aload_n 0, 1) := by decide +kernel
theorem dL_law_655 : decode cL_law 655 = .ok (.iload 4, 2) := by decide +kernel
theorem dL_law_657 : decode cL_law 657 = .ok (.iconst 1, 1) := by decide +kernel
theorem dL_law_658 : decode cL_law 658 = .ok (.iadd, 1) := by decide +kernel
theorem dL_law_659 : decode cL_law 659 = .ok (.iaload, 1) := by decide +kernel
theorem dL_law_660 : decode cL_law 660 = .ok (.invokevirtual 85, 3) := by decide +kernel
theorem dL_law_663 : decode cL_law 663 = .ok (.aload_n 2, 1) := by decide +kernel
theorem dL_law_664 : decode cL_law 664 = .ok (.aload_n 0, 1) := by decide +kernel
theorem dL_law_665 : decode cL_law 665 = .ok (.iload 4, 2) := by decide +kernel
theorem dL_law_667 : decode cL_law 667 = .ok (.iconst 1, 1) := by decide +kernel
theorem dL_law_668 : decode cL_law 668 = .ok (.iadd, 1) := by decide +kernel
theorem dL_law_669 : decode cL_law 669 = .ok (.iaload, 1) := by decide +kernel
theorem dL_law_670 : decode cL_law 670 = .ok (.invokevirtual 88, 3) := by decide +kernel
theorem dL_law_673 : decode cL_law 673 = .ok (.if_icmp .eq 5, 3) := by decide +kernel
theorem dL_law_676 : decode cL_law 676 = .ok (.iconst 0, 1) := by decide +kernel
theorem dL_law_677 : decode cL_law 677 = .ok (.ireturn, 1) := by decide +kernel
theorem dL_law_678 : decode cL_law 678 = .ok (.iinc 4 5, 3) := by decide +kernel
theorem dL_law_681 : decode cL_law 681 = .ok (.goto (-658), 3) := by decide +kernel
theorem dL_law_684 : decode cL_law 684 = .ok (.iconst 1, 1) := by decide +kernel
theorem dL_law_685 : decode cL_law 685 = .ok (.ireturn, 1) := by decide +kernel
