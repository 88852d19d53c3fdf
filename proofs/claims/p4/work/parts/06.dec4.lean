theorem dX12_matters_161 : decode cX12_matters 161 = .ok (.goto 222, 3) := by decide +kernel
theorem dX12_matters_164 : decode cX12_matters 164 = .ok (.lload_n 2, 1) := by decide +kernel
theorem dX12_matters_165 : decode cX12_matters 165 = .ok (.ldc2_w 401, 3) := by decide +kernel
theorem dX12_matters_168 : decode cX12_matters 168 = .ok (.lcmp, 1) := by decide +kernel
theorem dX12_matters_169 : decode cX12_matters 169 = .ok (.ifCond .ne 37, 3) := by decide +kernel
theorem dX12_matters_172 : decode cX12_matters 172 = .ok (.iload 4, 2) := by decide +kernel
theorem dX12_matters_174 : decode cX12_matters 174 = .ok (.bipush 23, 2) := by decide +kernel
theorem dX12_matters_176 : decode cX12_matters 176 = .ok (.if_icmp .ne 30, 3) := by decide +kernel
theorem dX12_matters_179 : decode cX12_matters 179 = .ok (.aload_n 0, 1) := by decide +kernel
theorem dX12_matters_180 : decode cX12_matters 180 = .ok (.getfield 160, 3) := by decide +kernel
theorem dX12_matters_183 : decode cX12_matters 183 = .ok (.iload_n 1, 1) := by decide +kernel
theorem dX12_matters_184 : decode cX12_matters 184 = .ok (.baload, 1) := by decide +kernel
theorem dX12_matters_185 : decode cX12_matters 185 = .ok (.ifCond .ne 21, 3) := by decide +kernel
theorem dX12_matters_188 : decode cX12_matters 188 = .ok (.aload_n 0, 1) := by decide +kernel
theorem dX12_matters_189 : decode cX12_matters 189 = .ok (.getfield 160, 3) := by decide +kernel
theorem dX12_matters_192 : decode cX12_matters 192 = .ok (.iload_n 1, 1) := by decide +kernel
theorem dX12_matters_193 : decode cX12_matters 193 = .ok (.iconst 1, 1) := by decide +kernel
theorem dX12_matters_194 : decode cX12_matters 194 = .ok (.bastore, 1) := by decide +kernel
theorem dX12_matters_195 : decode cX12_matters 195 = .ok (.aload_n 0, 1) := by decide +kernel
theorem dX12_matters_196 : decode cX12_matters 196 = .ok (.getfield 169, 3) := by decide +kernel
theorem dX12_matters_199 : decode cX12_matters 199 = .ok (.iload_n 1, 1) := by decide +kernel
theorem dX12_matters_200 : decode cX12_matters 200 = .ok (.lload 5, 2) := by decide +kernel
theorem dX12_matters_202 : decode cX12_matters 202 = .ok (.lastore, 1) := by decide +kernel
theorem dX12_matters_203 : decode cX12_matters 203 = .ok (.goto 180, 3) := by decide +kernel
theorem dX12_matters_206 : decode cX12_matters 206 = .ok (.lload_n 2, 1) := by decide +kernel
theorem dX12_matters_207 : decode cX12_matters 207 = .ok (.ldc2_w 403, 3) := by decide +kernel
theorem dX12_matters_210 : decode cX12_matters 210 = .ok (.lcmp, 1) := by decide +kernel
theorem dX12_matters_211 : decode cX12_matters 211 = .ok (.ifCond .ne 39, 3) := by decide +kernel
theorem dX12_matters_214 : decode cX12_matters 214 = .ok (.iload 8, 2) := by decide +kernel
theorem dX12_matters_216 : decode cX12_matters 216 = .ok (.ifCond .eq 34, 3) := by decide +kernel
theorem dX12_matters_219 : decode cX12_matters 219 = .ok (.aload_n 0, 1) := by decide +kernel
theorem dX12_matters_220 : decode cX12_matters 220 = .ok (.getfield 145, 3) := by decide +kernel
theorem dX12_matters_223 : decode cX12_matters 223 = .ok (.iload 7, 2) := by decide +kernel
theorem dX12_matters_225 : decode cX12_matters 225 = .ok (.baload, 1) := by decide +kernel
theorem dX12_matters_226 : decode cX12_matters 226 = .ok (.ifCond .ne 24, 3) := by decide +kernel
theorem dX12_matters_229 : decode cX12_matters 229 = .ok (.aload_n 0, 1) := by decide +kernel
theorem dX12_matters_230 : decode cX12_matters 230 = .ok (.getfield 145, 3) := by decide +kernel
theorem dX12_matters_233 : decode cX12_matters 233 = .ok (.iload 7, 2) := by decide +kernel
theorem dX12_matters_235 : decode cX12_matters 235 = .ok (.iconst 1, 1) := by decide +kernel
theorem dX12_matters_236 : decode cX12_matters 236 = .ok (.bastore, 1) := by decide +kernel
theorem dX12_matters_237 : decode cX12_matters 237 = .ok (.aload_n 0, 1) := by decide +kernel
theorem dX12_matters_238 : decode cX12_matters 238 = .ok (.getfield 139, 3) := by decide +kernel
theorem dX12_matters_241 : decode cX12_matters 241 = .ok (.iload 7, 2) := by decide +kernel
theorem dX12_matters_243 : decode cX12_matters 243 = .ok (.lload 5, 2) := by decide +kernel
theorem dX12_matters_245 : decode cX12_matters 245 = .ok (.l2i, 1) := by decide +kernel
theorem dX12_matters_246 : decode cX12_matters 246 = .ok (.iastore, 1) := by decide +kernel
theorem dX12_matters_247 : decode cX12_matters 247 = .ok (.goto 136, 3) := by decide +kernel
theorem dX12_matters_250 : decode cX12_matters 250 = .ok (.lload_n 2, 1) := by decide +kernel
theorem dX12_matters_251 : decode cX12_matters 251 = .ok (.ldc2_w 405, 3) := by decide +kernel
theorem dX12_matters_254 : decode cX12_matters 254 = .ok (.lcmp, 1) := by decide +kernel
theorem dX12_matters_255 : decode cX12_matters 255 = .ok (.ifCond .ne 39, 3) := by decide +kernel
theorem dX12_matters_258 : decode cX12_matters 258 = .ok (.iload 8, 2) := by decide +kernel
theorem dX12_matters_260 : decode cX12_matters 260 = .ok (.ifCond .eq 34, 3) := by decide +kernel
theorem dX12_matters_263 : decode cX12_matters 263 = .ok (.aload_n 0, 1) := by decide +kernel
theorem dX12_matters_264 : decode cX12_matters 264 = .ok (.getfield 148, 3) := by decide +kernel
theorem dX12_matters_267 : decode cX12_matters 267 = .ok (.iload 7, 2) := by decide +kernel
theorem dX12_matters_269 : decode cX12_matters 269 = .ok (.baload, 1) := by decide +kernel
theorem dX12_matters_270 : decode cX12_matters 270 = .ok (.ifCond .ne 24, 3) := by decide +kernel
theorem dX12_matters_273 : decode cX12_matters 273 = .ok (.aload_n 0, 1) := by decide +kernel
theorem dX12_matters_274 : decode cX12_matters 274 = .ok (.getfield 148, 3) := by decide +kernel
theorem dX12_matters_277 : decode cX12_matters 277 = .ok (.iload 7, 2) := by decide +kernel
theorem dX12_matters_279 : decode cX12_matters 279 = .ok (.iconst 1, 1) := by decide +kernel
theorem dX12_matters_280 : decode cX12_matters 280 = .ok (.bastore, 1) := by decide +kernel
theorem dX12_matters_281 : decode cX12_matters 281 = .ok (.aload_n 0, 1) := by decide +kernel
theorem dX12_matters_282 : decode cX12_matters 282 = .ok (.getfield 142, 3) := by decide +kernel
theorem dX12_matters_285 : decode cX12_matters 285 = .ok (.iload 7, 2) := by decide +kernel
theorem dX12_matters_287 : decode cX12_matters 287 = .ok (.lload 5, 2) := by decide +kernel
theorem dX12_matters_289 : decode cX12_matters 289 = .ok (.l2i, 1) := by decide +kernel
theorem dX12_matters_290 : decode cX12_matters 290 = .ok (.iastore, 1) := by decide +kernel
theorem dX12_matters_291 : decode cX12_matters 291 = .ok (.goto 92, 3) := by decide +kernel
theorem dX12_matters_294 : decode cX12_matters 294 = .ok (.lload_n 2, 1) := by decide +kernel
theorem dX12_matters_295 : decode cX12_matters 295 = .ok (.ldc2_w 407, 3) := by decide +kernel
theorem dX12_matters_298 : decode cX12_matters 298 = .ok (.lcmp, 1) := by decide +kernel
theorem dX12_matters_299 : decode cX12_matters 299 = .ok (.ifCond .ne 84, 3) := by decide +kernel
theorem dX12_matters_302 : decode cX12_matters 302 = .ok (.iload 4, 2) := by decide +kernel
theorem dX12_matters_304 : decode cX12_matters 304 = .ok (.bipush 23, 2) := by decide +kernel
theorem dX12_matters_306 : decode cX12_matters 306 = .ok (.if_icmp .ne 77, 3) := by decide +kernel
theorem dX12_matters_309 : decode cX12_matters 309 = .ok (.iload_n 1, 1) := by decide +kernel
theorem dX12_matters_310 : decode cX12_matters 310 = .ok (.aload_n 0, 1) := by decide +kernel
theorem dX12_matters_311 : decode cX12_matters 311 = .ok (.getfield 81, 3) := by decide +kernel
theorem dX12_matters_314 : decode cX12_matters 314 = .ok (.bipush 20, 2) := by decide +kernel
theorem dX12_matters_316 : decode cX12_matters 316 = .ok (.aload_n 0, 1) := by decide +kernel
theorem dX12_matters_317 : decode cX12_matters 317 = .ok (.getfield 17, 3) := by decide +kernel
theorem dX12_matters_320 : decode cX12_matters 320 = .ok (.imul, 1) := by decide +kernel
theorem dX12_matters_321 : decode cX12_matters 321 = .ok (.aload_n 0, 1) := by decide +kernel
theorem dX12_matters_322 : decode cX12_matters 322 = .ok (.getfield 29, 3) := by decide +kernel
theorem dX12_matters_325 : decode cX12_matters 325 = .ok (.aload_n 0, 1) := by decide +kernel
theorem dX12_matters_326 : decode cX12_matters 326 = .ok (.getfield 17, 3) := by decide +kernel
theorem dX12_matters_329 : decode cX12_matters 329 = .ok (.iaload, 1) := by decide +kernel
theorem dX12_matters_330 : decode cX12_matters 330 = .ok (.iadd, 1) := by decide +kernel
theorem dX12_matters_331 : decode cX12_matters 331 = .ok (.iaload, 1) := by decide +kernel
theorem dX12_matters_332 : decode cX12_matters 332 = .ok (.if_icmp .ne 51, 3) := by decide +kernel
theorem dX12_matters_335 : decode cX12_matters 335 = .ok (.aload_n 0, 1) := by decide +kernel
theorem dX12_matters_336 : decode cX12_matters 336 = .ok (.getfield 90, 3) := by decide +kernel
theorem dX12_matters_339 : decode cX12_matters 339 = .ok (.aload_n 0, 1) := by decide +kernel
theorem dX12_matters_340 : decode cX12_matters 340 = .ok (.getfield 29, 3) := by decide +kernel
theorem dX12_matters_343 : decode cX12_matters 343 = .ok (.aload_n 0, 1) := by decide +kernel
theorem dX12_matters_344 : decode cX12_matters 344 = .ok (.getfield 17, 3) := by decide +kernel
theorem dX12_matters_347 : decode cX12_matters 347 = .ok (.iaload, 1) := by decide +kernel
theorem dX12_matters_348 : decode cX12_matters 348 = .ok (.baload, 1) := by decide +kernel
theorem dX12_matters_349 : decode cX12_matters 349 = .ok (.ifCond .ne 34, 3) := by decide +kernel
theorem dX12_matters_352 : decode cX12_matters 352 = .ok (.aload_n 0, 1) := by decide +kernel
theorem dX12_matters_353 : decode cX12_matters 353 = .ok (.getfield 90, 3) := by decide +kernel
theorem dX12_matters_356 : decode cX12_matters 356 = .ok (.aload_n 0, 1) := by decide +kernel
theorem dX12_matters_357 : decode cX12_matters 357 = .ok (.getfield 29, 3) := by decide +kernel
theorem dX12_matters_360 : decode cX12_matters 360 = .ok (.aload_n 0, 1) := by decide +kernel
theorem dX12_matters_361 : decode cX12_matters 361 = .ok (.getfield 17, 3) := by decide +kernel
theorem dX12_matters_364 : decode cX12_matters 364 = .ok (.iaload, 1) := by decide +kernel
theorem dX12_matters_365 : decode cX12_matters 365 = .ok (.iconst 1, 1) := by decide +kernel
theorem dX12_matters_366 : decode cX12_matters 366 = .ok (.bastore, 1) := by decide +kernel
theorem dX12_matters_367 : decode cX12_matters 367 = .ok (.aload_n 0, 1) := by decide +kernel
theorem dX12_matters_368 : decode cX12_matters 368 = .ok (.getfield 94, 3) := by decide +kernel
theorem dX12_matters_371 : decode cX12_matters 371 = .ok (.aload_n 0, 1) := by decide +kernel
theorem dX12_matters_372 : decode cX12_matters 372 = .ok (.getfield 29, 3) := by decide +kernel
theorem dX12_matters_375 : decode cX12_matters 375 = .ok (.aload_n 0, 1) := by decide +kernel
theorem dX12_matters_376 : decode cX12_matters 376 = .ok (.getfield 17, 3) := by decide +kernel
theorem dX12_matters_379 : decode cX12_matters 379 = .ok (.iaload, 1) := by decide +kernel
theorem dX12_matters_380 : decode cX12_matters 380 = .ok (.lload 5, 2) := by decide +kernel
theorem dX12_matters_382 : decode cX12_matters 382 = .ok (.lastore, 1) := by decide +kernel
theorem dX12_matters_383 : decode cX12_matters 383 = .ok (.return_, 1) := by decide +kernel
theorem dX12_resolves_0 : decode cX12_resolves 0 = .ok (.aload_n 0, 1) := by decide +kernel
theorem dX12_resolves_1 : decode cX12_resolves 1 = .ok (.getfield 81, 3) := by decide +kernel
theorem dX12_resolves_4 : decode cX12_resolves 4 = .ok (.bipush 20, 2) := by decide +kernel
theorem dX12_resolves_6 : decode cX12_resolves 6 = .ok (.aload_n 0, 1) := by decide +kernel
theorem dX12_resolves_7 : decode cX12_resolves 7 = .ok (.getfield 17, 3) := by decide +kernel
theorem dX12_resolves_10 : decode cX12_resolves 10 = .ok (.imul, 1) := by decide +kernel
theorem dX12_resolves_11 : decode cX12_resolves 11 = .ok (.aload_n 0, 1) := by decide +kernel
theorem dX12_resolves_12 : decode cX12_resolves 12 = .ok (.getfield 29, 3) := by decide +kernel
theorem dX12_resolves_15 : decode cX12_resolves 15 = .ok (.aload_n 0, 1) := by decide +kernel
theorem dX12_resolves_16 : decode cX12_resolves 16 = .ok (.getfield 17, 3) := by decide +kernel
theorem dX12_resolves_19 : decode cX12_resolves 19 = .ok (.iaload, 1) := by decide +kernel
theorem dX12_resolves_20 : decode cX12_resolves 20 = .ok (.iadd, 1) := by decide +kernel
theorem dX12_resolves_21 : decode cX12_resolves 21 = .ok (.iconst 1, 1) := by decide +kernel
theorem dX12_resolves_22 : decode cX12_resolves 22 = .ok (.isub, 1) := by decide +kernel
theorem dX12_resolves_23 : decode cX12_resolves 23 = .ok (.iaload, 1) := by decide +kernel
theorem dX12_resolves_24 : decode cX12_resolves 24 = .ok (.istore_n 2, 1) := by decide +kernel
theorem dX12_resolves_25 : decode cX12_resolves 25 = .ok (.iconst 0, 1) := by decide +kernel
theorem dX12_resolves_26 : decode cX12_resolves 26 = .ok (.istore_n 3, 1) := by decide +kernel
theorem dX12_resolves_27 : decode cX12_resolves 27 = .ok (.iload_n 3, 1) := by decide +kernel
theorem dX12_resolves_28 : decode cX12_resolves 28 = .ok (.aload_n 0, 1) := by decide +kernel
theorem dX12_resolves_29 : decode cX12_resolves 29 = .ok (.getfield 316, 3) := by decide +kernel
theorem dX12_resolves_32 : decode cX12_resolves 32 = .ok (.if_icmp .ge 102, 3) := by decide +kernel
theorem dX12_resolves_35 : decode cX12_resolves 35 = .ok (.aload_n 0, 1) := by decide +kernel
theorem dX12_resolves_36 : decode cX12_resolves 36 = .ok (.invokevirtual 245, 3) := by decide +kernel
theorem dX12_resolves_39 : decode cX12_resolves 39 = .ok (.ifCond .eq 95, 3) := by decide +kernel
theorem dX12_resolves_42 : decode cX12_resolves 42 = .ok (.iconst (-1), 1) := by decide +kernel
theorem dX12_resolves_43 : decode cX12_resolves 43 = .ok (.istore 4, 2) := by decide +kernel
theorem dX12_resolves_45 : decode cX12_resolves 45 = .ok (.iload_n 2, 1) := by decide +kernel
theorem dX12_resolves_46 : decode cX12_resolves 46 = .ok (.istore 5, 2) := by decide +kernel
theorem dX12_resolves_48 : decode cX12_resolves 48 = .ok (.iload 5, 2) := by decide +kernel
theorem dX12_resolves_50 : decode cX12_resolves 50 = .ok (.aload_n 0, 1) := by decide +kernel
theorem dX12_resolves_51 : decode cX12_resolves 51 = .ok (.getfield 32, 3) := by decide +kernel
theorem dX12_resolves_54 : decode cX12_resolves 54 = .ok (.aload_n 0, 1) := by decide +kernel
theorem dX12_resolves_55 : decode cX12_resolves 55 = .ok (.getfield 17, 3) := by decide +kernel
theorem dX12_resolves_58 : decode cX12_resolves 58 = .ok (.iaload, 1) := by decide +kernel
theorem dX12_resolves_59 : decode cX12_resolves 59 = .ok (.if_icmp .ge 42, 3) := by decide +kernel
theorem dX12_resolves_62 : decode cX12_resolves 62 = .ok (.aload_n 0, 1) := by decide +kernel
theorem dX12_resolves_63 : decode cX12_resolves 63 = .ok (.getfield 130, 3) := by decide +kernel
theorem dX12_resolves_66 : decode cX12_resolves 66 = .ok (.sipush 400, 3) := by decide +kernel
theorem dX12_resolves_69 : decode cX12_resolves 69 = .ok (.aload_n 0, 1) := by decide +kernel
theorem dX12_resolves_70 : decode cX12_resolves 70 = .ok (.getfield 17, 3) := by decide +kernel
theorem dX12_resolves_73 : decode cX12_resolves 73 = .ok (.imul, 1) := by decide +kernel
theorem dX12_resolves_74 : decode cX12_resolves 74 = .ok (.iload 5, 2) := by decide +kernel
theorem dX12_resolves_76 : decode cX12_resolves 76 = .ok (.iadd, 1) := by decide +kernel
theorem dX12_resolves_77 : decode cX12_resolves 77 = .ok (.iaload, 1) := by decide +kernel
theorem dX12_resolves_78 : decode cX12_resolves 78 = .ok (.iload_n 1, 1) := by decide +kernel
theorem dX12_resolves_79 : decode cX12_resolves 79 = .ok (.isub, 1) := by decide +kernel
theorem dX12_resolves_80 : decode cX12_resolves 80 = .ok (.i2l, 1) := by decide +kernel
theorem dX12_resolves_81 : decode cX12_resolves 81 = .ok (.aload_n 0, 1) := by decide +kernel
theorem dX12_resolves_82 : decode cX12_resolves 82 = .ok (.getfield 175, 3) := by decide +kernel
theorem dX12_resolves_85 : decode cX12_resolves 85 = .ok (.iload_n 3, 1) := by decide +kernel
theorem dX12_resolves_86 : decode cX12_resolves 86 = .ok (.laload, 1) := by decide +kernel
theorem dX12_resolves_87 : decode cX12_resolves 87 = .ok (.lcmp, 1) := by decide +kernel
theorem dX12_resolves_88 : decode cX12_resolves 88 = .ok (.ifCond .ne 7, 3) := by decide +kernel
theorem dX12_resolves_91 : decode cX12_resolves 91 = .ok (.iload 5, 2) := by decide +kernel
theorem dX12_resolves_93 : decode cX12_resolves 93 = .ok (.istore 4, 2) := by decide +kernel
theorem dX12_resolves_95 : decode cX12_resolves 95 = .ok (.iinc 5 1, 3) := by decide +kernel
theorem dX12_resolves_98 : decode cX12_resolves 98 = .ok (.goto (-50), 3) := by decide +kernel
theorem dX12_resolves_101 : decode cX12_resolves 101 = .ok (.iload 4, 2) := by decide +kernel
theorem dX12_resolves_103 : decode cX12_resolves 103 = .ok (.iconst (-1), 1) := by decide +kernel
theorem dX12_resolves_104 : decode cX12_resolves 104 = .ok (.if_icmp .ne 15, 3) := by decide +kernel
theorem dX12_resolves_107 : decode cX12_resolves 107 = .ok (.aload_n 0, 1) := by decide +kernel
theorem dX12_resolves_108 : decode cX12_resolves 108 = .ok (.iconst 3, 1) := by decide +kernel
theorem dX12_resolves_109 : decode cX12_resolves 109 = .ok (.aload_n 0, 1) := by decide +kernel
theorem dX12_resolves_110 : decode cX12_resolves 110 = .ok (.getfield 172, 3) := by decide +kernel
theorem dX12_resolves_113 : decode cX12_resolves 113 = .ok (.iload_n 3, 1) := by decide +kernel
theorem dX12_resolves_114 : decode cX12_resolves 114 = .ok (.iaload, 1) := by decide +kernel
theorem dX12_resolves_115 : decode cX12_resolves 115 = .ok (.invokevirtual 255, 3) := by decide +kernel
theorem dX12_resolves_118 : decode cX12_resolves 118 = .ok (.return_, 1) := by decide +kernel
theorem dX12_resolves_119 : decode cX12_resolves 119 = .ok (.aload_n 0, 1) := by decide +kernel
theorem dX12_resolves_120 : decode cX12_resolves 120 = .ok (.getfield 175, 3) := by decide +kernel
theorem dX12_resolves_123 : decode cX12_resolves 123 = .ok (.iload_n 3, 1) := by decide +kernel
theorem dX12_resolves_124 : decode cX12_resolves 124 = .ok (.iload 4, 2) := by decide +kernel
theorem dX12_resolves_126 : decode cX12_resolves 126 = .ok (.i2l, 1) := by decide +kernel
theorem dX12_resolves_127 : decode cX12_resolves 127 = .ok (.lastore, 1) := by decide +kernel
theorem dX12_resolves_128 : decode cX12_resolves 128 = .ok (.iinc 3 1, 3) := by decide +kernel
theorem dX12_resolves_131 : decode cX12_resolves 131 = .ok (.goto (-104), 3) := by decide +kernel
theorem dX12_resolves_134 : decode cX12_resolves 134 = .ok (.iconst 2, 1) := by decide +kernel
theorem dX12_resolves_135 : decode cX12_resolves 135 = .ok (.istore_n 3, 1) := by decide +kernel
theorem dX12_resolves_136 : decode cX12_resolves 136 = .ok (.iload_n 3, 1) := by decide +kernel
theorem dX12_resolves_137 : decode cX12_resolves 137 = .ok (.ifCond .le 75, 3) := by decide +kernel
theorem dX12_resolves_140 : decode cX12_resolves 140 = .ok (.aload_n 0, 1) := by decide +kernel
theorem dX12_resolves_141 : decode cX12_resolves 141 = .ok (.getfield 316, 3) := by decide +kernel
theorem dX12_resolves_144 : decode cX12_resolves 144 = .ok (.iconst 1, 1) := by decide +kernel
theorem dX12_resolves_145 : decode cX12_resolves 145 = .ok (.isub, 1) := by decide +kernel
theorem dX12_resolves_146 : decode cX12_resolves 146 = .ok (.istore 4, 2) := by decide +kernel
theorem dX12_resolves_148 : decode cX12_resolves 148 = .ok (.iload 4, 2) := by decide +kernel
theorem dX12_resolves_150 : decode cX12_resolves 150 = .ok (.ifCond .lt 56, 3) := by decide +kernel
theorem dX12_resolves_153 : decode cX12_resolves 153 = .ok (.aload_n 0, 1) := by decide +kernel
theorem dX12_resolves_154 : decode cX12_resolves 154 = .ok (.invokevirtual 245, 3) := by decide +kernel
theorem dX12_resolves_157 : decode cX12_resolves 157 = .ok (.ifCond .eq 49, 3) := by decide +kernel
theorem dX12_resolves_160 : decode cX12_resolves 160 = .ok (.aload_n 0, 1) := by decide +kernel
theorem dX12_resolves_161 : decode cX12_resolves 161 = .ok (.getfield 181, 3) := by decide +kernel
theorem dX12_resolves_164 : decode cX12_resolves 164 = .ok (.iload 4, 2) := by decide +kernel
theorem dX12_resolves_166 : decode cX12_resolves 166 = .ok (.iaload, 1) := by decide +kernel
theorem dX12_resolves_167 : decode cX12_resolves 167 = .ok (.iload_n 3, 1) := by decide +kernel
theorem dX12_resolves_168 : decode cX12_resolves 168 = .ok (.if_icmp .ne 32, 3) := by decide +kernel
theorem dX12_resolves_171 : decode cX12_resolves 171 = .ok (.aload_n 0, 1) := by decide +kernel
theorem dX12_resolves_172 : decode cX12_resolves 172 = .ok (.getfield 127, 3) := by decide +kernel
theorem dX12_resolves_175 : decode cX12_resolves 175 = .ok (.sipush 400, 3) := by decide +kernel
theorem dX12_resolves_178 : decode cX12_resolves 178 = .ok (.aload_n 0, 1) := by decide +kernel
theorem dX12_resolves_179 : decode cX12_resolves 179 = .ok (.getfield 17, 3) := by decide +kernel
theorem dX12_resolves_182 : decode cX12_resolves 182 = .ok (.imul, 1) := by decide +kernel
theorem dX12_resolves_183 : decode cX12_resolves 183 = .ok (.aload_n 0, 1) := by decide +kernel
theorem dX12_resolves_184 : decode cX12_resolves 184 = .ok (.getfield 178, 3) := by decide +kernel
theorem dX12_resolves_187 : decode cX12_resolves 187 = .ok (.iload 4, 2) := by decide +kernel
theorem dX12_resolves_189 : decode cX12_resolves 189 = .ok (.iaload, 1) := by decide +kernel
theorem dX12_resolves_190 : decode cX12_resolves 190 = .ok (.iadd, 1) := by decide +kernel
theorem dX12_resolves_191 : decode cX12_resolves 191 = .ok (.aload_n 0, 1) := by decide +kernel
theorem dX12_resolves_192 : decode cX12_resolves 192 = .ok (.getfield 175, 3) := by decide +kernel
theorem dX12_resolves_195 : decode cX12_resolves 195 = .ok (.iload 4, 2) := by decide +kernel
theorem dX12_resolves_197 : decode cX12_resolves 197 = .ok (.laload, 1) := by decide +kernel
theorem dX12_resolves_198 : decode cX12_resolves 198 = .ok (.l2i, 1) := by decide +kernel
theorem dX12_resolves_199 : decode cX12_resolves 199 = .ok (.iastore, 1) := by decide +kernel
theorem dX12_resolves_200 : decode cX12_resolves 200 = .ok (.iinc 4 (-1), 3) := by decide +kernel
theorem dX12_resolves_203 : decode cX12_resolves 203 = .ok (.goto (-55), 3) := by decide +kernel
theorem dX12_resolves_206 : decode cX12_resolves 206 = .ok (.iinc 3 (-1), 3) := by decide +kernel
theorem dX12_resolves_209 : decode cX12_resolves 209 = .ok (.goto (-73), 3) := by decide +kernel
theorem dX12_resolves_212 : decode cX12_resolves 212 = .ok (.return_, 1) := by decide +kernel
theorem dX12_ranges_0 : decode cX12_ranges 0 = .ok (.iconst 0, 1) := by decide +kernel
theorem dX12_ranges_1 : decode cX12_ranges 1 = .ok (.istore_n 1, 1) := by decide +kernel
theorem dX12_ranges_2 : decode cX12_ranges 2 = .ok (.iload_n 1, 1) := by decide +kernel
theorem dX12_ranges_3 : decode cX12_ranges 3 = .ok (.aload_n 0, 1) := by decide +kernel
theorem dX12_ranges_4 : decode cX12_ranges 4 = .ok (.getfield 32, 3) := by decide +kernel
theorem dX12_ranges_7 : decode cX12_ranges 7 = .ok (.aload_n 0, 1) := by decide +kernel
theorem dX12_ranges_8 : decode cX12_ranges 8 = .ok (.getfield 17, 3) := by decide +kernel
theorem dX12_ranges_11 : decode cX12_ranges 11 = .ok (.iaload, 1) := by decide +kernel
theorem dX12_ranges_12 : decode cX12_ranges 12 = .ok (.if_icmp .ge 156, 3) := by decide +kernel
theorem dX12_ranges_15 : decode cX12_ranges 15 = .ok (.aload_n 0, 1) := by decide +kernel
theorem dX12_ranges_16 : decode cX12_ranges 16 = .ok (.invokevirtual 245, 3) := by decide +kernel
theorem dX12_ranges_19 : decode cX12_ranges 19 = .ok (.ifCond .eq 149, 3) := by decide +kernel
theorem dX12_ranges_22 : decode cX12_ranges 22 = .ok (.aload_n 0, 1) := by decide +kernel
theorem dX12_ranges_23 : decode cX12_ranges 23 = .ok (.getfield 130, 3) := by decide +kernel
theorem dX12_ranges_26 : decode cX12_ranges 26 = .ok (.sipush 400, 3) := by decide +kernel
theorem dX12_ranges_29 : decode cX12_ranges 29 = .ok (.aload_n 0, 1) := by decide +kernel
theorem dX12_ranges_30 : decode cX12_ranges 30 = .ok (.getfield 17, 3) := by decide +kernel
theorem dX12_ranges_33 : decode cX12_ranges 33 = .ok (.imul, 1) := by decide +kernel
theorem dX12_ranges_34 : decode cX12_ranges 34 = .ok (.iload_n 1, 1) := by decide +kernel
theorem dX12_ranges_35 : decode cX12_ranges 35 = .ok (.iadd, 1) := by decide +kernel
theorem dX12_ranges_36 : decode cX12_ranges 36 = .ok (.iaload, 1) := by decide +kernel
theorem dX12_ranges_37 : decode cX12_ranges 37 = .ok (.istore_n 2, 1) := by decide +kernel
theorem dX12_ranges_38 : decode cX12_ranges 38 = .ok (.aload_n 0, 1) := by decide +kernel
theorem dX12_ranges_39 : decode cX12_ranges 39 = .ok (.getfield 151, 3) := by decide +kernel
theorem dX12_ranges_42 : decode cX12_ranges 42 = .ok (.iload_n 1, 1) := by decide +kernel
theorem dX12_ranges_43 : decode cX12_ranges 43 = .ok (.baload, 1) := by decide +kernel
theorem dX12_ranges_44 : decode cX12_ranges 44 = .ok (.ifCond .eq 77, 3) := by decide +kernel
theorem dX12_ranges_47 : decode cX12_ranges 47 = .ok (.aload_n 0, 1) := by decide +kernel
theorem dX12_ranges_48 : decode cX12_ranges 48 = .ok (.getfield 154, 3) := by decide +kernel
theorem dX12_ranges_51 : decode cX12_ranges 51 = .ok (.iload_n 1, 1) := by decide +kernel
theorem dX12_ranges_52 : decode cX12_ranges 52 = .ok (.baload, 1) := by decide +kernel
theorem dX12_ranges_53 : decode cX12_ranges 53 = .ok (.ifCond .eq 68, 3) := by decide +kernel
theorem dX12_ranges_56 : decode cX12_ranges 56 = .ok (.aload_n 0, 1) := by decide +kernel
theorem dX12_ranges_57 : decode cX12_ranges 57 = .ok (.getfield 157, 3) := by decide +kernel
theorem dX12_ranges_60 : decode cX12_ranges 60 = .ok (.iload_n 1, 1) := by decide +kernel
theorem dX12_ranges_61 : decode cX12_ranges 61 = .ok (.baload, 1) := by decide +kernel
theorem dX12_ranges_62 : decode cX12_ranges 62 = .ok (.ifCond .eq 19, 3) := by decide +kernel
theorem dX12_ranges_65 : decode cX12_ranges 65 = .ok (.aload_n 0, 1) := by decide +kernel
theorem dX12_ranges_66 : decode cX12_ranges 66 = .ok (.getfield 163, 3) := by decide +kernel
theorem dX12_ranges_69 : decode cX12_ranges 69 = .ok (.iload_n 1, 1) := by decide +kernel
theorem dX12_ranges_70 : decode cX12_ranges 70 = .ok (.laload, 1) := by decide +kernel
theorem dX12_ranges_71 : decode cX12_ranges 71 = .ok (.aload_n 0, 1) := by decide +kernel
theorem dX12_ranges_72 : decode cX12_ranges 72 = .ok (.getfield 166, 3) := by decide +kernel
theorem dX12_ranges_75 : decode cX12_ranges 75 = .ok (.iload_n 1, 1) := by decide +kernel
theorem dX12_ranges_76 : decode cX12_ranges 76 = .ok (.laload, 1) := by decide +kernel
theorem dX12_ranges_77 : decode cX12_ranges 77 = .ok (.ladd, 1) := by decide +kernel
theorem dX12_ranges_78 : decode cX12_ranges 78 = .ok (.goto 9, 3) := by decide +kernel
theorem dX12_ranges_81 : decode cX12_ranges 81 = .ok (.aload_n 0, 1) := by decide +kernel
theorem dX12_ranges_82 : decode cX12_ranges 82 = .ok (.getfield 166, 3) := by decide +kernel
theorem dX12_ranges_85 : decode cX12_ranges 85 = .ok (.iload_n 1, 1) := by decide +kernel
theorem dX12_ranges_86 : decode cX12_ranges 86 = .ok (.laload, 1) := by decide +kernel
theorem dX12_ranges_87 : decode cX12_ranges 87 = .ok (.lstore_n 3, 1) := by decide +kernel
theorem dX12_ranges_88 : decode cX12_ranges 88 = .ok (.lload_n 3, 1) := by decide +kernel
theorem dX12_ranges_89 : decode cX12_ranges 89 = .ok (.aload_n 0, 1) := by decide +kernel
theorem dX12_ranges_90 : decode cX12_ranges 90 = .ok (.getfield 163, 3) := by decide +kernel
theorem dX12_ranges_93 : decode cX12_ranges 93 = .ok (.iload_n 1, 1) := by decide +kernel
theorem dX12_ranges_94 : decode cX12_ranges 94 = .ok (.laload, 1) := by decide +kernel
theorem dX12_ranges_95 : decode cX12_ranges 95 = .ok (.lcmp, 1) := by decide +kernel
theorem dX12_ranges_96 : decode cX12_ranges 96 = .ok (.ifCond .ge 9, 3) := by decide +kernel
theorem dX12_ranges_99 : decode cX12_ranges 99 = .ok (.aload_n 0, 1) := by decide +kernel
theorem dX12_ranges_100 : decode cX12_ranges 100 = .ok (.iconst 2, 1) := by decide +kernel
theorem dX12_ranges_101 : decode cX12_ranges 101 = .ok (.iload_n 2, 1) := by decide +kernel
theorem dX12_ranges_102 : decode cX12_ranges 102 = .ok (.invokevirtual 255, 3) := by decide +kernel
theorem dX12_ranges_105 : decode cX12_ranges 105 = .ok (.aload_n 0, 1) := by decide +kernel
theorem dX12_ranges_106 : decode cX12_ranges 106 = .ok (.iload_n 1, 1) := by decide +kernel
theorem dX12_ranges_107 : decode cX12_ranges 107 = .ok (.aload_n 0, 1) := by decide +kernel
theorem dX12_ranges_108 : decode cX12_ranges 108 = .ok (.getfield 163, 3) := by decide +kernel
theorem dX12_ranges_111 : decode cX12_ranges 111 = .ok (.iload_n 1, 1) := by decide +kernel
theorem dX12_ranges_112 : decode cX12_ranges 112 = .ok (.laload, 1) := by decide +kernel
theorem dX12_ranges_113 : decode cX12_ranges 113 = .ok (.lload_n 3, 1) := by decide +kernel
theorem dX12_ranges_114 : decode cX12_ranges 114 = .ok (.iload_n 2, 1) := by decide +kernel
theorem dX12_ranges_115 : decode cX12_ranges 115 = .ok (.invokevirtual 409, 3) := by decide +kernel
theorem dX12_ranges_118 : decode cX12_ranges 118 = .ok (.goto 44, 3) := by decide +kernel
theorem dX12_ranges_121 : decode cX12_ranges 121 = .ok (.aload_n 0, 1) := by decide +kernel
theorem dX12_ranges_122 : decode cX12_ranges 122 = .ok (.getfield 160, 3) := by decide +kernel
theorem dX12_ranges_125 : decode cX12_ranges 125 = .ok (.iload_n 1, 1) := by decide +kernel
theorem dX12_ranges_126 : decode cX12_ranges 126 = .ok (.baload, 1) := by decide +kernel
theorem dX12_ranges_127 : decode cX12_ranges 127 = .ok (.ifCond .eq 35, 3) := by decide +kernel
theorem dX12_ranges_130 : decode cX12_ranges 130 = .ok (.aload_n 0, 1) := by decide +kernel
theorem dX12_ranges_131 : decode cX12_ranges 131 = .ok (.getfield 169, 3) := by decide +kernel
theorem dX12_ranges_134 : decode cX12_ranges 134 = .ok (.iload_n 1, 1) := by decide +kernel
theorem dX12_ranges_135 : decode cX12_ranges 135 = .ok (.laload, 1) := by decide +kernel
theorem dX12_ranges_136 : decode cX12_ranges 136 = .ok (.aload_n 0, 1) := by decide +kernel
theorem dX12_ranges_137 : decode cX12_ranges 137 = .ok (.getfield 56, 3) := by decide +kernel
theorem dX12_ranges_140 : decode cX12_ranges 140 = .ok (.bipush 6, 2) := by decide +kernel
theorem dX12_ranges_142 : decode cX12_ranges 142 = .ok (.iaload, 1) := by decide +kernel
theorem dX12_ranges_143 : decode cX12_ranges 143 = .ok (.i2l, 1) := by decide +kernel
theorem dX12_ranges_144 : decode cX12_ranges 144 = .ok (.lcmp, 1) := by decide +kernel
theorem dX12_ranges_145 : decode cX12_ranges 145 = .ok (.ifCond .lt 12, 3) := by decide +kernel
theorem dX12_ranges_148 : decode cX12_ranges 148 = .ok (.aload_n 0, 1) := by decide +kernel
theorem dX12_ranges_149 : decode cX12_ranges 149 = .ok (.iconst 3, 1) := by decide +kernel
theorem dX12_ranges_150 : decode cX12_ranges 150 = .ok (.iload_n 2, 1) := by decide +kernel
theorem dX12_ranges_151 : decode cX12_ranges 151 = .ok (.invokevirtual 255, 3) := by decide +kernel
theorem dX12_ranges_154 : decode cX12_ranges 154 = .ok (.goto 8, 3) := by decide +kernel
theorem dX12_ranges_157 : decode cX12_ranges 157 = .ok (.aload_n 0, 1) := by decide +kernel
theorem dX12_ranges_158 : decode cX12_ranges 158 = .ok (.iload_n 1, 1) := by decide +kernel
theorem dX12_ranges_159 : decode cX12_ranges 159 = .ok (.invokevirtual 412, 3) := by decide +kernel
theorem dX12_ranges_162 : decode cX12_ranges 162 = .ok (.iinc 1 1, 3) := by decide +kernel
theorem dX12_ranges_165 : decode cX12_ranges 165 = .ok (.goto (-163), 3) := by decide +kernel
theorem dX12_ranges_168 : decode cX12_ranges 168 = .ok (.return_, 1) := by decide +kernel
theorem dX12_range_0 : decode cX12_range 0 = .ok (.aload_n 0, 1) := by decide +kernel
theorem dX12_range_1 : decode cX12_range 1 = .ok (.invokevirtual 245, 3) := by decide +kernel
theorem dX12_range_4 : decode cX12_range 4 = .ok (.ifCond .eq 25, 3) := by decide +kernel
theorem dX12_range_7 : decode cX12_range 7 = .ok (.aload_n 0, 1) := by decide +kernel
theorem dX12_range_8 : decode cX12_range 8 = .ok (.getfield 35, 3) := by decide +kernel
theorem dX12_range_11 : decode cX12_range 11 = .ok (.aload_n 0, 1) := by decide +kernel
theorem dX12_range_12 : decode cX12_range 12 = .ok (.getfield 17, 3) := by decide +kernel
theorem dX12_range_15 : decode cX12_range 15 = .ok (.iaload, 1) := by decide +kernel
theorem dX12_range_16 : decode cX12_range 16 = .ok (.sipush 200, 3) := by decide +kernel
theorem dX12_range_19 : decode cX12_range 19 = .ok (.if_icmp .ne 10, 3) := by decide +kernel
theorem dX12_range_22 : decode cX12_range 22 = .ok (.aload_n 0, 1) := by decide +kernel
theorem dX12_range_23 : decode cX12_range 23 = .ok (.iconst 4, 1) := by decide +kernel
theorem dX12_range_24 : decode cX12_range 24 = .ok (.iload 6, 2) := by decide +kernel
theorem dX12_range_26 : decode cX12_range 26 = .ok (.invokevirtual 255, 3) := by decide +kernel
theorem dX12_range_29 : decode cX12_range 29 = .ok (.aload_n 0, 1) := by decide +kernel
theorem dX12_range_30 : decode cX12_range 30 = .ok (.invokevirtual 245, 3) := by decide +kernel
theorem dX12_range_33 : decode cX12_range 33 = .ok (.ifCond .ne 4, 3) := by decide +kernel
theorem dX12_range_36 : decode cX12_range 36 = .ok (.return_, 1) := by decide +kernel
theorem dX12_range_37 : decode cX12_range 37 = .ok (.sipush 200, 3) := by decide +kernel
theorem dX12_range_40 : decode cX12_range 40 = .ok (.aload_n 0, 1) := by decide +kernel
theorem dX12_range_41 : decode cX12_range 41 = .ok (.getfield 17, 3) := by decide +kernel
theorem dX12_range_44 : decode cX12_range 44 = .ok (.imul, 1) := by decide +kernel
theorem dX12_range_45 : decode cX12_range 45 = .ok (.aload_n 0, 1) := by decide +kernel
theorem dX12_range_46 : decode cX12_range 46 = .ok (.getfield 35, 3) := by decide +kernel
theorem dX12_range_49 : decode cX12_range 49 = .ok (.aload_n 0, 1) := by decide +kernel
theorem dX12_range_50 : decode cX12_range 50 = .ok (.getfield 17, 3) := by decide +kernel
theorem dX12_range_53 : decode cX12_range 53 = .ok (.iaload, 1) := by decide +kernel
theorem dX12_range_54 : decode cX12_range 54 = .ok (.iadd, 1) := by decide +kernel
theorem dX12_range_55 : decode cX12_range 55 = .ok (.istore 7, 2) := by decide +kernel
theorem dX12_range_57 : decode cX12_range 57 = .ok (.aload_n 0, 1) := by decide +kernel
theorem dX12_range_58 : decode cX12_range 58 = .ok (.getfield 187, 3) := by decide +kernel
theorem dX12_range_61 : decode cX12_range 61 = .ok (.iload 7, 2) := by decide +kernel
theorem dX12_range_63 : decode cX12_range 63 = .ok (.iload_n 1, 1) := by decide +kernel
theorem dX12_range_64 : decode cX12_range 64 = .ok (.iastore, 1) := by decide +kernel
theorem dX12_range_65 : decode cX12_range 65 = .ok (.aload_n 0, 1) := by decide +kernel
theorem dX12_range_66 : decode cX12_range 66 = .ok (.getfield 190, 3) := by decide +kernel
theorem dX12_range_69 : decode cX12_range 69 = .ok (.iload 7, 2) := by decide +kernel
theorem dX12_range_71 : decode cX12_range 71 = .ok (.lload_n 2, 1) := by decide +kernel
theorem dX12_range_72 : decode cX12_range 72 = .ok (.lastore, 1) := by decide +kernel
theorem dX12_range_73 : decode cX12_range 73 = .ok (.aload_n 0, 1) := by decide +kernel
theorem dX12_range_74 : decode cX12_range 74 = .ok (.getfield 193, 3) := by decide +kernel
theorem dX12_range_77 : decode cX12_range 77 = .ok (.iload 7, 2) := by decide +kernel
theorem dX12_range_79 : decode cX12_range 79 = .ok (.lload 4, 2) := by decide +kernel
theorem dX12_range_81 : decode cX12_range 81 = .ok (.lastore, 1) := by decide +kernel
theorem dX12_range_82 : decode cX12_range 82 = .ok (.aload_n 0, 1) := by decide +kernel
theorem dX12_range_83 : decode cX12_range 83 = .ok (.getfield 35, 3) := by decide +kernel
theorem dX12_range_86 : decode cX12_range 86 = .ok (.aload_n 0, 1) := by decide +kernel
theorem dX12_range_87 : decode cX12_range 87 = .ok (.getfield 17, 3) := by decide +kernel
theorem dX12_range_90 : decode cX12_range 90 = .ok (.dup2, 1) := by decide +kernel
theorem dX12_range_91 : decode cX12_range 91 = .ok (.iaload, 1) := by decide +kernel
theorem dX12_range_92 : decode cX12_range 92 = .ok (.iconst 1, 1) := by decide +kernel
theorem dX12_range_93 : decode cX12_range 93 = .ok (.iadd, 1) := by decide +kernel
theorem dX12_range_94 : decode cX12_range 94 = .ok (.iastore, 1) := by decide +kernel
theorem dX12_range_95 : decode cX12_range 95 = .ok (.return_, 1) := by decide +kernel
theorem dX12_list_0 : decode cX12_list 0 = .ok (.aload_n 0, 1) := by decide +kernel
theorem dX12_list_1 : decode cX12_list 1 = .ok (.getfield 81, 3) := by decide +kernel
theorem dX12_list_4 : decode cX12_list 4 = .ok (.bipush 20, 2) := by decide +kernel
theorem dX12_list_6 : decode cX12_list 6 = .ok (.aload_n 0, 1) := by decide +kernel
theorem dX12_list_7 : decode cX12_list 7 = .ok (.getfield 17, 3) := by decide +kernel
theorem dX12_list_10 : decode cX12_list 10 = .ok (.imul, 1) := by decide +kernel
theorem dX12_list_11 : decode cX12_list 11 = .ok (.aload_n 0, 1) := by decide +kernel
theorem dX12_list_12 : decode cX12_list 12 = .ok (.getfield 124, 3) := by decide +kernel
theorem dX12_list_15 : decode cX12_list 15 = .ok (.sipush 400, 3) := by decide +kernel
theorem dX12_list_18 : decode cX12_list 18 = .ok (.aload_n 0, 1) := by decide +kernel
theorem dX12_list_19 : decode cX12_list 19 = .ok (.getfield 17, 3) := by decide +kernel
theorem dX12_list_22 : decode cX12_list 22 = .ok (.imul, 1) := by decide +kernel
theorem dX12_list_23 : decode cX12_list 23 = .ok (.iload_n 1, 1) := by decide +kernel
theorem dX12_list_24 : decode cX12_list 24 = .ok (.iadd, 1) := by decide +kernel
theorem dX12_list_25 : decode cX12_list 25 = .ok (.iaload, 1) := by decide +kernel
theorem dX12_list_26 : decode cX12_list 26 = .ok (.iadd, 1) := by decide +kernel
theorem dX12_list_27 : decode cX12_list 27 = .ok (.iaload, 1) := by decide +kernel
theorem dX12_list_28 : decode cX12_list 28 = .ok (.istore_n 2, 1) := by decide +kernel
theorem dX12_list_29 : decode cX12_list 29 = .ok (.aload_n 0, 1) := by decide +kernel
theorem dX12_list_30 : decode cX12_list 30 = .ok (.getfield 151, 3) := by decide +kernel
theorem dX12_list_33 : decode cX12_list 33 = .ok (.iload_n 2, 1) := by decide +kernel
theorem dX12_list_34 : decode cX12_list 34 = .ok (.baload, 1) := by decide +kernel
theorem dX12_list_35 : decode cX12_list 35 = .ok (.ifCond .eq 12, 3) := by decide +kernel
theorem dX12_list_38 : decode cX12_list 38 = .ok (.aload_n 0, 1) := by decide +kernel
theorem dX12_list_39 : decode cX12_list 39 = .ok (.getfield 163, 3) := by decide +kernel
theorem dX12_list_42 : decode cX12_list 42 = .ok (.iload_n 2, 1) := by decide +kernel
theorem dX12_list_43 : decode cX12_list 43 = .ok (.laload, 1) := by decide +kernel
theorem dX12_list_44 : decode cX12_list 44 = .ok (.goto 4, 3) := by decide +kernel
theorem dX12_list_47 : decode cX12_list 47 = .ok (.lconst 0, 1) := by decide +kernel
theorem dX12_list_48 : decode cX12_list 48 = .ok (.lstore_n 3, 1) := by decide +kernel
theorem dX12_list_49 : decode cX12_list 49 = .ok (.aload_n 0, 1) := by decide +kernel
theorem dX12_list_50 : decode cX12_list 50 = .ok (.aload_n 0, 1) := by decide +kernel
theorem dX12_list_51 : decode cX12_list 51 = .ok (.getfield 53, 3) := by decide +kernel
theorem dX12_list_54 : decode cX12_list 54 = .ok (.bipush 6, 2) := by decide +kernel
theorem dX12_list_56 : decode cX12_list 56 = .ok (.iaload, 1) := by decide +kernel
theorem dX12_list_57 : decode cX12_list 57 = .ok (.aload_n 0, 1) := by decide +kernel
theorem dX12_list_58 : decode cX12_list 58 = .ok (.getfield 169, 3) := by decide +kernel
theorem dX12_list_61 : decode cX12_list 61 = .ok (.iload_n 1, 1) := by decide +kernel
theorem dX12_list_62 : decode cX12_list 62 = .ok (.laload, 1) := by decide +kernel
theorem dX12_list_63 : decode cX12_list 63 = .ok (.l2i, 1) := by decide +kernel
theorem dX12_list_64 : decode cX12_list 64 = .ok (.iadd, 1) := by decide +kernel
theorem dX12_list_65 : decode cX12_list 65 = .ok (.putfield 249, 3) := by decide +kernel
theorem dX12_list_68 : decode cX12_list 68 = .ok (.aload_n 0, 1) := by decide +kernel
theorem dX12_list_69 : decode cX12_list 69 = .ok (.aload_n 0, 1) := by decide +kernel
theorem dX12_list_70 : decode cX12_list 70 = .ok (.bipush 6, 2) := by decide +kernel
theorem dX12_list_72 : decode cX12_list 72 = .ok (.invokevirtual 299, 3) := by decide +kernel
theorem dX12_list_75 : decode cX12_list 75 = .ok (.putfield 252, 3) := by decide +kernel
theorem dX12_list_78 : decode cX12_list 78 = .ok (.iconst 1, 1) := by decide +kernel
theorem dX12_list_79 : decode cX12_list 79 = .ok (.istore 5, 2) := by decide +kernel
theorem dX12_list_81 : decode cX12_list 81 = .ok (.iload 5, 2) := by decide +kernel
theorem dX12_list_83 : decode cX12_list 83 = .ok (.ifCond .eq 318, 3) := by decide +kernel
theorem dX12_list_86 : decode cX12_list 86 = .ok (.aload_n 0, 1) := by decide +kernel
theorem dX12_list_87 : decode cX12_list 87 = .ok (.invokevirtual 245, 3) := by decide +kernel
theorem dX12_list_90 : decode cX12_list 90 = .ok (.ifCond .eq 311, 3) := by decide +kernel
theorem dX12_list_93 : decode cX12_list 93 = .ok (.aload_n 0, 1) := by decide +kernel
theorem dX12_list_94 : decode cX12_list 94 = .ok (.getfield 249, 3) := by decide +kernel
theorem dX12_list_97 : decode cX12_list 97 = .ok (.istore 6, 2) := by decide +kernel
theorem dX12_list_99 : decode cX12_list 99 = .ok (.aload_n 0, 1) := by decide +kernel
theorem dX12_list_100 : decode cX12_list 100 = .ok (.iconst 1, 1) := by decide +kernel
theorem dX12_list_101 : decode cX12_list 101 = .ok (.invokevirtual 273, 3) := by decide +kernel
theorem dX12_list_104 : decode cX12_list 104 = .ok (.l2i, 1) := by decide +kernel
theorem dX12_list_105 : decode cX12_list 105 = .ok (.istore 7, 2) := by decide +kernel
theorem dX12_list_107 : decode cX12_list 107 = .ok (.aload_n 0, 1) := by decide +kernel
theorem dX12_list_108 : decode cX12_list 108 = .ok (.invokevirtual 245, 3) := by decide +kernel
theorem dX12_list_111 : decode cX12_list 111 = .ok (.ifCond .eq 12, 3) := by decide +kernel
theorem dX12_list_114 : decode cX12_list 114 = .ok (.iload 7, 2) := by decide +kernel
theorem dX12_list_116 : decode cX12_list 116 = .ok (.ifCond .eq 7, 3) := by decide +kernel
theorem dX12_list_119 : decode cX12_list 119 = .ok (.iconst 1, 1) := by decide +kernel
theorem dX12_list_120 : decode cX12_list 120 = .ok (.goto 4, 3) := by decide +kernel
theorem dX12_list_123 : decode cX12_list 123 = .ok (.iconst 0, 1) := by decide +kernel
theorem dX12_list_124 : decode cX12_list 124 = .ok (.istore 5, 2) := by decide +kernel
theorem dX12_list_126 : decode cX12_list 126 = .ok (.iload 5, 2) := by decide +kernel
theorem dX12_list_128 : decode cX12_list 128 = .ok (.ifCond .ne 6, 3) := by decide +kernel
theorem dX12_list_131 : decode cX12_list 131 = .ok (.goto (-50), 3) := by decide +kernel
theorem dX12_list_134 : decode cX12_list 134 = .ok (.iload 7, 2) := by decide +kernel
theorem dX12_list_136 : decode cX12_list 136 = .ok (.iconst 4, 1) := by decide +kernel
theorem dX12_list_137 : decode cX12_list 137 = .ok (.if_icmp .ne 81, 3) := by decide +kernel
theorem dX12_list_140 : decode cX12_list 140 = .ok (.aload_n 0, 1) := by decide +kernel
theorem dX12_list_141 : decode cX12_list 141 = .ok (.invokevirtual 277, 3) := by decide +kernel
theorem dX12_list_144 : decode cX12_list 144 = .ok (.lstore 8, 2) := by decide +kernel
theorem dX12_list_146 : decode cX12_list 146 = .ok (.aload_n 0, 1) := by decide +kernel
theorem dX12_list_147 : decode cX12_list 147 = .ok (.invokevirtual 277, 3) := by decide +kernel
theorem dX12_list_150 : decode cX12_list 150 = .ok (.lstore 10, 2) := by decide +kernel
theorem dX12_list_152 : decode cX12_list 152 = .ok (.lload 8, 2) := by decide +kernel
theorem dX12_list_154 : decode cX12_list 154 = .ok (.lconst 0, 1) := by decide +kernel
theorem dX12_list_155 : decode cX12_list 155 = .ok (.lcmp, 1) := by decide +kernel
theorem dX12_list_156 : decode cX12_list 156 = .ok (.ifCond .lt 32, 3) := by decide +kernel
theorem dX12_list_159 : decode cX12_list 159 = .ok (.lload 10, 2) := by decide +kernel
theorem dX12_list_161 : decode cX12_list 161 = .ok (.lconst 0, 1) := by decide +kernel
theorem dX12_list_162 : decode cX12_list 162 = .ok (.lcmp, 1) := by decide +kernel
theorem dX12_list_163 : decode cX12_list 163 = .ok (.ifCond .lt 25, 3) := by decide +kernel
theorem dX12_list_166 : decode cX12_list 166 = .ok (.lload_n 3, 1) := by decide +kernel
theorem dX12_list_167 : decode cX12_list 167 = .ok (.lload 8, 2) := by decide +kernel
theorem dX12_list_169 : decode cX12_list 169 = .ok (.ladd, 1) := by decide +kernel
theorem dX12_list_170 : decode cX12_list 170 = .ok (.lconst 0, 1) := by decide +kernel
theorem dX12_list_171 : decode cX12_list 171 = .ok (.lcmp, 1) := by decide +kernel
theorem dX12_list_172 : decode cX12_list 172 = .ok (.ifCond .lt 16, 3) := by decide +kernel
theorem dX12_list_175 : decode cX12_list 175 = .ok (.lload_n 3, 1) := by decide +kernel
theorem dX12_list_176 : decode cX12_list 176 = .ok (.lload 10, 2) := by decide +kernel
theorem dX12_list_178 : decode cX12_list 178 = .ok (.ladd, 1) := by decide +kernel
theorem dX12_list_179 : decode cX12_list 179 = .ok (.lconst 0, 1) := by decide +kernel
theorem dX12_list_180 : decode cX12_list 180 = .ok (.lcmp, 1) := by decide +kernel
theorem dX12_list_181 : decode cX12_list 181 = .ok (.ifCond .lt 7, 3) := by decide +kernel
theorem dX12_list_184 : decode cX12_list 184 = .ok (.iconst 1, 1) := by decide +kernel
theorem dX12_list_185 : decode cX12_list 185 = .ok (.goto 4, 3) := by decide +kernel
theorem dX12_list_188 : decode cX12_list 188 = .ok (.iconst 0, 1) := by decide +kernel
theorem dX12_list_189 : decode cX12_list 189 = .ok (.istore 12, 2) := by decide +kernel
theorem dX12_list_191 : decode cX12_list 191 = .ok (.aload_n 0, 1) := by decide +kernel
theorem dX12_list_192 : decode cX12_list 192 = .ok (.invokevirtual 245, 3) := by decide +kernel
theorem dX12_list_195 : decode cX12_list 195 = .ok (.ifCond .eq 20, 3) := by decide +kernel
theorem dX12_list_198 : decode cX12_list 198 = .ok (.aload_n 0, 1) := by decide +kernel
theorem dX12_list_199 : decode cX12_list 199 = .ok (.iload_n 1, 1) := by decide +kernel
theorem dX12_list_200 : decode cX12_list 200 = .ok (.lload_n 3, 1) := by decide +kernel
theorem dX12_list_201 : decode cX12_list 201 = .ok (.lload 8, 2) := by decide +kernel
theorem dX12_list_203 : decode cX12_list 203 = .ok (.ladd, 1) := by decide +kernel
theorem dX12_list_204 : decode cX12_list 204 = .ok (.lload_n 3, 1) := by decide +kernel
theorem dX12_list_205 : decode cX12_list 205 = .ok (.lload 10, 2) := by decide +kernel
theorem dX12_list_207 : decode cX12_list 207 = .ok (.ladd, 1) := by decide +kernel
theorem dX12_list_208 : decode cX12_list 208 = .ok (.iload 12, 2) := by decide +kernel
theorem dX12_list_210 : decode cX12_list 210 = .ok (.iload 6, 2) := by decide +kernel
theorem dX12_list_212 : decode cX12_list 212 = .ok (.invokevirtual 415, 3) := by decide +kernel
theorem dX12_list_215 : decode cX12_list 215 = .ok (.goto 183, 3) := by decide +kernel
theorem dX12_list_218 : decode cX12_list 218 = .ok (.iload 7, 2) := by decide +kernel
theorem dX12_list_220 : decode cX12_list 220 = .ok (.iconst 5, 1) := by decide +kernel
theorem dX12_list_221 : decode cX12_list 221 = .ok (.if_icmp .ne 33, 3) := by decide +kernel
theorem dX12_list_224 : decode cX12_list 224 = .ok (.aload_n 0, 1) := by decide +kernel
theorem dX12_list_225 : decode cX12_list 225 = .ok (.bipush 8, 2) := by decide +kernel
theorem dX12_list_227 : decode cX12_list 227 = .ok (.invokevirtual 273, 3) := by decide +kernel
theorem dX12_list_230 : decode cX12_list 230 = .ok (.lstore_n 3, 1) := by decide +kernel
theorem dX12_list_231 : decode cX12_list 231 = .ok (.aload_n 0, 1) := by decide +kernel
theorem dX12_list_232 : decode cX12_list 232 = .ok (.invokevirtual 245, 3) := by decide +kernel
theorem dX12_list_235 : decode cX12_list 235 = .ok (.ifCond .eq 163, 3) := by decide +kernel
theorem dX12_list_238 : decode cX12_list 238 = .ok (.lload_n 3, 1) := by decide +kernel
theorem dX12_list_239 : decode cX12_list 239 = .ok (.lconst 0, 1) := by decide +kernel
theorem dX12_list_240 : decode cX12_list 240 = .ok (.lcmp, 1) := by decide +kernel
theorem dX12_list_241 : decode cX12_list 241 = .ok (.ifCond .ge 157, 3) := by decide +kernel
theorem dX12_list_244 : decode cX12_list 244 = .ok (.aload_n 0, 1) := by decide +kernel
theorem dX12_list_245 : decode cX12_list 245 = .ok (.iconst 2, 1) := by decide +kernel
theorem dX12_list_246 : decode cX12_list 246 = .ok (.iload 6, 2) := by decide +kernel
theorem dX12_list_248 : decode cX12_list 248 = .ok (.invokevirtual 255, 3) := by decide +kernel
theorem dX12_list_251 : decode cX12_list 251 = .ok (.goto 147, 3) := by decide +kernel
theorem dX12_list_254 : decode cX12_list 254 = .ok (.iload 7, 2) := by decide +kernel
theorem dX12_list_256 : decode cX12_list 256 = .ok (.bipush 6, 2) := by decide +kernel
theorem dX12_list_258 : decode cX12_list 258 = .ok (.if_icmp .ne 59, 3) := by decide +kernel
theorem dX12_list_261 : decode cX12_list 261 = .ok (.aload_n 0, 1) := by decide +kernel
theorem dX12_list_262 : decode cX12_list 262 = .ok (.bipush 8, 2) := by decide +kernel
theorem dX12_list_264 : decode cX12_list 264 = .ok (.invokevirtual 273, 3) := by decide +kernel
theorem dX12_list_267 : decode cX12_list 267 = .ok (.lstore 8, 2) := by decide +kernel
theorem dX12_list_269 : decode cX12_list 269 = .ok (.aload_n 0, 1) := by decide +kernel
theorem dX12_list_270 : decode cX12_list 270 = .ok (.bipush 8, 2) := by decide +kernel
theorem dX12_list_272 : decode cX12_list 272 = .ok (.invokevirtual 273, 3) := by decide +kernel
theorem dX12_list_275 : decode cX12_list 275 = .ok (.lstore 10, 2) := by decide +kernel
theorem dX12_list_277 : decode cX12_list 277 = .ok (.aload_n 0, 1) := by decide +kernel
theorem dX12_list_278 : decode cX12_list 278 = .ok (.invokevirtual 245, 3) := by decide +kernel
theorem dX12_list_281 : decode cX12_list 281 = .ok (.ifCond .eq 33, 3) := by decide +kernel
theorem dX12_list_284 : decode cX12_list 284 = .ok (.aload_n 0, 1) := by decide +kernel
theorem dX12_list_285 : decode cX12_list 285 = .ok (.iload_n 1, 1) := by decide +kernel
theorem dX12_list_286 : decode cX12_list 286 = .ok (.lload 8, 2) := by decide +kernel
theorem dX12_list_288 : decode cX12_list 288 = .ok (.lload 10, 2) := by decide +kernel
theorem dX12_list_290 : decode cX12_list 290 = .ok (.lload 8, 2) := by decide +kernel
theorem dX12_list_292 : decode cX12_list 292 = .ok (.lconst 0, 1) := by decide +kernel
theorem dX12_list_293 : decode cX12_list 293 = .ok (.lcmp, 1) := by decide +kernel
theorem dX12_list_294 : decode cX12_list 294 = .ok (.ifCond .lt 14, 3) := by decide +kernel
theorem dX12_list_297 : decode cX12_list 297 = .ok (.lload 10, 2) := by decide +kernel
theorem dX12_list_299 : decode cX12_list 299 = .ok (.lconst 0, 1) := by decide +kernel
theorem dX12_list_300 : decode cX12_list 300 = .ok (.lcmp, 1) := by decide +kernel
theorem dX12_list_301 : decode cX12_list 301 = .ok (.ifCond .lt 7, 3) := by decide +kernel
theorem dX12_list_304 : decode cX12_list 304 = .ok (.iconst 1, 1) := by decide +kernel
theorem dX12_list_305 : decode cX12_list 305 = .ok (.goto 4, 3) := by decide +kernel
theorem dX12_list_308 : decode cX12_list 308 = .ok (.iconst 0, 1) := by decide +kernel
theorem dX12_list_309 : decode cX12_list 309 = .ok (.iload 6, 2) := by decide +kernel
theorem dX12_list_311 : decode cX12_list 311 = .ok (.invokevirtual 415, 3) := by decide +kernel
theorem dX12_list_314 : decode cX12_list 314 = .ok (.goto 84, 3) := by decide +kernel
theorem dX12_list_317 : decode cX12_list 317 = .ok (.iload 7, 2) := by decide +kernel
theorem dX12_list_319 : decode cX12_list 319 = .ok (.bipush 7, 2) := by decide +kernel
theorem dX12_list_321 : decode cX12_list 321 = .ok (.if_icmp .ne 70, 3) := by decide +kernel
theorem dX12_list_324 : decode cX12_list 324 = .ok (.aload_n 0, 1) := by decide +kernel
theorem dX12_list_325 : decode cX12_list 325 = .ok (.bipush 8, 2) := by decide +kernel
theorem dX12_list_327 : decode cX12_list 327 = .ok (.invokevirtual 273, 3) := by decide +kernel
theorem dX12_list_330 : decode cX12_list 330 = .ok (.lstore 8, 2) := by decide +kernel
theorem dX12_list_332 : decode cX12_list 332 = .ok (.aload_n 0, 1) := by decide +kernel
theorem dX12_list_333 : decode cX12_list 333 = .ok (.invokevirtual 277, 3) := by decide +kernel
theorem dX12_list_336 : decode cX12_list 336 = .ok (.lstore 10, 2) := by decide +kernel
theorem dX12_list_338 : decode cX12_list 338 = .ok (.aload_n 0, 1) := by decide +kernel
theorem dX12_list_339 : decode cX12_list 339 = .ok (.invokevirtual 245, 3) := by decide +kernel
theorem dX12_list_342 : decode cX12_list 342 = .ok (.ifCond .eq 46, 3) := by decide +kernel
theorem dX12_list_345 : decode cX12_list 345 = .ok (.aload_n 0, 1) := by decide +kernel
theorem dX12_list_346 : decode cX12_list 346 = .ok (.iload_n 1, 1) := by decide +kernel
theorem dX12_list_347 : decode cX12_list 347 = .ok (.lload 8, 2) := by decide +kernel
theorem dX12_list_349 : decode cX12_list 349 = .ok (.lload 8, 2) := by decide +kernel
theorem dX12_list_351 : decode cX12_list 351 = .ok (.lload 10, 2) := by decide +kernel
theorem dX12_list_353 : decode cX12_list 353 = .ok (.ladd, 1) := by decide +kernel
theorem dX12_list_354 : decode cX12_list 354 = .ok (.lload 8, 2) := by decide +kernel
theorem dX12_list_356 : decode cX12_list 356 = .ok (.lconst 0, 1) := by decide +kernel
theorem dX12_list_357 : decode cX12_list 357 = .ok (.lcmp, 1) := by decide +kernel
theorem dX12_list_358 : decode cX12_list 358 = .ok (.ifCond .lt 24, 3) := by decide +kernel
theorem dX12_list_361 : decode cX12_list 361 = .ok (.lload 10, 2) := by decide +kernel
theorem dX12_list_363 : decode cX12_list 363 = .ok (.lconst 0, 1) := by decide +kernel
theorem dX12_list_364 : decode cX12_list 364 = .ok (.lcmp, 1) := by decide +kernel
theorem dX12_list_365 : decode cX12_list 365 = .ok (.ifCond .lt 17, 3) := by decide +kernel
theorem dX12_list_368 : decode cX12_list 368 = .ok (.lload 8, 2) := by decide +kernel
theorem dX12_list_370 : decode cX12_list 370 = .ok (.lload 10, 2) := by decide +kernel
theorem dX12_list_372 : decode cX12_list 372 = .ok (.ladd, 1) := by decide +kernel
theorem dX12_list_373 : decode cX12_list 373 = .ok (.lconst 0, 1) := by decide +kernel
theorem dX12_list_374 : decode cX12_list 374 = .ok (.lcmp, 1) := by decide +kernel
theorem dX12_list_375 : decode cX12_list 375 = .ok (.ifCond .lt 7, 3) := by decide +kernel
theorem dX12_list_378 : decode cX12_list 378 = .ok (.iconst 1, 1) := by decide +kernel
theorem dX12_list_379 : decode cX12_list 379 = .ok (.goto 4, 3) := by decide +kernel
theorem dX12_list_382 : decode cX12_list 382 = .ok (.iconst 0, 1) := by decide +kernel
theorem dX12_list_383 : decode cX12_list 383 = .ok (.iload 6, 2) := by decide +kernel
theorem dX12_list_385 : decode cX12_list 385 = .ok (.invokevirtual 415, 3) := by decide +kernel
theorem dX12_list_388 : decode cX12_list 388 = .ok (.goto 10, 3) := by decide +kernel
theorem dX12_list_391 : decode cX12_list 391 = .ok (.aload_n 0, 1) := by decide +kernel
theorem dX12_list_392 : decode cX12_list 392 = .ok (.iconst 2, 1) := by decide +kernel
theorem dX12_list_393 : decode cX12_list 393 = .ok (.iload 6, 2) := by decide +kernel
theorem dX12_list_395 : decode cX12_list 395 = .ok (.invokevirtual 255, 3) := by decide +kernel
theorem dX12_list_398 : decode cX12_list 398 = .ok (.goto (-317), 3) := by decide +kernel
theorem dX12_list_401 : decode cX12_list 401 = .ok (.return_, 1) := by decide +kernel
theorem dX12_spans_0 : decode cX12_spans 0 = .ok (.iload 6, 2) := by decide +kernel
theorem dX12_spans_2 : decode cX12_spans 2 = .ok (.ifCond .eq 10, 3) := by decide +kernel
theorem dX12_spans_5 : decode cX12_spans 5 = .ok (.lload 4, 2) := by decide +kernel
theorem dX12_spans_7 : decode cX12_spans 7 = .ok (.lload_n 2, 1) := by decide +kernel
theorem dX12_spans_8 : decode cX12_spans 8 = .ok (.lcmp, 1) := by decide +kernel
theorem dX12_spans_9 : decode cX12_spans 9 = .ok (.ifCond .ge 10, 3) := by decide +kernel
theorem dX12_spans_12 : decode cX12_spans 12 = .ok (.aload_n 0, 1) := by decide +kernel
theorem dX12_spans_13 : decode cX12_spans 13 = .ok (.iconst 2, 1) := by decide +kernel
theorem dX12_spans_14 : decode cX12_spans 14 = .ok (.iload 7, 2) := by decide +kernel
theorem dX12_spans_16 : decode cX12_spans 16 = .ok (.invokevirtual 255, 3) := by decide +kernel
theorem dX12_spans_19 : decode cX12_spans 19 = .ok (.aload_n 0, 1) := by decide +kernel
theorem dX12_spans_20 : decode cX12_spans 20 = .ok (.iload_n 1, 1) := by decide +kernel
theorem dX12_spans_21 : decode cX12_spans 21 = .ok (.lload_n 2, 1) := by decide +kernel
theorem dX12_spans_22 : decode cX12_spans 22 = .ok (.lload 4, 2) := by decide +kernel
theorem dX12_spans_24 : decode cX12_spans 24 = .ok (.iload 7, 2) := by decide +kernel
theorem dX12_spans_26 : decode cX12_spans 26 = .ok (.invokevirtual 409, 3) := by decide +kernel
theorem dX12_spans_29 : decode cX12_spans 29 = .ok (.return_, 1) := by decide +kernel
theorem dX12_lines_0 : decode cX12_lines 0 = .ok (.iconst 0, 1) := by decide +kernel
theorem dX12_lines_1 : decode cX12_lines 1 = .ok (.istore_n 1, 1) := by decide +kernel
theorem dX12_lines_2 : decode cX12_lines 2 = .ok (.iload_n 1, 1) := by decide +kernel
theorem dX12_lines_3 : decode cX12_lines 3 = .ok (.aload_n 0, 1) := by decide +kernel
theorem dX12_lines_4 : decode cX12_lines 4 = .ok (.getfield 29, 3) := by decide +kernel
theorem dX12_lines_7 : decode cX12_lines 7 = .ok (.aload_n 0, 1) := by decide +kernel
theorem dX12_lines_8 : decode cX12_lines 8 = .ok (.getfield 17, 3) := by decide +kernel
theorem dX12_lines_11 : decode cX12_lines 11 = .ok (.iaload, 1) := by decide +kernel
theorem dX12_lines_12 : decode cX12_lines 12 = .ok (.if_icmp .ge 72, 3) := by decide +kernel
theorem dX12_lines_15 : decode cX12_lines 15 = .ok (.aload_n 0, 1) := by decide +kernel
theorem dX12_lines_16 : decode cX12_lines 16 = .ok (.invokevirtual 245, 3) := by decide +kernel
theorem dX12_lines_19 : decode cX12_lines 19 = .ok (.ifCond .eq 65, 3) := by decide +kernel
theorem dX12_lines_22 : decode cX12_lines 22 = .ok (.aload_n 0, 1) := by decide +kernel
theorem dX12_lines_23 : decode cX12_lines 23 = .ok (.getfield 90, 3) := by decide +kernel
theorem dX12_lines_26 : decode cX12_lines 26 = .ok (.iload_n 1, 1) := by decide +kernel
theorem dX12_lines_27 : decode cX12_lines 27 = .ok (.baload, 1) := by decide +kernel
theorem dX12_lines_28 : decode cX12_lines 28 = .ok (.ifCond .ne 6, 3) := by decide +kernel
theorem dX12_lines_31 : decode cX12_lines 31 = .ok (.goto 47, 3) := by decide +kernel
theorem dX12_lines_34 : decode cX12_lines 34 = .ok (.aload_n 0, 1) := by decide +kernel
theorem dX12_lines_35 : decode cX12_lines 35 = .ok (.getfield 94, 3) := by decide +kernel
theorem dX12_lines_38 : decode cX12_lines 38 = .ok (.iload_n 1, 1) := by decide +kernel
theorem dX12_lines_39 : decode cX12_lines 39 = .ok (.laload, 1) := by decide +kernel
theorem dX12_lines_40 : decode cX12_lines 40 = .ok (.aload_n 0, 1) := by decide +kernel
theorem dX12_lines_41 : decode cX12_lines 41 = .ok (.getfield 56, 3) := by decide +kernel
theorem dX12_lines_44 : decode cX12_lines 44 = .ok (.iconst 5, 1) := by decide +kernel
theorem dX12_lines_45 : decode cX12_lines 45 = .ok (.iaload, 1) := by decide +kernel
theorem dX12_lines_46 : decode cX12_lines 46 = .ok (.i2l, 1) := by decide +kernel
theorem dX12_lines_47 : decode cX12_lines 47 = .ok (.lcmp, 1) := by decide +kernel
theorem dX12_lines_48 : decode cX12_lines 48 = .ok (.ifCond .lt 25, 3) := by decide +kernel
theorem dX12_lines_51 : decode cX12_lines 51 = .ok (.aload_n 0, 1) := by decide +kernel
theorem dX12_lines_52 : decode cX12_lines 52 = .ok (.iconst 3, 1) := by decide +kernel
theorem dX12_lines_53 : decode cX12_lines 53 = .ok (.aload_n 0, 1) := by decide +kernel
theorem dX12_lines_54 : decode cX12_lines 54 = .ok (.getfield 78, 3) := by decide +kernel
theorem dX12_lines_57 : decode cX12_lines 57 = .ok (.bipush 20, 2) := by decide +kernel
theorem dX12_lines_59 : decode cX12_lines 59 = .ok (.aload_n 0, 1) := by decide +kernel
theorem dX12_lines_60 : decode cX12_lines 60 = .ok (.getfield 17, 3) := by decide +kernel
theorem dX12_lines_63 : decode cX12_lines 63 = .ok (.imul, 1) := by decide +kernel
theorem dX12_lines_64 : decode cX12_lines 64 = .ok (.iload_n 1, 1) := by decide +kernel
theorem dX12_lines_65 : decode cX12_lines 65 = .ok (.iadd, 1) := by decide +kernel
theorem dX12_lines_66 : decode cX12_lines 66 = .ok (.iaload, 1) := by decide +kernel
theorem dX12_lines_67 : decode cX12_lines 67 = .ok (.invokevirtual 255, 3) := by decide +kernel
theorem dX12_lines_70 : decode cX12_lines 70 = .ok (.goto 8, 3) := by decide +kernel
theorem dX12_lines_73 : decode cX12_lines 73 = .ok (.aload_n 0, 1) := by decide +kernel
theorem dX12_lines_74 : decode cX12_lines 74 = .ok (.iload_n 1, 1) := by decide +kernel
theorem dX12_lines_75 : decode cX12_lines 75 = .ok (.invokevirtual 419, 3) := by decide +kernel
theorem dX12_lines_78 : decode cX12_lines 78 = .ok (.iinc 1 1, 3) := by decide +kernel
theorem dX12_lines_81 : decode cX12_lines 81 = .ok (.goto (-79), 3) := by decide +kernel
theorem dX12_lines_84 : decode cX12_lines 84 = .ok (.return_, 1) := by decide +kernel
theorem dX12_table_0 : decode cX12_table 0 = .ok (.aload_n 0, 1) := by decide +kernel
theorem dX12_table_1 : decode cX12_table 1 = .ok (.aload_n 0, 1) := by decide +kernel
theorem dX12_table_2 : decode cX12_table 2 = .ok (.getfield 53, 3) := by decide +kernel
theorem dX12_table_5 : decode cX12_table 5 = .ok (.iconst 5, 1) := by decide +kernel
theorem dX12_table_6 : decode cX12_table 6 = .ok (.iaload, 1) := by decide +kernel
theorem dX12_table_7 : decode cX12_table 7 = .ok (.aload_n 0, 1) := by decide +kernel
theorem dX12_table_8 : decode cX12_table 8 = .ok (.getfield 94, 3) := by decide +kernel
theorem dX12_table_11 : decode cX12_table 11 = .ok (.iload_n 1, 1) := by decide +kernel
theorem dX12_table_12 : decode cX12_table 12 = .ok (.laload, 1) := by decide +kernel
theorem dX12_table_13 : decode cX12_table 13 = .ok (.l2i, 1) := by decide +kernel
theorem dX12_table_14 : decode cX12_table 14 = .ok (.iadd, 1) := by decide +kernel
theorem dX12_table_15 : decode cX12_table 15 = .ok (.putfield 249, 3) := by decide +kernel
theorem dX12_table_18 : decode cX12_table 18 = .ok (.aload_n 0, 1) := by decide +kernel
theorem dX12_table_19 : decode cX12_table 19 = .ok (.aload_n 0, 1) := by decide +kernel
theorem dX12_table_20 : decode cX12_table 20 = .ok (.iconst 5, 1) := by decide +kernel
theorem dX12_table_21 : decode cX12_table 21 = .ok (.invokevirtual 299, 3) := by decide +kernel
theorem dX12_table_24 : decode cX12_table 24 = .ok (.putfield 252, 3) := by decide +kernel
theorem dX12_table_27 : decode cX12_table 27 = .ok (.aload_n 0, 1) := by decide +kernel
theorem dX12_table_28 : decode cX12_table 28 = .ok (.aload_n 0, 1) := by decide +kernel
theorem dX12_table_29 : decode cX12_table 29 = .ok (.iconst 5, 1) := by decide +kernel
theorem dX12_table_30 : decode cX12_table 30 = .ok (.invokevirtual 299, 3) := by decide +kernel
theorem dX12_table_33 : decode cX12_table 33 = .ok (.invokevirtual 304, 3) := by decide +kernel
theorem dX12_table_36 : decode cX12_table 36 = .ok (.istore_n 2, 1) := by decide +kernel
theorem dX12_table_37 : decode cX12_table 37 = .ok (.aload_n 0, 1) := by decide +kernel
theorem dX12_table_38 : decode cX12_table 38 = .ok (.invokevirtual 245, 3) := by decide +kernel
theorem dX12_table_41 : decode cX12_table 41 = .ok (.ifCond .ne 4, 3) := by decide +kernel
theorem dX12_table_44 : decode cX12_table 44 = .ok (.return_, 1) := by decide +kernel
theorem dX12_table_45 : decode cX12_table 45 = .ok (.aload_n 0, 1) := by decide +kernel
theorem dX12_table_46 : decode cX12_table 46 = .ok (.iload_n 2, 1) := by decide +kernel
theorem dX12_table_47 : decode cX12_table 47 = .ok (.putfield 252, 3) := by decide +kernel
theorem dX12_table_50 : decode cX12_table 50 = .ok (.aload_n 0, 1) := by decide +kernel
theorem dX12_table_51 : decode cX12_table 51 = .ok (.iconst 2, 1) := by decide +kernel
theorem dX12_table_52 : decode cX12_table 52 = .ok (.iconst 5, 1) := by decide +kernel
theorem dX12_table_53 : decode cX12_table 53 = .ok (.invokevirtual 310, 3) := by decide +kernel
theorem dX12_table_56 : decode cX12_table 56 = .ok (.aload_n 0, 1) := by decide +kernel
theorem dX12_table_57 : decode cX12_table 57 = .ok (.iconst 1, 1) := by decide +kernel
theorem dX12_table_58 : decode cX12_table 58 = .ok (.bipush 8, 2) := by decide +kernel
theorem dX12_table_60 : decode cX12_table 60 = .ok (.invokevirtual 310, 3) := by decide +kernel
theorem dX12_table_63 : decode cX12_table 63 = .ok (.aload_n 0, 1) := by decide +kernel
theorem dX12_table_64 : decode cX12_table 64 = .ok (.iconst 1, 1) := by decide +kernel
theorem dX12_table_65 : decode cX12_table 65 = .ok (.iconst 0, 1) := by decide +kernel
theorem dX12_table_66 : decode cX12_table 66 = .ok (.invokevirtual 310, 3) := by decide +kernel
theorem dX12_table_69 : decode cX12_table 69 = .ok (.aload_n 0, 1) := by decide +kernel
theorem dX12_table_70 : decode cX12_table 70 = .ok (.getfield 249, 3) := by decide +kernel
theorem dX12_table_73 : decode cX12_table 73 = .ok (.istore_n 3, 1) := by decide +kernel
theorem dX12_table_74 : decode cX12_table 74 = .ok (.aload_n 0, 1) := by decide +kernel
theorem dX12_table_75 : decode cX12_table 75 = .ok (.iconst 4, 1) := by decide +kernel
theorem dX12_table_76 : decode cX12_table 76 = .ok (.invokevirtual 273, 3) := by decide +kernel
theorem dX12_table_79 : decode cX12_table 79 = .ok (.lstore 4, 2) := by decide +kernel
theorem dX12_table_81 : decode cX12_table 81 = .ok (.aload_n 0, 1) := by decide +kernel
theorem dX12_table_82 : decode cX12_table 82 = .ok (.invokevirtual 245, 3) := by decide +kernel
theorem dX12_table_85 : decode cX12_table 85 = .ok (.ifCond .eq 22, 3) := by decide +kernel
theorem dX12_table_88 : decode cX12_table 88 = .ok (.lload 4, 2) := by decide +kernel
theorem dX12_table_90 : decode cX12_table 90 = .ok (.iload_n 2, 1) := by decide +kernel
theorem dX12_table_91 : decode cX12_table 91 = .ok (.aload_n 0, 1) := by decide +kernel
theorem dX12_table_92 : decode cX12_table 92 = .ok (.getfield 249, 3) := by decide +kernel
theorem dX12_table_95 : decode cX12_table 95 = .ok (.isub, 1) := by decide +kernel
theorem dX12_table_96 : decode cX12_table 96 = .ok (.i2l, 1) := by decide +kernel
theorem dX12_table_97 : decode cX12_table 97 = .ok (.lcmp, 1) := by decide +kernel
theorem dX12_table_98 : decode cX12_table 98 = .ok (.ifCond .le 9, 3) := by decide +kernel
theorem dX12_table_101 : decode cX12_table 101 = .ok (.aload_n 0, 1) := by decide +kernel
theorem dX12_table_102 : decode cX12_table 102 = .ok (.iconst 1, 1) := by decide +kernel
theorem dX12_table_103 : decode cX12_table 103 = .ok (.iload_n 3, 1) := by decide +kernel
theorem dX12_table_104 : decode cX12_table 104 = .ok (.invokevirtual 255, 3) := by decide +kernel
theorem dX12_table_107 : decode cX12_table 107 = .ok (.aload_n 0, 1) := by decide +kernel
theorem dX12_table_108 : decode cX12_table 108 = .ok (.invokevirtual 245, 3) := by decide +kernel
theorem dX12_table_111 : decode cX12_table 111 = .ok (.ifCond .ne 4, 3) := by decide +kernel
theorem dX12_table_114 : decode cX12_table 114 = .ok (.return_, 1) := by decide +kernel
theorem dX12_table_115 : decode cX12_table 115 = .ok (.aload_n 0, 1) := by decide +kernel
theorem dX12_table_116 : decode cX12_table 116 = .ok (.getfield 249, 3) := by decide +kernel
theorem dX12_table_119 : decode cX12_table 119 = .ok (.lload 4, 2) := by decide +kernel
theorem dX12_table_121 : decode cX12_table 121 = .ok (.l2i, 1) := by decide +kernel
theorem dX12_table_122 : decode cX12_table 122 = .ok (.iadd, 1) := by decide +kernel
theorem dX12_table_123 : decode cX12_table 123 = .ok (.istore 6, 2) := by decide +kernel
theorem dX12_table_125 : decode cX12_table 125 = .ok (.aload_n 0, 1) := by decide +kernel
theorem dX12_table_126 : decode cX12_table 126 = .ok (.invokevirtual 422, 3) := by decide +kernel
theorem dX12_table_129 : decode cX12_table 129 = .ok (.aload_n 0, 1) := by decide +kernel
theorem dX12_table_130 : decode cX12_table 130 = .ok (.invokevirtual 425, 3) := by decide +kernel
theorem dX12_table_133 : decode cX12_table 133 = .ok (.istore 7, 2) := by decide +kernel
theorem dX12_table_135 : decode cX12_table 135 = .ok (.aload_n 0, 1) := by decide +kernel
theorem dX12_table_136 : decode cX12_table 136 = .ok (.iload_n 1, 1) := by decide +kernel
theorem dX12_table_137 : decode cX12_table 137 = .ok (.iload 7, 2) := by decide +kernel
theorem dX12_table_139 : decode cX12_table 139 = .ok (.invokevirtual 428, 3) := by decide +kernel
theorem dX12_table_142 : decode cX12_table 142 = .ok (.aload_n 0, 1) := by decide +kernel
theorem dX12_table_143 : decode cX12_table 143 = .ok (.invokevirtual 245, 3) := by decide +kernel
theorem dX12_table_146 : decode cX12_table 146 = .ok (.ifCond .eq 21, 3) := by decide +kernel
theorem dX12_table_149 : decode cX12_table 149 = .ok (.aload_n 0, 1) := by decide +kernel
theorem dX12_table_150 : decode cX12_table 150 = .ok (.getfield 249, 3) := by decide +kernel
theorem dX12_table_153 : decode cX12_table 153 = .ok (.iload 6, 2) := by decide +kernel
theorem dX12_table_155 : decode cX12_table 155 = .ok (.if_icmp .eq 12, 3) := by decide +kernel
theorem dX12_table_158 : decode cX12_table 158 = .ok (.aload_n 0, 1) := by decide +kernel
theorem dX12_table_159 : decode cX12_table 159 = .ok (.iconst 2, 1) := by decide +kernel
theorem dX12_table_160 : decode cX12_table 160 = .ok (.aload_n 0, 1) := by decide +kernel
theorem dX12_table_161 : decode cX12_table 161 = .ok (.getfield 249, 3) := by decide +kernel
theorem dX12_table_164 : decode cX12_table 164 = .ok (.invokevirtual 255, 3) := by decide +kernel
theorem dX12_table_167 : decode cX12_table 167 = .ok (.aload_n 0, 1) := by decide +kernel
theorem dX12_table_168 : decode cX12_table 168 = .ok (.invokevirtual 245, 3) := by decide +kernel
theorem dX12_table_171 : decode cX12_table 171 = .ok (.ifCond .eq 9, 3) := by decide +kernel
theorem dX12_table_174 : decode cX12_table 174 = .ok (.aload_n 0, 1) := by decide +kernel
theorem dX12_table_175 : decode cX12_table 175 = .ok (.iload_n 1, 1) := by decide +kernel
theorem dX12_table_176 : decode cX12_table 176 = .ok (.iload_n 2, 1) := by decide +kernel
theorem dX12_table_177 : decode cX12_table 177 = .ok (.invokevirtual 431, 3) := by decide +kernel
theorem dX12_table_180 : decode cX12_table 180 = .ok (.return_, 1) := by decide +kernel
theorem dX12_constants_0 : decode cX12_constants 0 = .ok (.aload_n 0, 1) := by decide +kernel
theorem dX12_constants_1 : decode cX12_constants 1 = .ok (.aload_n 0, 1) := by decide +kernel
theorem dX12_constants_2 : decode cX12_constants 2 = .ok (.iconst 1, 1) := by decide +kernel
theorem dX12_constants_3 : decode cX12_constants 3 = .ok (.invokevirtual 273, 3) := by decide +kernel
theorem dX12_constants_6 : decode cX12_constants 6 = .ok (.l2i, 1) := by decide +kernel
theorem dX12_constants_7 : decode cX12_constants 7 = .ok (.putfield 434, 3) := by decide +kernel
theorem dX12_constants_10 : decode cX12_constants 10 = .ok (.aload_n 0, 1) := by decide +kernel
theorem dX12_constants_11 : decode cX12_constants 11 = .ok (.iconst 1, 1) := by decide +kernel
theorem dX12_constants_12 : decode cX12_constants 12 = .ok (.iconst 1, 1) := by decide +kernel
theorem dX12_constants_13 : decode cX12_constants 13 = .ok (.invokevirtual 310, 3) := by decide +kernel
theorem dX12_constants_16 : decode cX12_constants 16 = .ok (.aload_n 0, 1) := by decide +kernel
theorem dX12_constants_17 : decode cX12_constants 17 = .ok (.getfield 249, 3) := by decide +kernel
theorem dX12_constants_20 : decode cX12_constants 20 = .ok (.istore_n 1, 1) := by decide +kernel
theorem dX12_constants_21 : decode cX12_constants 21 = .ok (.aload_n 0, 1) := by decide +kernel
theorem dX12_constants_22 : decode cX12_constants 22 = .ok (.iconst 1, 1) := by decide +kernel
theorem dX12_constants_23 : decode cX12_constants 23 = .ok (.invokevirtual 273, 3) := by decide +kernel
theorem dX12_constants_26 : decode cX12_constants 26 = .ok (.lconst 1, 1) := by decide +kernel
theorem dX12_constants_27 : decode cX12_constants 27 = .ok (.lcmp, 1) := by decide +kernel
theorem dX12_constants_28 : decode cX12_constants 28 = .ok (.ifCond .le 9, 3) := by decide +kernel
theorem dX12_constants_31 : decode cX12_constants 31 = .ok (.aload_n 0, 1) := by decide +kernel
theorem dX12_constants_32 : decode cX12_constants 32 = .ok (.iconst 2, 1) := by decide +kernel
theorem dX12_constants_33 : decode cX12_constants 33 = .ok (.iload_n 1, 1) := by decide +kernel
theorem dX12_constants_34 : decode cX12_constants 34 = .ok (.invokevirtual 255, 3) := by decide +kernel
theorem dX12_constants_37 : decode cX12_constants 37 = .ok (.aload_n 0, 1) := by decide +kernel
theorem dX12_constants_38 : decode cX12_constants 38 = .ok (.aload_n 0, 1) := by decide +kernel
theorem dX12_constants_39 : decode cX12_constants 39 = .ok (.iconst 1, 1) := by decide +kernel
theorem dX12_constants_40 : decode cX12_constants 40 = .ok (.invokevirtual 273, 3) := by decide +kernel
theorem dX12_constants_43 : decode cX12_constants 43 = .ok (.l2i, 1) := by decide +kernel
theorem dX12_constants_44 : decode cX12_constants 44 = .ok (.i2b, 1) := by decide +kernel
theorem dX12_constants_45 : decode cX12_constants 45 = .ok (.putfield 437, 3) := by decide +kernel
theorem dX12_constants_48 : decode cX12_constants 48 = .ok (.aload_n 0, 1) := by decide +kernel
theorem dX12_constants_49 : decode cX12_constants 49 = .ok (.getfield 249, 3) := by decide +kernel
theorem dX12_constants_52 : decode cX12_constants 52 = .ok (.istore_n 1, 1) := by decide +kernel
theorem dX12_constants_53 : decode cX12_constants 53 = .ok (.aload_n 0, 1) := by decide +kernel
theorem dX12_constants_54 : decode cX12_constants 54 = .ok (.aload_n 0, 1) := by decide +kernel
theorem dX12_constants_55 : decode cX12_constants 55 = .ok (.iconst 1, 1) := by decide +kernel
theorem dX12_constants_56 : decode cX12_constants 56 = .ok (.invokevirtual 273, 3) := by decide +kernel
theorem dX12_constants_59 : decode cX12_constants 59 = .ok (.l2i, 1) := by decide +kernel
theorem dX12_constants_60 : decode cX12_constants 60 = .ok (.putfield 440, 3) := by decide +kernel
theorem dX12_constants_63 : decode cX12_constants 63 = .ok (.aload_n 0, 1) := by decide +kernel
theorem dX12_constants_64 : decode cX12_constants 64 = .ok (.invokevirtual 245, 3) := by decide +kernel
theorem dX12_constants_67 : decode cX12_constants 67 = .ok (.ifCond .eq 16, 3) := by decide +kernel
theorem dX12_constants_70 : decode cX12_constants 70 = .ok (.aload_n 0, 1) := by decide +kernel
theorem dX12_constants_71 : decode cX12_constants 71 = .ok (.getfield 440, 3) := by decide +kernel
theorem dX12_constants_74 : decode cX12_constants 74 = .ok (.ifCond .ne 9, 3) := by decide +kernel
theorem dX12_constants_77 : decode cX12_constants 77 = .ok (.aload_n 0, 1) := by decide +kernel
theorem dX12_constants_78 : decode cX12_constants 78 = .ok (.iconst 2, 1) := by decide +kernel
theorem dX12_constants_79 : decode cX12_constants 79 = .ok (.iload_n 1, 1) := by decide +kernel
theorem dX12_constants_80 : decode cX12_constants 80 = .ok (.invokevirtual 255, 3) := by decide +kernel
theorem dX12_constants_83 : decode cX12_constants 83 = .ok (.aload_n 0, 1) := by decide +kernel
theorem dX12_constants_84 : decode cX12_constants 84 = .ok (.getfield 249, 3) := by decide +kernel
theorem dX12_constants_87 : decode cX12_constants 87 = .ok (.istore_n 1, 1) := by decide +kernel
theorem dX12_constants_88 : decode cX12_constants 88 = .ok (.aload_n 0, 1) := by decide +kernel
theorem dX12_constants_89 : decode cX12_constants 89 = .ok (.aload_n 0, 1) := by decide +kernel
theorem dX12_constants_90 : decode cX12_constants 90 = .ok (.iconst 1, 1) := by decide +kernel
theorem dX12_constants_91 : decode cX12_constants 91 = .ok (.invokevirtual 273, 3) := by decide +kernel
theorem dX12_constants_94 : decode cX12_constants 94 = .ok (.l2i, 1) := by decide +kernel
theorem dX12_constants_95 : decode cX12_constants 95 = .ok (.putfield 443, 3) := by decide +kernel
theorem dX12_constants_98 : decode cX12_constants 98 = .ok (.aload_n 0, 1) := by decide +kernel
theorem dX12_constants_99 : decode cX12_constants 99 = .ok (.invokevirtual 245, 3) := by decide +kernel
theorem dX12_constants_102 : decode cX12_constants 102 = .ok (.ifCond .eq 27, 3) := by decide +kernel
theorem dX12_constants_105 : decode cX12_constants 105 = .ok (.aload_n 0, 1) := by decide +kernel
theorem dX12_constants_106 : decode cX12_constants 106 = .ok (.getfield 443, 3) := by decide +kernel
theorem dX12_constants_109 : decode cX12_constants 109 = .ok (.bipush 10, 2) := by decide +kernel
theorem dX12_constants_111 : decode cX12_constants 111 = .ok (.if_icmp .lt 12, 3) := by decide +kernel
theorem dX12_constants_114 : decode cX12_constants 114 = .ok (.aload_n 0, 1) := by decide +kernel
theorem dX12_constants_115 : decode cX12_constants 115 = .ok (.getfield 443, 3) := by decide +kernel
theorem dX12_constants_118 : decode cX12_constants 118 = .ok (.bipush 20, 2) := by decide +kernel
theorem dX12_constants_120 : decode cX12_constants 120 = .ok (.if_icmp .le 9, 3) := by decide +kernel
theorem dX12_constants_123 : decode cX12_constants 123 = .ok (.aload_n 0, 1) := by decide +kernel
theorem dX12_constants_124 : decode cX12_constants 124 = .ok (.iconst 2, 1) := by decide +kernel
theorem dX12_constants_125 : decode cX12_constants 125 = .ok (.iload_n 1, 1) := by decide +kernel
theorem dX12_constants_126 : decode cX12_constants 126 = .ok (.invokevirtual 255, 3) := by decide +kernel
theorem dX12_constants_129 : decode cX12_constants 129 = .ok (.iconst 1, 1) := by decide +kernel
theorem dX12_constants_130 : decode cX12_constants 130 = .ok (.istore_n 2, 1) := by decide +kernel
theorem dX12_constants_131 : decode cX12_constants 131 = .ok (.iload_n 2, 1) := by decide +kernel
theorem dX12_constants_132 : decode cX12_constants 132 = .ok (.aload_n 0, 1) := by decide +kernel
theorem dX12_constants_133 : decode cX12_constants 133 = .ok (.getfield 443, 3) := by decide +kernel
theorem dX12_constants_136 : decode cX12_constants 136 = .ok (.if_icmp .ge 84, 3) := by decide +kernel
theorem dX12_constants_139 : decode cX12_constants 139 = .ok (.aload_n 0, 1) := by decide +kernel
theorem dX12_constants_140 : decode cX12_constants 140 = .ok (.invokevirtual 245, 3) := by decide +kernel
theorem dX12_constants_143 : decode cX12_constants 143 = .ok (.ifCond .eq 77, 3) := by decide +kernel
theorem dX12_constants_146 : decode cX12_constants 146 = .ok (.aload_n 0, 1) := by decide +kernel
theorem dX12_constants_147 : decode cX12_constants 147 = .ok (.getfield 249, 3) := by decide +kernel
theorem dX12_constants_150 : decode cX12_constants 150 = .ok (.istore_n 1, 1) := by decide +kernel
theorem dX12_constants_151 : decode cX12_constants 151 = .ok (.aload_n 0, 1) := by decide +kernel
theorem dX12_constants_152 : decode cX12_constants 152 = .ok (.getfield 217, 3) := by decide +kernel
theorem dX12_constants_155 : decode cX12_constants 155 = .ok (.iload_n 2, 1) := by decide +kernel
theorem dX12_constants_156 : decode cX12_constants 156 = .ok (.aload_n 0, 1) := by decide +kernel
theorem dX12_constants_157 : decode cX12_constants 157 = .ok (.iconst 1, 1) := by decide +kernel
theorem dX12_constants_158 : decode cX12_constants 158 = .ok (.invokevirtual 273, 3) := by decide +kernel
theorem dX12_constants_161 : decode cX12_constants 161 = .ok (.l2i, 1) := by decide +kernel
theorem dX12_constants_162 : decode cX12_constants 162 = .ok (.iastore, 1) := by decide +kernel
theorem dX12_constants_163 : decode cX12_constants 163 = .ok (.iload_n 2, 1) := by decide +kernel
theorem dX12_constants_164 : decode cX12_constants 164 = .ok (.iconst 2, 1) := by decide +kernel
theorem dX12_constants_165 : decode cX12_constants 165 = .ok (.if_icmp .lt 8, 3) := by decide +kernel
theorem dX12_constants_168 : decode cX12_constants 168 = .ok (.iload_n 2, 1) := by decide +kernel
theorem dX12_constants_169 : decode cX12_constants 169 = .ok (.iconst 5, 1) := by decide +kernel
theorem dX12_constants_170 : decode cX12_constants 170 = .ok (.if_icmp .le 9, 3) := by decide +kernel
theorem dX12_constants_173 : decode cX12_constants 173 = .ok (.iload_n 2, 1) := by decide +kernel
theorem dX12_constants_174 : decode cX12_constants 174 = .ok (.bipush 9, 2) := by decide +kernel
theorem dX12_constants_176 : decode cX12_constants 176 = .ok (.if_icmp .ne 7, 3) := by decide +kernel
theorem dX12_constants_179 : decode cX12_constants 179 = .ok (.iconst 1, 1) := by decide +kernel
theorem dX12_constants_180 : decode cX12_constants 180 = .ok (.goto 4, 3) := by decide +kernel
theorem dX12_constants_183 : decode cX12_constants 183 = .ok (.iconst 0, 1) := by decide +kernel
theorem dX12_constants_184 : decode cX12_constants 184 = .ok (.istore_n 3, 1) := by decide +kernel
theorem dX12_constants_185 : decode cX12_constants 185 = .ok (.aload_n 0, 1) := by decide +kernel
theorem dX12_constants_186 : decode cX12_constants 186 = .ok (.invokevirtual 245, 3) := by decide +kernel
theorem dX12_constants_189 : decode cX12_constants 189 = .ok (.ifCond .eq 25, 3) := by decide +kernel
theorem dX12_constants_192 : decode cX12_constants 192 = .ok (.iload_n 2, 1) := by decide +kernel
theorem dX12_constants_193 : decode cX12_constants 193 = .ok (.bipush 10, 2) := by decide +kernel
theorem dX12_constants_195 : decode cX12_constants 195 = .ok (.if_icmp .ge 19, 3) := by decide +kernel
theorem dX12_constants_198 : decode cX12_constants 198 = .ok (.aload_n 0, 1) := by decide +kernel
theorem dX12_constants_199 : decode cX12_constants 199 = .ok (.getfield 217, 3) := by decide +kernel
theorem dX12_constants_202 : decode cX12_constants 202 = .ok (.iload_n 2, 1) := by decide +kernel
theorem dX12_constants_203 : decode cX12_constants 203 = .ok (.iaload, 1) := by decide +kernel
theorem dX12_constants_204 : decode cX12_constants 204 = .ok (.iload_n 3, 1) := by decide +kernel
theorem dX12_constants_205 : decode cX12_constants 205 = .ok (.if_icmp .eq 9, 3) := by decide +kernel
theorem dX12_constants_208 : decode cX12_constants 208 = .ok (.aload_n 0, 1) := by decide +kernel
theorem dX12_constants_209 : decode cX12_constants 209 = .ok (.iconst 2, 1) := by decide +kernel
theorem dX12_constants_210 : decode cX12_constants 210 = .ok (.iload_n 1, 1) := by decide +kernel
theorem dX12_constants_211 : decode cX12_constants 211 = .ok (.invokevirtual 255, 3) := by decide +kernel
theorem dX12_constants_214 : decode cX12_constants 214 = .ok (.iinc 2 1, 3) := by decide +kernel
theorem dX12_constants_217 : decode cX12_constants 217 = .ok (.goto (-86), 3) := by decide +kernel
theorem dX12_constants_220 : decode cX12_constants 220 = .ok (.return_, 1) := by decide +kernel
theorem dX12_directories_0 : decode cX12_directories 0 = .ok (.aload_n 0, 1) := by decide +kernel
theorem dX12_directories_1 : decode cX12_directories 1 = .ok (.iconst 1, 1) := by decide +kernel
theorem dX12_directories_2 : decode cX12_directories 2 = .ok (.iconst 1, 1) := by decide +kernel
theorem dX12_directories_3 : decode cX12_directories 3 = .ok (.invokevirtual 310, 3) := by decide +kernel
theorem dX12_directories_6 : decode cX12_directories 6 = .ok (.aload_n 0, 1) := by decide +kernel
theorem dX12_directories_7 : decode cX12_directories 7 = .ok (.iconst 1, 1) := by decide +kernel
theorem dX12_directories_8 : decode cX12_directories 8 = .ok (.invokevirtual 446, 3) := by decide +kernel
theorem dX12_directories_11 : decode cX12_directories 11 = .ok (.aload_n 0, 1) := by decide +kernel
theorem dX12_directories_12 : decode cX12_directories 12 = .ok (.bipush 8, 2) := by decide +kernel
theorem dX12_directories_14 : decode cX12_directories 14 = .ok (.invokevirtual 446, 3) := by decide +kernel
theorem dX12_directories_17 : decode cX12_directories 17 = .ok (.aload_n 0, 1) := by decide +kernel
theorem dX12_directories_18 : decode cX12_directories 18 = .ok (.invokevirtual 277, 3) := by decide +kernel
theorem dX12_directories_21 : decode cX12_directories 21 = .ok (.lstore_n 1, 1) := by decide +kernel
theorem dX12_directories_22 : decode cX12_directories 22 = .ok (.lconst 0, 1) := by decide +kernel
theorem dX12_directories_23 : decode cX12_directories 23 = .ok (.lstore_n 3, 1) := by decide +kernel
theorem dX12_directories_24 : decode cX12_directories 24 = .ok (.aload_n 0, 1) := by decide +kernel
theorem dX12_directories_25 : decode cX12_directories 25 = .ok (.invokevirtual 245, 3) := by decide +kernel
theorem dX12_directories_28 : decode cX12_directories 28 = .ok (.ifCond .eq 21, 3) := by decide +kernel
theorem dX12_directories_31 : decode cX12_directories 31 = .ok (.lload_n 3, 1) := by decide +kernel
theorem dX12_directories_32 : decode cX12_directories 32 = .ok (.lload_n 1, 1) := by decide +kernel
theorem dX12_directories_33 : decode cX12_directories 33 = .ok (.lcmp, 1) := by decide +kernel
theorem dX12_directories_34 : decode cX12_directories 34 = .ok (.ifCond .eq 15, 3) := by decide +kernel
theorem dX12_directories_37 : decode cX12_directories 37 = .ok (.aload_n 0, 1) := by decide +kernel
theorem dX12_directories_38 : decode cX12_directories 38 = .ok (.invokevirtual 370, 3) := by decide +kernel
theorem dX12_directories_41 : decode cX12_directories 41 = .ok (.pop, 1) := by decide +kernel
theorem dX12_directories_42 : decode cX12_directories 42 = .ok (.lload_n 3, 1) := by decide +kernel
theorem dX12_directories_43 : decode cX12_directories 43 = .ok (.lconst 1, 1) := by decide +kernel
theorem dX12_directories_44 : decode cX12_directories 44 = .ok (.ladd, 1) := by decide +kernel
theorem dX12_directories_45 : decode cX12_directories 45 = .ok (.lstore_n 3, 1) := by decide +kernel
theorem dX12_directories_46 : decode cX12_directories 46 = .ok (.goto (-22), 3) := by decide +kernel
theorem dX12_directories_49 : decode cX12_directories 49 = .ok (.lload_n 3, 1) := by decide +kernel
theorem dX12_directories_50 : decode cX12_directories 50 = .ok (.l2i, 1) := by decide +kernel
theorem dX12_directories_51 : decode cX12_directories 51 = .ok (.ireturn, 1) := by decide +kernel
theorem dX12_files_0 : decode cX12_files 0 = .ok (.aload_n 0, 1) := by decide +kernel
theorem dX12_files_1 : decode cX12_files 1 = .ok (.iconst 1, 1) := by decide +kernel
theorem dX12_files_2 : decode cX12_files 2 = .ok (.iconst 2, 1) := by decide +kernel
theorem dX12_files_3 : decode cX12_files 3 = .ok (.invokevirtual 310, 3) := by decide +kernel
theorem dX12_files_6 : decode cX12_files 6 = .ok (.aload_n 0, 1) := by decide +kernel
theorem dX12_files_7 : decode cX12_files 7 = .ok (.iconst 1, 1) := by decide +kernel
theorem dX12_files_8 : decode cX12_files 8 = .ok (.invokevirtual 446, 3) := by decide +kernel
theorem dX12_files_11 : decode cX12_files 11 = .ok (.aload_n 0, 1) := by decide +kernel
theorem dX12_files_12 : decode cX12_files 12 = .ok (.bipush 8, 2) := by decide +kernel
theorem dX12_files_14 : decode cX12_files 14 = .ok (.invokevirtual 446, 3) := by decide +kernel
theorem dX12_files_17 : decode cX12_files 17 = .ok (.aload_n 0, 1) := by decide +kernel
theorem dX12_files_18 : decode cX12_files 18 = .ok (.iconst 2, 1) := by decide +kernel
theorem dX12_files_19 : decode cX12_files 19 = .ok (.invokevirtual 446, 3) := by decide +kernel
theorem dX12_files_22 : decode cX12_files 22 = .ok (.aload_n 0, 1) := by decide +kernel
theorem dX12_files_23 : decode cX12_files 23 = .ok (.bipush 15, 2) := by decide +kernel
theorem dX12_files_25 : decode cX12_files 25 = .ok (.invokevirtual 446, 3) := by decide +kernel
theorem dX12_files_28 : decode cX12_files 28 = .ok (.aload_n 0, 1) := by decide +kernel
theorem dX12_files_29 : decode cX12_files 29 = .ok (.getfield 249, 3) := by decide +kernel
theorem dX12_files_32 : decode cX12_files 32 = .ok (.istore_n 3, 1) := by decide +kernel
theorem dX12_files_33 : decode cX12_files 33 = .ok (.aload_n 0, 1) := by decide +kernel
theorem dX12_files_34 : decode cX12_files 34 = .ok (.invokevirtual 277, 3) := by decide +kernel
theorem dX12_files_37 : decode cX12_files 37 = .ok (.lstore 4, 2) := by decide +kernel
theorem dX12_files_39 : decode cX12_files 39 = .ok (.aload_n 0, 1) := by decide +kernel
theorem dX12_files_40 : decode cX12_files 40 = .ok (.invokevirtual 245, 3) := by decide +kernel
theorem dX12_files_43 : decode cX12_files 43 = .ok (.ifCond .eq 35, 3) := by decide +kernel
theorem dX12_files_46 : decode cX12_files 46 = .ok (.lload 4, 2) := by decide +kernel
theorem dX12_files_48 : decode cX12_files 48 = .ok (.lconst 0, 1) := by decide +kernel
theorem dX12_files_49 : decode cX12_files 49 = .ok (.lcmp, 1) := by decide +kernel
theorem dX12_files_50 : decode cX12_files 50 = .ok (.ifCond .lt 22, 3) := by decide +kernel
theorem dX12_files_53 : decode cX12_files 53 = .ok (.lload 4, 2) := by decide +kernel
theorem dX12_files_55 : decode cX12_files 55 = .ok (.bipush 40, 2) := by decide +kernel
theorem dX12_files_57 : decode cX12_files 57 = .ok (.aload_n 0, 1) := by decide +kernel
theorem dX12_files_58 : decode cX12_files 58 = .ok (.getfield 41, 3) := by decide +kernel
theorem dX12_files_61 : decode cX12_files 61 = .ok (.aload_n 0, 1) := by decide +kernel
theorem dX12_files_62 : decode cX12_files 62 = .ok (.getfield 17, 3) := by decide +kernel
theorem dX12_files_65 : decode cX12_files 65 = .ok (.iaload, 1) := by decide +kernel
theorem dX12_files_66 : decode cX12_files 66 = .ok (.isub, 1) := by decide +kernel
theorem dX12_files_67 : decode cX12_files 67 = .ok (.i2l, 1) := by decide +kernel
theorem dX12_files_68 : decode cX12_files 68 = .ok (.lcmp, 1) := by decide +kernel
theorem dX12_files_69 : decode cX12_files 69 = .ok (.ifCond .le 9, 3) := by decide +kernel
theorem dX12_files_72 : decode cX12_files 72 = .ok (.aload_n 0, 1) := by decide +kernel
theorem dX12_files_73 : decode cX12_files 73 = .ok (.iconst 4, 1) := by decide +kernel
theorem dX12_files_74 : decode cX12_files 74 = .ok (.iload_n 3, 1) := by decide +kernel
theorem dX12_files_75 : decode cX12_files 75 = .ok (.invokevirtual 255, 3) := by decide +kernel
theorem dX12_files_78 : decode cX12_files 78 = .ok (.aload_n 0, 1) := by decide +kernel
theorem dX12_files_79 : decode cX12_files 79 = .ok (.getfield 84, 3) := by decide +kernel
theorem dX12_files_82 : decode cX12_files 82 = .ok (.bipush 20, 2) := by decide +kernel
theorem dX12_files_84 : decode cX12_files 84 = .ok (.aload_n 0, 1) := by decide +kernel
theorem dX12_files_85 : decode cX12_files 85 = .ok (.getfield 17, 3) := by decide +kernel
theorem dX12_files_88 : decode cX12_files 88 = .ok (.imul, 1) := by decide +kernel
theorem dX12_files_89 : decode cX12_files 89 = .ok (.iload_n 1, 1) := by decide +kernel
theorem dX12_files_90 : decode cX12_files 90 = .ok (.iadd, 1) := by decide +kernel
theorem dX12_files_91 : decode cX12_files 91 = .ok (.aload_n 0, 1) := by decide +kernel
theorem dX12_files_92 : decode cX12_files 92 = .ok (.getfield 41, 3) := by decide +kernel
theorem dX12_files_95 : decode cX12_files 95 = .ok (.aload_n 0, 1) := by decide +kernel
theorem dX12_files_96 : decode cX12_files 96 = .ok (.getfield 17, 3) := by decide +kernel
theorem dX12_files_99 : decode cX12_files 99 = .ok (.iaload, 1) := by decide +kernel
theorem dX12_files_100 : decode cX12_files 100 = .ok (.iastore, 1) := by decide +kernel
theorem dX12_files_101 : decode cX12_files 101 = .ok (.iconst 0, 1) := by decide +kernel
theorem dX12_files_102 : decode cX12_files 102 = .ok (.istore 6, 2) := by decide +kernel
theorem dX12_files_104 : decode cX12_files 104 = .ok (.iload 6, 2) := by decide +kernel
theorem dX12_files_106 : decode cX12_files 106 = .ok (.i2l, 1) := by decide +kernel
theorem dX12_files_107 : decode cX12_files 107 = .ok (.lload 4, 2) := by decide +kernel
theorem dX12_files_109 : decode cX12_files 109 = .ok (.lcmp, 1) := by decide +kernel
theorem dX12_files_110 : decode cX12_files 110 = .ok (.ifCond .ge 150, 3) := by decide +kernel
theorem dX12_files_113 : decode cX12_files 113 = .ok (.aload_n 0, 1) := by decide +kernel
theorem dX12_files_114 : decode cX12_files 114 = .ok (.invokevirtual 245, 3) := by decide +kernel
theorem dX12_files_117 : decode cX12_files 117 = .ok (.ifCond .eq 143, 3) := by decide +kernel
theorem dX12_files_120 : decode cX12_files 120 = .ok (.aload_n 0, 1) := by decide +kernel
theorem dX12_files_121 : decode cX12_files 121 = .ok (.getfield 249, 3) := by decide +kernel
theorem dX12_files_124 : decode cX12_files 124 = .ok (.istore 7, 2) := by decide +kernel
theorem dX12_files_126 : decode cX12_files 126 = .ok (.aload_n 0, 1) := by decide +kernel
theorem dX12_files_127 : decode cX12_files 127 = .ok (.invokevirtual 370, 3) := by decide +kernel
theorem dX12_files_130 : decode cX12_files 130 = .ok (.istore 8, 2) := by decide +kernel
theorem dX12_files_132 : decode cX12_files 132 = .ok (.aload_n 0, 1) := by decide +kernel
theorem dX12_files_133 : decode cX12_files 133 = .ok (.getfield 249, 3) := by decide +kernel
theorem dX12_files_136 : decode cX12_files 136 = .ok (.iload 8, 2) := by decide +kernel
theorem dX12_files_138 : decode cX12_files 138 = .ok (.isub, 1) := by decide +kernel
theorem dX12_files_139 : decode cX12_files 139 = .ok (.iconst 1, 1) := by decide +kernel
theorem dX12_files_140 : decode cX12_files 140 = .ok (.isub, 1) := by decide +kernel
theorem dX12_files_141 : decode cX12_files 141 = .ok (.istore 9, 2) := by decide +kernel
theorem dX12_files_143 : decode cX12_files 143 = .ok (.aload_n 0, 1) := by decide +kernel
theorem dX12_files_144 : decode cX12_files 144 = .ok (.invokevirtual 277, 3) := by decide +kernel
theorem dX12_files_147 : decode cX12_files 147 = .ok (.lstore 10, 2) := by decide +kernel
theorem dX12_files_149 : decode cX12_files 149 = .ok (.aload_n 0, 1) := by decide +kernel
theorem dX12_files_150 : decode cX12_files 150 = .ok (.invokevirtual 245, 3) := by decide +kernel
theorem dX12_files_153 : decode cX12_files 153 = .ok (.ifCond .eq 25, 3) := by decide +kernel
theorem dX12_files_156 : decode cX12_files 156 = .ok (.lload 10, 2) := by decide +kernel
theorem dX12_files_158 : decode cX12_files 158 = .ok (.lconst 0, 1) := by decide +kernel
theorem dX12_files_159 : decode cX12_files 159 = .ok (.lcmp, 1) := by decide +kernel
theorem dX12_files_160 : decode cX12_files 160 = .ok (.ifCond .lt 11, 3) := by decide +kernel
theorem dX12_files_163 : decode cX12_files 163 = .ok (.lload 10, 2) := by decide +kernel
theorem dX12_files_165 : decode cX12_files 165 = .ok (.iload_n 2, 1) := by decide +kernel
theorem dX12_files_166 : decode cX12_files 166 = .ok (.i2l, 1) := by decide +kernel
theorem dX12_files_167 : decode cX12_files 167 = .ok (.lcmp, 1) := by decide +kernel
theorem dX12_files_168 : decode cX12_files 168 = .ok (.ifCond .lt 10, 3) := by decide +kernel
theorem dX12_files_171 : decode cX12_files 171 = .ok (.aload_n 0, 1) := by decide +kernel
theorem dX12_files_172 : decode cX12_files 172 = .ok (.iconst 3, 1) := by decide +kernel
theorem dX12_files_173 : decode cX12_files 173 = .ok (.iload 7, 2) := by decide +kernel
theorem dX12_files_175 : decode cX12_files 175 = .ok (.invokevirtual 255, 3) := by decide +kernel
theorem dX12_files_178 : decode cX12_files 178 = .ok (.aload_n 0, 1) := by decide +kernel
theorem dX12_files_179 : decode cX12_files 179 = .ok (.invokevirtual 245, 3) := by decide +kernel
theorem dX12_files_182 : decode cX12_files 182 = .ok (.ifCond .ne 4, 3) := by decide +kernel
theorem dX12_files_185 : decode cX12_files 185 = .ok (.return_, 1) := by decide +kernel
theorem dX12_files_186 : decode cX12_files 186 = .ok (.bipush 40, 2) := by decide +kernel
theorem dX12_files_188 : decode cX12_files 188 = .ok (.aload_n 0, 1) := by decide +kernel
theorem dX12_files_189 : decode cX12_files 189 = .ok (.getfield 17, 3) := by decide +kernel
theorem dX12_files_192 : decode cX12_files 192 = .ok (.imul, 1) := by decide +kernel
theorem dX12_files_193 : decode cX12_files 193 = .ok (.aload_n 0, 1) := by decide +kernel
theorem dX12_files_194 : decode cX12_files 194 = .ok (.getfield 41, 3) := by decide +kernel
theorem dX12_files_197 : decode cX12_files 197 = .ok (.aload_n 0, 1) := by decide +kernel
theorem dX12_files_198 : decode cX12_files 198 = .ok (.getfield 17, 3) := by decide +kernel
theorem dX12_files_201 : decode cX12_files 201 = .ok (.iaload, 1) := by decide +kernel
theorem dX12_files_202 : decode cX12_files 202 = .ok (.iadd, 1) := by decide +kernel
theorem dX12_files_203 : decode cX12_files 203 = .ok (.istore 12, 2) := by decide +kernel
theorem dX12_files_205 : decode cX12_files 205 = .ok (.aload_n 0, 1) := by decide +kernel
theorem dX12_files_206 : decode cX12_files 206 = .ok (.getfield 211, 3) := by decide +kernel
theorem dX12_files_209 : decode cX12_files 209 = .ok (.iload 12, 2) := by decide +kernel
theorem dX12_files_211 : decode cX12_files 211 = .ok (.iload 8, 2) := by decide +kernel
theorem dX12_files_213 : decode cX12_files 213 = .ok (.iastore, 1) := by decide +kernel
theorem dX12_files_214 : decode cX12_files 214 = .ok (.aload_n 0, 1) := by decide +kernel
theorem dX12_files_215 : decode cX12_files 215 = .ok (.getfield 214, 3) := by decide +kernel
theorem dX12_files_218 : decode cX12_files 218 = .ok (.iload 12, 2) := by decide +kernel
theorem dX12_files_220 : decode cX12_files 220 = .ok (.iload 9, 2) := by decide +kernel
theorem dX12_files_222 : decode cX12_files 222 = .ok (.iastore, 1) := by decide +kernel
theorem dX12_files_223 : decode cX12_files 223 = .ok (.aload_n 0, 1) := by decide +kernel
theorem dX12_files_224 : decode cX12_files 224 = .ok (.getfield 41, 3) := by decide +kernel
theorem dX12_files_227 : decode cX12_files 227 = .ok (.aload_n 0, 1) := by decide +kernel
theorem dX12_files_228 : decode cX12_files 228 = .ok (.getfield 17, 3) := by decide +kernel
theorem dX12_files_231 : decode cX12_files 231 = .ok (.dup2, 1) := by decide +kernel
theorem dX12_files_232 : decode cX12_files 232 = .ok (.iaload, 1) := by decide +kernel
theorem dX12_files_233 : decode cX12_files 233 = .ok (.iconst 1, 1) := by decide +kernel
theorem dX12_files_234 : decode cX12_files 234 = .ok (.iadd, 1) := by decide +kernel
theorem dX12_files_235 : decode cX12_files 235 = .ok (.iastore, 1) := by decide +kernel
theorem dX12_files_236 : decode cX12_files 236 = .ok (.aload_n 0, 1) := by decide +kernel
theorem dX12_files_237 : decode cX12_files 237 = .ok (.getfield 87, 3) := by decide +kernel
theorem dX12_files_240 : decode cX12_files 240 = .ok (.bipush 20, 2) := by decide +kernel
theorem dX12_files_242 : decode cX12_files 242 = .ok (.aload_n 0, 1) := by decide +kernel
theorem dX12_files_243 : decode cX12_files 243 = .ok (.getfield 17, 3) := by decide +kernel
theorem dX12_files_246 : decode cX12_files 246 = .ok (.imul, 1) := by decide +kernel
theorem dX12_files_247 : decode cX12_files 247 = .ok (.iload_n 1, 1) := by decide +kernel
theorem dX12_files_248 : decode cX12_files 248 = .ok (.iadd, 1) := by decide +kernel
theorem dX12_files_249 : decode cX12_files 249 = .ok (.dup2, 1) := by decide +kernel
theorem dX12_files_250 : decode cX12_files 250 = .ok (.iaload, 1) := by decide +kernel
theorem dX12_files_251 : decode cX12_files 251 = .ok (.iconst 1, 1) := by decide +kernel
theorem dX12_files_252 : decode cX12_files 252 = .ok (.iadd, 1) := by decide +kernel
theorem dX12_files_253 : decode cX12_files 253 = .ok (.iastore, 1) := by decide +kernel
theorem dX12_files_254 : decode cX12_files 254 = .ok (.iinc 6 1, 3) := by decide +kernel
theorem dX12_files_257 : decode cX12_files 257 = .ok (.goto (-153), 3) := by decide +kernel
theorem dX12_files_260 : decode cX12_files 260 = .ok (.return_, 1) := by decide +kernel
theorem dX12_resets_0 : decode cX12_resets 0 = .ok (.aload_n 0, 1) := by decide +kernel
theorem dX12_resets_1 : decode cX12_resets 1 = .ok (.lconst 0, 1) := by decide +kernel
theorem dX12_resets_2 : decode cX12_resets 2 = .ok (.putfield 449, 3) := by decide +kernel
theorem dX12_resets_5 : decode cX12_resets 5 = .ok (.aload_n 0, 1) := by decide +kernel
theorem dX12_resets_6 : decode cX12_resets 6 = .ok (.lconst 1, 1) := by decide +kernel
theorem dX12_resets_7 : decode cX12_resets 7 = .ok (.putfield 453, 3) := by decide +kernel
theorem dX12_resets_10 : decode cX12_resets 10 = .ok (.aload_n 0, 1) := by decide +kernel
theorem dX12_resets_11 : decode cX12_resets 11 = .ok (.lconst 1, 1) := by decide +kernel
theorem dX12_resets_12 : decode cX12_resets 12 = .ok (.putfield 456, 3) := by decide +kernel
theorem dX12_resets_15 : decode cX12_resets 15 = .ok (.aload_n 0, 1) := by decide +kernel
theorem dX12_resets_16 : decode cX12_resets 16 = .ok (.iconst 0, 1) := by decide +kernel
theorem dX12_resets_17 : decode cX12_resets 17 = .ok (.putfield 459, 3) := by decide +kernel
theorem dX12_resets_20 : decode cX12_resets 20 = .ok (.return_, 1) := by decide +kernel
theorem dX12_comes_0 : decode cX12_comes 0 = .ok (.aload_n 0, 1) := by decide +kernel
theorem dX12_comes_1 : decode cX12_comes 1 = .ok (.invokevirtual 245, 3) := by decide +kernel
theorem dX12_comes_4 : decode cX12_comes 4 = .ok (.ifCond .ne 4, 3) := by decide +kernel
theorem dX12_comes_7 : decode cX12_comes 7 = .ok (.return_, 1) := by decide +kernel
theorem dX12_comes_8 : decode cX12_comes 8 = .ok (.aload_n 0, 1) := by decide +kernel
theorem dX12_comes_9 : decode cX12_comes 9 = .ok (.getfield 449, 3) := by decide +kernel
theorem dX12_comes_12 : decode cX12_comes 12 = .ok (.lconst 0, 1) := by decide +kernel
theorem dX12_comes_13 : decode cX12_comes 13 = .ok (.lcmp, 1) := by decide +kernel
theorem dX12_comes_14 : decode cX12_comes 14 = .ok (.ifCond .lt 66, 3) := by decide +kernel
theorem dX12_comes_17 : decode cX12_comes 17 = .ok (.aload_n 0, 1) := by decide +kernel
theorem dX12_comes_18 : decode cX12_comes 18 = .ok (.getfield 459, 3) := by decide +kernel
theorem dX12_comes_21 : decode cX12_comes 21 = .ok (.ifCond .eq 15, 3) := by decide +kernel
theorem dX12_comes_24 : decode cX12_comes 24 = .ok (.aload_n 0, 1) := by decide +kernel
theorem dX12_comes_25 : decode cX12_comes 25 = .ok (.getfield 449, 3) := by decide +kernel
theorem dX12_comes_28 : decode cX12_comes 28 = .ok (.aload_n 0, 1) := by decide +kernel
theorem dX12_comes_29 : decode cX12_comes 29 = .ok (.getfield 463, 3) := by decide +kernel
theorem dX12_comes_32 : decode cX12_comes 32 = .ok (.lcmp, 1) := by decide +kernel
theorem dX12_comes_33 : decode cX12_comes 33 = .ok (.ifCond .lt 47, 3) := by decide +kernel
theorem dX12_comes_36 : decode cX12_comes 36 = .ok (.aload_n 0, 1) := by decide +kernel
theorem dX12_comes_37 : decode cX12_comes 37 = .ok (.getfield 453, 3) := by decide +kernel
theorem dX12_comes_40 : decode cX12_comes 40 = .ok (.lconst 0, 1) := by decide +kernel
theorem dX12_comes_41 : decode cX12_comes 41 = .ok (.lcmp, 1) := by decide +kernel
theorem dX12_comes_42 : decode cX12_comes 42 = .ok (.ifCond .lt 38, 3) := by decide +kernel
theorem dX12_comes_45 : decode cX12_comes 45 = .ok (.aload_n 0, 1) := by decide +kernel
theorem dX12_comes_46 : decode cX12_comes 46 = .ok (.getfield 453, 3) := by decide +kernel
theorem dX12_comes_49 : decode cX12_comes 49 = .ok (.ldc2_w 466, 3) := by decide +kernel
theorem dX12_comes_52 : decode cX12_comes 52 = .ok (.lcmp, 1) := by decide +kernel
theorem dX12_comes_53 : decode cX12_comes 53 = .ok (.ifCond .gt 27, 3) := by decide +kernel
theorem dX12_comes_56 : decode cX12_comes 56 = .ok (.aload_n 0, 1) := by decide +kernel
theorem dX12_comes_57 : decode cX12_comes 57 = .ok (.getfield 456, 3) := by decide +kernel
theorem dX12_comes_60 : decode cX12_comes 60 = .ok (.lconst 0, 1) := by decide +kernel
theorem dX12_comes_61 : decode cX12_comes 61 = .ok (.lcmp, 1) := by decide +kernel
theorem dX12_comes_62 : decode cX12_comes 62 = .ok (.ifCond .lt 18, 3) := by decide +kernel
theorem dX12_comes_65 : decode cX12_comes 65 = .ok (.aload_n 0, 1) := by decide +kernel
theorem dX12_comes_66 : decode cX12_comes 66 = .ok (.getfield 456, 3) := by decide +kernel
theorem dX12_comes_69 : decode cX12_comes 69 = .ok (.ldc2_w 466, 3) := by decide +kernel
theorem dX12_comes_72 : decode cX12_comes 72 = .ok (.lcmp, 1) := by decide +kernel
theorem dX12_comes_73 : decode cX12_comes 73 = .ok (.ifCond .gt 7, 3) := by decide +kernel
theorem dX12_comes_76 : decode cX12_comes 76 = .ok (.iconst 1, 1) := by decide +kernel
theorem dX12_comes_77 : decode cX12_comes 77 = .ok (.goto 4, 3) := by decide +kernel
theorem dX12_comes_80 : decode cX12_comes 80 = .ok (.iconst 0, 1) := by decide +kernel
theorem dX12_comes_81 : decode cX12_comes 81 = .ok (.istore 4, 2) := by decide +kernel
theorem dX12_comes_83 : decode cX12_comes 83 = .ok (.iload 4, 2) := by decide +kernel
theorem dX12_comes_85 : decode cX12_comes 85 = .ok (.ifCond .ne 12, 3) := by decide +kernel
theorem dX12_comes_88 : decode cX12_comes 88 = .ok (.aload_n 0, 1) := by decide +kernel
theorem dX12_comes_89 : decode cX12_comes 89 = .ok (.iconst 2, 1) := by decide +kernel
theorem dX12_comes_90 : decode cX12_comes 90 = .ok (.iload_n 3, 1) := by decide +kernel
theorem dX12_comes_91 : decode cX12_comes 91 = .ok (.invokevirtual 255, 3) := by decide +kernel
theorem dX12_comes_94 : decode cX12_comes 94 = .ok (.goto 24, 3) := by decide +kernel
theorem dX12_comes_97 : decode cX12_comes 97 = .ok (.aload_n 0, 1) := by decide +kernel
theorem dX12_comes_98 : decode cX12_comes 98 = .ok (.getfield 38, 3) := by decide +kernel
theorem dX12_comes_101 : decode cX12_comes 101 = .ok (.aload_n 0, 1) := by decide +kernel
theorem dX12_comes_102 : decode cX12_comes 102 = .ok (.getfield 17, 3) := by decide +kernel
theorem dX12_comes_105 : decode cX12_comes 105 = .ok (.iaload, 1) := by decide +kernel
theorem dX12_comes_106 : decode cX12_comes 106 = .ok (.sipush 600, 3) := by decide +kernel
theorem dX12_comes_109 : decode cX12_comes 109 = .ok (.if_icmp .ne 9, 3) := by decide +kernel
theorem dX12_comes_112 : decode cX12_comes 112 = .ok (.aload_n 0, 1) := by decide +kernel
theorem dX12_comes_113 : decode cX12_comes 113 = .ok (.iconst 4, 1) := by decide +kernel
theorem dX12_comes_114 : decode cX12_comes 114 = .ok (.iload_n 3, 1) := by decide +kernel
theorem dX12_comes_115 : decode cX12_comes 115 = .ok (.invokevirtual 255, 3) := by decide +kernel
theorem dX12_comes_118 : decode cX12_comes 118 = .ok (.aload_n 0, 1) := by decide +kernel
theorem dX12_comes_119 : decode cX12_comes 119 = .ok (.invokevirtual 245, 3) := by decide +kernel
theorem dX12_comes_122 : decode cX12_comes 122 = .ok (.ifCond .ne 4, 3) := by decide +kernel
theorem dX12_comes_125 : decode cX12_comes 125 = .ok (.return_, 1) := by decide +kernel
theorem dX12_comes_126 : decode cX12_comes 126 = .ok (.sipush 600, 3) := by decide +kernel
theorem dX12_comes_129 : decode cX12_comes 129 = .ok (.aload_n 0, 1) := by decide +kernel
theorem dX12_comes_130 : decode cX12_comes 130 = .ok (.getfield 17, 3) := by decide +kernel
theorem dX12_comes_133 : decode cX12_comes 133 = .ok (.imul, 1) := by decide +kernel
theorem dX12_comes_134 : decode cX12_comes 134 = .ok (.aload_n 0, 1) := by decide +kernel
theorem dX12_comes_135 : decode cX12_comes 135 = .ok (.getfield 38, 3) := by decide +kernel
theorem dX12_comes_138 : decode cX12_comes 138 = .ok (.aload_n 0, 1) := by decide +kernel
theorem dX12_comes_139 : decode cX12_comes 139 = .ok (.getfield 17, 3) := by decide +kernel
theorem dX12_comes_142 : decode cX12_comes 142 = .ok (.iaload, 1) := by decide +kernel
theorem dX12_comes_143 : decode cX12_comes 143 = .ok (.iadd, 1) := by decide +kernel
theorem dX12_comes_144 : decode cX12_comes 144 = .ok (.istore 5, 2) := by decide +kernel
theorem dX12_comes_146 : decode cX12_comes 146 = .ok (.aload_n 0, 1) := by decide +kernel
theorem dX12_comes_147 : decode cX12_comes 147 = .ok (.getfield 196, 3) := by decide +kernel
theorem dX12_comes_150 : decode cX12_comes 150 = .ok (.iload 5, 2) := by decide +kernel
theorem dX12_comes_152 : decode cX12_comes 152 = .ok (.iload_n 1, 1) := by decide +kernel
theorem dX12_comes_153 : decode cX12_comes 153 = .ok (.iastore, 1) := by decide +kernel
theorem dX12_comes_154 : decode cX12_comes 154 = .ok (.aload_n 0, 1) := by decide +kernel
theorem dX12_comes_155 : decode cX12_comes 155 = .ok (.getfield 199, 3) := by decide +kernel
theorem dX12_comes_158 : decode cX12_comes 158 = .ok (.iload 5, 2) := by decide +kernel
theorem dX12_comes_160 : decode cX12_comes 160 = .ok (.aload_n 0, 1) := by decide +kernel
theorem dX12_comes_161 : decode cX12_comes 161 = .ok (.getfield 449, 3) := by decide +kernel
theorem dX12_comes_164 : decode cX12_comes 164 = .ok (.lastore, 1) := by decide +kernel
theorem dX12_comes_165 : decode cX12_comes 165 = .ok (.aload_n 0, 1) := by decide +kernel
theorem dX12_comes_166 : decode cX12_comes 166 = .ok (.getfield 202, 3) := by decide +kernel
theorem dX12_comes_169 : decode cX12_comes 169 = .ok (.iload 5, 2) := by decide +kernel
theorem dX12_comes_171 : decode cX12_comes 171 = .ok (.aload_n 0, 1) := by decide +kernel
theorem dX12_comes_172 : decode cX12_comes 172 = .ok (.getfield 453, 3) := by decide +kernel
theorem dX12_comes_175 : decode cX12_comes 175 = .ok (.l2i, 1) := by decide +kernel
theorem dX12_comes_176 : decode cX12_comes 176 = .ok (.iastore, 1) := by decide +kernel
theorem dX12_comes_177 : decode cX12_comes 177 = .ok (.aload_n 0, 1) := by decide +kernel
theorem dX12_comes_178 : decode cX12_comes 178 = .ok (.getfield 205, 3) := by decide +kernel
theorem dX12_comes_181 : decode cX12_comes 181 = .ok (.iload 5, 2) := by decide +kernel
theorem dX12_comes_183 : decode cX12_comes 183 = .ok (.aload_n 0, 1) := by decide +kernel
theorem dX12_comes_184 : decode cX12_comes 184 = .ok (.getfield 456, 3) := by decide +kernel
theorem dX12_comes_187 : decode cX12_comes 187 = .ok (.l2i, 1) := by decide +kernel
theorem dX12_comes_188 : decode cX12_comes 188 = .ok (.iastore, 1) := by decide +kernel
theorem dX12_comes_189 : decode cX12_comes 189 = .ok (.aload_n 0, 1) := by decide +kernel
theorem dX12_comes_190 : decode cX12_comes 190 = .ok (.getfield 208, 3) := by decide +kernel
theorem dX12_comes_193 : decode cX12_comes 193 = .ok (.iload 5, 2) := by decide +kernel
theorem dX12_comes_195 : decode cX12_comes 195 = .ok (.iload_n 2, 1) := by decide +kernel
theorem dX12_comes_196 : decode cX12_comes 196 = .ok (.bastore, 1) := by decide +kernel
theorem dX12_comes_197 : decode cX12_comes 197 = .ok (.aload_n 0, 1) := by decide +kernel
theorem dX12_comes_198 : decode cX12_comes 198 = .ok (.getfield 38, 3) := by decide +kernel
theorem dX12_comes_201 : decode cX12_comes 201 = .ok (.aload_n 0, 1) := by decide +kernel
theorem dX12_comes_202 : decode cX12_comes 202 = .ok (.getfield 17, 3) := by decide +kernel
theorem dX12_comes_205 : decode cX12_comes 205 = .ok (.dup2, 1) := by decide +kernel
theorem dX12_comes_206 : decode cX12_comes 206 = .ok (.iaload, 1) := by decide +kernel
theorem dX12_comes_207 : decode cX12_comes 207 = .ok (.iconst 1, 1) := by decide +kernel
theorem dX12_comes_208 : decode cX12_comes 208 = .ok (.iadd, 1) := by decide +kernel
theorem dX12_comes_209 : decode cX12_comes 209 = .ok (.iastore, 1) := by decide +kernel
theorem dX12_comes_210 : decode cX12_comes 210 = .ok (.aload_n 0, 1) := by decide +kernel
theorem dX12_comes_211 : decode cX12_comes 211 = .ok (.aload_n 0, 1) := by decide +kernel
theorem dX12_comes_212 : decode cX12_comes 212 = .ok (.getfield 449, 3) := by decide +kernel
theorem dX12_comes_215 : decode cX12_comes 215 = .ok (.putfield 463, 3) := by decide +kernel
theorem dX12_comes_218 : decode cX12_comes 218 = .ok (.aload_n 0, 1) := by decide +kernel
theorem dX12_comes_219 : decode cX12_comes 219 = .ok (.iconst 1, 1) := by decide +kernel
theorem dX12_comes_220 : decode cX12_comes 220 = .ok (.putfield 459, 3) := by decide +kernel
theorem dX12_comes_223 : decode cX12_comes 223 = .ok (.iload_n 2, 1) := by decide +kernel
theorem dX12_comes_224 : decode cX12_comes 224 = .ok (.ifCond .eq 7, 3) := by decide +kernel
theorem dX12_comes_227 : decode cX12_comes 227 = .ok (.aload_n 0, 1) := by decide +kernel
theorem dX12_comes_228 : decode cX12_comes 228 = .ok (.invokevirtual 468, 3) := by decide +kernel
theorem dX12_comes_231 : decode cX12_comes 231 = .ok (.return_, 1) := by decide +kernel
theorem dX12_runs_0 : decode cX12_runs 0 = .ok (.aload_n 0, 1) := by decide +kernel
theorem dX12_runs_1 : decode cX12_runs 1 = .ok (.iload_n 2, 1) := by decide +kernel
theorem dX12_runs_2 : decode cX12_runs 2 = .ok (.putfield 252, 3) := by decide +kernel
theorem dX12_runs_5 : decode cX12_runs 5 = .ok (.aload_n 0, 1) := by decide +kernel
theorem dX12_runs_6 : decode cX12_runs 6 = .ok (.invokevirtual 468, 3) := by decide +kernel
theorem dX12_runs_9 : decode cX12_runs 9 = .ok (.aload_n 0, 1) := by decide +kernel
theorem dX12_runs_10 : decode cX12_runs 10 = .ok (.invokevirtual 245, 3) := by decide +kernel
theorem dX12_runs_13 : decode cX12_runs 13 = .ok (.ifCond .eq 123, 3) := by decide +kernel
theorem dX12_runs_16 : decode cX12_runs 16 = .ok (.aload_n 0, 1) := by decide +kernel
theorem dX12_runs_17 : decode cX12_runs 17 = .ok (.getfield 249, 3) := by decide +kernel
theorem dX12_runs_20 : decode cX12_runs 20 = .ok (.iload_n 2, 1) := by decide +kernel
theorem dX12_runs_21 : decode cX12_runs 21 = .ok (.if_icmp .ge 115, 3) := by decide +kernel
theorem dX12_runs_24 : decode cX12_runs 24 = .ok (.aload_n 0, 1) := by decide +kernel
theorem dX12_runs_25 : decode cX12_runs 25 = .ok (.getfield 249, 3) := by decide +kernel
theorem dX12_runs_28 : decode cX12_runs 28 = .ok (.istore_n 3, 1) := by decide +kernel
theorem dX12_runs_29 : decode cX12_runs 29 = .ok (.aload_n 0, 1) := by decide +kernel
theorem dX12_runs_30 : decode cX12_runs 30 = .ok (.iconst 1, 1) := by decide +kernel
theorem dX12_runs_31 : decode cX12_runs 31 = .ok (.invokevirtual 273, 3) := by decide +kernel
theorem dX12_runs_34 : decode cX12_runs 34 = .ok (.l2i, 1) := by decide +kernel
theorem dX12_runs_35 : decode cX12_runs 35 = .ok (.istore 4, 2) := by decide +kernel
theorem dX12_runs_37 : decode cX12_runs 37 = .ok (.iload 4, 2) := by decide +kernel
theorem dX12_runs_39 : decode cX12_runs 39 = .ok (.aload_n 0, 1) := by decide +kernel
theorem dX12_runs_40 : decode cX12_runs 40 = .ok (.getfield 443, 3) := by decide +kernel
theorem dX12_runs_43 : decode cX12_runs 43 = .ok (.if_icmp .lt 67, 3) := by decide +kernel
theorem dX12_runs_46 : decode cX12_runs 46 = .ok (.iload 4, 2) := by decide +kernel
theorem dX12_runs_48 : decode cX12_runs 48 = .ok (.aload_n 0, 1) := by decide +kernel
theorem dX12_runs_49 : decode cX12_runs 49 = .ok (.getfield 443, 3) := by decide +kernel
theorem dX12_runs_52 : decode cX12_runs 52 = .ok (.isub, 1) := by decide +kernel
theorem dX12_runs_53 : decode cX12_runs 53 = .ok (.istore 5, 2) := by decide +kernel
theorem dX12_runs_55 : decode cX12_runs 55 = .ok (.aload_n 0, 1) := by decide +kernel
theorem dX12_runs_56 : decode cX12_runs 56 = .ok (.dup, 1) := by decide +kernel
theorem dX12_runs_57 : decode cX12_runs 57 = .ok (.getfield 449, 3) := by decide +kernel
theorem dX12_runs_60 : decode cX12_runs 60 = .ok (.aload_n 0, 1) := by decide +kernel
theorem dX12_runs_61 : decode cX12_runs 61 = .ok (.getfield 434, 3) := by decide +kernel
theorem dX12_runs_64 : decode cX12_runs 64 = .ok (.i2l, 1) := by decide +kernel
theorem dX12_runs_65 : decode cX12_runs 65 = .ok (.iload 5, 2) := by decide +kernel
theorem dX12_runs_67 : decode cX12_runs 67 = .ok (.aload_n 0, 1) := by decide +kernel
theorem dX12_runs_68 : decode cX12_runs 68 = .ok (.getfield 440, 3) := by decide +kernel
theorem dX12_runs_71 : decode cX12_runs 71 = .ok (.idiv, 1) := by decide +kernel
theorem dX12_runs_72 : decode cX12_runs 72 = .ok (.i2l, 1) := by decide +kernel
theorem dX12_runs_73 : decode cX12_runs 73 = .ok (.lmul, 1) := by decide +kernel
theorem dX12_runs_74 : decode cX12_runs 74 = .ok (.ladd, 1) := by decide +kernel
theorem dX12_runs_75 : decode cX12_runs 75 = .ok (.putfield 449, 3) := by decide +kernel
theorem dX12_runs_78 : decode cX12_runs 78 = .ok (.aload_n 0, 1) := by decide +kernel
theorem dX12_runs_79 : decode cX12_runs 79 = .ok (.dup, 1) := by decide +kernel
theorem dX12_runs_80 : decode cX12_runs 80 = .ok (.getfield 456, 3) := by decide +kernel
theorem dX12_runs_83 : decode cX12_runs 83 = .ok (.aload_n 0, 1) := by decide +kernel
theorem dX12_runs_84 : decode cX12_runs 84 = .ok (.getfield 437, 3) := by decide +kernel
theorem dX12_runs_87 : decode cX12_runs 87 = .ok (.iload 5, 2) := by decide +kernel
theorem dX12_runs_89 : decode cX12_runs 89 = .ok (.aload_n 0, 1) := by decide +kernel
theorem dX12_runs_90 : decode cX12_runs 90 = .ok (.getfield 440, 3) := by decide +kernel
theorem dX12_runs_93 : decode cX12_runs 93 = .ok (.irem, 1) := by decide +kernel
theorem dX12_runs_94 : decode cX12_runs 94 = .ok (.iadd, 1) := by decide +kernel
theorem dX12_runs_95 : decode cX12_runs 95 = .ok (.i2l, 1) := by decide +kernel
theorem dX12_runs_96 : decode cX12_runs 96 = .ok (.ladd, 1) := by decide +kernel
theorem dX12_runs_97 : decode cX12_runs 97 = .ok (.putfield 456, 3) := by decide +kernel
theorem dX12_runs_100 : decode cX12_runs 100 = .ok (.aload_n 0, 1) := by decide +kernel
theorem dX12_runs_101 : decode cX12_runs 101 = .ok (.iload_n 1, 1) := by decide +kernel
theorem dX12_runs_102 : decode cX12_runs 102 = .ok (.iconst 0, 1) := by decide +kernel
theorem dX12_runs_103 : decode cX12_runs 103 = .ok (.iload_n 3, 1) := by decide +kernel
theorem dX12_runs_104 : decode cX12_runs 104 = .ok (.invokevirtual 471, 3) := by decide +kernel
theorem dX12_runs_107 : decode cX12_runs 107 = .ok (.goto 26, 3) := by decide +kernel
theorem dX12_runs_110 : decode cX12_runs 110 = .ok (.iload 4, 2) := by decide +kernel
theorem dX12_runs_112 : decode cX12_runs 112 = .ok (.ifCond .ne 13, 3) := by decide +kernel
theorem dX12_runs_115 : decode cX12_runs 115 = .ok (.aload_n 0, 1) := by decide +kernel
theorem dX12_runs_116 : decode cX12_runs 116 = .ok (.iload_n 1, 1) := by decide +kernel
theorem dX12_runs_117 : decode cX12_runs 117 = .ok (.iload_n 3, 1) := by decide +kernel
theorem dX12_runs_118 : decode cX12_runs 118 = .ok (.iload_n 2, 1) := by decide +kernel
theorem dX12_runs_119 : decode cX12_runs 119 = .ok (.invokevirtual 475, 3) := by decide +kernel
theorem dX12_runs_122 : decode cX12_runs 122 = .ok (.goto 11, 3) := by decide +kernel
theorem dX12_runs_125 : decode cX12_runs 125 = .ok (.aload_n 0, 1) := by decide +kernel
theorem dX12_runs_126 : decode cX12_runs 126 = .ok (.iload_n 1, 1) := by decide +kernel
theorem dX12_runs_127 : decode cX12_runs 127 = .ok (.iload 4, 2) := by decide +kernel
theorem dX12_runs_129 : decode cX12_runs 129 = .ok (.iload_n 3, 1) := by decide +kernel
theorem dX12_runs_130 : decode cX12_runs 130 = .ok (.invokevirtual 478, 3) := by decide +kernel
theorem dX12_runs_133 : decode cX12_runs 133 = .ok (.goto (-124), 3) := by decide +kernel
theorem dX12_runs_136 : decode cX12_runs 136 = .ok (.aload_n 0, 1) := by decide +kernel
theorem dX12_runs_137 : decode cX12_runs 137 = .ok (.invokevirtual 245, 3) := by decide +kernel
theorem dX12_runs_140 : decode cX12_runs 140 = .ok (.ifCond .eq 16, 3) := by decide +kernel
theorem dX12_runs_143 : decode cX12_runs 143 = .ok (.aload_n 0, 1) := by decide +kernel
theorem dX12_runs_144 : decode cX12_runs 144 = .ok (.getfield 459, 3) := by decide +kernel
theorem dX12_runs_147 : decode cX12_runs 147 = .ok (.ifCond .eq 9, 3) := by decide +kernel
theorem dX12_runs_150 : decode cX12_runs 150 = .ok (.aload_n 0, 1) := by decide +kernel
theorem dX12_runs_151 : decode cX12_runs 151 = .ok (.iconst 1, 1) := by decide +kernel
theorem dX12_runs_152 : decode cX12_runs 152 = .ok (.iload_n 2, 1) := by decide +kernel
theorem dX12_runs_153 : decode cX12_runs 153 = .ok (.invokevirtual 255, 3) := by decide +kernel
theorem dX12_runs_156 : decode cX12_runs 156 = .ok (.return_, 1) := by decide +kernel
theorem dX12_extended_0 : decode cX12_extended 0 = .ok (.aload_n 0, 1) := by decide +kernel
theorem dX12_extended_1 : decode cX12_extended 1 = .ok (.invokevirtual 277, 3) := by decide +kernel
theorem dX12_extended_4 : decode cX12_extended 4 = .ok (.lstore 4, 2) := by decide +kernel
theorem dX12_extended_6 : decode cX12_extended 6 = .ok (.aload_n 0, 1) := by decide +kernel
theorem dX12_extended_7 : decode cX12_extended 7 = .ok (.invokevirtual 245, 3) := by decide +kernel
theorem dX12_extended_10 : decode cX12_extended 10 = .ok (.ifCond .eq 16, 3) := by decide +kernel
theorem dX12_extended_13 : decode cX12_extended 13 = .ok (.lload 4, 2) := by decide +kernel
theorem dX12_extended_15 : decode cX12_extended 15 = .ok (.lconst 0, 1) := by decide +kernel
theorem dX12_extended_16 : decode cX12_extended 16 = .ok (.lcmp, 1) := by decide +kernel
theorem dX12_extended_17 : decode cX12_extended 17 = .ok (.ifCond .ne 9, 3) := by decide +kernel
theorem dX12_extended_20 : decode cX12_extended 20 = .ok (.aload_n 0, 1) := by decide +kernel
theorem dX12_extended_21 : decode cX12_extended 21 = .ok (.iconst 2, 1) := by decide +kernel
theorem dX12_extended_22 : decode cX12_extended 22 = .ok (.iload_n 2, 1) := by decide +kernel
theorem dX12_extended_23 : decode cX12_extended 23 = .ok (.invokevirtual 255, 3) := by decide +kernel
theorem dX12_extended_26 : decode cX12_extended 26 = .ok (.aload_n 0, 1) := by decide +kernel
theorem dX12_extended_27 : decode cX12_extended 27 = .ok (.invokevirtual 245, 3) := by decide +kernel
theorem dX12_extended_30 : decode cX12_extended 30 = .ok (.ifCond .eq 29, 3) := by decide +kernel
theorem dX12_extended_33 : decode cX12_extended 33 = .ok (.lload 4, 2) := by decide +kernel
theorem dX12_extended_35 : decode cX12_extended 35 = .ok (.lconst 0, 1) := by decide +kernel
theorem dX12_extended_36 : decode cX12_extended 36 = .ok (.lcmp, 1) := by decide +kernel
theorem dX12_extended_37 : decode cX12_extended 37 = .ok (.ifCond .lt 16, 3) := by decide +kernel
theorem dX12_extended_40 : decode cX12_extended 40 = .ok (.lload 4, 2) := by decide +kernel
theorem dX12_extended_42 : decode cX12_extended 42 = .ok (.iload_n 3, 1) := by decide +kernel
theorem dX12_extended_43 : decode cX12_extended 43 = .ok (.aload_n 0, 1) := by decide +kernel
theorem dX12_extended_44 : decode cX12_extended 44 = .ok (.getfield 249, 3) := by decide +kernel
theorem dX12_extended_47 : decode cX12_extended 47 = .ok (.isub, 1) := by decide +kernel
theorem dX12_extended_48 : decode cX12_extended 48 = .ok (.i2l, 1) := by decide +kernel
theorem dX12_extended_49 : decode cX12_extended 49 = .ok (.lcmp, 1) := by decide +kernel
theorem dX12_extended_50 : decode cX12_extended 50 = .ok (.ifCond .le 9, 3) := by decide +kernel
theorem dX12_extended_53 : decode cX12_extended 53 = .ok (.aload_n 0, 1) := by decide +kernel
theorem dX12_extended_54 : decode cX12_extended 54 = .ok (.iconst 1, 1) := by decide +kernel
theorem dX12_extended_55 : decode cX12_extended 55 = .ok (.iload_n 2, 1) := by decide +kernel
theorem dX12_extended_56 : decode cX12_extended 56 = .ok (.invokevirtual 255, 3) := by decide +kernel
theorem dX12_extended_59 : decode cX12_extended 59 = .ok (.aload_n 0, 1) := by decide +kernel
theorem dX12_extended_60 : decode cX12_extended 60 = .ok (.invokevirtual 245, 3) := by decide +kernel
theorem dX12_extended_63 : decode cX12_extended 63 = .ok (.ifCond .ne 4, 3) := by decide +kernel
theorem dX12_extended_66 : decode cX12_extended 66 = .ok (.return_, 1) := by decide +kernel
theorem dX12_extended_67 : decode cX12_extended 67 = .ok (.aload_n 0, 1) := by decide +kernel
theorem dX12_extended_68 : decode cX12_extended 68 = .ok (.aload_n 0, 1) := by decide +kernel
theorem dX12_extended_69 : decode cX12_extended 69 = .ok (.getfield 249, 3) := by decide +kernel
theorem dX12_extended_72 : decode cX12_extended 72 = .ok (.invokevirtual 241, 3) := by decide +kernel
theorem dX12_extended_75 : decode cX12_extended 75 = .ok (.istore 6, 2) := by decide +kernel
theorem dX12_extended_77 : decode cX12_extended 77 = .ok (.aload_n 0, 1) := by decide +kernel
theorem dX12_extended_78 : decode cX12_extended 78 = .ok (.getfield 249, 3) := by decide +kernel
theorem dX12_extended_81 : decode cX12_extended 81 = .ok (.lload 4, 2) := by decide +kernel
theorem dX12_extended_83 : decode cX12_extended 83 = .ok (.l2i, 1) := by decide +kernel
theorem dX12_extended_84 : decode cX12_extended 84 = .ok (.iadd, 1) := by decide +kernel
theorem dX12_extended_85 : decode cX12_extended 85 = .ok (.istore 7, 2) := by decide +kernel
theorem dX12_extended_87 : decode cX12_extended 87 = .ok (.iload 6, 2) := by decide +kernel
theorem dX12_extended_89 : decode cX12_extended 89 = .ok (.iconst 1, 1) := by decide +kernel
theorem dX12_extended_90 : decode cX12_extended 90 = .ok (.if_icmp .ne 26, 3) := by decide +kernel
theorem dX12_extended_93 : decode cX12_extended 93 = .ok (.lload 4, 2) := by decide +kernel
theorem dX12_extended_95 : decode cX12_extended 95 = .ok (.lconst 1, 1) := by decide +kernel
theorem dX12_extended_96 : decode cX12_extended 96 = .ok (.lcmp, 1) := by decide +kernel
theorem dX12_extended_97 : decode cX12_extended 97 = .ok (.ifCond .eq 9, 3) := by decide +kernel
theorem dX12_extended_100 : decode cX12_extended 100 = .ok (.aload_n 0, 1) := by decide +kernel
theorem dX12_extended_101 : decode cX12_extended 101 = .ok (.iconst 2, 1) := by decide +kernel
theorem dX12_extended_102 : decode cX12_extended 102 = .ok (.iload_n 2, 1) := by decide +kernel
theorem dX12_extended_103 : decode cX12_extended 103 = .ok (.invokevirtual 255, 3) := by decide +kernel
theorem dX12_extended_106 : decode cX12_extended 106 = .ok (.aload_n 0, 1) := by decide +kernel
theorem dX12_extended_107 : decode cX12_extended 107 = .ok (.iload_n 1, 1) := by decide +kernel
theorem dX12_extended_108 : decode cX12_extended 108 = .ok (.iconst 1, 1) := by decide +kernel
theorem dX12_extended_109 : decode cX12_extended 109 = .ok (.iload_n 2, 1) := by decide +kernel
theorem dX12_extended_110 : decode cX12_extended 110 = .ok (.invokevirtual 471, 3) := by decide +kernel
theorem dX12_extended_113 : decode cX12_extended 113 = .ok (.goto 43, 3) := by decide +kernel
theorem dX12_extended_116 : decode cX12_extended 116 = .ok (.iload 6, 2) := by decide +kernel
theorem dX12_extended_118 : decode cX12_extended 118 = .ok (.iconst 2, 1) := by decide +kernel
theorem dX12_extended_119 : decode cX12_extended 119 = .ok (.if_icmp .ne 37, 3) := by decide +kernel
theorem dX12_extended_122 : decode cX12_extended 122 = .ok (.lload 4, 2) := by decide +kernel
theorem dX12_extended_124 : decode cX12_extended 124 = .ok (.ldc2_w 481, 3) := by decide +kernel
theorem dX12_extended_127 : decode cX12_extended 127 = .ok (.lcmp, 1) := by decide +kernel
theorem dX12_extended_128 : decode cX12_extended 128 = .ok (.ifCond .eq 12, 3) := by decide +kernel
theorem dX12_extended_131 : decode cX12_extended 131 = .ok (.aload_n 0, 1) := by decide +kernel
theorem dX12_extended_132 : decode cX12_extended 132 = .ok (.iconst 2, 1) := by decide +kernel
theorem dX12_extended_133 : decode cX12_extended 133 = .ok (.iload_n 2, 1) := by decide +kernel
theorem dX12_extended_134 : decode cX12_extended 134 = .ok (.invokevirtual 255, 3) := by decide +kernel
theorem dX12_extended_137 : decode cX12_extended 137 = .ok (.goto 19, 3) := by decide +kernel
theorem dX12_extended_140 : decode cX12_extended 140 = .ok (.aload_n 0, 1) := by decide +kernel
theorem dX12_extended_141 : decode cX12_extended 141 = .ok (.aload_n 0, 1) := by decide +kernel
theorem dX12_extended_142 : decode cX12_extended 142 = .ok (.aload_n 0, 1) := by decide +kernel
theorem dX12_extended_143 : decode cX12_extended 143 = .ok (.getfield 249, 3) := by decide +kernel
theorem dX12_extended_146 : decode cX12_extended 146 = .ok (.iconst 1, 1) := by decide +kernel
theorem dX12_extended_147 : decode cX12_extended 147 = .ok (.iadd, 1) := by decide +kernel
theorem dX12_extended_148 : decode cX12_extended 148 = .ok (.bipush 8, 2) := by decide +kernel
theorem dX12_extended_150 : decode cX12_extended 150 = .ok (.invokevirtual 259, 3) := by decide +kernel
theorem dX12_extended_153 : decode cX12_extended 153 = .ok (.putfield 449, 3) := by decide +kernel
theorem dX12_extended_156 : decode cX12_extended 156 = .ok (.aload_n 0, 1) := by decide +kernel
theorem dX12_extended_157 : decode cX12_extended 157 = .ok (.iload 7, 2) := by decide +kernel
theorem dX12_extended_159 : decode cX12_extended 159 = .ok (.putfield 249, 3) := by decide +kernel
theorem dX12_extended_162 : decode cX12_extended 162 = .ok (.return_, 1) := by decide +kernel
theorem dX12_standard_0 : decode cX12_standard 0 = .ok (.iload_n 2, 1) := by decide +kernel
theorem dX12_standard_1 : decode cX12_standard 1 = .ok (.tableswitch 171 1 9 #[51, 61, 83, 100, 111, 119, 119, 122, 154], 51) := by decide +kernel
theorem dX12_standard_52 : decode cX12_standard 52 = .ok (.aload_n 0, 1) := by decide +kernel
theorem dX12_standard_53 : decode cX12_standard 53 = .ok (.iload_n 1, 1) := by decide +kernel
theorem dX12_standard_54 : decode cX12_standard 54 = .ok (.iconst 0, 1) := by decide +kernel
theorem dX12_standard_55 : decode cX12_standard 55 = .ok (.iload_n 3, 1) := by decide +kernel
theorem dX12_standard_56 : decode cX12_standard 56 = .ok (.invokevirtual 471, 3) := by decide +kernel
theorem dX12_standard_59 : decode cX12_standard 59 = .ok (.goto 145, 3) := by decide +kernel
theorem dX12_standard_62 : decode cX12_standard 62 = .ok (.aload_n 0, 1) := by decide +kernel
theorem dX12_standard_63 : decode cX12_standard 63 = .ok (.dup, 1) := by decide +kernel
theorem dX12_standard_64 : decode cX12_standard 64 = .ok (.getfield 449, 3) := by decide +kernel
theorem dX12_standard_67 : decode cX12_standard 67 = .ok (.aload_n 0, 1) := by decide +kernel
theorem dX12_standard_68 : decode cX12_standard 68 = .ok (.getfield 434, 3) := by decide +kernel
theorem dX12_standard_71 : decode cX12_standard 71 = .ok (.i2l, 1) := by decide +kernel
theorem dX12_standard_72 : decode cX12_standard 72 = .ok (.aload_n 0, 1) := by decide +kernel
theorem dX12_standard_73 : decode cX12_standard 73 = .ok (.invokevirtual 277, 3) := by decide +kernel
theorem dX12_standard_76 : decode cX12_standard 76 = .ok (.lmul, 1) := by decide +kernel
theorem dX12_standard_77 : decode cX12_standard 77 = .ok (.ladd, 1) := by decide +kernel
theorem dX12_standard_78 : decode cX12_standard 78 = .ok (.putfield 449, 3) := by decide +kernel
theorem dX12_standard_81 : decode cX12_standard 81 = .ok (.goto 123, 3) := by decide +kernel
theorem dX12_standard_84 : decode cX12_standard 84 = .ok (.aload_n 0, 1) := by decide +kernel
theorem dX12_standard_85 : decode cX12_standard 85 = .ok (.dup, 1) := by decide +kernel
theorem dX12_standard_86 : decode cX12_standard 86 = .ok (.getfield 456, 3) := by decide +kernel
theorem dX12_standard_89 : decode cX12_standard 89 = .ok (.aload_n 0, 1) := by decide +kernel
theorem dX12_standard_90 : decode cX12_standard 90 = .ok (.iconst 1, 1) := by decide +kernel
theorem dX12_standard_91 : decode cX12_standard 91 = .ok (.invokevirtual 265, 3) := by decide +kernel
theorem dX12_standard_94 : decode cX12_standard 94 = .ok (.ladd, 1) := by decide +kernel
theorem dX12_standard_95 : decode cX12_standard 95 = .ok (.putfield 456, 3) := by decide +kernel
theorem dX12_standard_98 : decode cX12_standard 98 = .ok (.goto 106, 3) := by decide +kernel
theorem dX12_standard_101 : decode cX12_standard 101 = .ok (.aload_n 0, 1) := by decide +kernel
theorem dX12_standard_102 : decode cX12_standard 102 = .ok (.aload_n 0, 1) := by decide +kernel
theorem dX12_standard_103 : decode cX12_standard 103 = .ok (.invokevirtual 277, 3) := by decide +kernel
theorem dX12_standard_106 : decode cX12_standard 106 = .ok (.putfield 453, 3) := by decide +kernel
theorem dX12_standard_109 : decode cX12_standard 109 = .ok (.goto 95, 3) := by decide +kernel
theorem dX12_standard_112 : decode cX12_standard 112 = .ok (.aload_n 0, 1) := by decide +kernel
theorem dX12_standard_113 : decode cX12_standard 113 = .ok (.invokevirtual 277, 3) := by decide +kernel
theorem dX12_standard_116 : decode cX12_standard 116 = .ok (.pop2, 1) := by decide +kernel
theorem dX12_standard_117 : decode cX12_standard 117 = .ok (.goto 87, 3) := by decide +kernel
theorem dX12_standard_120 : decode cX12_standard 120 = .ok (.goto 84, 3) := by decide +kernel
theorem dX12_standard_123 : decode cX12_standard 123 = .ok (.aload_n 0, 1) := by decide +kernel
theorem dX12_standard_124 : decode cX12_standard 124 = .ok (.dup, 1) := by decide +kernel
theorem dX12_standard_125 : decode cX12_standard 125 = .ok (.getfield 449, 3) := by decide +kernel
theorem dX12_standard_128 : decode cX12_standard 128 = .ok (.aload_n 0, 1) := by decide +kernel
theorem dX12_standard_129 : decode cX12_standard 129 = .ok (.getfield 434, 3) := by decide +kernel
theorem dX12_standard_132 : decode cX12_standard 132 = .ok (.i2l, 1) := by decide +kernel
theorem dX12_standard_133 : decode cX12_standard 133 = .ok (.sipush 255, 3) := by decide +kernel
theorem dX12_standard_136 : decode cX12_standard 136 = .ok (.aload_n 0, 1) := by decide +kernel
theorem dX12_standard_137 : decode cX12_standard 137 = .ok (.getfield 443, 3) := by decide +kernel
theorem dX12_standard_140 : decode cX12_standard 140 = .ok (.isub, 1) := by decide +kernel
theorem dX12_standard_141 : decode cX12_standard 141 = .ok (.aload_n 0, 1) := by decide +kernel
theorem dX12_standard_142 : decode cX12_standard 142 = .ok (.getfield 440, 3) := by decide +kernel
theorem dX12_standard_145 : decode cX12_standard 145 = .ok (.idiv, 1) := by decide +kernel
theorem dX12_standard_146 : decode cX12_standard 146 = .ok (.i2l, 1) := by decide +kernel
theorem dX12_standard_147 : decode cX12_standard 147 = .ok (.lmul, 1) := by decide +kernel
theorem dX12_standard_148 : decode cX12_standard 148 = .ok (.ladd, 1) := by decide +kernel
theorem dX12_standard_149 : decode cX12_standard 149 = .ok (.putfield 449, 3) := by decide +kernel
theorem dX12_standard_152 : decode cX12_standard 152 = .ok (.goto 52, 3) := by decide +kernel
theorem dX12_standard_155 : decode cX12_standard 155 = .ok (.aload_n 0, 1) := by decide +kernel
theorem dX12_standard_156 : decode cX12_standard 156 = .ok (.dup, 1) := by decide +kernel
theorem dX12_standard_157 : decode cX12_standard 157 = .ok (.getfield 449, 3) := by decide +kernel
theorem dX12_standard_160 : decode cX12_standard 160 = .ok (.aload_n 0, 1) := by decide +kernel
theorem dX12_standard_161 : decode cX12_standard 161 = .ok (.iconst 2, 1) := by decide +kernel
theorem dX12_standard_162 : decode cX12_standard 162 = .ok (.invokevirtual 273, 3) := by decide +kernel
theorem dX12_standard_165 : decode cX12_standard 165 = .ok (.ladd, 1) := by decide +kernel
theorem dX12_standard_166 : decode cX12_standard 166 = .ok (.putfield 449, 3) := by decide +kernel
theorem dX12_standard_169 : decode cX12_standard 169 = .ok (.goto 35, 3) := by decide +kernel
theorem dX12_standard_172 : decode cX12_standard 172 = .ok (.iconst 0, 1) := by decide +kernel
theorem dX12_standard_173 : decode cX12_standard 173 = .ok (.istore 4, 2) := by decide +kernel
theorem dX12_standard_175 : decode cX12_standard 175 = .ok (.iload 4, 2) := by decide +kernel
theorem dX12_standard_177 : decode cX12_standard 177 = .ok (.aload_n 0, 1) := by decide +kernel
theorem dX12_standard_178 : decode cX12_standard 178 = .ok (.getfield 217, 3) := by decide +kernel
theorem dX12_standard_181 : decode cX12_standard 181 = .ok (.iload_n 2, 1) := by decide +kernel
theorem dX12_standard_182 : decode cX12_standard 182 = .ok (.iaload, 1) := by decide +kernel
theorem dX12_standard_183 : decode cX12_standard 183 = .ok (.if_icmp .ge 21, 3) := by decide +kernel
theorem dX12_standard_186 : decode cX12_standard 186 = .ok (.aload_n 0, 1) := by decide +kernel
theorem dX12_standard_187 : decode cX12_standard 187 = .ok (.invokevirtual 245, 3) := by decide +kernel
theorem dX12_standard_190 : decode cX12_standard 190 = .ok (.ifCond .eq 14, 3) := by decide +kernel
theorem dX12_standard_193 : decode cX12_standard 193 = .ok (.aload_n 0, 1) := by decide +kernel
theorem dX12_standard_194 : decode cX12_standard 194 = .ok (.invokevirtual 277, 3) := by decide +kernel
theorem dX12_standard_197 : decode cX12_standard 197 = .ok (.pop2, 1) := by decide +kernel
theorem dX12_standard_198 : decode cX12_standard 198 = .ok (.iinc 4 1, 3) := by decide +kernel
theorem dX12_standard_201 : decode cX12_standard 201 = .ok (.goto (-26), 3) := by decide +kernel
theorem dX12_standard_204 : decode cX12_standard 204 = .ok (.return_, 1) := by decide +kernel
theorem dX12_load_0 : decode cX12_load 0 = .ok (.aload_n 0, 1) := by decide +kernel
theorem dX12_load_1 : decode cX12_load 1 = .ok (.iconst 0, 1) := by decide +kernel
theorem dX12_load_2 : decode cX12_load 2 = .ok (.putfield 235, 3) := by decide +kernel
theorem dX12_load_5 : decode cX12_load 5 = .ok (.aload_n 0, 1) := by decide +kernel
theorem dX12_load_6 : decode cX12_load 6 = .ok (.iconst (-1), 1) := by decide +kernel
theorem dX12_load_7 : decode cX12_load 7 = .ok (.putfield 238, 3) := by decide +kernel
theorem dX12_load_10 : decode cX12_load 10 = .ok (.aload_n 0, 1) := by decide +kernel
theorem dX12_load_11 : decode cX12_load 11 = .ok (.aload_n 0, 1) := by decide +kernel
theorem dX12_load_12 : decode cX12_load 12 = .ok (.getfield 232, 3) := by decide +kernel
theorem dX12_load_15 : decode cX12_load 15 = .ok (.putfield 281, 3) := by decide +kernel
theorem dX12_load_18 : decode cX12_load 18 = .ok (.iconst 0, 1) := by decide +kernel
theorem dX12_load_19 : decode cX12_load 19 = .ok (.istore_n 1, 1) := by decide +kernel
theorem dX12_load_20 : decode cX12_load 20 = .ok (.iload_n 1, 1) := by decide +kernel
theorem dX12_load_21 : decode cX12_load 21 = .ok (.aload_n 0, 1) := by decide +kernel
theorem dX12_load_22 : decode cX12_load 22 = .ok (.getfield 232, 3) := by decide +kernel
theorem dX12_load_25 : decode cX12_load 25 = .ok (.if_icmp .ge 30, 3) := by decide +kernel
theorem dX12_load_28 : decode cX12_load 28 = .ok (.aload_n 0, 1) := by decide +kernel
theorem dX12_load_29 : decode cX12_load 29 = .ok (.getfield 20, 3) := by decide +kernel
theorem dX12_load_32 : decode cX12_load 32 = .ok (.sipush 8000, 3) := by decide +kernel
theorem dX12_load_35 : decode cX12_load 35 = .ok (.aload_n 0, 1) := by decide +kernel
theorem dX12_load_36 : decode cX12_load 36 = .ok (.getfield 17, 3) := by decide +kernel
theorem dX12_load_39 : decode cX12_load 39 = .ok (.imul, 1) := by decide +kernel
theorem dX12_load_40 : decode cX12_load 40 = .ok (.iload_n 1, 1) := by decide +kernel
theorem dX12_load_41 : decode cX12_load 41 = .ok (.iadd, 1) := by decide +kernel
theorem dX12_load_42 : decode cX12_load 42 = .ok (.aload_n 0, 1) := by decide +kernel
theorem dX12_load_43 : decode cX12_load 43 = .ok (.getfield 9, 3) := by decide +kernel
theorem dX12_load_46 : decode cX12_load 46 = .ok (.iload_n 1, 1) := by decide +kernel
theorem dX12_load_47 : decode cX12_load 47 = .ok (.iaload, 1) := by decide +kernel
theorem dX12_load_48 : decode cX12_load 48 = .ok (.iastore, 1) := by decide +kernel
theorem dX12_load_49 : decode cX12_load 49 = .ok (.iinc 1 1, 3) := by decide +kernel
theorem dX12_load_52 : decode cX12_load 52 = .ok (.goto (-32), 3) := by decide +kernel
theorem dX12_load_55 : decode cX12_load 55 = .ok (.aload_n 0, 1) := by decide +kernel
theorem dX12_load_56 : decode cX12_load 56 = .ok (.getfield 23, 3) := by decide +kernel
theorem dX12_load_59 : decode cX12_load 59 = .ok (.aload_n 0, 1) := by decide +kernel
theorem dX12_load_60 : decode cX12_load 60 = .ok (.getfield 17, 3) := by decide +kernel
theorem dX12_load_63 : decode cX12_load 63 = .ok (.iconst 0, 1) := by decide +kernel
theorem dX12_load_64 : decode cX12_load 64 = .ok (.iastore, 1) := by decide +kernel
theorem dX12_load_65 : decode cX12_load 65 = .ok (.aload_n 0, 1) := by decide +kernel
theorem dX12_load_66 : decode cX12_load 66 = .ok (.getfield 26, 3) := by decide +kernel
theorem dX12_load_69 : decode cX12_load 69 = .ok (.aload_n 0, 1) := by decide +kernel
theorem dX12_load_70 : decode cX12_load 70 = .ok (.getfield 17, 3) := by decide +kernel
theorem dX12_load_73 : decode cX12_load 73 = .ok (.iconst 0, 1) := by decide +kernel
theorem dX12_load_74 : decode cX12_load 74 = .ok (.iastore, 1) := by decide +kernel
theorem dX12_load_75 : decode cX12_load 75 = .ok (.aload_n 0, 1) := by decide +kernel
theorem dX12_load_76 : decode cX12_load 76 = .ok (.getfield 29, 3) := by decide +kernel
theorem dX12_load_79 : decode cX12_load 79 = .ok (.aload_n 0, 1) := by decide +kernel
theorem dX12_load_80 : decode cX12_load 80 = .ok (.getfield 17, 3) := by decide +kernel
theorem dX12_load_83 : decode cX12_load 83 = .ok (.iconst 0, 1) := by decide +kernel
theorem dX12_load_84 : decode cX12_load 84 = .ok (.iastore, 1) := by decide +kernel
theorem dX12_load_85 : decode cX12_load 85 = .ok (.aload_n 0, 1) := by decide +kernel
theorem dX12_load_86 : decode cX12_load 86 = .ok (.getfield 32, 3) := by decide +kernel
theorem dX12_load_89 : decode cX12_load 89 = .ok (.aload_n 0, 1) := by decide +kernel
theorem dX12_load_90 : decode cX12_load 90 = .ok (.getfield 17, 3) := by decide +kernel
theorem dX12_load_93 : decode cX12_load 93 = .ok (.iconst 0, 1) := by decide +kernel
theorem dX12_load_94 : decode cX12_load 94 = .ok (.iastore, 1) := by decide +kernel
theorem dX12_load_95 : decode cX12_load 95 = .ok (.aload_n 0, 1) := by decide +kernel
theorem dX12_load_96 : decode cX12_load 96 = .ok (.getfield 35, 3) := by decide +kernel
theorem dX12_load_99 : decode cX12_load 99 = .ok (.aload_n 0, 1) := by decide +kernel
theorem dX12_load_100 : decode cX12_load 100 = .ok (.getfield 17, 3) := by decide +kernel
theorem dX12_load_103 : decode cX12_load 103 = .ok (.iconst 0, 1) := by decide +kernel
theorem dX12_load_104 : decode cX12_load 104 = .ok (.iastore, 1) := by decide +kernel
theorem dX12_load_105 : decode cX12_load 105 = .ok (.aload_n 0, 1) := by decide +kernel
theorem dX12_load_106 : decode cX12_load 106 = .ok (.getfield 38, 3) := by decide +kernel
theorem dX12_load_109 : decode cX12_load 109 = .ok (.aload_n 0, 1) := by decide +kernel
theorem dX12_load_110 : decode cX12_load 110 = .ok (.getfield 17, 3) := by decide +kernel
theorem dX12_load_113 : decode cX12_load 113 = .ok (.iconst 0, 1) := by decide +kernel
theorem dX12_load_114 : decode cX12_load 114 = .ok (.iastore, 1) := by decide +kernel
theorem dX12_load_115 : decode cX12_load 115 = .ok (.aload_n 0, 1) := by decide +kernel
theorem dX12_load_116 : decode cX12_load 116 = .ok (.getfield 41, 3) := by decide +kernel
theorem dX12_load_119 : decode cX12_load 119 = .ok (.aload_n 0, 1) := by decide +kernel
theorem dX12_load_120 : decode cX12_load 120 = .ok (.getfield 17, 3) := by decide +kernel
theorem dX12_load_123 : decode cX12_load 123 = .ok (.iconst 0, 1) := by decide +kernel
theorem dX12_load_124 : decode cX12_load 124 = .ok (.iastore, 1) := by decide +kernel
theorem dX12_load_125 : decode cX12_load 125 = .ok (.aload_n 0, 1) := by decide +kernel
theorem dX12_load_126 : decode cX12_load 126 = .ok (.invokevirtual 483, 3) := by decide +kernel
theorem dX12_load_129 : decode cX12_load 129 = .ok (.aload_n 0, 1) := by decide +kernel
theorem dX12_load_130 : decode cX12_load 130 = .ok (.invokevirtual 245, 3) := by decide +kernel
theorem dX12_load_133 : decode cX12_load 133 = .ok (.ifCond .eq 7, 3) := by decide +kernel
theorem dX12_load_136 : decode cX12_load 136 = .ok (.aload_n 0, 1) := by decide +kernel
theorem dX12_load_137 : decode cX12_load 137 = .ok (.invokevirtual 486, 3) := by decide +kernel
theorem dX12_load_140 : decode cX12_load 140 = .ok (.aload_n 0, 1) := by decide +kernel
theorem dX12_load_141 : decode cX12_load 141 = .ok (.invokevirtual 245, 3) := by decide +kernel
theorem dX12_load_144 : decode cX12_load 144 = .ok (.ifCond .eq 7, 3) := by decide +kernel
theorem dX12_load_147 : decode cX12_load 147 = .ok (.aload_n 0, 1) := by decide +kernel
theorem dX12_load_148 : decode cX12_load 148 = .ok (.invokevirtual 489, 3) := by decide +kernel
theorem dX12_load_151 : decode cX12_load 151 = .ok (.aload_n 0, 1) := by decide +kernel
theorem dX12_load_152 : decode cX12_load 152 = .ok (.invokevirtual 245, 3) := by decide +kernel
theorem dX12_load_155 : decode cX12_load 155 = .ok (.ifCond .eq 7, 3) := by decide +kernel
theorem dX12_load_158 : decode cX12_load 158 = .ok (.aload_n 0, 1) := by decide +kernel
theorem dX12_load_159 : decode cX12_load 159 = .ok (.invokevirtual 492, 3) := by decide +kernel
theorem dX12_load_162 : decode cX12_load 162 = .ok (.aload_n 0, 1) := by decide +kernel
theorem dX12_load_163 : decode cX12_load 163 = .ok (.invokevirtual 245, 3) := by decide +kernel
theorem dX12_load_166 : decode cX12_load 166 = .ok (.ifCond .eq 7, 3) := by decide +kernel
theorem dX12_load_169 : decode cX12_load 169 = .ok (.aload_n 0, 1) := by decide +kernel
theorem dX12_load_170 : decode cX12_load 170 = .ok (.invokevirtual 495, 3) := by decide +kernel
theorem dX12_load_173 : decode cX12_load 173 = .ok (.aload_n 0, 1) := by decide +kernel
theorem dX12_load_174 : decode cX12_load 174 = .ok (.aload_n 0, 1) := by decide +kernel
theorem dX12_load_175 : decode cX12_load 175 = .ok (.getfield 235, 3) := by decide +kernel
theorem dX12_load_178 : decode cX12_load 178 = .ok (.putfield 498, 3) := by decide +kernel
theorem dX12_load_181 : decode cX12_load 181 = .ok (.aload_n 0, 1) := by decide +kernel
theorem dX12_load_182 : decode cX12_load 182 = .ok (.aload_n 0, 1) := by decide +kernel
theorem dX12_load_183 : decode cX12_load 183 = .ok (.getfield 238, 3) := by decide +kernel
theorem dX12_load_186 : decode cX12_load 186 = .ok (.putfield 13, 3) := by decide +kernel
theorem dX12_load_189 : decode cX12_load 189 = .ok (.aload_n 0, 1) := by decide +kernel
theorem dX12_load_190 : decode cX12_load 190 = .ok (.invokevirtual 245, 3) := by decide +kernel
theorem dX12_load_193 : decode cX12_load 193 = .ok (.ifCond .ne 5, 3) := by decide +kernel
theorem dX12_load_196 : decode cX12_load 196 = .ok (.iconst (-1), 1) := by decide +kernel
theorem dX12_load_197 : decode cX12_load 197 = .ok (.ireturn, 1) := by decide +kernel
theorem dX12_load_198 : decode cX12_load 198 = .ok (.aload_n 0, 1) := by decide +kernel
theorem dX12_load_199 : decode cX12_load 199 = .ok (.aload_n 0, 1) := by decide +kernel
theorem dX12_load_200 : decode cX12_load 200 = .ok (.getfield 17, 3) := by decide +kernel
theorem dX12_load_203 : decode cX12_load 203 = .ok (.putfield 501, 3) := by decide +kernel
theorem dX12_load_206 : decode cX12_load 206 = .ok (.aload_n 0, 1) := by decide +kernel
theorem dX12_load_207 : decode cX12_load 207 = .ok (.iconst 1, 1) := by decide +kernel
theorem dX12_load_208 : decode cX12_load 208 = .ok (.aload_n 0, 1) := by decide +kernel
theorem dX12_load_209 : decode cX12_load 209 = .ok (.getfield 17, 3) := by decide +kernel
theorem dX12_load_212 : decode cX12_load 212 = .ok (.isub, 1) := by decide +kernel
theorem dX12_load_213 : decode cX12_load 213 = .ok (.putfield 17, 3) := by decide +kernel
theorem dX12_load_216 : decode cX12_load 216 = .ok (.aload_n 0, 1) := by decide +kernel
theorem dX12_load_217 : decode cX12_load 217 = .ok (.iconst 0, 1) := by decide +kernel
theorem dX12_load_218 : decode cX12_load 218 = .ok (.putfield 504, 3) := by decide +kernel
theorem dX12_load_221 : decode cX12_load 221 = .ok (.aload_n 0, 1) := by decide +kernel
theorem dX12_load_222 : decode cX12_load 222 = .ok (.iconst (-1), 1) := by decide +kernel
theorem dX12_load_223 : decode cX12_load 223 = .ok (.putfield 229, 3) := by decide +kernel
theorem dX12_load_226 : decode cX12_load 226 = .ok (.aload_n 0, 1) := by decide +kernel
theorem dX12_load_227 : decode cX12_load 227 = .ok (.getfield 32, 3) := by decide +kernel
theorem dX12_load_230 : decode cX12_load 230 = .ok (.aload_n 0, 1) := by decide +kernel
theorem dX12_load_231 : decode cX12_load 231 = .ok (.getfield 501, 3) := by decide +kernel
theorem dX12_load_234 : decode cX12_load 234 = .ok (.iaload, 1) := by decide +kernel
theorem dX12_load_235 : decode cX12_load 235 = .ok (.ireturn, 1) := by decide +kernel
theorem dX12_fault_0 : decode cX12_fault 0 = .ok (.iload_n 1, 1) := by decide +kernel
theorem dX12_fault_1 : decode cX12_fault 1 = .ok (.ifCond .ne 10, 3) := by decide +kernel
theorem dX12_fault_4 : decode cX12_fault 4 = .ok (.aload_n 0, 1) := by decide +kernel
theorem dX12_fault_5 : decode cX12_fault 5 = .ok (.getfield 498, 3) := by decide +kernel
theorem dX12_fault_8 : decode cX12_fault 8 = .ok (.goto 16, 3) := by decide +kernel
theorem dX12_fault_11 : decode cX12_fault 11 = .ok (.iload_n 1, 1) := by decide +kernel
theorem dX12_fault_12 : decode cX12_fault 12 = .ok (.iconst 1, 1) := by decide +kernel
theorem dX12_fault_13 : decode cX12_fault 13 = .ok (.if_icmp .ne 10, 3) := by decide +kernel
theorem dX12_fault_16 : decode cX12_fault 16 = .ok (.aload_n 0, 1) := by decide +kernel
theorem dX12_fault_17 : decode cX12_fault 17 = .ok (.getfield 13, 3) := by decide +kernel
theorem dX12_fault_20 : decode cX12_fault 20 = .ok (.goto 4, 3) := by decide +kernel
theorem dX12_fault_23 : decode cX12_fault 23 = .ok (.iconst (-1), 1) := by decide +kernel
theorem dX12_fault_24 : decode cX12_fault 24 = .ok (.ireturn, 1) := by decide +kernel
theorem dX12_isEntry_0 : decode cX12_isEntry 0 = .ok (.iload_n 1, 1) := by decide +kernel
theorem dX12_isEntry_1 : decode cX12_isEntry 1 = .ok (.ifCond .lt 20, 3) := by decide +kernel
theorem dX12_isEntry_4 : decode cX12_isEntry 4 = .ok (.iload_n 1, 1) := by decide +kernel
theorem dX12_isEntry_5 : decode cX12_isEntry 5 = .ok (.aload_n 0, 1) := by decide +kernel
theorem dX12_isEntry_6 : decode cX12_isEntry 6 = .ok (.getfield 32, 3) := by decide +kernel
theorem dX12_isEntry_9 : decode cX12_isEntry 9 = .ok (.aload_n 0, 1) := by decide +kernel
theorem dX12_isEntry_10 : decode cX12_isEntry 10 = .ok (.getfield 501, 3) := by decide +kernel
theorem dX12_isEntry_13 : decode cX12_isEntry 13 = .ok (.iaload, 1) := by decide +kernel
theorem dX12_isEntry_14 : decode cX12_isEntry 14 = .ok (.if_icmp .ge 7, 3) := by decide +kernel
theorem dX12_isEntry_17 : decode cX12_isEntry 17 = .ok (.iconst 1, 1) := by decide +kernel
theorem dX12_isEntry_18 : decode cX12_isEntry 18 = .ok (.goto 4, 3) := by decide +kernel
theorem dX12_isEntry_21 : decode cX12_isEntry 21 = .ok (.iconst 0, 1) := by decide +kernel
theorem dX12_isEntry_22 : decode cX12_isEntry 22 = .ok (.ireturn, 1) := by decide +kernel
theorem dX12_named_0 : decode cX12_named 0 = .ok (.iload_n 1, 1) := by decide +kernel
theorem dX12_named_1 : decode cX12_named 1 = .ok (.istore_n 2, 1) := by decide +kernel
theorem dX12_named_2 : decode cX12_named 2 = .ok (.iconst 0, 1) := by decide +kernel
theorem dX12_named_3 : decode cX12_named 3 = .ok (.istore_n 3, 1) := by decide +kernel
theorem dX12_named_4 : decode cX12_named 4 = .ok (.iload_n 3, 1) := by decide +kernel
theorem dX12_named_5 : decode cX12_named 5 = .ok (.bipush 8, 2) := by decide +kernel
theorem dX12_named_7 : decode cX12_named 7 = .ok (.if_icmp .gt 51, 3) := by decide +kernel
theorem dX12_named_10 : decode cX12_named 10 = .ok (.iload_n 2, 1) := by decide +kernel
theorem dX12_named_11 : decode cX12_named 11 = .ok (.iconst (-1), 1) := by decide +kernel
theorem dX12_named_12 : decode cX12_named 12 = .ok (.if_icmp .eq 46, 3) := by decide +kernel
theorem dX12_named_15 : decode cX12_named 15 = .ok (.aload_n 0, 1) := by decide +kernel
theorem dX12_named_16 : decode cX12_named 16 = .ok (.getfield 136, 3) := by decide +kernel
theorem dX12_named_19 : decode cX12_named 19 = .ok (.sipush 400, 3) := by decide +kernel
theorem dX12_named_22 : decode cX12_named 22 = .ok (.aload_n 0, 1) := by decide +kernel
theorem dX12_named_23 : decode cX12_named 23 = .ok (.getfield 501, 3) := by decide +kernel
theorem dX12_named_26 : decode cX12_named 26 = .ok (.imul, 1) := by decide +kernel
theorem dX12_named_27 : decode cX12_named 27 = .ok (.iload_n 2, 1) := by decide +kernel
theorem dX12_named_28 : decode cX12_named 28 = .ok (.iadd, 1) := by decide +kernel
theorem dX12_named_29 : decode cX12_named 29 = .ok (.iaload, 1) := by decide +kernel
theorem dX12_named_30 : decode cX12_named 30 = .ok (.iconst (-1), 1) := by decide +kernel
theorem dX12_named_31 : decode cX12_named 31 = .ok (.if_icmp .eq 5, 3) := by decide +kernel
theorem dX12_named_34 : decode cX12_named 34 = .ok (.iload_n 2, 1) := by decide +kernel
theorem dX12_named_35 : decode cX12_named 35 = .ok (.ireturn, 1) := by decide +kernel
theorem dX12_named_36 : decode cX12_named 36 = .ok (.aload_n 0, 1) := by decide +kernel
theorem dX12_named_37 : decode cX12_named 37 = .ok (.getfield 127, 3) := by decide +kernel
theorem dX12_named_40 : decode cX12_named 40 = .ok (.sipush 400, 3) := by decide +kernel
theorem dX12_named_43 : decode cX12_named 43 = .ok (.aload_n 0, 1) := by decide +kernel
theorem dX12_named_44 : decode cX12_named 44 = .ok (.getfield 501, 3) := by decide +kernel
theorem dX12_named_47 : decode cX12_named 47 = .ok (.imul, 1) := by decide +kernel
theorem dX12_named_48 : decode cX12_named 48 = .ok (.iload_n 2, 1) := by decide +kernel
theorem dX12_named_49 : decode cX12_named 49 = .ok (.iadd, 1) := by decide +kernel
theorem dX12_named_50 : decode cX12_named 50 = .ok (.iaload, 1) := by decide +kernel
theorem dX12_named_51 : decode cX12_named 51 = .ok (.istore_n 2, 1) := by decide +kernel
theorem dX12_named_52 : decode cX12_named 52 = .ok (.iinc 3 1, 3) := by decide +kernel
theorem dX12_named_55 : decode cX12_named 55 = .ok (.goto (-51), 3) := by decide +kernel
theorem dX12_named_58 : decode cX12_named 58 = .ok (.iconst (-1), 1) := by decide +kernel
theorem dX12_named_59 : decode cX12_named 59 = .ok (.ireturn, 1) := by decide +kernel
theorem dX12_signsOf_0 : decode cX12_signsOf 0 = .ok (.aload_n 0, 1) := by decide +kernel
theorem dX12_signsOf_1 : decode cX12_signsOf 1 = .ok (.iload_n 1, 1) := by decide +kernel
theorem dX12_signsOf_2 : decode cX12_signsOf 2 = .ok (.invokevirtual 507, 3) := by decide +kernel
theorem dX12_signsOf_5 : decode cX12_signsOf 5 = .ok (.istore_n 2, 1) := by decide +kernel
theorem dX12_signsOf_6 : decode cX12_signsOf 6 = .ok (.iload_n 2, 1) := by decide +kernel
theorem dX12_signsOf_7 : decode cX12_signsOf 7 = .ok (.iconst (-1), 1) := by decide +kernel
theorem dX12_signsOf_8 : decode cX12_signsOf 8 = .ok (.if_icmp .ne 7, 3) := by decide +kernel
theorem dX12_signsOf_11 : decode cX12_signsOf 11 = .ok (.iconst (-1), 1) := by decide +kernel
theorem dX12_signsOf_12 : decode cX12_signsOf 12 = .ok (.goto 18, 3) := by decide +kernel
theorem dX12_signsOf_15 : decode cX12_signsOf 15 = .ok (.aload_n 0, 1) := by decide +kernel
theorem dX12_signsOf_16 : decode cX12_signsOf 16 = .ok (.getfield 136, 3) := by decide +kernel
theorem dX12_signsOf_19 : decode cX12_signsOf 19 = .ok (.sipush 400, 3) := by decide +kernel
theorem dX12_signsOf_22 : decode cX12_signsOf 22 = .ok (.aload_n 0, 1) := by decide +kernel
theorem dX12_signsOf_23 : decode cX12_signsOf 23 = .ok (.getfield 501, 3) := by decide +kernel
theorem dX12_signsOf_26 : decode cX12_signsOf 26 = .ok (.imul, 1) := by decide +kernel
theorem dX12_signsOf_27 : decode cX12_signsOf 27 = .ok (.iload_n 2, 1) := by decide +kernel
theorem dX12_signsOf_28 : decode cX12_signsOf 28 = .ok (.iadd, 1) := by decide +kernel
theorem dX12_signsOf_29 : decode cX12_signsOf 29 = .ok (.iaload, 1) := by decide +kernel
theorem dX12_signsOf_30 : decode cX12_signsOf 30 = .ok (.ireturn, 1) := by decide +kernel
theorem dX12_rangesOf_0 : decode cX12_rangesOf 0 = .ok (.iconst 0, 1) := by decide +kernel
theorem dX12_rangesOf_1 : decode cX12_rangesOf 1 = .ok (.istore_n 2, 1) := by decide +kernel
theorem dX12_rangesOf_2 : decode cX12_rangesOf 2 = .ok (.iconst 0, 1) := by decide +kernel
theorem dX12_rangesOf_3 : decode cX12_rangesOf 3 = .ok (.istore_n 3, 1) := by decide +kernel
theorem dX12_rangesOf_4 : decode cX12_rangesOf 4 = .ok (.iload_n 3, 1) := by decide +kernel
theorem dX12_rangesOf_5 : decode cX12_rangesOf 5 = .ok (.aload_n 0, 1) := by decide +kernel
theorem dX12_rangesOf_6 : decode cX12_rangesOf 6 = .ok (.getfield 35, 3) := by decide +kernel
theorem dX12_rangesOf_9 : decode cX12_rangesOf 9 = .ok (.aload_n 0, 1) := by decide +kernel
theorem dX12_rangesOf_10 : decode cX12_rangesOf 10 = .ok (.getfield 501, 3) := by decide +kernel
theorem dX12_rangesOf_13 : decode cX12_rangesOf 13 = .ok (.iaload, 1) := by decide +kernel
theorem dX12_rangesOf_14 : decode cX12_rangesOf 14 = .ok (.if_icmp .ge 36, 3) := by decide +kernel
theorem dX12_rangesOf_17 : decode cX12_rangesOf 17 = .ok (.iload_n 2, 1) := by decide +kernel
theorem dX12_rangesOf_18 : decode cX12_rangesOf 18 = .ok (.aload_n 0, 1) := by decide +kernel
theorem dX12_rangesOf_19 : decode cX12_rangesOf 19 = .ok (.getfield 187, 3) := by decide +kernel
theorem dX12_rangesOf_22 : decode cX12_rangesOf 22 = .ok (.sipush 200, 3) := by decide +kernel
theorem dX12_rangesOf_25 : decode cX12_rangesOf 25 = .ok (.aload_n 0, 1) := by decide +kernel
theorem dX12_rangesOf_26 : decode cX12_rangesOf 26 = .ok (.getfield 501, 3) := by decide +kernel
theorem dX12_rangesOf_29 : decode cX12_rangesOf 29 = .ok (.imul, 1) := by decide +kernel
theorem dX12_rangesOf_30 : decode cX12_rangesOf 30 = .ok (.iload_n 3, 1) := by decide +kernel
theorem dX12_rangesOf_31 : decode cX12_rangesOf 31 = .ok (.iadd, 1) := by decide +kernel
theorem dX12_rangesOf_32 : decode cX12_rangesOf 32 = .ok (.iaload, 1) := by decide +kernel
theorem dX12_rangesOf_33 : decode cX12_rangesOf 33 = .ok (.iload_n 1, 1) := by decide +kernel
theorem dX12_rangesOf_34 : decode cX12_rangesOf 34 = .ok (.if_icmp .ne 7, 3) := by decide +kernel
theorem dX12_rangesOf_37 : decode cX12_rangesOf 37 = .ok (.iconst 1, 1) := by decide +kernel
theorem dX12_rangesOf_38 : decode cX12_rangesOf 38 = .ok (.goto 4, 3) := by decide +kernel
theorem dX12_rangesOf_41 : decode cX12_rangesOf 41 = .ok (.iconst 0, 1) := by decide +kernel
theorem dX12_rangesOf_42 : decode cX12_rangesOf 42 = .ok (.iadd, 1) := by decide +kernel
theorem dX12_rangesOf_43 : decode cX12_rangesOf 43 = .ok (.istore_n 2, 1) := by decide +kernel
theorem dX12_rangesOf_44 : decode cX12_rangesOf 44 = .ok (.iinc 3 1, 3) := by decide +kernel
theorem dX12_rangesOf_47 : decode cX12_rangesOf 47 = .ok (.goto (-43), 3) := by decide +kernel
theorem dX12_rangesOf_50 : decode cX12_rangesOf 50 = .ok (.iload_n 2, 1) := by decide +kernel
theorem dX12_rangesOf_51 : decode cX12_rangesOf 51 = .ok (.ireturn, 1) := by decide +kernel
theorem dX12_entry_0 : decode cX12_entry 0 = .ok (.aload_n 0, 1) := by decide +kernel
theorem dX12_entry_1 : decode cX12_entry 1 = .ok (.iload_n 1, 1) := by decide +kernel
theorem dX12_entry_2 : decode cX12_entry 2 = .ok (.invokevirtual 510, 3) := by decide +kernel
theorem dX12_entry_5 : decode cX12_entry 5 = .ok (.ifCond .ne 5, 3) := by decide +kernel
theorem dX12_entry_8 : decode cX12_entry 8 = .ok (.iconst (-1), 1) := by decide +kernel
theorem dX12_entry_9 : decode cX12_entry 9 = .ok (.ireturn, 1) := by decide +kernel
theorem dX12_entry_10 : decode cX12_entry 10 = .ok (.sipush 400, 3) := by decide +kernel
theorem dX12_entry_13 : decode cX12_entry 13 = .ok (.aload_n 0, 1) := by decide +kernel
theorem dX12_entry_14 : decode cX12_entry 14 = .ok (.getfield 501, 3) := by decide +kernel
theorem dX12_entry_17 : decode cX12_entry 17 = .ok (.imul, 1) := by decide +kernel
theorem dX12_entry_18 : decode cX12_entry 18 = .ok (.iload_n 1, 1) := by decide +kernel
theorem dX12_entry_19 : decode cX12_entry 19 = .ok (.iadd, 1) := by decide +kernel
theorem dX12_entry_20 : decode cX12_entry 20 = .ok (.istore_n 3, 1) := by decide +kernel
theorem dX12_entry_21 : decode cX12_entry 21 = .ok (.iload_n 2, 1) := by decide +kernel
theorem dX12_entry_22 : decode cX12_entry 22 = .ok (.tableswitch 138 0 8 #[50, 58, 65, 72, 79, 85, 92, 98, 118], 50) := by decide +kernel
theorem dX12_entry_72 : decode cX12_entry 72 = .ok (.aload_n 0, 1) := by decide +kernel
theorem dX12_entry_73 : decode cX12_entry 73 = .ok (.getfield 118, 3) := by decide +kernel
theorem dX12_entry_76 : decode cX12_entry 76 = .ok (.iload_n 3, 1) := by decide +kernel
theorem dX12_entry_77 : decode cX12_entry 77 = .ok (.laload, 1) := by decide +kernel
theorem dX12_entry_78 : decode cX12_entry 78 = .ok (.l2i, 1) := by decide +kernel
theorem dX12_entry_79 : decode cX12_entry 79 = .ok (.ireturn, 1) := by decide +kernel
theorem dX12_entry_80 : decode cX12_entry 80 = .ok (.aload_n 0, 1) := by decide +kernel
theorem dX12_entry_81 : decode cX12_entry 81 = .ok (.getfield 121, 3) := by decide +kernel
theorem dX12_entry_84 : decode cX12_entry 84 = .ok (.iload_n 3, 1) := by decide +kernel
theorem dX12_entry_85 : decode cX12_entry 85 = .ok (.iaload, 1) := by decide +kernel
theorem dX12_entry_86 : decode cX12_entry 86 = .ok (.ireturn, 1) := by decide +kernel
theorem dX12_entry_87 : decode cX12_entry 87 = .ok (.aload_n 0, 1) := by decide +kernel
theorem dX12_entry_88 : decode cX12_entry 88 = .ok (.getfield 124, 3) := by decide +kernel
theorem dX12_entry_91 : decode cX12_entry 91 = .ok (.iload_n 3, 1) := by decide +kernel
theorem dX12_entry_92 : decode cX12_entry 92 = .ok (.iaload, 1) := by decide +kernel
theorem dX12_entry_93 : decode cX12_entry 93 = .ok (.ireturn, 1) := by decide +kernel
theorem dX12_entry_94 : decode cX12_entry 94 = .ok (.aload_n 0, 1) := by decide +kernel
theorem dX12_entry_95 : decode cX12_entry 95 = .ok (.getfield 127, 3) := by decide +kernel
theorem dX12_entry_98 : decode cX12_entry 98 = .ok (.iload_n 3, 1) := by decide +kernel
theorem dX12_entry_99 : decode cX12_entry 99 = .ok (.iaload, 1) := by decide +kernel
theorem dX12_entry_100 : decode cX12_entry 100 = .ok (.ireturn, 1) := by decide +kernel
theorem dX12_entry_101 : decode cX12_entry 101 = .ok (.aload_n 0, 1) := by decide +kernel
theorem dX12_entry_102 : decode cX12_entry 102 = .ok (.iload_n 1, 1) := by decide +kernel
theorem dX12_entry_103 : decode cX12_entry 103 = .ok (.invokevirtual 514, 3) := by decide +kernel
theorem dX12_entry_106 : decode cX12_entry 106 = .ok (.ireturn, 1) := by decide +kernel
theorem dX12_entry_107 : decode cX12_entry 107 = .ok (.aload_n 0, 1) := by decide +kernel
theorem dX12_entry_108 : decode cX12_entry 108 = .ok (.getfield 130, 3) := by decide +kernel
theorem dX12_entry_111 : decode cX12_entry 111 = .ok (.iload_n 3, 1) := by decide +kernel
theorem dX12_entry_112 : decode cX12_entry 112 = .ok (.iaload, 1) := by decide +kernel
theorem dX12_entry_113 : decode cX12_entry 113 = .ok (.ireturn, 1) := by decide +kernel
theorem dX12_entry_114 : decode cX12_entry 114 = .ok (.aload_n 0, 1) := by decide +kernel
theorem dX12_entry_115 : decode cX12_entry 115 = .ok (.iload_n 1, 1) := by decide +kernel
theorem dX12_entry_116 : decode cX12_entry 116 = .ok (.invokevirtual 517, 3) := by decide +kernel
theorem dX12_entry_119 : decode cX12_entry 119 = .ok (.ireturn, 1) := by decide +kernel
theorem dX12_entry_120 : decode cX12_entry 120 = .ok (.aload_n 0, 1) := by decide +kernel
theorem dX12_entry_121 : decode cX12_entry 121 = .ok (.getfield 145, 3) := by decide +kernel
theorem dX12_entry_124 : decode cX12_entry 124 = .ok (.iload_n 3, 1) := by decide +kernel
theorem dX12_entry_125 : decode cX12_entry 125 = .ok (.baload, 1) := by decide +kernel
theorem dX12_entry_126 : decode cX12_entry 126 = .ok (.ifCond .eq 12, 3) := by decide +kernel
theorem dX12_entry_129 : decode cX12_entry 129 = .ok (.aload_n 0, 1) := by decide +kernel
theorem dX12_entry_130 : decode cX12_entry 130 = .ok (.getfield 139, 3) := by decide +kernel
theorem dX12_entry_133 : decode cX12_entry 133 = .ok (.iload_n 3, 1) := by decide +kernel
theorem dX12_entry_134 : decode cX12_entry 134 = .ok (.iaload, 1) := by decide +kernel
theorem dX12_entry_135 : decode cX12_entry 135 = .ok (.goto 4, 3) := by decide +kernel
theorem dX12_entry_138 : decode cX12_entry 138 = .ok (.iconst (-1), 1) := by decide +kernel
theorem dX12_entry_139 : decode cX12_entry 139 = .ok (.ireturn, 1) := by decide +kernel
theorem dX12_entry_140 : decode cX12_entry 140 = .ok (.aload_n 0, 1) := by decide +kernel
theorem dX12_entry_141 : decode cX12_entry 141 = .ok (.getfield 148, 3) := by decide +kernel
theorem dX12_entry_144 : decode cX12_entry 144 = .ok (.iload_n 3, 1) := by decide +kernel
theorem dX12_entry_145 : decode cX12_entry 145 = .ok (.baload, 1) := by decide +kernel
theorem dX12_entry_146 : decode cX12_entry 146 = .ok (.ifCond .eq 12, 3) := by decide +kernel
theorem dX12_entry_149 : decode cX12_entry 149 = .ok (.aload_n 0, 1) := by decide +kernel
theorem dX12_entry_150 : decode cX12_entry 150 = .ok (.getfield 142, 3) := by decide +kernel
theorem dX12_entry_153 : decode cX12_entry 153 = .ok (.iload_n 3, 1) := by decide +kernel
theorem dX12_entry_154 : decode cX12_entry 154 = .ok (.iaload, 1) := by decide +kernel
theorem dX12_entry_155 : decode cX12_entry 155 = .ok (.goto 4, 3) := by decide +kernel
theorem dX12_entry_158 : decode cX12_entry 158 = .ok (.iconst (-1), 1) := by decide +kernel
theorem dX12_entry_159 : decode cX12_entry 159 = .ok (.ireturn, 1) := by decide +kernel
theorem dX12_entry_160 : decode cX12_entry 160 = .ok (.iconst (-1), 1) := by decide +kernel
theorem dX12_entry_161 : decode cX12_entry 161 = .ok (.ireturn, 1) := by decide +kernel
theorem dX12_holds_0 : decode cX12_holds 0 = .ok (.iconst 0, 1) := by decide +kernel
theorem dX12_holds_1 : decode cX12_holds 1 = .ok (.istore 4, 2) := by decide +kernel
theorem dX12_holds_3 : decode cX12_holds 3 = .ok (.sipush 200, 3) := by decide +kernel
theorem dX12_holds_6 : decode cX12_holds 6 = .ok (.aload_n 0, 1) := by decide +kernel
theorem dX12_holds_7 : decode cX12_holds 7 = .ok (.getfield 501, 3) := by decide +kernel
theorem dX12_holds_10 : decode cX12_holds 10 = .ok (.imul, 1) := by decide +kernel
theorem dX12_holds_11 : decode cX12_holds 11 = .ok (.istore 5, 2) := by decide +kernel
theorem dX12_holds_13 : decode cX12_holds 13 = .ok (.iload 5, 2) := by decide +kernel
theorem dX12_holds_15 : decode cX12_holds 15 = .ok (.sipush 200, 3) := by decide +kernel
theorem dX12_holds_18 : decode cX12_holds 18 = .ok (.aload_n 0, 1) := by decide +kernel
theorem dX12_holds_19 : decode cX12_holds 19 = .ok (.getfield 501, 3) := by decide +kernel
theorem dX12_holds_22 : decode cX12_holds 22 = .ok (.imul, 1) := by decide +kernel
theorem dX12_holds_23 : decode cX12_holds 23 = .ok (.aload_n 0, 1) := by decide +kernel
theorem dX12_holds_24 : decode cX12_holds 24 = .ok (.getfield 35, 3) := by decide +kernel
theorem dX12_holds_27 : decode cX12_holds 27 = .ok (.aload_n 0, 1) := by decide +kernel
theorem dX12_holds_28 : decode cX12_holds 28 = .ok (.getfield 501, 3) := by decide +kernel
theorem dX12_holds_31 : decode cX12_holds 31 = .ok (.iaload, 1) := by decide +kernel
theorem dX12_holds_32 : decode cX12_holds 32 = .ok (.iadd, 1) := by decide +kernel
theorem dX12_holds_33 : decode cX12_holds 33 = .ok (.if_icmp .ge 64, 3) := by decide +kernel
theorem dX12_holds_36 : decode cX12_holds 36 = .ok (.aload_n 0, 1) := by decide +kernel
theorem dX12_holds_37 : decode cX12_holds 37 = .ok (.iload_n 1, 1) := by decide +kernel
theorem dX12_holds_38 : decode cX12_holds 38 = .ok (.invokevirtual 510, 3) := by decide +kernel
theorem dX12_holds_41 : decode cX12_holds 41 = .ok (.ifCond .eq 56, 3) := by decide +kernel
theorem dX12_holds_44 : decode cX12_holds 44 = .ok (.iload 4, 2) := by decide +kernel
theorem dX12_holds_46 : decode cX12_holds 46 = .ok (.ifCond .ne 38, 3) := by decide +kernel
theorem dX12_holds_49 : decode cX12_holds 49 = .ok (.aload_n 0, 1) := by decide +kernel
theorem dX12_holds_50 : decode cX12_holds 50 = .ok (.getfield 187, 3) := by decide +kernel
theorem dX12_holds_53 : decode cX12_holds 53 = .ok (.iload 5, 2) := by decide +kernel
theorem dX12_holds_55 : decode cX12_holds 55 = .ok (.iaload, 1) := by decide +kernel
theorem dX12_holds_56 : decode cX12_holds 56 = .ok (.iload_n 1, 1) := by decide +kernel
theorem dX12_holds_57 : decode cX12_holds 57 = .ok (.if_icmp .ne 31, 3) := by decide +kernel
theorem dX12_holds_60 : decode cX12_holds 60 = .ok (.lload_n 2, 1) := by decide +kernel
theorem dX12_holds_61 : decode cX12_holds 61 = .ok (.aload_n 0, 1) := by decide +kernel
theorem dX12_holds_62 : decode cX12_holds 62 = .ok (.getfield 190, 3) := by decide +kernel
theorem dX12_holds_65 : decode cX12_holds 65 = .ok (.iload 5, 2) := by decide +kernel
theorem dX12_holds_67 : decode cX12_holds 67 = .ok (.laload, 1) := by decide +kernel
theorem dX12_holds_68 : decode cX12_holds 68 = .ok (.lcmp, 1) := by decide +kernel
theorem dX12_holds_69 : decode cX12_holds 69 = .ok (.ifCond .lt 19, 3) := by decide +kernel
theorem dX12_holds_72 : decode cX12_holds 72 = .ok (.lload_n 2, 1) := by decide +kernel
theorem dX12_holds_73 : decode cX12_holds 73 = .ok (.aload_n 0, 1) := by decide +kernel
theorem dX12_holds_74 : decode cX12_holds 74 = .ok (.getfield 193, 3) := by decide +kernel
theorem dX12_holds_77 : decode cX12_holds 77 = .ok (.iload 5, 2) := by decide +kernel
theorem dX12_holds_79 : decode cX12_holds 79 = .ok (.laload, 1) := by decide +kernel
theorem dX12_holds_80 : decode cX12_holds 80 = .ok (.lcmp, 1) := by decide +kernel
theorem dX12_holds_81 : decode cX12_holds 81 = .ok (.ifCond .ge 7, 3) := by decide +kernel
theorem dX12_holds_84 : decode cX12_holds 84 = .ok (.iconst 1, 1) := by decide +kernel
theorem dX12_holds_85 : decode cX12_holds 85 = .ok (.goto 4, 3) := by decide +kernel
theorem dX12_holds_88 : decode cX12_holds 88 = .ok (.iconst 0, 1) := by decide +kernel
theorem dX12_holds_89 : decode cX12_holds 89 = .ok (.istore 4, 2) := by decide +kernel
theorem dX12_holds_91 : decode cX12_holds 91 = .ok (.iinc 5 1, 3) := by decide +kernel
theorem dX12_holds_94 : decode cX12_holds 94 = .ok (.goto (-81), 3) := by decide +kernel
theorem dX12_holds_97 : decode cX12_holds 97 = .ok (.iload 4, 2) := by decide +kernel
theorem dX12_holds_99 : decode cX12_holds 99 = .ok (.ireturn, 1) := by decide +kernel
theorem dX12_row_0 : decode cX12_row 0 = .ok (.iload_n 1, 1) := by decide +kernel
theorem dX12_row_1 : decode cX12_row 1 = .ok (.ifCond .lt 16, 3) := by decide +kernel
theorem dX12_row_4 : decode cX12_row 4 = .ok (.iload_n 1, 1) := by decide +kernel
theorem dX12_row_5 : decode cX12_row 5 = .ok (.aload_n 0, 1) := by decide +kernel
theorem dX12_row_6 : decode cX12_row 6 = .ok (.getfield 38, 3) := by decide +kernel
theorem dX12_row_9 : decode cX12_row 9 = .ok (.aload_n 0, 1) := by decide +kernel
theorem dX12_row_10 : decode cX12_row 10 = .ok (.getfield 501, 3) := by decide +kernel
theorem dX12_row_13 : decode cX12_row 13 = .ok (.iaload, 1) := by decide +kernel
theorem dX12_row_14 : decode cX12_row 14 = .ok (.if_icmp .lt 5, 3) := by decide +kernel
theorem dX12_row_17 : decode cX12_row 17 = .ok (.iconst (-1), 1) := by decide +kernel
theorem dX12_row_18 : decode cX12_row 18 = .ok (.ireturn, 1) := by decide +kernel
theorem dX12_row_19 : decode cX12_row 19 = .ok (.sipush 600, 3) := by decide +kernel
theorem dX12_row_22 : decode cX12_row 22 = .ok (.aload_n 0, 1) := by decide +kernel
theorem dX12_row_23 : decode cX12_row 23 = .ok (.getfield 501, 3) := by decide +kernel
theorem dX12_row_26 : decode cX12_row 26 = .ok (.imul, 1) := by decide +kernel
theorem dX12_row_27 : decode cX12_row 27 = .ok (.iload_n 1, 1) := by decide +kernel
theorem dX12_row_28 : decode cX12_row 28 = .ok (.iadd, 1) := by decide +kernel
theorem dX12_row_29 : decode cX12_row 29 = .ok (.istore_n 3, 1) := by decide +kernel
theorem dX12_row_30 : decode cX12_row 30 = .ok (.iload_n 2, 1) := by decide +kernel
theorem dX12_row_31 : decode cX12_row 31 = .ok (.tableswitch 65 0 3 #[29, 36, 43, 50], 29) := by decide +kernel
theorem dX12_row_60 : decode cX12_row 60 = .ok (.aload_n 0, 1) := by decide +kernel
theorem dX12_row_61 : decode cX12_row 61 = .ok (.getfield 196, 3) := by decide +kernel
theorem dX12_row_64 : decode cX12_row 64 = .ok (.iload_n 3, 1) := by decide +kernel
theorem dX12_row_65 : decode cX12_row 65 = .ok (.iaload, 1) := by decide +kernel
theorem dX12_row_66 : decode cX12_row 66 = .ok (.ireturn, 1) := by decide +kernel
theorem dX12_row_67 : decode cX12_row 67 = .ok (.aload_n 0, 1) := by decide +kernel
theorem dX12_row_68 : decode cX12_row 68 = .ok (.getfield 202, 3) := by decide +kernel
theorem dX12_row_71 : decode cX12_row 71 = .ok (.iload_n 3, 1) := by decide +kernel
theorem dX12_row_72 : decode cX12_row 72 = .ok (.iaload, 1) := by decide +kernel
theorem dX12_row_73 : decode cX12_row 73 = .ok (.ireturn, 1) := by decide +kernel
theorem dX12_row_74 : decode cX12_row 74 = .ok (.aload_n 0, 1) := by decide +kernel
theorem dX12_row_75 : decode cX12_row 75 = .ok (.getfield 205, 3) := by decide +kernel
theorem dX12_row_78 : decode cX12_row 78 = .ok (.iload_n 3, 1) := by decide +kernel
theorem dX12_row_79 : decode cX12_row 79 = .ok (.iaload, 1) := by decide +kernel
theorem dX12_row_80 : decode cX12_row 80 = .ok (.ireturn, 1) := by decide +kernel
theorem dX12_row_81 : decode cX12_row 81 = .ok (.aload_n 0, 1) := by decide +kernel
theorem dX12_row_82 : decode cX12_row 82 = .ok (.getfield 208, 3) := by decide +kernel
theorem dX12_row_85 : decode cX12_row 85 = .ok (.iload_n 3, 1) := by decide +kernel
theorem dX12_row_86 : decode cX12_row 86 = .ok (.baload, 1) := by decide +kernel
theorem dX12_row_87 : decode cX12_row 87 = .ok (.ifCond .eq 7, 3) := by decide +kernel
theorem dX12_row_90 : decode cX12_row 90 = .ok (.iconst 1, 1) := by decide +kernel
theorem dX12_row_91 : decode cX12_row 91 = .ok (.goto 4, 3) := by decide +kernel
theorem dX12_row_94 : decode cX12_row 94 = .ok (.iconst 0, 1) := by decide +kernel
theorem dX12_row_95 : decode cX12_row 95 = .ok (.ireturn, 1) := by decide +kernel
theorem dX12_row_96 : decode cX12_row 96 = .ok (.iconst (-1), 1) := by decide +kernel
theorem dX12_row_97 : decode cX12_row 97 = .ok (.ireturn, 1) := by decide +kernel
theorem dX12_rowAt_0 : decode cX12_rowAt 0 = .ok (.iload_n 1, 1) := by decide +kernel
theorem dX12_rowAt_1 : decode cX12_rowAt 1 = .ok (.ifCond .lt 34, 3) := by decide +kernel
theorem dX12_rowAt_4 : decode cX12_rowAt 4 = .ok (.iload_n 1, 1) := by decide +kernel
theorem dX12_rowAt_5 : decode cX12_rowAt 5 = .ok (.aload_n 0, 1) := by decide +kernel
theorem dX12_rowAt_6 : decode cX12_rowAt 6 = .ok (.getfield 38, 3) := by decide +kernel
theorem dX12_rowAt_9 : decode cX12_rowAt 9 = .ok (.aload_n 0, 1) := by decide +kernel
theorem dX12_rowAt_10 : decode cX12_rowAt 10 = .ok (.getfield 501, 3) := by decide +kernel
theorem dX12_rowAt_13 : decode cX12_rowAt 13 = .ok (.iaload, 1) := by decide +kernel
theorem dX12_rowAt_14 : decode cX12_rowAt 14 = .ok (.if_icmp .ge 21, 3) := by decide +kernel
theorem dX12_rowAt_17 : decode cX12_rowAt 17 = .ok (.aload_n 0, 1) := by decide +kernel
theorem dX12_rowAt_18 : decode cX12_rowAt 18 = .ok (.getfield 199, 3) := by decide +kernel
theorem dX12_rowAt_21 : decode cX12_rowAt 21 = .ok (.sipush 600, 3) := by decide +kernel
theorem dX12_rowAt_24 : decode cX12_rowAt 24 = .ok (.aload_n 0, 1) := by decide +kernel
theorem dX12_rowAt_25 : decode cX12_rowAt 25 = .ok (.getfield 501, 3) := by decide +kernel
theorem dX12_rowAt_28 : decode cX12_rowAt 28 = .ok (.imul, 1) := by decide +kernel
theorem dX12_rowAt_29 : decode cX12_rowAt 29 = .ok (.iload_n 1, 1) := by decide +kernel
theorem dX12_rowAt_30 : decode cX12_rowAt 30 = .ok (.iadd, 1) := by decide +kernel
theorem dX12_rowAt_31 : decode cX12_rowAt 31 = .ok (.laload, 1) := by decide +kernel
theorem dX12_rowAt_32 : decode cX12_rowAt 32 = .ok (.goto 6, 3) := by decide +kernel
theorem dX12_rowAt_35 : decode cX12_rowAt 35 = .ok (.ldc2_w 263, 3) := by decide +kernel
theorem dX12_rowAt_38 : decode cX12_rowAt 38 = .ok (.lreturn, 1) := by decide +kernel
theorem dX12_governs_0 : decode cX12_governs 0 = .ok (.sipush 600, 3) := by decide +kernel
theorem dX12_governs_3 : decode cX12_governs 3 = .ok (.aload_n 0, 1) := by decide +kernel
theorem dX12_governs_4 : decode cX12_governs 4 = .ok (.getfield 501, 3) := by decide +kernel
theorem dX12_governs_7 : decode cX12_governs 7 = .ok (.imul, 1) := by decide +kernel
theorem dX12_governs_8 : decode cX12_governs 8 = .ok (.istore 4, 2) := by decide +kernel
theorem dX12_governs_10 : decode cX12_governs 10 = .ok (.iload 4, 2) := by decide +kernel
theorem dX12_governs_12 : decode cX12_governs 12 = .ok (.iconst 1, 1) := by decide +kernel
theorem dX12_governs_13 : decode cX12_governs 13 = .ok (.iadd, 1) := by decide +kernel
theorem dX12_governs_14 : decode cX12_governs 14 = .ok (.sipush 600, 3) := by decide +kernel
theorem dX12_governs_17 : decode cX12_governs 17 = .ok (.aload_n 0, 1) := by decide +kernel
theorem dX12_governs_18 : decode cX12_governs 18 = .ok (.getfield 501, 3) := by decide +kernel
theorem dX12_governs_21 : decode cX12_governs 21 = .ok (.imul, 1) := by decide +kernel
theorem dX12_governs_22 : decode cX12_governs 22 = .ok (.aload_n 0, 1) := by decide +kernel
theorem dX12_governs_23 : decode cX12_governs 23 = .ok (.getfield 38, 3) := by decide +kernel
theorem dX12_governs_26 : decode cX12_governs 26 = .ok (.aload_n 0, 1) := by decide +kernel
theorem dX12_governs_27 : decode cX12_governs 27 = .ok (.getfield 501, 3) := by decide +kernel
theorem dX12_governs_30 : decode cX12_governs 30 = .ok (.iaload, 1) := by decide +kernel
theorem dX12_governs_31 : decode cX12_governs 31 = .ok (.iadd, 1) := by decide +kernel
theorem dX12_governs_32 : decode cX12_governs 32 = .ok (.if_icmp .ge 59, 3) := by decide +kernel
theorem dX12_governs_35 : decode cX12_governs 35 = .ok (.aload_n 0, 1) := by decide +kernel
theorem dX12_governs_36 : decode cX12_governs 36 = .ok (.getfield 196, 3) := by decide +kernel
theorem dX12_governs_39 : decode cX12_governs 39 = .ok (.iload 4, 2) := by decide +kernel
theorem dX12_governs_41 : decode cX12_governs 41 = .ok (.iaload, 1) := by decide +kernel
theorem dX12_governs_42 : decode cX12_governs 42 = .ok (.iload_n 1, 1) := by decide +kernel
theorem dX12_governs_43 : decode cX12_governs 43 = .ok (.if_icmp .ne 42, 3) := by decide +kernel
theorem dX12_governs_46 : decode cX12_governs 46 = .ok (.aload_n 0, 1) := by decide +kernel
theorem dX12_governs_47 : decode cX12_governs 47 = .ok (.getfield 208, 3) := by decide +kernel
theorem dX12_governs_50 : decode cX12_governs 50 = .ok (.iload 4, 2) := by decide +kernel
theorem dX12_governs_52 : decode cX12_governs 52 = .ok (.baload, 1) := by decide +kernel
theorem dX12_governs_53 : decode cX12_governs 53 = .ok (.ifCond .ne 32, 3) := by decide +kernel
theorem dX12_governs_56 : decode cX12_governs 56 = .ok (.lload_n 2, 1) := by decide +kernel
theorem dX12_governs_57 : decode cX12_governs 57 = .ok (.aload_n 0, 1) := by decide +kernel
theorem dX12_governs_58 : decode cX12_governs 58 = .ok (.getfield 199, 3) := by decide +kernel
theorem dX12_governs_61 : decode cX12_governs 61 = .ok (.iload 4, 2) := by decide +kernel
theorem dX12_governs_63 : decode cX12_governs 63 = .ok (.laload, 1) := by decide +kernel
theorem dX12_governs_64 : decode cX12_governs 64 = .ok (.lcmp, 1) := by decide +kernel
theorem dX12_governs_65 : decode cX12_governs 65 = .ok (.ifCond .lt 20, 3) := by decide +kernel
theorem dX12_governs_68 : decode cX12_governs 68 = .ok (.lload_n 2, 1) := by decide +kernel
theorem dX12_governs_69 : decode cX12_governs 69 = .ok (.aload_n 0, 1) := by decide +kernel
theorem dX12_governs_70 : decode cX12_governs 70 = .ok (.getfield 199, 3) := by decide +kernel
theorem dX12_governs_73 : decode cX12_governs 73 = .ok (.iload 4, 2) := by decide +kernel
theorem dX12_governs_75 : decode cX12_governs 75 = .ok (.iconst 1, 1) := by decide +kernel
theorem dX12_governs_76 : decode cX12_governs 76 = .ok (.iadd, 1) := by decide +kernel
theorem dX12_governs_77 : decode cX12_governs 77 = .ok (.laload, 1) := by decide +kernel
theorem dX12_governs_78 : decode cX12_governs 78 = .ok (.lcmp, 1) := by decide +kernel
theorem dX12_governs_79 : decode cX12_governs 79 = .ok (.ifCond .ge 6, 3) := by decide +kernel
theorem dX12_governs_82 : decode cX12_governs 82 = .ok (.iload 4, 2) := by decide +kernel
theorem dX12_governs_84 : decode cX12_governs 84 = .ok (.ireturn, 1) := by decide +kernel
theorem dX12_governs_85 : decode cX12_governs 85 = .ok (.iinc 4 1, 3) := by decide +kernel
theorem dX12_governs_88 : decode cX12_governs 88 = .ok (.goto (-78), 3) := by decide +kernel
theorem dX12_governs_91 : decode cX12_governs 91 = .ok (.iconst (-1), 1) := by decide +kernel
theorem dX12_governs_92 : decode cX12_governs 92 = .ok (.ireturn, 1) := by decide +kernel
theorem dX12_holder_0 : decode cX12_holder 0 = .ok (.iconst 0, 1) := by decide +kernel
theorem dX12_holder_1 : decode cX12_holder 1 = .ok (.istore 4, 2) := by decide +kernel
theorem dX12_holder_3 : decode cX12_holder 3 = .ok (.iload 4, 2) := by decide +kernel
theorem dX12_holder_5 : decode cX12_holder 5 = .ok (.aload_n 0, 1) := by decide +kernel
theorem dX12_holder_6 : decode cX12_holder 6 = .ok (.getfield 32, 3) := by decide +kernel
theorem dX12_holder_9 : decode cX12_holder 9 = .ok (.aload_n 0, 1) := by decide +kernel
theorem dX12_holder_10 : decode cX12_holder 10 = .ok (.getfield 501, 3) := by decide +kernel
theorem dX12_holder_13 : decode cX12_holder 13 = .ok (.iaload, 1) := by decide +kernel
theorem dX12_holder_14 : decode cX12_holder 14 = .ok (.if_icmp .ge 113, 3) := by decide +kernel
theorem dX12_holder_17 : decode cX12_holder 17 = .ok (.sipush 400, 3) := by decide +kernel
theorem dX12_holder_20 : decode cX12_holder 20 = .ok (.aload_n 0, 1) := by decide +kernel
theorem dX12_holder_21 : decode cX12_holder 21 = .ok (.getfield 501, 3) := by decide +kernel
theorem dX12_holder_24 : decode cX12_holder 24 = .ok (.imul, 1) := by decide +kernel
theorem dX12_holder_25 : decode cX12_holder 25 = .ok (.iload 4, 2) := by decide +kernel
theorem dX12_holder_27 : decode cX12_holder 27 = .ok (.iadd, 1) := by decide +kernel
theorem dX12_holder_28 : decode cX12_holder 28 = .ok (.istore 5, 2) := by decide +kernel
theorem dX12_holder_30 : decode cX12_holder 30 = .ok (.iload_n 1, 1) := by decide +kernel
theorem dX12_holder_31 : decode cX12_holder 31 = .ok (.iconst (-1), 1) := by decide +kernel
theorem dX12_holder_32 : decode cX12_holder 32 = .ok (.if_icmp .ne 25, 3) := by decide +kernel
theorem dX12_holder_35 : decode cX12_holder 35 = .ok (.aload_n 0, 1) := by decide +kernel
theorem dX12_holder_36 : decode cX12_holder 36 = .ok (.getfield 118, 3) := by decide +kernel
theorem dX12_holder_39 : decode cX12_holder 39 = .ok (.iload 5, 2) := by decide +kernel
theorem dX12_holder_41 : decode cX12_holder 41 = .ok (.laload, 1) := by decide +kernel
theorem dX12_holder_42 : decode cX12_holder 42 = .ok (.ldc2_w 520, 3) := by decide +kernel
theorem dX12_holder_45 : decode cX12_holder 45 = .ok (.lcmp, 1) := by decide +kernel
theorem dX12_holder_46 : decode cX12_holder 46 = .ok (.ifCond .ne 7, 3) := by decide +kernel
theorem dX12_holder_49 : decode cX12_holder 49 = .ok (.iconst 1, 1) := by decide +kernel
theorem dX12_holder_50 : decode cX12_holder 50 = .ok (.goto 51, 3) := by decide +kernel
theorem dX12_holder_53 : decode cX12_holder 53 = .ok (.iconst 0, 1) := by decide +kernel
theorem dX12_holder_54 : decode cX12_holder 54 = .ok (.goto 47, 3) := by decide +kernel
theorem dX12_holder_57 : decode cX12_holder 57 = .ok (.aload_n 0, 1) := by decide +kernel
theorem dX12_holder_58 : decode cX12_holder 58 = .ok (.getfield 121, 3) := by decide +kernel
theorem dX12_holder_61 : decode cX12_holder 61 = .ok (.iload 5, 2) := by decide +kernel
theorem dX12_holder_63 : decode cX12_holder 63 = .ok (.iaload, 1) := by decide +kernel
theorem dX12_holder_64 : decode cX12_holder 64 = .ok (.iload_n 1, 1) := by decide +kernel
theorem dX12_holder_65 : decode cX12_holder 65 = .ok (.if_icmp .ne 35, 3) := by decide +kernel
theorem dX12_holder_68 : decode cX12_holder 68 = .ok (.aload_n 0, 1) := by decide +kernel
theorem dX12_holder_69 : decode cX12_holder 69 = .ok (.getfield 118, 3) := by decide +kernel
theorem dX12_holder_72 : decode cX12_holder 72 = .ok (.iload 5, 2) := by decide +kernel
theorem dX12_holder_74 : decode cX12_holder 74 = .ok (.laload, 1) := by decide +kernel
theorem dX12_holder_75 : decode cX12_holder 75 = .ok (.ldc2_w 331, 3) := by decide +kernel
theorem dX12_holder_78 : decode cX12_holder 78 = .ok (.lcmp, 1) := by decide +kernel
theorem dX12_holder_79 : decode cX12_holder 79 = .ok (.ifCond .eq 17, 3) := by decide +kernel
theorem dX12_holder_82 : decode cX12_holder 82 = .ok (.aload_n 0, 1) := by decide +kernel
theorem dX12_holder_83 : decode cX12_holder 83 = .ok (.getfield 118, 3) := by decide +kernel
theorem dX12_holder_86 : decode cX12_holder 86 = .ok (.iload 5, 2) := by decide +kernel
theorem dX12_holder_88 : decode cX12_holder 88 = .ok (.laload, 1) := by decide +kernel
theorem dX12_holder_89 : decode cX12_holder 89 = .ok (.ldc2_w 522, 3) := by decide +kernel
theorem dX12_holder_92 : decode cX12_holder 92 = .ok (.lcmp, 1) := by decide +kernel
theorem dX12_holder_93 : decode cX12_holder 93 = .ok (.ifCond .ne 7, 3) := by decide +kernel
theorem dX12_holder_96 : decode cX12_holder 96 = .ok (.iconst 1, 1) := by decide +kernel
theorem dX12_holder_97 : decode cX12_holder 97 = .ok (.goto 4, 3) := by decide +kernel
theorem dX12_holder_100 : decode cX12_holder 100 = .ok (.iconst 0, 1) := by decide +kernel
theorem dX12_holder_101 : decode cX12_holder 101 = .ok (.istore 6, 2) := by decide +kernel
theorem dX12_holder_103 : decode cX12_holder 103 = .ok (.iload 6, 2) := by decide +kernel
theorem dX12_holder_105 : decode cX12_holder 105 = .ok (.ifCond .eq 16, 3) := by decide +kernel
theorem dX12_holder_108 : decode cX12_holder 108 = .ok (.aload_n 0, 1) := by decide +kernel
theorem dX12_holder_109 : decode cX12_holder 109 = .ok (.iload 4, 2) := by decide +kernel
theorem dX12_holder_111 : decode cX12_holder 111 = .ok (.lload_n 2, 1) := by decide +kernel
theorem dX12_holder_112 : decode cX12_holder 112 = .ok (.invokevirtual 524, 3) := by decide +kernel
theorem dX12_holder_115 : decode cX12_holder 115 = .ok (.ifCond .eq 6, 3) := by decide +kernel
theorem dX12_holder_118 : decode cX12_holder 118 = .ok (.iload 4, 2) := by decide +kernel
theorem dX12_holder_120 : decode cX12_holder 120 = .ok (.ireturn, 1) := by decide +kernel
theorem dX12_holder_121 : decode cX12_holder 121 = .ok (.iinc 4 1, 3) := by decide +kernel
theorem dX12_holder_124 : decode cX12_holder 124 = .ok (.goto (-121), 3) := by decide +kernel
theorem dX12_holder_127 : decode cX12_holder 127 = .ok (.iconst (-1), 1) := by decide +kernel
theorem dX12_holder_128 : decode cX12_holder 128 = .ok (.ireturn, 1) := by decide +kernel
theorem dX12_find_0 : decode cX12_find 0 = .ok (.aload_n 0, 1) := by decide +kernel
theorem dX12_find_1 : decode cX12_find 1 = .ok (.iconst 0, 1) := by decide +kernel
theorem dX12_find_2 : decode cX12_find 2 = .ok (.putfield 504, 3) := by decide +kernel
theorem dX12_find_5 : decode cX12_find 5 = .ok (.aload_n 0, 1) := by decide +kernel
theorem dX12_find_6 : decode cX12_find 6 = .ok (.iconst (-1), 1) := by decide +kernel
theorem dX12_find_7 : decode cX12_find 7 = .ok (.putfield 229, 3) := by decide +kernel
theorem dX12_find_10 : decode cX12_find 10 = .ok (.aload_n 0, 1) := by decide +kernel
theorem dX12_find_11 : decode cX12_find 11 = .ok (.iconst (-1), 1) := by decide +kernel
theorem dX12_find_12 : decode cX12_find 12 = .ok (.lload_n 1, 1) := by decide +kernel
theorem dX12_find_13 : decode cX12_find 13 = .ok (.invokevirtual 528, 3) := by decide +kernel
theorem dX12_find_16 : decode cX12_find 16 = .ok (.istore_n 3, 1) := by decide +kernel
theorem dX12_find_17 : decode cX12_find 17 = .ok (.iload_n 3, 1) := by decide +kernel
theorem dX12_find_18 : decode cX12_find 18 = .ok (.iconst (-1), 1) := by decide +kernel
theorem dX12_find_19 : decode cX12_find 19 = .ok (.if_icmp .eq 85, 3) := by decide +kernel
theorem dX12_find_22 : decode cX12_find 22 = .ok (.aload_n 0, 1) := by decide +kernel
theorem dX12_find_23 : decode cX12_find 23 = .ok (.getfield 118, 3) := by decide +kernel
theorem dX12_find_26 : decode cX12_find 26 = .ok (.sipush 400, 3) := by decide +kernel
theorem dX12_find_29 : decode cX12_find 29 = .ok (.aload_n 0, 1) := by decide +kernel
theorem dX12_find_30 : decode cX12_find 30 = .ok (.getfield 501, 3) := by decide +kernel
theorem dX12_find_33 : decode cX12_find 33 = .ok (.imul, 1) := by decide +kernel
theorem dX12_find_34 : decode cX12_find 34 = .ok (.iload_n 3, 1) := by decide +kernel
theorem dX12_find_35 : decode cX12_find 35 = .ok (.iadd, 1) := by decide +kernel
theorem dX12_find_36 : decode cX12_find 36 = .ok (.laload, 1) := by decide +kernel
theorem dX12_find_37 : decode cX12_find 37 = .ok (.ldc2_w 331, 3) := by decide +kernel
theorem dX12_find_40 : decode cX12_find 40 = .ok (.lcmp, 1) := by decide +kernel
theorem dX12_find_41 : decode cX12_find 41 = .ok (.ifCond .eq 53, 3) := by decide +kernel
theorem dX12_find_44 : decode cX12_find 44 = .ok (.aload_n 0, 1) := by decide +kernel
theorem dX12_find_45 : decode cX12_find 45 = .ok (.getfield 504, 3) := by decide +kernel
theorem dX12_find_48 : decode cX12_find 48 = .ok (.istore 4, 2) := by decide +kernel
theorem dX12_find_50 : decode cX12_find 50 = .ok (.iload 4, 2) := by decide +kernel
theorem dX12_find_52 : decode cX12_find 52 = .ok (.ifCond .le 25, 3) := by decide +kernel
theorem dX12_find_55 : decode cX12_find 55 = .ok (.aload_n 0, 1) := by decide +kernel
theorem dX12_find_56 : decode cX12_find 56 = .ok (.getfield 220, 3) := by decide +kernel
theorem dX12_find_59 : decode cX12_find 59 = .ok (.iload 4, 2) := by decide +kernel
theorem dX12_find_61 : decode cX12_find 61 = .ok (.aload_n 0, 1) := by decide +kernel
theorem dX12_find_62 : decode cX12_find 62 = .ok (.getfield 220, 3) := by decide +kernel
theorem dX12_find_65 : decode cX12_find 65 = .ok (.iload 4, 2) := by decide +kernel
theorem dX12_find_67 : decode cX12_find 67 = .ok (.iconst 1, 1) := by decide +kernel
theorem dX12_find_68 : decode cX12_find 68 = .ok (.isub, 1) := by decide +kernel
theorem dX12_find_69 : decode cX12_find 69 = .ok (.iaload, 1) := by decide +kernel
theorem dX12_find_70 : decode cX12_find 70 = .ok (.iastore, 1) := by decide +kernel
theorem dX12_find_71 : decode cX12_find 71 = .ok (.iinc 4 (-1), 3) := by decide +kernel
theorem dX12_find_74 : decode cX12_find 74 = .ok (.goto (-24), 3) := by decide +kernel
theorem dX12_find_77 : decode cX12_find 77 = .ok (.aload_n 0, 1) := by decide +kernel
theorem dX12_find_78 : decode cX12_find 78 = .ok (.getfield 220, 3) := by decide +kernel
theorem dX12_find_81 : decode cX12_find 81 = .ok (.iconst 0, 1) := by decide +kernel
theorem dX12_find_82 : decode cX12_find 82 = .ok (.iload_n 3, 1) := by decide +kernel
theorem dX12_find_83 : decode cX12_find 83 = .ok (.iastore, 1) := by decide +kernel
theorem dX12_find_84 : decode cX12_find 84 = .ok (.aload_n 0, 1) := by decide +kernel
theorem dX12_find_85 : decode cX12_find 85 = .ok (.dup, 1) := by decide +kernel
theorem dX12_find_86 : decode cX12_find 86 = .ok (.getfield 504, 3) := by decide +kernel
theorem dX12_find_89 : decode cX12_find 89 = .ok (.iconst 1, 1) := by decide +kernel
theorem dX12_find_90 : decode cX12_find 90 = .ok (.iadd, 1) := by decide +kernel
theorem dX12_find_91 : decode cX12_find 91 = .ok (.putfield 504, 3) := by decide +kernel
theorem dX12_find_94 : decode cX12_find 94 = .ok (.aload_n 0, 1) := by decide +kernel
theorem dX12_find_95 : decode cX12_find 95 = .ok (.iload_n 3, 1) := by decide +kernel
theorem dX12_find_96 : decode cX12_find 96 = .ok (.lload_n 1, 1) := by decide +kernel
theorem dX12_find_97 : decode cX12_find 97 = .ok (.invokevirtual 528, 3) := by decide +kernel
theorem dX12_find_100 : decode cX12_find 100 = .ok (.istore_n 3, 1) := by decide +kernel
theorem dX12_find_101 : decode cX12_find 101 = .ok (.goto (-84), 3) := by decide +kernel
theorem dX12_find_104 : decode cX12_find 104 = .ok (.iconst 0, 1) := by decide +kernel
theorem dX12_find_105 : decode cX12_find 105 = .ok (.istore 4, 2) := by decide +kernel
theorem dX12_find_107 : decode cX12_find 107 = .ok (.iload 4, 2) := by decide +kernel
theorem dX12_find_109 : decode cX12_find 109 = .ok (.aload_n 0, 1) := by decide +kernel
theorem dX12_find_110 : decode cX12_find 110 = .ok (.getfield 504, 3) := by decide +kernel
theorem dX12_find_113 : decode cX12_find 113 = .ok (.if_icmp .ge 180, 3) := by decide +kernel
theorem dX12_find_116 : decode cX12_find 116 = .ok (.iload 4, 2) := by decide +kernel
theorem dX12_find_118 : decode cX12_find 118 = .ok (.ifCond .ne 7, 3) := by decide +kernel
theorem dX12_find_121 : decode cX12_find 121 = .ok (.iconst (-1), 1) := by decide +kernel
theorem dX12_find_122 : decode cX12_find 122 = .ok (.goto 21, 3) := by decide +kernel
theorem dX12_find_125 : decode cX12_find 125 = .ok (.sipush 400, 3) := by decide +kernel
theorem dX12_find_128 : decode cX12_find 128 = .ok (.aload_n 0, 1) := by decide +kernel
theorem dX12_find_129 : decode cX12_find 129 = .ok (.getfield 501, 3) := by decide +kernel
theorem dX12_find_132 : decode cX12_find 132 = .ok (.imul, 1) := by decide +kernel
theorem dX12_find_133 : decode cX12_find 133 = .ok (.aload_n 0, 1) := by decide +kernel
theorem dX12_find_134 : decode cX12_find 134 = .ok (.getfield 220, 3) := by decide +kernel
theorem dX12_find_137 : decode cX12_find 137 = .ok (.iload 4, 2) := by decide +kernel
theorem dX12_find_139 : decode cX12_find 139 = .ok (.iconst 1, 1) := by decide +kernel
theorem dX12_find_140 : decode cX12_find 140 = .ok (.isub, 1) := by decide +kernel
theorem dX12_find_141 : decode cX12_find 141 = .ok (.iaload, 1) := by decide +kernel
theorem dX12_find_142 : decode cX12_find 142 = .ok (.iadd, 1) := by decide +kernel
theorem dX12_find_143 : decode cX12_find 143 = .ok (.istore 5, 2) := by decide +kernel
theorem dX12_find_145 : decode cX12_find 145 = .ok (.iload 4, 2) := by decide +kernel
theorem dX12_find_147 : decode cX12_find 147 = .ok (.ifCond .le 7, 3) := by decide +kernel
theorem dX12_find_150 : decode cX12_find 150 = .ok (.iconst (-1), 1) := by decide +kernel
theorem dX12_find_151 : decode cX12_find 151 = .ok (.goto 28, 3) := by decide +kernel
theorem dX12_find_154 : decode cX12_find 154 = .ok (.aload_n 0, 1) := by decide +kernel
theorem dX12_find_155 : decode cX12_find 155 = .ok (.aload_n 0, 1) := by decide +kernel
theorem dX12_find_156 : decode cX12_find 156 = .ok (.getfield 124, 3) := by decide +kernel
theorem dX12_find_159 : decode cX12_find 159 = .ok (.sipush 400, 3) := by decide +kernel
theorem dX12_find_162 : decode cX12_find 162 = .ok (.aload_n 0, 1) := by decide +kernel
theorem dX12_find_163 : decode cX12_find 163 = .ok (.getfield 501, 3) := by decide +kernel
theorem dX12_find_166 : decode cX12_find 166 = .ok (.imul, 1) := by decide +kernel
theorem dX12_find_167 : decode cX12_find 167 = .ok (.aload_n 0, 1) := by decide +kernel
theorem dX12_find_168 : decode cX12_find 168 = .ok (.getfield 220, 3) := by decide +kernel
theorem dX12_find_171 : decode cX12_find 171 = .ok (.iconst 0, 1) := by decide +kernel
theorem dX12_find_172 : decode cX12_find 172 = .ok (.iaload, 1) := by decide +kernel
theorem dX12_find_173 : decode cX12_find 173 = .ok (.iadd, 1) := by decide +kernel
theorem dX12_find_174 : decode cX12_find 174 = .ok (.iaload, 1) := by decide +kernel
theorem dX12_find_175 : decode cX12_find 175 = .ok (.lload_n 1, 1) := by decide +kernel
theorem dX12_find_176 : decode cX12_find 176 = .ok (.invokevirtual 532, 3) := by decide +kernel
theorem dX12_find_179 : decode cX12_find 179 = .ok (.istore 6, 2) := by decide +kernel
theorem dX12_find_181 : decode cX12_find 181 = .ok (.aload_n 0, 1) := by decide +kernel
theorem dX12_find_182 : decode cX12_find 182 = .ok (.getfield 223, 3) := by decide +kernel
theorem dX12_find_185 : decode cX12_find 185 = .ok (.iload 4, 2) := by decide +kernel
theorem dX12_find_187 : decode cX12_find 187 = .ok (.iload 4, 2) := by decide +kernel
theorem dX12_find_189 : decode cX12_find 189 = .ok (.ifCond .le 27, 3) := by decide +kernel
theorem dX12_find_192 : decode cX12_find 192 = .ok (.aload_n 0, 1) := by decide +kernel
theorem dX12_find_193 : decode cX12_find 193 = .ok (.getfield 145, 3) := by decide +kernel
theorem dX12_find_196 : decode cX12_find 196 = .ok (.iload 5, 2) := by decide +kernel
theorem dX12_find_198 : decode cX12_find 198 = .ok (.baload, 1) := by decide +kernel
theorem dX12_find_199 : decode cX12_find 199 = .ok (.ifCond .eq 13, 3) := by decide +kernel
theorem dX12_find_202 : decode cX12_find 202 = .ok (.aload_n 0, 1) := by decide +kernel
theorem dX12_find_203 : decode cX12_find 203 = .ok (.getfield 139, 3) := by decide +kernel
theorem dX12_find_206 : decode cX12_find 206 = .ok (.iload 5, 2) := by decide +kernel
theorem dX12_find_208 : decode cX12_find 208 = .ok (.iaload, 1) := by decide +kernel
theorem dX12_find_209 : decode cX12_find 209 = .ok (.goto 24, 3) := by decide +kernel
theorem dX12_find_212 : decode cX12_find 212 = .ok (.iconst 0, 1) := by decide +kernel
theorem dX12_find_213 : decode cX12_find 213 = .ok (.goto 20, 3) := by decide +kernel
theorem dX12_find_216 : decode cX12_find 216 = .ok (.iload 6, 2) := by decide +kernel
theorem dX12_find_218 : decode cX12_find 218 = .ok (.iconst (-1), 1) := by decide +kernel
theorem dX12_find_219 : decode cX12_find 219 = .ok (.if_icmp .ne 7, 3) := by decide +kernel
theorem dX12_find_222 : decode cX12_find 222 = .ok (.iconst 0, 1) := by decide +kernel
theorem dX12_find_223 : decode cX12_find 223 = .ok (.goto 10, 3) := by decide +kernel
theorem dX12_find_226 : decode cX12_find 226 = .ok (.aload_n 0, 1) := by decide +kernel
theorem dX12_find_227 : decode cX12_find 227 = .ok (.getfield 202, 3) := by decide +kernel
theorem dX12_find_230 : decode cX12_find 230 = .ok (.iload 6, 2) := by decide +kernel
theorem dX12_find_232 : decode cX12_find 232 = .ok (.iaload, 1) := by decide +kernel
theorem dX12_find_233 : decode cX12_find 233 = .ok (.iastore, 1) := by decide +kernel
theorem dX12_find_234 : decode cX12_find 234 = .ok (.aload_n 0, 1) := by decide +kernel
theorem dX12_find_235 : decode cX12_find 235 = .ok (.getfield 226, 3) := by decide +kernel
theorem dX12_find_238 : decode cX12_find 238 = .ok (.iload 4, 2) := by decide +kernel
theorem dX12_find_240 : decode cX12_find 240 = .ok (.iload 4, 2) := by decide +kernel
theorem dX12_find_242 : decode cX12_find 242 = .ok (.ifCond .le 27, 3) := by decide +kernel
theorem dX12_find_245 : decode cX12_find 245 = .ok (.aload_n 0, 1) := by decide +kernel
theorem dX12_find_246 : decode cX12_find 246 = .ok (.getfield 148, 3) := by decide +kernel
theorem dX12_find_249 : decode cX12_find 249 = .ok (.iload 5, 2) := by decide +kernel
theorem dX12_find_251 : decode cX12_find 251 = .ok (.baload, 1) := by decide +kernel
theorem dX12_find_252 : decode cX12_find 252 = .ok (.ifCond .eq 13, 3) := by decide +kernel
theorem dX12_find_255 : decode cX12_find 255 = .ok (.aload_n 0, 1) := by decide +kernel
theorem dX12_find_256 : decode cX12_find 256 = .ok (.getfield 142, 3) := by decide +kernel
theorem dX12_find_259 : decode cX12_find 259 = .ok (.iload 5, 2) := by decide +kernel
theorem dX12_find_261 : decode cX12_find 261 = .ok (.iaload, 1) := by decide +kernel
theorem dX12_find_262 : decode cX12_find 262 = .ok (.goto 24, 3) := by decide +kernel
theorem dX12_find_265 : decode cX12_find 265 = .ok (.iconst 0, 1) := by decide +kernel
theorem dX12_find_266 : decode cX12_find 266 = .ok (.goto 20, 3) := by decide +kernel
theorem dX12_find_269 : decode cX12_find 269 = .ok (.iload 6, 2) := by decide +kernel
theorem dX12_find_271 : decode cX12_find 271 = .ok (.iconst (-1), 1) := by decide +kernel
theorem dX12_find_272 : decode cX12_find 272 = .ok (.if_icmp .ne 7, 3) := by decide +kernel
theorem dX12_find_275 : decode cX12_find 275 = .ok (.iconst 0, 1) := by decide +kernel
theorem dX12_find_276 : decode cX12_find 276 = .ok (.goto 10, 3) := by decide +kernel
theorem dX12_find_279 : decode cX12_find 279 = .ok (.aload_n 0, 1) := by decide +kernel
theorem dX12_find_280 : decode cX12_find 280 = .ok (.getfield 205, 3) := by decide +kernel
theorem dX12_find_283 : decode cX12_find 283 = .ok (.iload 6, 2) := by decide +kernel
theorem dX12_find_285 : decode cX12_find 285 = .ok (.iaload, 1) := by decide +kernel
theorem dX12_find_286 : decode cX12_find 286 = .ok (.iastore, 1) := by decide +kernel
theorem dX12_find_287 : decode cX12_find 287 = .ok (.iinc 4 1, 3) := by decide +kernel
theorem dX12_find_290 : decode cX12_find 290 = .ok (.goto (-183), 3) := by decide +kernel
theorem dX12_find_293 : decode cX12_find 293 = .ok (.aload_n 0, 1) := by decide +kernel
theorem dX12_find_294 : decode cX12_find 294 = .ok (.getfield 504, 3) := by decide +kernel
theorem dX12_find_297 : decode cX12_find 297 = .ok (.ifCond .ne 8, 3) := by decide +kernel
theorem dX12_find_300 : decode cX12_find 300 = .ok (.aload_n 0, 1) := by decide +kernel
theorem dX12_find_301 : decode cX12_find 301 = .ok (.lload_n 1, 1) := by decide +kernel
theorem dX12_find_302 : decode cX12_find 302 = .ok (.invokevirtual 535, 3) := by decide +kernel
theorem dX12_find_305 : decode cX12_find 305 = .ok (.aload_n 0, 1) := by decide +kernel
theorem dX12_find_306 : decode cX12_find 306 = .ok (.getfield 504, 3) := by decide +kernel
theorem dX12_find_309 : decode cX12_find 309 = .ok (.ireturn, 1) := by decide +kernel
theorem dX12_symbolOf_0 : decode cX12_symbolOf 0 = .ok (.iconst 0, 1) := by decide +kernel
theorem dX12_symbolOf_1 : decode cX12_symbolOf 1 = .ok (.istore_n 3, 1) := by decide +kernel
theorem dX12_symbolOf_2 : decode cX12_symbolOf 2 = .ok (.iload_n 3, 1) := by decide +kernel
theorem dX12_symbolOf_3 : decode cX12_symbolOf 3 = .ok (.aload_n 0, 1) := by decide +kernel
theorem dX12_symbolOf_4 : decode cX12_symbolOf 4 = .ok (.getfield 26, 3) := by decide +kernel
theorem dX12_symbolOf_7 : decode cX12_symbolOf 7 = .ok (.aload_n 0, 1) := by decide +kernel
theorem dX12_symbolOf_8 : decode cX12_symbolOf 8 = .ok (.getfield 501, 3) := by decide +kernel
theorem dX12_symbolOf_11 : decode cX12_symbolOf 11 = .ok (.iaload, 1) := by decide +kernel
theorem dX12_symbolOf_12 : decode cX12_symbolOf 12 = .ok (.if_icmp .ge 113, 3) := by decide +kernel
theorem dX12_symbolOf_15 : decode cX12_symbolOf 15 = .ok (.bipush 100, 2) := by decide +kernel
theorem dX12_symbolOf_17 : decode cX12_symbolOf 17 = .ok (.aload_n 0, 1) := by decide +kernel
theorem dX12_symbolOf_18 : decode cX12_symbolOf 18 = .ok (.getfield 501, 3) := by decide +kernel
theorem dX12_symbolOf_21 : decode cX12_symbolOf 21 = .ok (.imul, 1) := by decide +kernel
theorem dX12_symbolOf_22 : decode cX12_symbolOf 22 = .ok (.iload_n 3, 1) := by decide +kernel
theorem dX12_symbolOf_23 : decode cX12_symbolOf 23 = .ok (.iadd, 1) := by decide +kernel
theorem dX12_symbolOf_24 : decode cX12_symbolOf 24 = .ok (.istore 4, 2) := by decide +kernel
theorem dX12_symbolOf_26 : decode cX12_symbolOf 26 = .ok (.lload_n 1, 1) := by decide +kernel
theorem dX12_symbolOf_27 : decode cX12_symbolOf 27 = .ok (.aload_n 0, 1) := by decide +kernel
theorem dX12_symbolOf_28 : decode cX12_symbolOf 28 = .ok (.getfield 65, 3) := by decide +kernel
theorem dX12_symbolOf_31 : decode cX12_symbolOf 31 = .ok (.iload 4, 2) := by decide +kernel
theorem dX12_symbolOf_33 : decode cX12_symbolOf 33 = .ok (.laload, 1) := by decide +kernel
theorem dX12_symbolOf_34 : decode cX12_symbolOf 34 = .ok (.lcmp, 1) := by decide +kernel
theorem dX12_symbolOf_35 : decode cX12_symbolOf 35 = .ok (.ifCond .lt 84, 3) := by decide +kernel
theorem dX12_symbolOf_38 : decode cX12_symbolOf 38 = .ok (.lload_n 1, 1) := by decide +kernel
theorem dX12_symbolOf_39 : decode cX12_symbolOf 39 = .ok (.aload_n 0, 1) := by decide +kernel
theorem dX12_symbolOf_40 : decode cX12_symbolOf 40 = .ok (.getfield 65, 3) := by decide +kernel
theorem dX12_symbolOf_43 : decode cX12_symbolOf 43 = .ok (.iload 4, 2) := by decide +kernel
theorem dX12_symbolOf_45 : decode cX12_symbolOf 45 = .ok (.laload, 1) := by decide +kernel
theorem dX12_symbolOf_46 : decode cX12_symbolOf 46 = .ok (.lsub, 1) := by decide +kernel
theorem dX12_symbolOf_47 : decode cX12_symbolOf 47 = .ok (.aload_n 0, 1) := by decide +kernel
theorem dX12_symbolOf_48 : decode cX12_symbolOf 48 = .ok (.getfield 69, 3) := by decide +kernel
theorem dX12_symbolOf_51 : decode cX12_symbolOf 51 = .ok (.iload 4, 2) := by decide +kernel
theorem dX12_symbolOf_53 : decode cX12_symbolOf 53 = .ok (.laload, 1) := by decide +kernel
theorem dX12_symbolOf_54 : decode cX12_symbolOf 54 = .ok (.lcmp, 1) := by decide +kernel
theorem dX12_symbolOf_55 : decode cX12_symbolOf 55 = .ok (.ifCond .lt 6, 3) := by decide +kernel
theorem dX12_symbolOf_58 : decode cX12_symbolOf 58 = .ok (.goto 61, 3) := by decide +kernel
theorem dX12_symbolOf_61 : decode cX12_symbolOf 61 = .ok (.aload_n 0, 1) := by decide +kernel
theorem dX12_symbolOf_62 : decode cX12_symbolOf 62 = .ok (.getfield 229, 3) := by decide +kernel
theorem dX12_symbolOf_65 : decode cX12_symbolOf 65 = .ok (.iconst (-1), 1) := by decide +kernel
theorem dX12_symbolOf_66 : decode cX12_symbolOf 66 = .ok (.if_icmp .eq 34, 3) := by decide +kernel
theorem dX12_symbolOf_69 : decode cX12_symbolOf 69 = .ok (.aload_n 0, 1) := by decide +kernel
theorem dX12_symbolOf_70 : decode cX12_symbolOf 70 = .ok (.getfield 65, 3) := by decide +kernel
theorem dX12_symbolOf_73 : decode cX12_symbolOf 73 = .ok (.iload 4, 2) := by decide +kernel
theorem dX12_symbolOf_75 : decode cX12_symbolOf 75 = .ok (.laload, 1) := by decide +kernel
theorem dX12_symbolOf_76 : decode cX12_symbolOf 76 = .ok (.aload_n 0, 1) := by decide +kernel
theorem dX12_symbolOf_77 : decode cX12_symbolOf 77 = .ok (.getfield 65, 3) := by decide +kernel
theorem dX12_symbolOf_80 : decode cX12_symbolOf 80 = .ok (.bipush 100, 2) := by decide +kernel
theorem dX12_symbolOf_82 : decode cX12_symbolOf 82 = .ok (.aload_n 0, 1) := by decide +kernel
theorem dX12_symbolOf_83 : decode cX12_symbolOf 83 = .ok (.getfield 501, 3) := by decide +kernel
theorem dX12_symbolOf_86 : decode cX12_symbolOf 86 = .ok (.imul, 1) := by decide +kernel
theorem dX12_symbolOf_87 : decode cX12_symbolOf 87 = .ok (.aload_n 0, 1) := by decide +kernel
theorem dX12_symbolOf_88 : decode cX12_symbolOf 88 = .ok (.getfield 229, 3) := by decide +kernel
theorem dX12_symbolOf_91 : decode cX12_symbolOf 91 = .ok (.iadd, 1) := by decide +kernel
theorem dX12_symbolOf_92 : decode cX12_symbolOf 92 = .ok (.laload, 1) := by decide +kernel
theorem dX12_symbolOf_93 : decode cX12_symbolOf 93 = .ok (.lcmp, 1) := by decide +kernel
theorem dX12_symbolOf_94 : decode cX12_symbolOf 94 = .ok (.ifCond .gt 6, 3) := by decide +kernel
theorem dX12_symbolOf_97 : decode cX12_symbolOf 97 = .ok (.goto 22, 3) := by decide +kernel
theorem dX12_symbolOf_100 : decode cX12_symbolOf 100 = .ok (.aload_n 0, 1) := by decide +kernel
theorem dX12_symbolOf_101 : decode cX12_symbolOf 101 = .ok (.iload_n 3, 1) := by decide +kernel
theorem dX12_symbolOf_102 : decode cX12_symbolOf 102 = .ok (.putfield 229, 3) := by decide +kernel
theorem dX12_symbolOf_105 : decode cX12_symbolOf 105 = .ok (.aload_n 0, 1) := by decide +kernel
theorem dX12_symbolOf_106 : decode cX12_symbolOf 106 = .ok (.lload_n 1, 1) := by decide +kernel
theorem dX12_symbolOf_107 : decode cX12_symbolOf 107 = .ok (.aload_n 0, 1) := by decide +kernel
theorem dX12_symbolOf_108 : decode cX12_symbolOf 108 = .ok (.getfield 65, 3) := by decide +kernel
theorem dX12_symbolOf_111 : decode cX12_symbolOf 111 = .ok (.iload 4, 2) := by decide +kernel
theorem dX12_symbolOf_113 : decode cX12_symbolOf 113 = .ok (.laload, 1) := by decide +kernel
theorem dX12_symbolOf_114 : decode cX12_symbolOf 114 = .ok (.lsub, 1) := by decide +kernel
theorem dX12_symbolOf_115 : decode cX12_symbolOf 115 = .ok (.l2i, 1) := by decide +kernel
theorem dX12_symbolOf_116 : decode cX12_symbolOf 116 = .ok (.putfield 539, 3) := by decide +kernel
theorem dX12_symbolOf_119 : decode cX12_symbolOf 119 = .ok (.iinc 3 1, 3) := by decide +kernel
theorem dX12_symbolOf_122 : decode cX12_symbolOf 122 = .ok (.goto (-120), 3) := by decide +kernel
theorem dX12_symbolOf_125 : decode cX12_symbolOf 125 = .ok (.return_, 1) := by decide +kernel
theorem dX12_fileOf_0 : decode cX12_fileOf 0 = .ok (.bipush 20, 2) := by decide +kernel
theorem dX12_fileOf_2 : decode cX12_fileOf 2 = .ok (.aload_n 0, 1) := by decide +kernel
theorem dX12_fileOf_3 : decode cX12_fileOf 3 = .ok (.getfield 501, 3) := by decide +kernel
theorem dX12_fileOf_6 : decode cX12_fileOf 6 = .ok (.imul, 1) := by decide +kernel
theorem dX12_fileOf_7 : decode cX12_fileOf 7 = .ok (.aload_n 0, 1) := by decide +kernel
theorem dX12_fileOf_8 : decode cX12_fileOf 8 = .ok (.getfield 124, 3) := by decide +kernel
theorem dX12_fileOf_11 : decode cX12_fileOf 11 = .ok (.sipush 400, 3) := by decide +kernel
theorem dX12_fileOf_14 : decode cX12_fileOf 14 = .ok (.aload_n 0, 1) := by decide +kernel
theorem dX12_fileOf_15 : decode cX12_fileOf 15 = .ok (.getfield 501, 3) := by decide +kernel
theorem dX12_fileOf_18 : decode cX12_fileOf 18 = .ok (.imul, 1) := by decide +kernel
theorem dX12_fileOf_19 : decode cX12_fileOf 19 = .ok (.aload_n 0, 1) := by decide +kernel
theorem dX12_fileOf_20 : decode cX12_fileOf 20 = .ok (.getfield 220, 3) := by decide +kernel
theorem dX12_fileOf_23 : decode cX12_fileOf 23 = .ok (.iload_n 1, 1) := by decide +kernel
theorem dX12_fileOf_24 : decode cX12_fileOf 24 = .ok (.iaload, 1) := by decide +kernel
theorem dX12_fileOf_25 : decode cX12_fileOf 25 = .ok (.iadd, 1) := by decide +kernel
theorem dX12_fileOf_26 : decode cX12_fileOf 26 = .ok (.iaload, 1) := by decide +kernel
theorem dX12_fileOf_27 : decode cX12_fileOf 27 = .ok (.iadd, 1) := by decide +kernel
theorem dX12_fileOf_28 : decode cX12_fileOf 28 = .ok (.istore_n 2, 1) := by decide +kernel
theorem dX12_fileOf_29 : decode cX12_fileOf 29 = .ok (.aload_n 0, 1) := by decide +kernel
theorem dX12_fileOf_30 : decode cX12_fileOf 30 = .ok (.getfield 223, 3) := by decide +kernel
theorem dX12_fileOf_33 : decode cX12_fileOf 33 = .ok (.iload_n 1, 1) := by decide +kernel
theorem dX12_fileOf_34 : decode cX12_fileOf 34 = .ok (.iaload, 1) := by decide +kernel
theorem dX12_fileOf_35 : decode cX12_fileOf 35 = .ok (.istore_n 3, 1) := by decide +kernel
theorem dX12_fileOf_36 : decode cX12_fileOf 36 = .ok (.iload_n 3, 1) := by decide +kernel
theorem dX12_fileOf_37 : decode cX12_fileOf 37 = .ok (.ifCond .lt 32, 3) := by decide +kernel
theorem dX12_fileOf_40 : decode cX12_fileOf 40 = .ok (.iload_n 3, 1) := by decide +kernel
theorem dX12_fileOf_41 : decode cX12_fileOf 41 = .ok (.aload_n 0, 1) := by decide +kernel
theorem dX12_fileOf_42 : decode cX12_fileOf 42 = .ok (.getfield 87, 3) := by decide +kernel
theorem dX12_fileOf_45 : decode cX12_fileOf 45 = .ok (.iload_n 2, 1) := by decide +kernel
theorem dX12_fileOf_46 : decode cX12_fileOf 46 = .ok (.iaload, 1) := by decide +kernel
theorem dX12_fileOf_47 : decode cX12_fileOf 47 = .ok (.if_icmp .ge 22, 3) := by decide +kernel
theorem dX12_fileOf_50 : decode cX12_fileOf 50 = .ok (.bipush 40, 2) := by decide +kernel
theorem dX12_fileOf_52 : decode cX12_fileOf 52 = .ok (.aload_n 0, 1) := by decide +kernel
theorem dX12_fileOf_53 : decode cX12_fileOf 53 = .ok (.getfield 501, 3) := by decide +kernel
theorem dX12_fileOf_56 : decode cX12_fileOf 56 = .ok (.imul, 1) := by decide +kernel
theorem dX12_fileOf_57 : decode cX12_fileOf 57 = .ok (.aload_n 0, 1) := by decide +kernel
theorem dX12_fileOf_58 : decode cX12_fileOf 58 = .ok (.getfield 84, 3) := by decide +kernel
theorem dX12_fileOf_61 : decode cX12_fileOf 61 = .ok (.iload_n 2, 1) := by decide +kernel
theorem dX12_fileOf_62 : decode cX12_fileOf 62 = .ok (.iaload, 1) := by decide +kernel
theorem dX12_fileOf_63 : decode cX12_fileOf 63 = .ok (.iadd, 1) := by decide +kernel
theorem dX12_fileOf_64 : decode cX12_fileOf 64 = .ok (.iload_n 3, 1) := by decide +kernel
theorem dX12_fileOf_65 : decode cX12_fileOf 65 = .ok (.iadd, 1) := by decide +kernel
theorem dX12_fileOf_66 : decode cX12_fileOf 66 = .ok (.goto 4, 3) := by decide +kernel
theorem dX12_fileOf_69 : decode cX12_fileOf 69 = .ok (.iconst (-1), 1) := by decide +kernel
theorem dX12_fileOf_70 : decode cX12_fileOf 70 = .ok (.ireturn, 1) := by decide +kernel
theorem dX12_frame_0 : decode cX12_frame 0 = .ok (.iload_n 1, 1) := by decide +kernel
theorem dX12_frame_1 : decode cX12_frame 1 = .ok (.ifCond .lt 11, 3) := by decide +kernel
theorem dX12_frame_4 : decode cX12_frame 4 = .ok (.iload_n 1, 1) := by decide +kernel
theorem dX12_frame_5 : decode cX12_frame 5 = .ok (.aload_n 0, 1) := by decide +kernel
theorem dX12_frame_6 : decode cX12_frame 6 = .ok (.getfield 504, 3) := by decide +kernel
theorem dX12_frame_9 : decode cX12_frame 9 = .ok (.if_icmp .lt 5, 3) := by decide +kernel
theorem dX12_frame_12 : decode cX12_frame 12 = .ok (.iconst (-1), 1) := by decide +kernel
theorem dX12_frame_13 : decode cX12_frame 13 = .ok (.ireturn, 1) := by decide +kernel
theorem dX12_frame_14 : decode cX12_frame 14 = .ok (.iload_n 2, 1) := by decide +kernel
theorem dX12_frame_15 : decode cX12_frame 15 = .ok (.tableswitch 89 0 4 #[33, 40, 47, 54, 65], 33) := by decide +kernel
theorem dX12_frame_48 : decode cX12_frame 48 = .ok (.aload_n 0, 1) := by decide +kernel
theorem dX12_frame_49 : decode cX12_frame 49 = .ok (.getfield 220, 3) := by decide +kernel
theorem dX12_frame_52 : decode cX12_frame 52 = .ok (.iload_n 1, 1) := by decide +kernel
theorem dX12_frame_53 : decode cX12_frame 53 = .ok (.iaload, 1) := by decide +kernel
theorem dX12_frame_54 : decode cX12_frame 54 = .ok (.ireturn, 1) := by decide +kernel
theorem dX12_frame_55 : decode cX12_frame 55 = .ok (.aload_n 0, 1) := by decide +kernel
theorem dX12_frame_56 : decode cX12_frame 56 = .ok (.getfield 223, 3) := by decide +kernel
theorem dX12_frame_59 : decode cX12_frame 59 = .ok (.iload_n 1, 1) := by decide +kernel
theorem dX12_frame_60 : decode cX12_frame 60 = .ok (.iaload, 1) := by decide +kernel
theorem dX12_frame_61 : decode cX12_frame 61 = .ok (.ireturn, 1) := by decide +kernel
theorem dX12_frame_62 : decode cX12_frame 62 = .ok (.aload_n 0, 1) := by decide +kernel
theorem dX12_frame_63 : decode cX12_frame 63 = .ok (.getfield 226, 3) := by decide +kernel
theorem dX12_frame_66 : decode cX12_frame 66 = .ok (.iload_n 1, 1) := by decide +kernel
theorem dX12_frame_67 : decode cX12_frame 67 = .ok (.iaload, 1) := by decide +kernel
theorem dX12_frame_68 : decode cX12_frame 68 = .ok (.ireturn, 1) := by decide +kernel
theorem dX12_frame_69 : decode cX12_frame 69 = .ok (.aload_n 0, 1) := by decide +kernel
theorem dX12_frame_70 : decode cX12_frame 70 = .ok (.aload_n 0, 1) := by decide +kernel
theorem dX12_frame_71 : decode cX12_frame 71 = .ok (.getfield 220, 3) := by decide +kernel
theorem dX12_frame_74 : decode cX12_frame 74 = .ok (.iload_n 1, 1) := by decide +kernel
theorem dX12_frame_75 : decode cX12_frame 75 = .ok (.iaload, 1) := by decide +kernel
theorem dX12_frame_76 : decode cX12_frame 76 = .ok (.invokevirtual 517, 3) := by decide +kernel
theorem dX12_frame_79 : decode cX12_frame 79 = .ok (.ireturn, 1) := by decide +kernel
theorem dX12_frame_80 : decode cX12_frame 80 = .ok (.aload_n 0, 1) := by decide +kernel
theorem dX12_frame_81 : decode cX12_frame 81 = .ok (.iload_n 1, 1) := by decide +kernel
theorem dX12_frame_82 : decode cX12_frame 82 = .ok (.invokevirtual 542, 3) := by decide +kernel
theorem dX12_frame_85 : decode cX12_frame 85 = .ok (.iconst (-1), 1) := by decide +kernel
theorem dX12_frame_86 : decode cX12_frame 86 = .ok (.if_icmp .ne 7, 3) := by decide +kernel
theorem dX12_frame_89 : decode cX12_frame 89 = .ok (.iconst (-1), 1) := by decide +kernel
theorem dX12_frame_90 : decode cX12_frame 90 = .ok (.goto 13, 3) := by decide +kernel
theorem dX12_frame_93 : decode cX12_frame 93 = .ok (.aload_n 0, 1) := by decide +kernel
theorem dX12_frame_94 : decode cX12_frame 94 = .ok (.getfield 214, 3) := by decide +kernel
theorem dX12_frame_97 : decode cX12_frame 97 = .ok (.aload_n 0, 1) := by decide +kernel
theorem dX12_frame_98 : decode cX12_frame 98 = .ok (.iload_n 1, 1) := by decide +kernel
theorem dX12_frame_99 : decode cX12_frame 99 = .ok (.invokevirtual 542, 3) := by decide +kernel
theorem dX12_frame_102 : decode cX12_frame 102 = .ok (.iaload, 1) := by decide +kernel
theorem dX12_frame_103 : decode cX12_frame 103 = .ok (.ireturn, 1) := by decide +kernel
theorem dX12_frame_104 : decode cX12_frame 104 = .ok (.iconst (-1), 1) := by decide +kernel
theorem dX12_frame_105 : decode cX12_frame 105 = .ok (.ireturn, 1) := by decide +kernel
theorem dX12_sign_0 : decode cX12_sign 0 = .ok (.iload_n 3, 1) := by decide +kernel
theorem dX12_sign_1 : decode cX12_sign 1 = .ok (.ifCond .lt 28, 3) := by decide +kernel
theorem dX12_sign_4 : decode cX12_sign 4 = .ok (.iload_n 3, 1) := by decide +kernel
theorem dX12_sign_5 : decode cX12_sign 5 = .ok (.iload_n 2, 1) := by decide +kernel
theorem dX12_sign_6 : decode cX12_sign 6 = .ok (.if_icmp .ge 23, 3) := by decide +kernel
theorem dX12_sign_9 : decode cX12_sign 9 = .ok (.aload_n 0, 1) := by decide +kernel
theorem dX12_sign_10 : decode cX12_sign 10 = .ok (.getfield 20, 3) := by decide +kernel
theorem dX12_sign_13 : decode cX12_sign 13 = .ok (.sipush 8000, 3) := by decide +kernel
theorem dX12_sign_16 : decode cX12_sign 16 = .ok (.aload_n 0, 1) := by decide +kernel
theorem dX12_sign_17 : decode cX12_sign 17 = .ok (.getfield 501, 3) := by decide +kernel
theorem dX12_sign_20 : decode cX12_sign 20 = .ok (.imul, 1) := by decide +kernel
theorem dX12_sign_21 : decode cX12_sign 21 = .ok (.iload_n 1, 1) := by decide +kernel
theorem dX12_sign_22 : decode cX12_sign 22 = .ok (.iadd, 1) := by decide +kernel
theorem dX12_sign_23 : decode cX12_sign 23 = .ok (.iload_n 3, 1) := by decide +kernel
theorem dX12_sign_24 : decode cX12_sign 24 = .ok (.iadd, 1) := by decide +kernel
theorem dX12_sign_25 : decode cX12_sign 25 = .ok (.iaload, 1) := by decide +kernel
theorem dX12_sign_26 : decode cX12_sign 26 = .ok (.goto 4, 3) := by decide +kernel
theorem dX12_sign_29 : decode cX12_sign 29 = .ok (.iconst (-1), 1) := by decide +kernel
theorem dX12_sign_30 : decode cX12_sign 30 = .ok (.ireturn, 1) := by decide +kernel
theorem dX12_name_0 : decode cX12_name 0 = .ok (.iload_n 1, 1) := by decide +kernel
theorem dX12_name_1 : decode cX12_name 1 = .ok (.iconst (-1), 1) := by decide +kernel
theorem dX12_name_2 : decode cX12_name 2 = .ok (.if_icmp .ne 51, 3) := by decide +kernel
theorem dX12_name_5 : decode cX12_name 5 = .ok (.aload_n 0, 1) := by decide +kernel
theorem dX12_name_6 : decode cX12_name 6 = .ok (.getfield 229, 3) := by decide +kernel
theorem dX12_name_9 : decode cX12_name 9 = .ok (.iconst (-1), 1) := by decide +kernel
theorem dX12_name_10 : decode cX12_name 10 = .ok (.if_icmp .eq 43, 3) := by decide +kernel
theorem dX12_name_13 : decode cX12_name 13 = .ok (.aload_n 0, 1) := by decide +kernel
theorem dX12_name_14 : decode cX12_name 14 = .ok (.aload_n 0, 1) := by decide +kernel
theorem dX12_name_15 : decode cX12_name 15 = .ok (.getfield 72, 3) := by decide +kernel
theorem dX12_name_18 : decode cX12_name 18 = .ok (.bipush 100, 2) := by decide +kernel
theorem dX12_name_20 : decode cX12_name 20 = .ok (.aload_n 0, 1) := by decide +kernel
theorem dX12_name_21 : decode cX12_name 21 = .ok (.getfield 501, 3) := by decide +kernel
theorem dX12_name_24 : decode cX12_name 24 = .ok (.imul, 1) := by decide +kernel
theorem dX12_name_25 : decode cX12_name 25 = .ok (.aload_n 0, 1) := by decide +kernel
theorem dX12_name_26 : decode cX12_name 26 = .ok (.getfield 229, 3) := by decide +kernel
theorem dX12_name_29 : decode cX12_name 29 = .ok (.iadd, 1) := by decide +kernel
theorem dX12_name_30 : decode cX12_name 30 = .ok (.iaload, 1) := by decide +kernel
theorem dX12_name_31 : decode cX12_name 31 = .ok (.aload_n 0, 1) := by decide +kernel
theorem dX12_name_32 : decode cX12_name 32 = .ok (.getfield 75, 3) := by decide +kernel
theorem dX12_name_35 : decode cX12_name 35 = .ok (.bipush 100, 2) := by decide +kernel
theorem dX12_name_37 : decode cX12_name 37 = .ok (.aload_n 0, 1) := by decide +kernel
theorem dX12_name_38 : decode cX12_name 38 = .ok (.getfield 501, 3) := by decide +kernel
theorem dX12_name_41 : decode cX12_name 41 = .ok (.imul, 1) := by decide +kernel
theorem dX12_name_42 : decode cX12_name 42 = .ok (.aload_n 0, 1) := by decide +kernel
theorem dX12_name_43 : decode cX12_name 43 = .ok (.getfield 229, 3) := by decide +kernel
theorem dX12_name_46 : decode cX12_name 46 = .ok (.iadd, 1) := by decide +kernel
theorem dX12_name_47 : decode cX12_name 47 = .ok (.iaload, 1) := by decide +kernel
theorem dX12_name_48 : decode cX12_name 48 = .ok (.iload_n 2, 1) := by decide +kernel
theorem dX12_name_49 : decode cX12_name 49 = .ok (.invokevirtual 545, 3) := by decide +kernel
theorem dX12_name_52 : decode cX12_name 52 = .ok (.ireturn, 1) := by decide +kernel
theorem dX12_name_53 : decode cX12_name 53 = .ok (.iload_n 1, 1) := by decide +kernel
theorem dX12_name_54 : decode cX12_name 54 = .ok (.ifCond .lt 11, 3) := by decide +kernel
theorem dX12_name_57 : decode cX12_name 57 = .ok (.iload_n 1, 1) := by decide +kernel
theorem dX12_name_58 : decode cX12_name 58 = .ok (.aload_n 0, 1) := by decide +kernel
theorem dX12_name_59 : decode cX12_name 59 = .ok (.getfield 504, 3) := by decide +kernel
theorem dX12_name_62 : decode cX12_name 62 = .ok (.if_icmp .lt 5, 3) := by decide +kernel
theorem dX12_name_65 : decode cX12_name 65 = .ok (.iconst (-1), 1) := by decide +kernel
theorem dX12_name_66 : decode cX12_name 66 = .ok (.ireturn, 1) := by decide +kernel
theorem dX12_name_67 : decode cX12_name 67 = .ok (.aload_n 0, 1) := by decide +kernel
theorem dX12_name_68 : decode cX12_name 68 = .ok (.aload_n 0, 1) := by decide +kernel
theorem dX12_name_69 : decode cX12_name 69 = .ok (.getfield 220, 3) := by decide +kernel
theorem dX12_name_72 : decode cX12_name 72 = .ok (.iload_n 1, 1) := by decide +kernel
theorem dX12_name_73 : decode cX12_name 73 = .ok (.iaload, 1) := by decide +kernel
theorem dX12_name_74 : decode cX12_name 74 = .ok (.invokevirtual 507, 3) := by decide +kernel
theorem dX12_name_77 : decode cX12_name 77 = .ok (.istore_n 3, 1) := by decide +kernel
theorem dX12_name_78 : decode cX12_name 78 = .ok (.iload_n 3, 1) := by decide +kernel
theorem dX12_name_79 : decode cX12_name 79 = .ok (.iconst (-1), 1) := by decide +kernel
theorem dX12_name_80 : decode cX12_name 80 = .ok (.if_icmp .ne 7, 3) := by decide +kernel
theorem dX12_name_83 : decode cX12_name 83 = .ok (.iconst (-1), 1) := by decide +kernel
theorem dX12_name_84 : decode cX12_name 84 = .ok (.goto 38, 3) := by decide +kernel
theorem dX12_name_87 : decode cX12_name 87 = .ok (.aload_n 0, 1) := by decide +kernel
theorem dX12_name_88 : decode cX12_name 88 = .ok (.aload_n 0, 1) := by decide +kernel
theorem dX12_name_89 : decode cX12_name 89 = .ok (.getfield 133, 3) := by decide +kernel
theorem dX12_name_92 : decode cX12_name 92 = .ok (.sipush 400, 3) := by decide +kernel
theorem dX12_name_95 : decode cX12_name 95 = .ok (.aload_n 0, 1) := by decide +kernel
theorem dX12_name_96 : decode cX12_name 96 = .ok (.getfield 501, 3) := by decide +kernel
theorem dX12_name_99 : decode cX12_name 99 = .ok (.imul, 1) := by decide +kernel
theorem dX12_name_100 : decode cX12_name 100 = .ok (.iload_n 3, 1) := by decide +kernel
theorem dX12_name_101 : decode cX12_name 101 = .ok (.iadd, 1) := by decide +kernel
theorem dX12_name_102 : decode cX12_name 102 = .ok (.iaload, 1) := by decide +kernel
theorem dX12_name_103 : decode cX12_name 103 = .ok (.aload_n 0, 1) := by decide +kernel
theorem dX12_name_104 : decode cX12_name 104 = .ok (.getfield 136, 3) := by decide +kernel
theorem dX12_name_107 : decode cX12_name 107 = .ok (.sipush 400, 3) := by decide +kernel
theorem dX12_name_110 : decode cX12_name 110 = .ok (.aload_n 0, 1) := by decide +kernel
theorem dX12_name_111 : decode cX12_name 111 = .ok (.getfield 501, 3) := by decide +kernel
theorem dX12_name_114 : decode cX12_name 114 = .ok (.imul, 1) := by decide +kernel
theorem dX12_name_115 : decode cX12_name 115 = .ok (.iload_n 3, 1) := by decide +kernel
theorem dX12_name_116 : decode cX12_name 116 = .ok (.iadd, 1) := by decide +kernel
theorem dX12_name_117 : decode cX12_name 117 = .ok (.iaload, 1) := by decide +kernel
theorem dX12_name_118 : decode cX12_name 118 = .ok (.iload_n 2, 1) := by decide +kernel
theorem dX12_name_119 : decode cX12_name 119 = .ok (.invokevirtual 545, 3) := by decide +kernel
theorem dX12_name_122 : decode cX12_name 122 = .ok (.ireturn, 1) := by decide +kernel
theorem dX12_file_0 : decode cX12_file 0 = .ok (.iload_n 1, 1) := by decide +kernel
theorem dX12_file_1 : decode cX12_file 1 = .ok (.ifCond .lt 20, 3) := by decide +kernel
theorem dX12_file_4 : decode cX12_file 4 = .ok (.iload_n 1, 1) := by decide +kernel
theorem dX12_file_5 : decode cX12_file 5 = .ok (.aload_n 0, 1) := by decide +kernel
theorem dX12_file_6 : decode cX12_file 6 = .ok (.getfield 504, 3) := by decide +kernel
theorem dX12_file_9 : decode cX12_file 9 = .ok (.if_icmp .ge 12, 3) := by decide +kernel
theorem dX12_file_12 : decode cX12_file 12 = .ok (.aload_n 0, 1) := by decide +kernel
theorem dX12_file_13 : decode cX12_file 13 = .ok (.iload_n 1, 1) := by decide +kernel
theorem dX12_file_14 : decode cX12_file 14 = .ok (.invokevirtual 542, 3) := by decide +kernel
theorem dX12_file_17 : decode cX12_file 17 = .ok (.iconst (-1), 1) := by decide +kernel
theorem dX12_file_18 : decode cX12_file 18 = .ok (.if_icmp .ne 5, 3) := by decide +kernel
theorem dX12_file_21 : decode cX12_file 21 = .ok (.iconst (-1), 1) := by decide +kernel
theorem dX12_file_22 : decode cX12_file 22 = .ok (.ireturn, 1) := by decide +kernel
theorem dX12_file_23 : decode cX12_file 23 = .ok (.aload_n 0, 1) := by decide +kernel
theorem dX12_file_24 : decode cX12_file 24 = .ok (.aload_n 0, 1) := by decide +kernel
theorem dX12_file_25 : decode cX12_file 25 = .ok (.getfield 211, 3) := by decide +kernel
theorem dX12_file_28 : decode cX12_file 28 = .ok (.aload_n 0, 1) := by decide +kernel
theorem dX12_file_29 : decode cX12_file 29 = .ok (.iload_n 1, 1) := by decide +kernel
theorem dX12_file_30 : decode cX12_file 30 = .ok (.invokevirtual 542, 3) := by decide +kernel
theorem dX12_file_33 : decode cX12_file 33 = .ok (.iaload, 1) := by decide +kernel
theorem dX12_file_34 : decode cX12_file 34 = .ok (.aload_n 0, 1) := by decide +kernel
theorem dX12_file_35 : decode cX12_file 35 = .ok (.getfield 214, 3) := by decide +kernel
theorem dX12_file_38 : decode cX12_file 38 = .ok (.aload_n 0, 1) := by decide +kernel
theorem dX12_file_39 : decode cX12_file 39 = .ok (.iload_n 1, 1) := by decide +kernel
theorem dX12_file_40 : decode cX12_file 40 = .ok (.invokevirtual 542, 3) := by decide +kernel
theorem dX12_file_43 : decode cX12_file 43 = .ok (.iaload, 1) := by decide +kernel
theorem dX12_file_44 : decode cX12_file 44 = .ok (.iload_n 2, 1) := by decide +kernel
theorem dX12_file_45 : decode cX12_file 45 = .ok (.invokevirtual 545, 3) := by decide +kernel
theorem dX12_file_48 : decode cX12_file 48 = .ok (.ireturn, 1) := by decide +kernel
theorem dX12_symbol_0 : decode cX12_symbol 0 = .ok (.aload_n 0, 1) := by decide +kernel
theorem dX12_symbol_1 : decode cX12_symbol 1 = .ok (.getfield 229, 3) := by decide +kernel
theorem dX12_symbol_4 : decode cX12_symbol 4 = .ok (.iconst (-1), 1) := by decide +kernel
theorem dX12_symbol_5 : decode cX12_symbol 5 = .ok (.if_icmp .ne 5, 3) := by decide +kernel
theorem dX12_symbol_8 : decode cX12_symbol 8 = .ok (.iconst (-1), 1) := by decide +kernel
theorem dX12_symbol_9 : decode cX12_symbol 9 = .ok (.ireturn, 1) := by decide +kernel
theorem dX12_symbol_10 : decode cX12_symbol 10 = .ok (.iload_n 1, 1) := by decide +kernel
theorem dX12_symbol_11 : decode cX12_symbol 11 = .ok (.ifCond .ne 10, 3) := by decide +kernel
theorem dX12_symbol_14 : decode cX12_symbol 14 = .ok (.aload_n 0, 1) := by decide +kernel
theorem dX12_symbol_15 : decode cX12_symbol 15 = .ok (.getfield 229, 3) := by decide +kernel
theorem dX12_symbol_18 : decode cX12_symbol 18 = .ok (.goto 41, 3) := by decide +kernel
theorem dX12_symbol_21 : decode cX12_symbol 21 = .ok (.iload_n 1, 1) := by decide +kernel
theorem dX12_symbol_22 : decode cX12_symbol 22 = .ok (.iconst 1, 1) := by decide +kernel
theorem dX12_symbol_23 : decode cX12_symbol 23 = .ok (.if_icmp .ne 23, 3) := by decide +kernel
theorem dX12_symbol_26 : decode cX12_symbol 26 = .ok (.aload_n 0, 1) := by decide +kernel
theorem dX12_symbol_27 : decode cX12_symbol 27 = .ok (.getfield 75, 3) := by decide +kernel
theorem dX12_symbol_30 : decode cX12_symbol 30 = .ok (.bipush 100, 2) := by decide +kernel
theorem dX12_symbol_32 : decode cX12_symbol 32 = .ok (.aload_n 0, 1) := by decide +kernel
theorem dX12_symbol_33 : decode cX12_symbol 33 = .ok (.getfield 501, 3) := by decide +kernel
theorem dX12_symbol_36 : decode cX12_symbol 36 = .ok (.imul, 1) := by decide +kernel
theorem dX12_symbol_37 : decode cX12_symbol 37 = .ok (.aload_n 0, 1) := by decide +kernel
theorem dX12_symbol_38 : decode cX12_symbol 38 = .ok (.getfield 229, 3) := by decide +kernel
theorem dX12_symbol_41 : decode cX12_symbol 41 = .ok (.iadd, 1) := by decide +kernel
theorem dX12_symbol_42 : decode cX12_symbol 42 = .ok (.iaload, 1) := by decide +kernel
theorem dX12_symbol_43 : decode cX12_symbol 43 = .ok (.goto 16, 3) := by decide +kernel
theorem dX12_symbol_46 : decode cX12_symbol 46 = .ok (.iload_n 1, 1) := by decide +kernel
theorem dX12_symbol_47 : decode cX12_symbol 47 = .ok (.iconst 2, 1) := by decide +kernel
theorem dX12_symbol_48 : decode cX12_symbol 48 = .ok (.if_icmp .ne 10, 3) := by decide +kernel
theorem dX12_symbol_51 : decode cX12_symbol 51 = .ok (.aload_n 0, 1) := by decide +kernel
theorem dX12_symbol_52 : decode cX12_symbol 52 = .ok (.getfield 539, 3) := by decide +kernel
theorem dX12_symbol_55 : decode cX12_symbol 55 = .ok (.goto 4, 3) := by decide +kernel
theorem dX12_symbol_58 : decode cX12_symbol 58 = .ok (.iconst (-1), 1) := by decide +kernel
theorem dX12_symbol_59 : decode cX12_symbol 59 = .ok (.ireturn, 1) := by decide +kernel
theorem dX12_count_0 : decode cX12_count 0 = .ok (.iload_n 1, 1) := by decide +kernel
theorem dX12_count_1 : decode cX12_count 1 = .ok (.tableswitch 122 0 7 #[47, 52, 62, 72, 82, 92, 102, 112], 47) := by decide +kernel
theorem dX12_count_48 : decode cX12_count 48 = .ok (.aload_n 0, 1) := by decide +kernel
theorem dX12_count_49 : decode cX12_count 49 = .ok (.getfield 232, 3) := by decide +kernel
theorem dX12_count_52 : decode cX12_count 52 = .ok (.ireturn, 1) := by decide +kernel
theorem dX12_count_53 : decode cX12_count 53 = .ok (.aload_n 0, 1) := by decide +kernel
theorem dX12_count_54 : decode cX12_count 54 = .ok (.getfield 23, 3) := by decide +kernel
theorem dX12_count_57 : decode cX12_count 57 = .ok (.aload_n 0, 1) := by decide +kernel
theorem dX12_count_58 : decode cX12_count 58 = .ok (.getfield 501, 3) := by decide +kernel
theorem dX12_count_61 : decode cX12_count 61 = .ok (.iaload, 1) := by decide +kernel
theorem dX12_count_62 : decode cX12_count 62 = .ok (.ireturn, 1) := by decide +kernel
theorem dX12_count_63 : decode cX12_count 63 = .ok (.aload_n 0, 1) := by decide +kernel
theorem dX12_count_64 : decode cX12_count 64 = .ok (.getfield 26, 3) := by decide +kernel
theorem dX12_count_67 : decode cX12_count 67 = .ok (.aload_n 0, 1) := by decide +kernel
theorem dX12_count_68 : decode cX12_count 68 = .ok (.getfield 501, 3) := by decide +kernel
theorem dX12_count_71 : decode cX12_count 71 = .ok (.iaload, 1) := by decide +kernel
theorem dX12_count_72 : decode cX12_count 72 = .ok (.ireturn, 1) := by decide +kernel
theorem dX12_count_73 : decode cX12_count 73 = .ok (.aload_n 0, 1) := by decide +kernel
theorem dX12_count_74 : decode cX12_count 74 = .ok (.getfield 29, 3) := by decide +kernel
theorem dX12_count_77 : decode cX12_count 77 = .ok (.aload_n 0, 1) := by decide +kernel
theorem dX12_count_78 : decode cX12_count 78 = .ok (.getfield 501, 3) := by decide +kernel
theorem dX12_count_81 : decode cX12_count 81 = .ok (.iaload, 1) := by decide +kernel
theorem dX12_count_82 : decode cX12_count 82 = .ok (.ireturn, 1) := by decide +kernel
theorem dX12_count_83 : decode cX12_count 83 = .ok (.aload_n 0, 1) := by decide +kernel
theorem dX12_count_84 : decode cX12_count 84 = .ok (.getfield 32, 3) := by decide +kernel
theorem dX12_count_87 : decode cX12_count 87 = .ok (.aload_n 0, 1) := by decide +kernel
theorem dX12_count_88 : decode cX12_count 88 = .ok (.getfield 501, 3) := by decide +kernel
theorem dX12_count_91 : decode cX12_count 91 = .ok (.iaload, 1) := by decide +kernel
theorem dX12_count_92 : decode cX12_count 92 = .ok (.ireturn, 1) := by decide +kernel
theorem dX12_count_93 : decode cX12_count 93 = .ok (.aload_n 0, 1) := by decide +kernel
theorem dX12_count_94 : decode cX12_count 94 = .ok (.getfield 35, 3) := by decide +kernel
theorem dX12_count_97 : decode cX12_count 97 = .ok (.aload_n 0, 1) := by decide +kernel
theorem dX12_count_98 : decode cX12_count 98 = .ok (.getfield 501, 3) := by decide +kernel
theorem dX12_count_101 : decode cX12_count 101 = .ok (.iaload, 1) := by decide +kernel
theorem dX12_count_102 : decode cX12_count 102 = .ok (.ireturn, 1) := by decide +kernel
theorem dX12_count_103 : decode cX12_count 103 = .ok (.aload_n 0, 1) := by decide +kernel
theorem dX12_count_104 : decode cX12_count 104 = .ok (.getfield 38, 3) := by decide +kernel
theorem dX12_count_107 : decode cX12_count 107 = .ok (.aload_n 0, 1) := by decide +kernel
theorem dX12_count_108 : decode cX12_count 108 = .ok (.getfield 501, 3) := by decide +kernel
theorem dX12_count_111 : decode cX12_count 111 = .ok (.iaload, 1) := by decide +kernel
theorem dX12_count_112 : decode cX12_count 112 = .ok (.ireturn, 1) := by decide +kernel
theorem dX12_count_113 : decode cX12_count 113 = .ok (.aload_n 0, 1) := by decide +kernel
theorem dX12_count_114 : decode cX12_count 114 = .ok (.getfield 41, 3) := by decide +kernel
theorem dX12_count_117 : decode cX12_count 117 = .ok (.aload_n 0, 1) := by decide +kernel
theorem dX12_count_118 : decode cX12_count 118 = .ok (.getfield 501, 3) := by decide +kernel
theorem dX12_count_121 : decode cX12_count 121 = .ok (.iaload, 1) := by decide +kernel
theorem dX12_count_122 : decode cX12_count 122 = .ok (.ireturn, 1) := by decide +kernel
theorem dX12_count_123 : decode cX12_count 123 = .ok (.iconst (-1), 1) := by decide +kernel
theorem dX12_count_124 : decode cX12_count 124 = .ok (.ireturn, 1) := by decide +kernel
theorem dJ0_length_8abf5_0 : decode cJ0_length_8abf5 0 = .ok (.aload_n 0, 1) := by decide +kernel
theorem dJ0_length_8abf5_1 : decode cJ0_length_8abf5 1 = .ok (.getfield 9, 3) := by decide +kernel
theorem dJ0_length_8abf5_4 : decode cJ0_length_8abf5 4 = .ok (.arraylength, 1) := by decide +kernel
theorem dJ0_length_8abf5_5 : decode cJ0_length_8abf5 5 = .ok (.aload_n 0, 1) := by decide +kernel
theorem dJ0_length_8abf5_6 : decode cJ0_length_8abf5 6 = .ok (.invokevirtual 335, 3) := by decide +kernel
theorem dJ0_length_8abf5_9 : decode cJ0_length_8abf5 9 = .ok (.ishr, 1) := by decide +kernel
theorem dJ0_length_8abf5_10 : decode cJ0_length_8abf5 10 = .ok (.ireturn, 1) := by decide +kernel
theorem dJ0_charAt_5068e_0 : decode cJ0_charAt_5068e 0 = .ok (.aload_n 0, 1) := by decide +kernel
theorem dJ0_charAt_5068e_1 : decode cJ0_charAt_5068e 1 = .ok (.invokevirtual 492, 3) := by decide +kernel
theorem dJ0_charAt_5068e_4 : decode cJ0_charAt_5068e 4 = .ok (.ifCond .eq 12, 3) := by decide +kernel
theorem dJ0_charAt_5068e_7 : decode cJ0_charAt_5068e 7 = .ok (.aload_n 0, 1) := by decide +kernel
theorem dJ0_charAt_5068e_8 : decode cJ0_charAt_5068e 8 = .ok (.getfield 9, 3) := by decide +kernel
theorem dJ0_charAt_5068e_11 : decode cJ0_charAt_5068e 11 = .ok (.iload_n 1, 1) := by decide +kernel
theorem dJ0_charAt_5068e_12 : decode cJ0_charAt_5068e 12 = .ok (.invokestatic 495, 3) := by decide +kernel
theorem dJ0_charAt_5068e_15 : decode cJ0_charAt_5068e 15 = .ok (.ireturn, 1) := by decide +kernel
theorem dJ0_charAt_5068e_16 : decode cJ0_charAt_5068e 16 = .ok (.aload_n 0, 1) := by decide +kernel
theorem dJ0_charAt_5068e_17 : decode cJ0_charAt_5068e 17 = .ok (.getfield 9, 3) := by decide +kernel
theorem dJ0_charAt_5068e_20 : decode cJ0_charAt_5068e 20 = .ok (.iload_n 1, 1) := by decide +kernel
theorem dJ0_charAt_5068e_21 : decode cJ0_charAt_5068e 21 = .ok (.invokestatic 498, 3) := by decide +kernel
theorem dJ0_charAt_5068e_24 : decode cJ0_charAt_5068e 24 = .ok (.ireturn, 1) := by decide +kernel
theorem dJ0_coder_7d493_0 : decode cJ0_coder_7d493 0 = .ok (.getstatic 38, 3) := by decide +kernel
