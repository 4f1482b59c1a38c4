theorem dL_build_324 : decode cL_build 324 = .ok (.istore 6, 2) := by decide +kernel
theorem dL_build_326 : decode cL_build 326 = .ok (.iload 6, 2) := by decide +kernel
theorem dL_build_328 : decode cL_build 328 = .ok (.iload 5, 2) := by decide +kernel
theorem dL_build_330 : decode cL_build 330 = .ok (.if_icmp .ge 92, 3) := by decide +kernel
theorem dL_build_333 : decode cL_build 333 = .ok (.aload_n 1, 1) := by decide +kernel
theorem dL_build_334 : decode cL_build 334 = .ok (.bipush 7, 2) := by decide +kernel
theorem dL_build_336 : decode cL_build 336 = .ok (.iload 6, 2) := by decide +kernel
theorem dL_build_338 : decode cL_build 338 = .ok (.iconst 2, 1) := by decide +kernel
theorem dL_build_339 : decode cL_build 339 = .ok (.irem, 1) := by decide +kernel
theorem dL_build_340 : decode cL_build 340 = .ok (.iadd, 1) := by decide +kernel
theorem dL_build_341 : decode cL_build 341 = .ok (.invokestatic 12, 3) := by decide +kernel
theorem dL_build_344 : decode cL_build 344 = .ok (.iload 6, 2) := by decide +kernel
theorem dL_build_346 : decode cL_build 346 = .ok (.ishr, 1) := by decide +kernel
theorem dL_build_347 : decode cL_build 347 = .ok (.bipush 13, 2) := by decide +kernel
theorem dL_build_349 : decode cL_build 349 = .ok (.iload 6, 2) := by decide +kernel
theorem dL_build_351 : decode cL_build 351 = .ok (.imul, 1) := by decide +kernel
theorem dL_build_352 : decode cL_build 352 = .ok (.iadd, 1) := by decide +kernel
theorem dL_build_353 : decode cL_build 353 = .ok (.istore 7, 2) := by decide +kernel
theorem dL_build_355 : decode cL_build 355 = .ok (.iload 7, 2) := by decide +kernel
theorem dL_build_357 : decode cL_build 357 = .ok (.iload 7, 2) := by decide +kernel
theorem dL_build_359 : decode cL_build 359 = .ok (.bipush 6, 2) := by decide +kernel
theorem dL_build_361 : decode cL_build 361 = .ok (.ishr, 1) := by decide +kernel
theorem dL_build_362 : decode cL_build 362 = .ok (.iconst 3, 1) := by decide +kernel
theorem dL_build_363 : decode cL_build 363 = .ok (.invokestatic 18, 3) := by decide +kernel
theorem dL_build_366 : decode cL_build 366 = .ok (.ifCond .ne 9, 3) := by decide +kernel
theorem dL_build_369 : decode cL_build 369 = .ok (.sipush 201, 3) := by decide +kernel
theorem dL_build_372 : decode cL_build 372 = .ok (.goto 5, 3) := by decide +kernel
theorem dL_build_375 : decode cL_build 375 = .ok (.bipush 30, 2) := by decide +kernel
theorem dL_build_377 : decode cL_build 377 = .ok (.invokestatic 18, 3) := by decide +kernel
theorem dL_build_380 : decode cL_build 380 = .ok (.istore 8, 2) := by decide +kernel
theorem dL_build_382 : decode cL_build 382 = .ok (.iload 7, 2) := by decide +kernel
theorem dL_build_384 : decode cL_build 384 = .ok (.iconst 3, 1) := by decide +kernel
theorem dL_build_385 : decode cL_build 385 = .ok (.ishr, 1) := by decide +kernel
theorem dL_build_386 : decode cL_build 386 = .ok (.bipush 31, 2) := by decide +kernel
theorem dL_build_388 : decode cL_build 388 = .ok (.invokestatic 18, 3) := by decide +kernel
theorem dL_build_391 : decode cL_build 391 = .ok (.istore 9, 2) := by decide +kernel
theorem dL_build_393 : decode cL_build 393 = .ok (.aload_n 0, 1) := by decide +kernel
theorem dL_build_394 : decode cL_build 394 = .ok (.iload 8, 2) := by decide +kernel
theorem dL_build_396 : decode cL_build 396 = .ok (.iload 9, 2) := by decide +kernel
theorem dL_build_398 : decode cL_build 398 = .ok (.invokevirtual 46, 3) := by decide +kernel
theorem dL_build_401 : decode cL_build 401 = .ok (.iload 6, 2) := by decide +kernel
theorem dL_build_403 : decode cL_build 403 = .ok (.if_icmp .eq 5, 3) := by decide +kernel
theorem dL_build_406 : decode cL_build 406 = .ok (.aconst_null, 1) := by decide +kernel
theorem dL_build_407 : decode cL_build 407 = .ok (.areturn, 1) := by decide +kernel
theorem dL_build_408 : decode cL_build 408 = .ok (.aload_n 2, 1) := by decide +kernel
theorem dL_build_409 : decode cL_build 409 = .ok (.iload 8, 2) := by decide +kernel
theorem dL_build_411 : decode cL_build 411 = .ok (.iload 9, 2) := by decide +kernel
theorem dL_build_413 : decode cL_build 413 = .ok (.invokevirtual 49, 3) := by decide +kernel
theorem dL_build_416 : decode cL_build 416 = .ok (.iinc 6 1, 3) := by decide +kernel
theorem dL_build_419 : decode cL_build 419 = .ok (.goto (-93), 3) := by decide +kernel
theorem dL_build_422 : decode cL_build 422 = .ok (.iconst 1, 1) := by decide +kernel
theorem dL_build_423 : decode cL_build 423 = .ok (.aload_n 1, 1) := by decide +kernel
theorem dL_build_424 : decode cL_build 424 = .ok (.bipush 9, 2) := by decide +kernel
theorem dL_build_426 : decode cL_build 426 = .ok (.invokestatic 12, 3) := by decide +kernel
theorem dL_build_429 : decode cL_build 429 = .ok (.ldc 52, 2) := by decide +kernel
theorem dL_build_431 : decode cL_build 431 = .ok (.invokestatic 18, 3) := by decide +kernel
theorem dL_build_434 : decode cL_build 434 = .ok (.iadd, 1) := by decide +kernel
theorem dL_build_435 : decode cL_build 435 = .ok (.istore 6, 2) := by decide +kernel
theorem dL_build_437 : decode cL_build 437 = .ok (.aload_n 2, 1) := by decide +kernel
theorem dL_build_438 : decode cL_build 438 = .ok (.iload 6, 2) := by decide +kernel
theorem dL_build_440 : decode cL_build 440 = .ok (.putfield 53, 3) := by decide +kernel
theorem dL_build_443 : decode cL_build 443 = .ok (.aload_n 0, 1) := by decide +kernel
theorem dL_build_444 : decode cL_build 444 = .ok (.iload 6, 2) := by decide +kernel
theorem dL_build_446 : decode cL_build 446 = .ok (.invokevirtual 57, 3) := by decide +kernel
theorem dL_build_449 : decode cL_build 449 = .ok (.iconst 1, 1) := by decide +kernel
theorem dL_build_450 : decode cL_build 450 = .ok (.if_icmp .ne 7, 3) := by decide +kernel
theorem dL_build_453 : decode cL_build 453 = .ok (.aload_n 2, 1) := by decide +kernel
theorem dL_build_454 : decode cL_build 454 = .ok (.goto 4, 3) := by decide +kernel
theorem dL_build_457 : decode cL_build 457 = .ok (.aconst_null, 1) := by decide +kernel
theorem dL_build_458 : decode cL_build 458 = .ok (.areturn, 1) := by decide +kernel
theorem dL_act_0 : decode cL_act 0 = .ok (.iload_n 2, 1) := by decide +kernel
theorem dL_act_1 : decode cL_act 1 = .ok (.aload_n 1, 1) := by decide +kernel
theorem dL_act_2 : decode cL_act 2 = .ok (.getfield 28, 3) := by decide +kernel
theorem dL_act_5 : decode cL_act 5 = .ok (.arraylength, 1) := by decide +kernel
theorem dL_act_6 : decode cL_act 6 = .ok (.invokestatic 18, 3) := by decide +kernel
theorem dL_act_9 : decode cL_act 9 = .ok (.istore_n 3, 1) := by decide +kernel
theorem dL_act_10 : decode cL_act 10 = .ok (.iload_n 2, 1) := by decide +kernel
theorem dL_act_11 : decode cL_act 11 = .ok (.iconst 3, 1) := by decide +kernel
theorem dL_act_12 : decode cL_act 12 = .ok (.ishr, 1) := by decide +kernel
theorem dL_act_13 : decode cL_act 13 = .ok (.aload_n 1, 1) := by decide +kernel
theorem dL_act_14 : decode cL_act 14 = .ok (.getfield 43, 3) := by decide +kernel
theorem dL_act_17 : decode cL_act 17 = .ok (.arraylength, 1) := by decide +kernel
theorem dL_act_18 : decode cL_act 18 = .ok (.invokestatic 18, 3) := by decide +kernel
theorem dL_act_21 : decode cL_act 21 = .ok (.istore 4, 2) := by decide +kernel
theorem dL_act_23 : decode cL_act 23 = .ok (.iload_n 2, 1) := by decide +kernel
theorem dL_act_24 : decode cL_act 24 = .ok (.iconst 2, 1) := by decide +kernel
theorem dL_act_25 : decode cL_act 25 = .ok (.ishr, 1) := by decide +kernel
theorem dL_act_26 : decode cL_act 26 = .ok (.aload_n 1, 1) := by decide +kernel
theorem dL_act_27 : decode cL_act 27 = .ok (.getfield 61, 3) := by decide +kernel
theorem dL_act_30 : decode cL_act 30 = .ok (.arraylength, 1) := by decide +kernel
theorem dL_act_31 : decode cL_act 31 = .ok (.invokestatic 18, 3) := by decide +kernel
theorem dL_act_34 : decode cL_act 34 = .ok (.istore 5, 2) := by decide +kernel
theorem dL_act_36 : decode cL_act 36 = .ok (.aload_n 1, 1) := by decide +kernel
theorem dL_act_37 : decode cL_act 37 = .ok (.getfield 61, 3) := by decide +kernel
theorem dL_act_40 : decode cL_act 40 = .ok (.iload 5, 2) := by decide +kernel
theorem dL_act_42 : decode cL_act 42 = .ok (.aaload, 1) := by decide +kernel
theorem dL_act_43 : decode cL_act 43 = .ok (.astore 6, 2) := by decide +kernel
theorem dL_act_45 : decode cL_act 45 = .ok (.iload_n 2, 1) := by decide +kernel
theorem dL_act_46 : decode cL_act 46 = .ok (.bipush 8, 2) := by decide +kernel
theorem dL_act_48 : decode cL_act 48 = .ok (.ishr, 1) := by decide +kernel
theorem dL_act_49 : decode cL_act 49 = .ok (.bipush 7, 2) := by decide +kernel
theorem dL_act_51 : decode cL_act 51 = .ok (.invokestatic 18, 3) := by decide +kernel
theorem dL_act_54 : decode cL_act 54 = .ok (.tableswitch 263 0 5 #[38, 38, 38, 100, 161, 196], 38) := by decide +kernel
theorem dL_act_92 : decode cL_act 92 = .ok (.aload_n 1, 1) := by decide +kernel
theorem dL_act_93 : decode cL_act 93 = .ok (.getfield 43, 3) := by decide +kernel
theorem dL_act_96 : decode cL_act 96 = .ok (.iload 4, 2) := by decide +kernel
theorem dL_act_98 : decode cL_act 98 = .ok (.aaload, 1) := by decide +kernel
theorem dL_act_99 : decode cL_act 99 = .ok (.iconst 1, 1) := by decide +kernel
theorem dL_act_100 : decode cL_act 100 = .ok (.iaload, 1) := by decide +kernel
theorem dL_act_101 : decode cL_act 101 = .ok (.istore 7, 2) := by decide +kernel
theorem dL_act_103 : decode cL_act 103 = .ok (.aload_n 1, 1) := by decide +kernel
theorem dL_act_104 : decode cL_act 104 = .ok (.getfield 43, 3) := by decide +kernel
theorem dL_act_107 : decode cL_act 107 = .ok (.iload 4, 2) := by decide +kernel
theorem dL_act_109 : decode cL_act 109 = .ok (.aaload, 1) := by decide +kernel
theorem dL_act_110 : decode cL_act 110 = .ok (.iconst 1, 1) := by decide +kernel
theorem dL_act_111 : decode cL_act 111 = .ok (.iload_n 2, 1) := by decide +kernel
theorem dL_act_112 : decode cL_act 112 = .ok (.bipush 6, 2) := by decide +kernel
theorem dL_act_114 : decode cL_act 114 = .ok (.ishr, 1) := by decide +kernel
theorem dL_act_115 : decode cL_act 115 = .ok (.iconst 5, 1) := by decide +kernel
theorem dL_act_116 : decode cL_act 116 = .ok (.invokestatic 18, 3) := by decide +kernel
theorem dL_act_119 : decode cL_act 119 = .ok (.ifCond .ne 7, 3) := by decide +kernel
theorem dL_act_122 : decode cL_act 122 = .ok (.iconst (-1), 1) := by decide +kernel
theorem dL_act_123 : decode cL_act 123 = .ok (.goto 4, 3) := by decide +kernel
theorem dL_act_126 : decode cL_act 126 = .ok (.iload_n 3, 1) := by decide +kernel
theorem dL_act_127 : decode cL_act 127 = .ok (.iastore, 1) := by decide +kernel
theorem dL_act_128 : decode cL_act 128 = .ok (.aload_n 0, 1) := by decide +kernel
theorem dL_act_129 : decode cL_act 129 = .ok (.iload 4, 2) := by decide +kernel
theorem dL_act_131 : decode cL_act 131 = .ok (.aload_n 1, 1) := by decide +kernel
theorem dL_act_132 : decode cL_act 132 = .ok (.getfield 43, 3) := by decide +kernel
theorem dL_act_135 : decode cL_act 135 = .ok (.iload 4, 2) := by decide +kernel
theorem dL_act_137 : decode cL_act 137 = .ok (.aaload, 1) := by decide +kernel
theorem dL_act_138 : decode cL_act 138 = .ok (.iconst 1, 1) := by decide +kernel
theorem dL_act_139 : decode cL_act 139 = .ok (.iaload, 1) := by decide +kernel
theorem dL_act_140 : decode cL_act 140 = .ok (.invokevirtual 40, 3) := by decide +kernel
theorem dL_act_143 : decode cL_act 143 = .ok (.iload 7, 2) := by decide +kernel
theorem dL_act_145 : decode cL_act 145 = .ok (.if_icmp .ne 7, 3) := by decide +kernel
theorem dL_act_148 : decode cL_act 148 = .ok (.iconst 1, 1) := by decide +kernel
theorem dL_act_149 : decode cL_act 149 = .ok (.goto 4, 3) := by decide +kernel
theorem dL_act_152 : decode cL_act 152 = .ok (.iconst 0, 1) := by decide +kernel
theorem dL_act_153 : decode cL_act 153 = .ok (.ireturn, 1) := by decide +kernel
theorem dL_act_154 : decode cL_act 154 = .ok (.iconst 1, 1) := by decide +kernel
theorem dL_act_155 : decode cL_act 155 = .ok (.iload_n 2, 1) := by decide +kernel
theorem dL_act_156 : decode cL_act 156 = .ok (.iconst 4, 1) := by decide +kernel
theorem dL_act_157 : decode cL_act 157 = .ok (.ishr, 1) := by decide +kernel
theorem dL_act_158 : decode cL_act 158 = .ok (.bipush 20, 2) := by decide +kernel
theorem dL_act_160 : decode cL_act 160 = .ok (.invokestatic 18, 3) := by decide +kernel
theorem dL_act_163 : decode cL_act 163 = .ok (.iadd, 1) := by decide +kernel
theorem dL_act_164 : decode cL_act 164 = .ok (.istore 8, 2) := by decide +kernel
theorem dL_act_166 : decode cL_act 166 = .ok (.aload 6, 2) := by decide +kernel
theorem dL_act_168 : decode cL_act 168 = .ok (.dup, 1) := by decide +kernel
theorem dL_act_169 : decode cL_act 169 = .ok (.getfield 65, 3) := by decide +kernel
theorem dL_act_172 : decode cL_act 172 = .ok (.iload 8, 2) := by decide +kernel
theorem dL_act_174 : decode cL_act 174 = .ok (.iadd, 1) := by decide +kernel
theorem dL_act_175 : decode cL_act 175 = .ok (.putfield 65, 3) := by decide +kernel
theorem dL_act_178 : decode cL_act 178 = .ok (.aload 6, 2) := by decide +kernel
theorem dL_act_180 : decode cL_act 180 = .ok (.getfield 70, 3) := by decide +kernel
theorem dL_act_183 : decode cL_act 183 = .ok (.iconst 2, 1) := by decide +kernel
theorem dL_act_184 : decode cL_act 184 = .ok (.if_icmp .ne 9, 3) := by decide +kernel
theorem dL_act_187 : decode cL_act 187 = .ok (.aload 6, 2) := by decide +kernel
theorem dL_act_189 : decode cL_act 189 = .ok (.iconst 0, 1) := by decide +kernel
theorem dL_act_190 : decode cL_act 190 = .ok (.putfield 70, 3) := by decide +kernel
theorem dL_act_193 : decode cL_act 193 = .ok (.aload_n 0, 1) := by decide +kernel
theorem dL_act_194 : decode cL_act 194 = .ok (.iload 5, 2) := by decide +kernel
theorem dL_act_196 : decode cL_act 196 = .ok (.iload 8, 2) := by decide +kernel
theorem dL_act_198 : decode cL_act 198 = .ok (.invokevirtual 73, 3) := by decide +kernel
theorem dL_act_201 : decode cL_act 201 = .ok (.aload 6, 2) := by decide +kernel
theorem dL_act_203 : decode cL_act 203 = .ok (.getfield 65, 3) := by decide +kernel
theorem dL_act_206 : decode cL_act 206 = .ok (.if_icmp .ne 7, 3) := by decide +kernel
theorem dL_act_209 : decode cL_act 209 = .ok (.iconst 1, 1) := by decide +kernel
theorem dL_act_210 : decode cL_act 210 = .ok (.goto 4, 3) := by decide +kernel
theorem dL_act_213 : decode cL_act 213 = .ok (.iconst 0, 1) := by decide +kernel
theorem dL_act_214 : decode cL_act 214 = .ok (.ireturn, 1) := by decide +kernel
theorem dL_act_215 : decode cL_act 215 = .ok (.aload 6, 2) := by decide +kernel
theorem dL_act_217 : decode cL_act 217 = .ok (.getfield 76, 3) := by decide +kernel
theorem dL_act_220 : decode cL_act 220 = .ok (.istore 9, 2) := by decide +kernel
theorem dL_act_222 : decode cL_act 222 = .ok (.iload 9, 2) := by decide +kernel
theorem dL_act_224 : decode cL_act 224 = .ok (.ifCond .lt 9, 3) := by decide +kernel
theorem dL_act_227 : decode cL_act 227 = .ok (.aload_n 1, 1) := by decide +kernel
theorem dL_act_228 : decode cL_act 228 = .ok (.iload 5, 2) := by decide +kernel
theorem dL_act_230 : decode cL_act 230 = .ok (.invokevirtual 79, 3) := by decide +kernel
theorem dL_act_233 : decode cL_act 233 = .ok (.aload_n 0, 1) := by decide +kernel
theorem dL_act_234 : decode cL_act 234 = .ok (.iload 5, 2) := by decide +kernel
theorem dL_act_236 : decode cL_act 236 = .ok (.invokevirtual 83, 3) := by decide +kernel
theorem dL_act_239 : decode cL_act 239 = .ok (.iload 9, 2) := by decide +kernel
theorem dL_act_241 : decode cL_act 241 = .ok (.if_icmp .ne 7, 3) := by decide +kernel
theorem dL_act_244 : decode cL_act 244 = .ok (.iconst 1, 1) := by decide +kernel
theorem dL_act_245 : decode cL_act 245 = .ok (.goto 4, 3) := by decide +kernel
theorem dL_act_248 : decode cL_act 248 = .ok (.iconst 0, 1) := by decide +kernel
theorem dL_act_249 : decode cL_act 249 = .ok (.ireturn, 1) := by decide +kernel
theorem dL_act_250 : decode cL_act 250 = .ok (.iconst 1, 1) := by decide +kernel
theorem dL_act_251 : decode cL_act 251 = .ok (.iload_n 2, 1) := by decide +kernel
theorem dL_act_252 : decode cL_act 252 = .ok (.iconst 4, 1) := by decide +kernel
theorem dL_act_253 : decode cL_act 253 = .ok (.ishr, 1) := by decide +kernel
theorem dL_act_254 : decode cL_act 254 = .ok (.bipush 9, 2) := by decide +kernel
theorem dL_act_256 : decode cL_act 256 = .ok (.invokestatic 18, 3) := by decide +kernel
theorem dL_act_259 : decode cL_act 259 = .ok (.iadd, 1) := by decide +kernel
theorem dL_act_260 : decode cL_act 260 = .ok (.istore 10, 2) := by decide +kernel
theorem dL_act_262 : decode cL_act 262 = .ok (.aload_n 1, 1) := by decide +kernel
theorem dL_act_263 : decode cL_act 263 = .ok (.getfield 28, 3) := by decide +kernel
theorem dL_act_266 : decode cL_act 266 = .ok (.iload_n 3, 1) := by decide +kernel
theorem dL_act_267 : decode cL_act 267 = .ok (.aaload, 1) := by decide +kernel
theorem dL_act_268 : decode cL_act 268 = .ok (.iconst 2, 1) := by decide +kernel
theorem dL_act_269 : decode cL_act 269 = .ok (.iaload, 1) := by decide +kernel
theorem dL_act_270 : decode cL_act 270 = .ok (.iload 10, 2) := by decide +kernel
theorem dL_act_272 : decode cL_act 272 = .ok (.iadd, 1) := by decide +kernel
theorem dL_act_273 : decode cL_act 273 = .ok (.bipush 99, 2) := by decide +kernel
theorem dL_act_275 : decode cL_act 275 = .ok (.if_icmp .le 5, 3) := by decide +kernel
theorem dL_act_278 : decode cL_act 278 = .ok (.iconst 1, 1) := by decide +kernel
theorem dL_act_279 : decode cL_act 279 = .ok (.ireturn, 1) := by decide +kernel
theorem dL_act_280 : decode cL_act 280 = .ok (.aload_n 1, 1) := by decide +kernel
theorem dL_act_281 : decode cL_act 281 = .ok (.getfield 28, 3) := by decide +kernel
theorem dL_act_284 : decode cL_act 284 = .ok (.iload_n 3, 1) := by decide +kernel
theorem dL_act_285 : decode cL_act 285 = .ok (.aaload, 1) := by decide +kernel
theorem dL_act_286 : decode cL_act 286 = .ok (.iconst 2, 1) := by decide +kernel
theorem dL_act_287 : decode cL_act 287 = .ok (.dup2, 1) := by decide +kernel
theorem dL_act_288 : decode cL_act 288 = .ok (.iaload, 1) := by decide +kernel
theorem dL_act_289 : decode cL_act 289 = .ok (.iload 10, 2) := by decide +kernel
theorem dL_act_291 : decode cL_act 291 = .ok (.iadd, 1) := by decide +kernel
theorem dL_act_292 : decode cL_act 292 = .ok (.iastore, 1) := by decide +kernel
theorem dL_act_293 : decode cL_act 293 = .ok (.aload_n 0, 1) := by decide +kernel
theorem dL_act_294 : decode cL_act 294 = .ok (.iload_n 3, 1) := by decide +kernel
theorem dL_act_295 : decode cL_act 295 = .ok (.iload 10, 2) := by decide +kernel
theorem dL_act_297 : decode cL_act 297 = .ok (.invokevirtual 86, 3) := by decide +kernel
theorem dL_act_300 : decode cL_act 300 = .ok (.aload_n 1, 1) := by decide +kernel
theorem dL_act_301 : decode cL_act 301 = .ok (.getfield 28, 3) := by decide +kernel
theorem dL_act_304 : decode cL_act 304 = .ok (.iload_n 3, 1) := by decide +kernel
theorem dL_act_305 : decode cL_act 305 = .ok (.aaload, 1) := by decide +kernel
theorem dL_act_306 : decode cL_act 306 = .ok (.iconst 2, 1) := by decide +kernel
theorem dL_act_307 : decode cL_act 307 = .ok (.iaload, 1) := by decide +kernel
theorem dL_act_308 : decode cL_act 308 = .ok (.if_icmp .ne 7, 3) := by decide +kernel
theorem dL_act_311 : decode cL_act 311 = .ok (.iconst 1, 1) := by decide +kernel
theorem dL_act_312 : decode cL_act 312 = .ok (.goto 4, 3) := by decide +kernel
theorem dL_act_315 : decode cL_act 315 = .ok (.iconst 0, 1) := by decide +kernel
theorem dL_act_316 : decode cL_act 316 = .ok (.ireturn, 1) := by decide +kernel
theorem dL_act_317 : decode cL_act 317 = .ok (.iload_n 2, 1) := by decide +kernel
theorem dL_act_318 : decode cL_act 318 = .ok (.iconst 5, 1) := by decide +kernel
theorem dL_act_319 : decode cL_act 319 = .ok (.ishr, 1) := by decide +kernel
theorem dL_act_320 : decode cL_act 320 = .ok (.iconst 4, 1) := by decide +kernel
theorem dL_act_321 : decode cL_act 321 = .ok (.invokestatic 18, 3) := by decide +kernel
theorem dL_act_324 : decode cL_act 324 = .ok (.ifCond .le 5, 3) := by decide +kernel
theorem dL_act_327 : decode cL_act 327 = .ok (.iconst 1, 1) := by decide +kernel
theorem dL_act_328 : decode cL_act 328 = .ok (.ireturn, 1) := by decide +kernel
theorem dL_act_329 : decode cL_act 329 = .ok (.aload_n 1, 1) := by decide +kernel
theorem dL_act_330 : decode cL_act 330 = .ok (.getfield 53, 3) := by decide +kernel
theorem dL_act_333 : decode cL_act 333 = .ok (.istore 11, 2) := by decide +kernel
theorem dL_act_335 : decode cL_act 335 = .ok (.aload_n 1, 1) := by decide +kernel
theorem dL_act_336 : decode cL_act 336 = .ok (.iconst 1, 1) := by decide +kernel
theorem dL_act_337 : decode cL_act 337 = .ok (.iload_n 2, 1) := by decide +kernel
theorem dL_act_338 : decode cL_act 338 = .ok (.ldc 52, 2) := by decide +kernel
theorem dL_act_340 : decode cL_act 340 = .ok (.invokestatic 18, 3) := by decide +kernel
theorem dL_act_343 : decode cL_act 343 = .ok (.iadd, 1) := by decide +kernel
theorem dL_act_344 : decode cL_act 344 = .ok (.putfield 53, 3) := by decide +kernel
theorem dL_act_347 : decode cL_act 347 = .ok (.aload_n 0, 1) := by decide +kernel
theorem dL_act_348 : decode cL_act 348 = .ok (.aload_n 1, 1) := by decide +kernel
theorem dL_act_349 : decode cL_act 349 = .ok (.getfield 53, 3) := by decide +kernel
theorem dL_act_352 : decode cL_act 352 = .ok (.invokevirtual 57, 3) := by decide +kernel
theorem dL_act_355 : decode cL_act 355 = .ok (.iload 11, 2) := by decide +kernel
theorem dL_act_357 : decode cL_act 357 = .ok (.if_icmp .ne 7, 3) := by decide +kernel
theorem dL_act_360 : decode cL_act 360 = .ok (.iconst 1, 1) := by decide +kernel
theorem dL_act_361 : decode cL_act 361 = .ok (.goto 4, 3) := by decide +kernel
theorem dL_act_364 : decode cL_act 364 = .ok (.iconst 0, 1) := by decide +kernel
theorem dL_act_365 : decode cL_act 365 = .ok (.ireturn, 1) := by decide +kernel
theorem dL_law_0 : decode cL_law 0 = .ok (.new 23, 3) := by decide +kernel
theorem dL_law_3 : decode cL_law 3 = .ok (.dup, 1) := by decide +kernel
theorem dL_law_4 : decode cL_law 4 = .ok (.invokespecial 89, 3) := by decide +kernel
theorem dL_law_7 : decode cL_law 7 = .ok (.astore_n 1, 1) := by decide +kernel
theorem dL_law_8 : decode cL_law 8 = .ok (.aload_n 1, 1) := by decide +kernel
theorem dL_law_9 : decode cL_law 9 = .ok (.aload_n 0, 1) := by decide +kernel
theorem dL_law_10 : decode cL_law 10 = .ok (.invokestatic 90, 3) := by decide +kernel
theorem dL_law_13 : decode cL_law 13 = .ok (.astore_n 2, 1) := by decide +kernel
theorem dL_law_14 : decode cL_law 14 = .ok (.aload_n 2, 1) := by decide +kernel
theorem dL_law_15 : decode cL_law 15 = .ok (.ifnonnull 5, 3) := by decide +kernel
theorem dL_law_18 : decode cL_law 18 = .ok (.iconst 0, 1) := by decide +kernel
theorem dL_law_19 : decode cL_law 19 = .ok (.ireturn, 1) := by decide +kernel
theorem dL_law_20 : decode cL_law 20 = .ok (.aload_n 2, 1) := by decide +kernel
theorem dL_law_21 : decode cL_law 21 = .ok (.getfield 28, 3) := by decide +kernel
theorem dL_law_24 : decode cL_law 24 = .ok (.arraylength, 1) := by decide +kernel
theorem dL_law_25 : decode cL_law 25 = .ok (.istore_n 3, 1) := by decide +kernel
theorem dL_law_26 : decode cL_law 26 = .ok (.aload_n 2, 1) := by decide +kernel
theorem dL_law_27 : decode cL_law 27 = .ok (.getfield 43, 3) := by decide +kernel
theorem dL_law_30 : decode cL_law 30 = .ok (.arraylength, 1) := by decide +kernel
theorem dL_law_31 : decode cL_law 31 = .ok (.istore 4, 2) := by decide +kernel
theorem dL_law_33 : decode cL_law 33 = .ok (.aload_n 2, 1) := by decide +kernel
theorem dL_law_34 : decode cL_law 34 = .ok (.getfield 61, 3) := by decide +kernel
theorem dL_law_37 : decode cL_law 37 = .ok (.arraylength, 1) := by decide +kernel
theorem dL_law_38 : decode cL_law 38 = .ok (.istore 5, 2) := by decide +kernel
theorem dL_law_40 : decode cL_law 40 = .ok (.iconst 0, 1) := by decide +kernel
theorem dL_law_41 : decode cL_law 41 = .ok (.istore 6, 2) := by decide +kernel
theorem dL_law_43 : decode cL_law 43 = .ok (.iload 6, 2) := by decide +kernel
theorem dL_law_45 : decode cL_law 45 = .ok (.bipush 50, 2) := by decide +kernel
theorem dL_law_47 : decode cL_law 47 = .ok (.if_icmp .ge 1430, 3) := by decide +kernel
theorem dL_law_50 : decode cL_law 50 = .ok (.aload_n 0, 1) := by decide +kernel
theorem dL_law_51 : decode cL_law 51 = .ok (.iload 6, 2) := by decide +kernel
theorem dL_law_53 : decode cL_law 53 = .ok (.bipush 16, 2) := by decide +kernel
theorem dL_law_55 : decode cL_law 55 = .ok (.irem, 1) := by decide +kernel
theorem dL_law_56 : decode cL_law 56 = .ok (.invokestatic 12, 3) := by decide +kernel
theorem dL_law_59 : decode cL_law 59 = .ok (.iload 6, 2) := by decide +kernel
theorem dL_law_61 : decode cL_law 61 = .ok (.bipush 16, 2) := by decide +kernel
theorem dL_law_63 : decode cL_law 63 = .ok (.idiv, 1) := by decide +kernel
theorem dL_law_64 : decode cL_law 64 = .ok (.iconst 3, 1) := by decide +kernel
theorem dL_law_65 : decode cL_law 65 = .ok (.imul, 1) := by decide +kernel
theorem dL_law_66 : decode cL_law 66 = .ok (.ishr, 1) := by decide +kernel
theorem dL_law_67 : decode cL_law 67 = .ok (.bipush 97, 2) := by decide +kernel
theorem dL_law_69 : decode cL_law 69 = .ok (.iload 6, 2) := by decide +kernel
theorem dL_law_71 : decode cL_law 71 = .ok (.imul, 1) := by decide +kernel
theorem dL_law_72 : decode cL_law 72 = .ok (.iadd, 1) := by decide +kernel
theorem dL_law_73 : decode cL_law 73 = .ok (.istore 7, 2) := by decide +kernel
theorem dL_law_75 : decode cL_law 75 = .ok (.iconst 0, 1) := by decide +kernel
theorem dL_law_76 : decode cL_law 76 = .ok (.istore 8, 2) := by decide +kernel
theorem dL_law_78 : decode cL_law 78 = .ok (.iload 8, 2) := by decide +kernel
theorem dL_law_80 : decode cL_law 80 = .ok (.iconst 2, 1) := by decide +kernel
theorem dL_law_81 : decode cL_law 81 = .ok (.if_icmp .ge 32, 3) := by decide +kernel
theorem dL_law_84 : decode cL_law 84 = .ok (.aload_n 1, 1) := by decide +kernel
theorem dL_law_85 : decode cL_law 85 = .ok (.aload_n 2, 1) := by decide +kernel
theorem dL_law_86 : decode cL_law 86 = .ok (.iload 7, 2) := by decide +kernel
theorem dL_law_88 : decode cL_law 88 = .ok (.iconst 2, 1) := by decide +kernel
theorem dL_law_89 : decode cL_law 89 = .ok (.iload 8, 2) := by decide +kernel
theorem dL_law_91 : decode cL_law 91 = .ok (.imul, 1) := by decide +kernel
theorem dL_law_92 : decode cL_law 92 = .ok (.ishr, 1) := by decide +kernel
theorem dL_law_93 : decode cL_law 93 = .ok (.bipush 59, 2) := by decide +kernel
theorem dL_law_95 : decode cL_law 95 = .ok (.iload 8, 2) := by decide +kernel
theorem dL_law_97 : decode cL_law 97 = .ok (.imul, 1) := by decide +kernel
theorem dL_law_98 : decode cL_law 98 = .ok (.iadd, 1) := by decide +kernel
theorem dL_law_99 : decode cL_law 99 = .ok (.invokestatic 94, 3) := by decide +kernel
theorem dL_law_102 : decode cL_law 102 = .ok (.ifCond .ne 5, 3) := by decide +kernel
theorem dL_law_105 : decode cL_law 105 = .ok (.iconst 0, 1) := by decide +kernel
theorem dL_law_106 : decode cL_law 106 = .ok (.ireturn, 1) := by decide +kernel
theorem dL_law_107 : decode cL_law 107 = .ok (.iinc 8 1, 3) := by decide +kernel
theorem dL_law_110 : decode cL_law 110 = .ok (.goto (-32), 3) := by decide +kernel
theorem dL_law_113 : decode cL_law 113 = .ok (.iload 5, 2) := by decide +kernel
theorem dL_law_115 : decode cL_law 115 = .ok (.bipush 8, 2) := by decide +kernel
theorem dL_law_117 : decode cL_law 117 = .ok (.multianewarray 98 2, 4) := by decide +kernel
theorem dL_law_121 : decode cL_law 121 = .ok (.astore 8, 2) := by decide +kernel
theorem dL_law_123 : decode cL_law 123 = .ok (.iconst 0, 1) := by decide +kernel
theorem dL_law_124 : decode cL_law 124 = .ok (.istore 9, 2) := by decide +kernel
theorem dL_law_126 : decode cL_law 126 = .ok (.iload 9, 2) := by decide +kernel
theorem dL_law_128 : decode cL_law 128 = .ok (.iload 5, 2) := by decide +kernel
theorem dL_law_130 : decode cL_law 130 = .ok (.if_icmp .ge 41, 3) := by decide +kernel
theorem dL_law_133 : decode cL_law 133 = .ok (.iconst 0, 1) := by decide +kernel
theorem dL_law_134 : decode cL_law 134 = .ok (.istore 10, 2) := by decide +kernel
theorem dL_law_136 : decode cL_law 136 = .ok (.iload 10, 2) := by decide +kernel
theorem dL_law_138 : decode cL_law 138 = .ok (.bipush 8, 2) := by decide +kernel
theorem dL_law_140 : decode cL_law 140 = .ok (.if_icmp .ge 25, 3) := by decide +kernel
theorem dL_law_143 : decode cL_law 143 = .ok (.aload 8, 2) := by decide +kernel
theorem dL_law_145 : decode cL_law 145 = .ok (.iload 9, 2) := by decide +kernel
theorem dL_law_147 : decode cL_law 147 = .ok (.aaload, 1) := by decide +kernel
theorem dL_law_148 : decode cL_law 148 = .ok (.iload 10, 2) := by decide +kernel
theorem dL_law_150 : decode cL_law 150 = .ok (.aload_n 1, 1) := by decide +kernel
theorem dL_law_151 : decode cL_law 151 = .ok (.iload 9, 2) := by decide +kernel
theorem dL_law_153 : decode cL_law 153 = .ok (.iload 10, 2) := by decide +kernel
theorem dL_law_155 : decode cL_law 155 = .ok (.invokevirtual 99, 3) := by decide +kernel
theorem dL_law_158 : decode cL_law 158 = .ok (.iastore, 1) := by decide +kernel
theorem dL_law_159 : decode cL_law 159 = .ok (.iinc 10 1, 3) := by decide +kernel
theorem dL_law_162 : decode cL_law 162 = .ok (.goto (-26), 3) := by decide +kernel
theorem dL_law_165 : decode cL_law 165 = .ok (.iinc 9 1, 3) := by decide +kernel
theorem dL_law_168 : decode cL_law 168 = .ok (.goto (-42), 3) := by decide +kernel
theorem dL_law_171 : decode cL_law 171 = .ok (.iload_n 3, 1) := by decide +kernel
theorem dL_law_172 : decode cL_law 172 = .ok (.bipush 10, 2) := by decide +kernel
theorem dL_law_174 : decode cL_law 174 = .ok (.multianewarray 98 2, 4) := by decide +kernel
theorem dL_law_178 : decode cL_law 178 = .ok (.astore 9, 2) := by decide +kernel
theorem dL_law_180 : decode cL_law 180 = .ok (.iconst 0, 1) := by decide +kernel
theorem dL_law_181 : decode cL_law 181 = .ok (.istore 10, 2) := by decide +kernel
theorem dL_law_183 : decode cL_law 183 = .ok (.iload 10, 2) := by decide +kernel
theorem dL_law_185 : decode cL_law 185 = .ok (.iload_n 3, 1) := by decide +kernel
theorem dL_law_186 : decode cL_law 186 = .ok (.if_icmp .ge 41, 3) := by decide +kernel
theorem dL_law_189 : decode cL_law 189 = .ok (.iconst 0, 1) := by decide +kernel
theorem dL_law_190 : decode cL_law 190 = .ok (.istore 11, 2) := by decide +kernel
theorem dL_law_192 : decode cL_law 192 = .ok (.iload 11, 2) := by decide +kernel
theorem dL_law_194 : decode cL_law 194 = .ok (.bipush 10, 2) := by decide +kernel
theorem dL_law_196 : decode cL_law 196 = .ok (.if_icmp .ge 25, 3) := by decide +kernel
theorem dL_law_199 : decode cL_law 199 = .ok (.aload 9, 2) := by decide +kernel
theorem dL_law_201 : decode cL_law 201 = .ok (.iload 10, 2) := by decide +kernel
theorem dL_law_203 : decode cL_law 203 = .ok (.aaload, 1) := by decide +kernel
theorem dL_law_204 : decode cL_law 204 = .ok (.iload 11, 2) := by decide +kernel
theorem dL_law_206 : decode cL_law 206 = .ok (.aload_n 1, 1) := by decide +kernel
theorem dL_law_207 : decode cL_law 207 = .ok (.iload 10, 2) := by decide +kernel
theorem dL_law_209 : decode cL_law 209 = .ok (.iload 11, 2) := by decide +kernel
theorem dL_law_211 : decode cL_law 211 = .ok (.invokevirtual 102, 3) := by decide +kernel
theorem dL_law_214 : decode cL_law 214 = .ok (.iastore, 1) := by decide +kernel
theorem dL_law_215 : decode cL_law 215 = .ok (.iinc 11 1, 3) := by decide +kernel
theorem dL_law_218 : decode cL_law 218 = .ok (.goto (-26), 3) := by decide +kernel
theorem dL_law_221 : decode cL_law 221 = .ok (.iinc 10 1, 3) := by decide +kernel
theorem dL_law_224 : decode cL_law 224 = .ok (.goto (-41), 3) := by decide +kernel
theorem dL_law_227 : decode cL_law 227 = .ok (.iload 4, 2) := by decide +kernel
theorem dL_law_229 : decode cL_law 229 = .ok (.iconst 3, 1) := by decide +kernel
theorem dL_law_230 : decode cL_law 230 = .ok (.multianewarray 98 2, 4) := by decide +kernel
theorem dL_law_234 : decode cL_law 234 = .ok (.astore 10, 2) := by decide +kernel
theorem dL_law_236 : decode cL_law 236 = .ok (.iconst 0, 1) := by decide +kernel
theorem dL_law_237 : decode cL_law 237 = .ok (.istore 11, 2) := by decide +kernel
theorem dL_law_239 : decode cL_law 239 = .ok (.iload 11, 2) := by decide +kernel
theorem dL_law_241 : decode cL_law 241 = .ok (.iload 4, 2) := by decide +kernel
theorem dL_law_243 : decode cL_law 243 = .ok (.if_icmp .ge 40, 3) := by decide +kernel
theorem dL_law_246 : decode cL_law 246 = .ok (.iconst 0, 1) := by decide +kernel
theorem dL_law_247 : decode cL_law 247 = .ok (.istore 12, 2) := by decide +kernel
theorem dL_law_249 : decode cL_law 249 = .ok (.iload 12, 2) := by decide +kernel
theorem dL_law_251 : decode cL_law 251 = .ok (.iconst 3, 1) := by decide +kernel
theorem dL_law_252 : decode cL_law 252 = .ok (.if_icmp .ge 25, 3) := by decide +kernel
theorem dL_law_255 : decode cL_law 255 = .ok (.aload 10, 2) := by decide +kernel
theorem dL_law_257 : decode cL_law 257 = .ok (.iload 11, 2) := by decide +kernel
theorem dL_law_259 : decode cL_law 259 = .ok (.aaload, 1) := by decide +kernel
theorem dL_law_260 : decode cL_law 260 = .ok (.iload 12, 2) := by decide +kernel
theorem dL_law_262 : decode cL_law 262 = .ok (.aload_n 1, 1) := by decide +kernel
theorem dL_law_263 : decode cL_law 263 = .ok (.iload 11, 2) := by decide +kernel
theorem dL_law_265 : decode cL_law 265 = .ok (.iload 12, 2) := by decide +kernel
theorem dL_law_267 : decode cL_law 267 = .ok (.invokevirtual 104, 3) := by decide +kernel
theorem dL_law_270 : decode cL_law 270 = .ok (.iastore, 1) := by decide +kernel
theorem dL_law_271 : decode cL_law 271 = .ok (.iinc 12 1, 3) := by decide +kernel
theorem dL_law_274 : decode cL_law 274 = .ok (.goto (-25), 3) := by decide +kernel
theorem dL_law_277 : decode cL_law 277 = .ok (.iinc 11 1, 3) := by decide +kernel
theorem dL_law_280 : decode cL_law 280 = .ok (.goto (-41), 3) := by decide +kernel
theorem dL_law_283 : decode cL_law 283 = .ok (.iload 7, 2) := by decide +kernel
theorem dL_law_285 : decode cL_law 285 = .ok (.iload 5, 2) := by decide +kernel
theorem dL_law_287 : decode cL_law 287 = .ok (.invokestatic 18, 3) := by decide +kernel
theorem dL_law_290 : decode cL_law 290 = .ok (.istore 11, 2) := by decide +kernel
theorem dL_law_292 : decode cL_law 292 = .ok (.aload_n 1, 1) := by decide +kernel
theorem dL_law_293 : decode cL_law 293 = .ok (.iload 11, 2) := by decide +kernel
theorem dL_law_295 : decode cL_law 295 = .ok (.iconst 1, 1) := by decide +kernel
theorem dL_law_296 : decode cL_law 296 = .ok (.iconst 0, 1) := by decide +kernel
theorem dL_law_297 : decode cL_law 297 = .ok (.invokevirtual 107, 3) := by decide +kernel
theorem dL_law_300 : decode cL_law 300 = .ok (.istore 12, 2) := by decide +kernel
theorem dL_law_302 : decode cL_law 302 = .ok (.aload_n 1, 1) := by decide +kernel
theorem dL_law_303 : decode cL_law 303 = .ok (.iload 11, 2) := by decide +kernel
theorem dL_law_305 : decode cL_law 305 = .ok (.iconst 1, 1) := by decide +kernel
theorem dL_law_306 : decode cL_law 306 = .ok (.iconst 1, 1) := by decide +kernel
theorem dL_law_307 : decode cL_law 307 = .ok (.invokevirtual 107, 3) := by decide +kernel
theorem dL_law_310 : decode cL_law 310 = .ok (.istore 13, 2) := by decide +kernel
theorem dL_law_312 : decode cL_law 312 = .ok (.aload_n 1, 1) := by decide +kernel
theorem dL_law_313 : decode cL_law 313 = .ok (.iload 11, 2) := by decide +kernel
theorem dL_law_315 : decode cL_law 315 = .ok (.iconst 1, 1) := by decide +kernel
theorem dL_law_316 : decode cL_law 316 = .ok (.iconst 2, 1) := by decide +kernel
theorem dL_law_317 : decode cL_law 317 = .ok (.invokevirtual 107, 3) := by decide +kernel
theorem dL_law_320 : decode cL_law 320 = .ok (.istore 14, 2) := by decide +kernel
theorem dL_law_322 : decode cL_law 322 = .ok (.aload_n 1, 1) := by decide +kernel
theorem dL_law_323 : decode cL_law 323 = .ok (.bipush 9, 2) := by decide +kernel
theorem dL_law_325 : decode cL_law 325 = .ok (.invokevirtual 111, 3) := by decide +kernel
theorem dL_law_328 : decode cL_law 328 = .ok (.istore 15, 2) := by decide +kernel
theorem dL_law_330 : decode cL_law 330 = .ok (.aload_n 1, 1) := by decide +kernel
theorem dL_law_331 : decode cL_law 331 = .ok (.bipush 7, 2) := by decide +kernel
theorem dL_law_333 : decode cL_law 333 = .ok (.invokevirtual 111, 3) := by decide +kernel
theorem dL_law_336 : decode cL_law 336 = .ok (.aload_n 1, 1) := by decide +kernel
theorem dL_law_337 : decode cL_law 337 = .ok (.bipush 8, 2) := by decide +kernel
theorem dL_law_339 : decode cL_law 339 = .ok (.invokevirtual 111, 3) := by decide +kernel
theorem dL_law_342 : decode cL_law 342 = .ok (.iadd, 1) := by decide +kernel
theorem dL_law_343 : decode cL_law 343 = .ok (.istore 16, 2) := by decide +kernel
theorem dL_law_345 : decode cL_law 345 = .ok (.aload_n 1, 1) := by decide +kernel
theorem dL_law_346 : decode cL_law 346 = .ok (.iconst 1, 1) := by decide +kernel
theorem dL_law_347 : decode cL_law 347 = .ok (.invokevirtual 114, 3) := by decide +kernel
theorem dL_law_350 : decode cL_law 350 = .ok (.istore 17, 2) := by decide +kernel
theorem dL_law_352 : decode cL_law 352 = .ok (.aload_n 2, 1) := by decide +kernel
theorem dL_law_353 : decode cL_law 353 = .ok (.invokevirtual 117, 3) := by decide +kernel
theorem dL_law_356 : decode cL_law 356 = .ok (.pop, 1) := by decide +kernel
theorem dL_law_357 : decode cL_law 357 = .ok (.aload_n 1, 1) := by decide +kernel
theorem dL_law_358 : decode cL_law 358 = .ok (.iconst 0, 1) := by decide +kernel
theorem dL_law_359 : decode cL_law 359 = .ok (.invokevirtual 111, 3) := by decide +kernel
theorem dL_law_362 : decode cL_law 362 = .ok (.istore 18, 2) := by decide +kernel
theorem dL_law_364 : decode cL_law 364 = .ok (.iload 18, 2) := by decide +kernel
theorem dL_law_366 : decode cL_law 366 = .ok (.bipush 12, 2) := by decide +kernel
theorem dL_law_368 : decode cL_law 368 = .ok (.irem, 1) := by decide +kernel
theorem dL_law_369 : decode cL_law 369 = .ok (.ifCond .ne 7, 3) := by decide +kernel
theorem dL_law_372 : decode cL_law 372 = .ok (.iconst 1, 1) := by decide +kernel
theorem dL_law_373 : decode cL_law 373 = .ok (.goto 4, 3) := by decide +kernel
theorem dL_law_376 : decode cL_law 376 = .ok (.iconst 0, 1) := by decide +kernel
theorem dL_law_377 : decode cL_law 377 = .ok (.istore 19, 2) := by decide +kernel
theorem dL_law_379 : decode cL_law 379 = .ok (.iload 18, 2) := by decide +kernel
theorem dL_law_381 : decode cL_law 381 = .ok (.iload 6, 2) := by decide +kernel
theorem dL_law_383 : decode cL_law 383 = .ok (.iconst 1, 1) := by decide +kernel
theorem dL_law_384 : decode cL_law 384 = .ok (.iadd, 1) := by decide +kernel
theorem dL_law_385 : decode cL_law 385 = .ok (.if_icmp .ne 57, 3) := by decide +kernel
theorem dL_law_388 : decode cL_law 388 = .ok (.aload_n 1, 1) := by decide +kernel
theorem dL_law_389 : decode cL_law 389 = .ok (.iload 11, 2) := by decide +kernel
theorem dL_law_391 : decode cL_law 391 = .ok (.iconst 4, 1) := by decide +kernel
theorem dL_law_392 : decode cL_law 392 = .ok (.invokevirtual 99, 3) := by decide +kernel
theorem dL_law_395 : decode cL_law 395 = .ok (.iload 12, 2) := by decide +kernel
theorem dL_law_397 : decode cL_law 397 = .ok (.if_icmp .ne 45, 3) := by decide +kernel
theorem dL_law_400 : decode cL_law 400 = .ok (.aload_n 1, 1) := by decide +kernel
theorem dL_law_401 : decode cL_law 401 = .ok (.iload 11, 2) := by decide +kernel
theorem dL_law_403 : decode cL_law 403 = .ok (.iconst 0, 1) := by decide +kernel
theorem dL_law_404 : decode cL_law 404 = .ok (.invokevirtual 99, 3) := by decide +kernel
theorem dL_law_407 : decode cL_law 407 = .ok (.iload 13, 2) := by decide +kernel
theorem dL_law_409 : decode cL_law 409 = .ok (.if_icmp .ne 33, 3) := by decide +kernel
theorem dL_law_412 : decode cL_law 412 = .ok (.aload_n 1, 1) := by decide +kernel
theorem dL_law_413 : decode cL_law 413 = .ok (.iload 11, 2) := by decide +kernel
theorem dL_law_415 : decode cL_law 415 = .ok (.iconst 5, 1) := by decide +kernel
theorem dL_law_416 : decode cL_law 416 = .ok (.invokevirtual 99, 3) := by decide +kernel
theorem dL_law_419 : decode cL_law 419 = .ok (.iload 14, 2) := by decide +kernel
theorem dL_law_421 : decode cL_law 421 = .ok (.if_icmp .ne 21, 3) := by decide +kernel
theorem dL_law_424 : decode cL_law 424 = .ok (.aload_n 1, 1) := by decide +kernel
theorem dL_law_425 : decode cL_law 425 = .ok (.bipush 7, 2) := by decide +kernel
theorem dL_law_427 : decode cL_law 427 = .ok (.invokevirtual 111, 3) := by decide +kernel
theorem dL_law_430 : decode cL_law 430 = .ok (.aload_n 1, 1) := by decide +kernel
theorem dL_law_431 : decode cL_law 431 = .ok (.bipush 8, 2) := by decide +kernel
theorem dL_law_433 : decode cL_law 433 = .ok (.invokevirtual 111, 3) := by decide +kernel
theorem dL_law_436 : decode cL_law 436 = .ok (.iadd, 1) := by decide +kernel
theorem dL_law_437 : decode cL_law 437 = .ok (.iload 16, 2) := by decide +kernel
theorem dL_law_439 : decode cL_law 439 = .ok (.if_icmp .eq 5, 3) := by decide +kernel
theorem dL_law_442 : decode cL_law 442 = .ok (.iconst 0, 1) := by decide +kernel
theorem dL_law_443 : decode cL_law 443 = .ok (.ireturn, 1) := by decide +kernel
theorem dL_law_444 : decode cL_law 444 = .ok (.iload 5, 2) := by decide +kernel
theorem dL_law_446 : decode cL_law 446 = .ok (.newarray .int, 2) := by decide +kernel
theorem dL_law_448 : decode cL_law 448 = .ok (.astore 20, 2) := by decide +kernel
theorem dL_law_450 : decode cL_law 450 = .ok (.iconst 0, 1) := by decide +kernel
theorem dL_law_451 : decode cL_law 451 = .ok (.istore 21, 2) := by decide +kernel
theorem dL_law_453 : decode cL_law 453 = .ok (.iconst 0, 1) := by decide +kernel
theorem dL_law_454 : decode cL_law 454 = .ok (.istore 22, 2) := by decide +kernel
theorem dL_law_456 : decode cL_law 456 = .ok (.iconst 0, 1) := by decide +kernel
theorem dL_law_457 : decode cL_law 457 = .ok (.istore 23, 2) := by decide +kernel
theorem dL_law_459 : decode cL_law 459 = .ok (.iconst 0, 1) := by decide +kernel
theorem dL_law_460 : decode cL_law 460 = .ok (.istore 24, 2) := by decide +kernel
theorem dL_law_462 : decode cL_law 462 = .ok (.iconst 0, 1) := by decide +kernel
theorem dL_law_463 : decode cL_law 463 = .ok (.istore 25, 2) := by decide +kernel
theorem dL_law_465 : decode cL_law 465 = .ok (.iload 25, 2) := by decide +kernel
theorem dL_law_467 : decode cL_law 467 = .ok (.iload_n 3, 1) := by decide +kernel
theorem dL_law_468 : decode cL_law 468 = .ok (.if_icmp .ge 378, 3) := by decide +kernel
theorem dL_law_471 : decode cL_law 471 = .ok (.iconst 0, 1) := by decide +kernel
theorem dL_law_472 : decode cL_law 472 = .ok (.istore 26, 2) := by decide +kernel
theorem dL_law_474 : decode cL_law 474 = .ok (.iconst 0, 1) := by decide +kernel
theorem dL_law_475 : decode cL_law 475 = .ok (.istore 27, 2) := by decide +kernel
theorem dL_law_477 : decode cL_law 477 = .ok (.iload 27, 2) := by decide +kernel
theorem dL_law_479 : decode cL_law 479 = .ok (.iload 4, 2) := by decide +kernel
theorem dL_law_481 : decode cL_law 481 = .ok (.if_icmp .ge 31, 3) := by decide +kernel
theorem dL_law_484 : decode cL_law 484 = .ok (.iload 26, 2) := by decide +kernel
theorem dL_law_486 : decode cL_law 486 = .ok (.aload_n 1, 1) := by decide +kernel
theorem dL_law_487 : decode cL_law 487 = .ok (.iload 27, 2) := by decide +kernel
theorem dL_law_489 : decode cL_law 489 = .ok (.iconst 1, 1) := by decide +kernel
theorem dL_law_490 : decode cL_law 490 = .ok (.invokevirtual 104, 3) := by decide +kernel
theorem dL_law_493 : decode cL_law 493 = .ok (.iload 25, 2) := by decide +kernel
theorem dL_law_495 : decode cL_law 495 = .ok (.if_icmp .ne 7, 3) := by decide +kernel
theorem dL_law_498 : decode cL_law 498 = .ok (.iconst 1, 1) := by decide +kernel
theorem dL_law_499 : decode cL_law 499 = .ok (.goto 4, 3) := by decide +kernel
theorem dL_law_502 : decode cL_law 502 = .ok (.iconst 0, 1) := by decide +kernel
theorem dL_law_503 : decode cL_law 503 = .ok (.iadd, 1) := by decide +kernel
theorem dL_law_504 : decode cL_law 504 = .ok (.istore 26, 2) := by decide +kernel
theorem dL_law_506 : decode cL_law 506 = .ok (.iinc 27 1, 3) := by decide +kernel
theorem dL_law_509 : decode cL_law 509 = .ok (.goto (-32), 3) := by decide +kernel
theorem dL_law_512 : decode cL_law 512 = .ok (.iload 21, 2) := by decide +kernel
theorem dL_law_514 : decode cL_law 514 = .ok (.iload 26, 2) := by decide +kernel
theorem dL_law_516 : decode cL_law 516 = .ok (.aload 9, 2) := by decide +kernel
theorem dL_law_518 : decode cL_law 518 = .ok (.iload 25, 2) := by decide +kernel
theorem dL_law_520 : decode cL_law 520 = .ok (.aaload, 1) := by decide +kernel
theorem dL_law_521 : decode cL_law 521 = .ok (.iconst 3, 1) := by decide +kernel
theorem dL_law_522 : decode cL_law 522 = .ok (.iaload, 1) := by decide +kernel
theorem dL_law_523 : decode cL_law 523 = .ok (.if_icmp .lt 7, 3) := by decide +kernel
theorem dL_law_526 : decode cL_law 526 = .ok (.iconst 1, 1) := by decide +kernel
theorem dL_law_527 : decode cL_law 527 = .ok (.goto 4, 3) := by decide +kernel
theorem dL_law_530 : decode cL_law 530 = .ok (.iconst 0, 1) := by decide +kernel
theorem dL_law_531 : decode cL_law 531 = .ok (.iadd, 1) := by decide +kernel
theorem dL_law_532 : decode cL_law 532 = .ok (.istore 21, 2) := by decide +kernel
theorem dL_law_534 : decode cL_law 534 = .ok (.iload 24, 2) := by decide +kernel
theorem dL_law_536 : decode cL_law 536 = .ok (.aload_n 1, 1) := by decide +kernel
theorem dL_law_537 : decode cL_law 537 = .ok (.iload 25, 2) := by decide +kernel
theorem dL_law_539 : decode cL_law 539 = .ok (.bipush 6, 2) := by decide +kernel
theorem dL_law_541 : decode cL_law 541 = .ok (.invokevirtual 102, 3) := by decide +kernel
theorem dL_law_544 : decode cL_law 544 = .ok (.iadd, 1) := by decide +kernel
theorem dL_law_545 : decode cL_law 545 = .ok (.istore 24, 2) := by decide +kernel
theorem dL_law_547 : decode cL_law 547 = .ok (.aload_n 1, 1) := by decide +kernel
theorem dL_law_548 : decode cL_law 548 = .ok (.iload 25, 2) := by decide +kernel
theorem dL_law_550 : decode cL_law 550 = .ok (.iconst 4, 1) := by decide +kernel
theorem dL_law_551 : decode cL_law 551 = .ok (.invokevirtual 102, 3) := by decide +kernel
theorem dL_law_554 : decode cL_law 554 = .ok (.iload 26, 2) := by decide +kernel
theorem dL_law_556 : decode cL_law 556 = .ok (.if_icmp .ne 74, 3) := by decide +kernel
theorem dL_law_559 : decode cL_law 559 = .ok (.aload_n 1, 1) := by decide +kernel
theorem dL_law_560 : decode cL_law 560 = .ok (.iload 25, 2) := by decide +kernel
theorem dL_law_562 : decode cL_law 562 = .ok (.iconst 5, 1) := by decide +kernel
theorem dL_law_563 : decode cL_law 563 = .ok (.invokevirtual 102, 3) := by decide +kernel
theorem dL_law_566 : decode cL_law 566 = .ok (.iload 26, 2) := by decide +kernel
theorem dL_law_568 : decode cL_law 568 = .ok (.aload 9, 2) := by decide +kernel
theorem dL_law_570 : decode cL_law 570 = .ok (.iload 25, 2) := by decide +kernel
theorem dL_law_572 : decode cL_law 572 = .ok (.aaload, 1) := by decide +kernel
theorem dL_law_573 : decode cL_law 573 = .ok (.iconst 3, 1) := by decide +kernel
theorem dL_law_574 : decode cL_law 574 = .ok (.iaload, 1) := by decide +kernel
theorem dL_law_575 : decode cL_law 575 = .ok (.if_icmp .lt 7, 3) := by decide +kernel
theorem dL_law_578 : decode cL_law 578 = .ok (.iconst 1, 1) := by decide +kernel
theorem dL_law_579 : decode cL_law 579 = .ok (.goto 4, 3) := by decide +kernel
theorem dL_law_582 : decode cL_law 582 = .ok (.iconst 0, 1) := by decide +kernel
theorem dL_law_583 : decode cL_law 583 = .ok (.if_icmp .ne 47, 3) := by decide +kernel
theorem dL_law_586 : decode cL_law 586 = .ok (.aload_n 1, 1) := by decide +kernel
theorem dL_law_587 : decode cL_law 587 = .ok (.iload 25, 2) := by decide +kernel
theorem dL_law_589 : decode cL_law 589 = .ok (.iconst 1, 1) := by decide +kernel
theorem dL_law_590 : decode cL_law 590 = .ok (.invokevirtual 102, 3) := by decide +kernel
theorem dL_law_593 : decode cL_law 593 = .ok (.aload 9, 2) := by decide +kernel
theorem dL_law_595 : decode cL_law 595 = .ok (.iload 25, 2) := by decide +kernel
theorem dL_law_597 : decode cL_law 597 = .ok (.aaload, 1) := by decide +kernel
theorem dL_law_598 : decode cL_law 598 = .ok (.iconst 1, 1) := by decide +kernel
theorem dL_law_599 : decode cL_law 599 = .ok (.iaload, 1) := by decide +kernel
theorem dL_law_600 : decode cL_law 600 = .ok (.if_icmp .ne 30, 3) := by decide +kernel
theorem dL_law_603 : decode cL_law 603 = .ok (.aload_n 1, 1) := by decide +kernel
theorem dL_law_604 : decode cL_law 604 = .ok (.iload 25, 2) := by decide +kernel
theorem dL_law_606 : decode cL_law 606 = .ok (.iconst 2, 1) := by decide +kernel
theorem dL_law_607 : decode cL_law 607 = .ok (.invokevirtual 102, 3) := by decide +kernel
theorem dL_law_610 : decode cL_law 610 = .ok (.aload 9, 2) := by decide +kernel
theorem dL_law_612 : decode cL_law 612 = .ok (.iload 25, 2) := by decide +kernel
theorem dL_law_614 : decode cL_law 614 = .ok (.aaload, 1) := by decide +kernel
theorem dL_law_615 : decode cL_law 615 = .ok (.iconst 2, 1) := by decide +kernel
theorem dL_law_616 : decode cL_law 616 = .ok (.iaload, 1) := by decide +kernel
theorem dL_law_617 : decode cL_law 617 = .ok (.if_icmp .gt 13, 3) := by decide +kernel
theorem dL_law_620 : decode cL_law 620 = .ok (.aload_n 1, 1) := by decide +kernel
theorem dL_law_621 : decode cL_law 621 = .ok (.iload 25, 2) := by decide +kernel
theorem dL_law_623 : decode cL_law 623 = .ok (.iconst 2, 1) := by decide +kernel
theorem dL_law_624 : decode cL_law 624 = .ok (.invokevirtual 102, 3) := by decide +kernel
theorem dL_law_627 : decode cL_law 627 = .ok (.ifCond .ge 5, 3) := by decide +kernel
theorem dL_law_630 : decode cL_law 630 = .ok (.iconst 0, 1) := by decide +kernel
theorem dL_law_631 : decode cL_law 631 = .ok (.ireturn, 1) := by decide +kernel
theorem dL_law_632 : decode cL_law 632 = .ok (.iconst 0, 1) := by decide +kernel
theorem dL_law_633 : decode cL_law 633 = .ok (.istore 27, 2) := by decide +kernel
theorem dL_law_635 : decode cL_law 635 = .ok (.iload 27, 2) := by decide +kernel
theorem dL_law_637 : decode cL_law 637 = .ok (.aload_n 1, 1) := by decide +kernel
theorem dL_law_638 : decode cL_law 638 = .ok (.iload 25, 2) := by decide +kernel
theorem dL_law_640 : decode cL_law 640 = .ok (.bipush 7, 2) := by decide +kernel
theorem dL_law_642 : decode cL_law 642 = .ok (.invokevirtual 102, 3) := by decide +kernel
theorem dL_law_645 : decode cL_law 645 = .ok (.if_icmp .ge 53, 3) := by decide +kernel
theorem dL_law_648 : decode cL_law 648 = .ok (.aload_n 1, 1) := by decide +kernel
theorem dL_law_649 : decode cL_law 649 = .ok (.iload 25, 2) := by decide +kernel
theorem dL_law_651 : decode cL_law 651 = .ok (.iload 27, 2) := by decide +kernel
theorem dL_law_653 : decode cL_law 653 = .ok (.invokevirtual 119, 3) := by decide +kernel
theorem dL_law_656 : decode cL_law 656 = .ok (.istore 28, 2) := by decide +kernel
theorem dL_law_658 : decode cL_law 658 = .ok (.aload 20, 2) := by decide +kernel
theorem dL_law_660 : decode cL_law 660 = .ok (.iload 28, 2) := by decide +kernel
theorem dL_law_662 : decode cL_law 662 = .ok (.dup2, 1) := by decide +kernel
theorem dL_law_663 : decode cL_law 663 = .ok (.iaload, 1) := by decide +kernel
theorem dL_law_664 : decode cL_law 664 = .ok (.iconst 1, 1) := by decide +kernel
theorem dL_law_665 : decode cL_law 665 = .ok (.iadd, 1) := by decide +kernel
theorem dL_law_666 : decode cL_law 666 = .ok (.iastore, 1) := by decide +kernel
theorem dL_law_667 : decode cL_law 667 = .ok (.aload_n 1, 1) := by decide +kernel
theorem dL_law_668 : decode cL_law 668 = .ok (.iload 28, 2) := by decide +kernel
theorem dL_law_670 : decode cL_law 670 = .ok (.iconst 2, 1) := by decide +kernel
theorem dL_law_671 : decode cL_law 671 = .ok (.invokevirtual 99, 3) := by decide +kernel
theorem dL_law_674 : decode cL_law 674 = .ok (.iconst 1, 1) := by decide +kernel
theorem dL_law_675 : decode cL_law 675 = .ok (.if_icmp .ne 15, 3) := by decide +kernel
theorem dL_law_678 : decode cL_law 678 = .ok (.aload_n 1, 1) := by decide +kernel
theorem dL_law_679 : decode cL_law 679 = .ok (.iload 28, 2) := by decide +kernel
theorem dL_law_681 : decode cL_law 681 = .ok (.iconst 3, 1) := by decide +kernel
theorem dL_law_682 : decode cL_law 682 = .ok (.invokevirtual 99, 3) := by decide +kernel
theorem dL_law_685 : decode cL_law 685 = .ok (.iload 25, 2) := by decide +kernel
theorem dL_law_687 : decode cL_law 687 = .ok (.if_icmp .eq 5, 3) := by decide +kernel
theorem dL_law_690 : decode cL_law 690 = .ok (.iconst 0, 1) := by decide +kernel
theorem dL_law_691 : decode cL_law 691 = .ok (.ireturn, 1) := by decide +kernel
theorem dL_law_692 : decode cL_law 692 = .ok (.iinc 27 1, 3) := by decide +kernel
theorem dL_law_695 : decode cL_law 695 = .ok (.goto (-60), 3) := by decide +kernel
theorem dL_law_698 : decode cL_law 698 = .ok (.aload_n 1, 1) := by decide +kernel
theorem dL_law_699 : decode cL_law 699 = .ok (.iload 25, 2) := by decide +kernel
theorem dL_law_701 : decode cL_law 701 = .ok (.bipush 8, 2) := by decide +kernel
theorem dL_law_703 : decode cL_law 703 = .ok (.invokevirtual 102, 3) := by decide +kernel
theorem dL_law_706 : decode cL_law 706 = .ok (.aload 9, 2) := by decide +kernel
theorem dL_law_708 : decode cL_law 708 = .ok (.iload 25, 2) := by decide +kernel
theorem dL_law_710 : decode cL_law 710 = .ok (.aaload, 1) := by decide +kernel
theorem dL_law_711 : decode cL_law 711 = .ok (.bipush 8, 2) := by decide +kernel
theorem dL_law_713 : decode cL_law 713 = .ok (.iaload, 1) := by decide +kernel
theorem dL_law_714 : decode cL_law 714 = .ok (.isub, 1) := by decide +kernel
theorem dL_law_715 : decode cL_law 715 = .ok (.istore 27, 2) := by decide +kernel
theorem dL_law_717 : decode cL_law 717 = .ok (.iload 27, 2) := by decide +kernel
theorem dL_law_719 : decode cL_law 719 = .ok (.ifCond .lt 60, 3) := by decide +kernel
theorem dL_law_722 : decode cL_law 722 = .ok (.iload 27, 2) := by decide +kernel
theorem dL_law_724 : decode cL_law 724 = .ok (.aload 9, 2) := by decide +kernel
theorem dL_law_726 : decode cL_law 726 = .ok (.iload 25, 2) := by decide +kernel
theorem dL_law_728 : decode cL_law 728 = .ok (.aaload, 1) := by decide +kernel
theorem dL_law_729 : decode cL_law 729 = .ok (.iconst 4, 1) := by decide +kernel
theorem dL_law_730 : decode cL_law 730 = .ok (.iaload, 1) := by decide +kernel
theorem dL_law_731 : decode cL_law 731 = .ok (.if_icmp .gt 48, 3) := by decide +kernel
theorem dL_law_734 : decode cL_law 734 = .ok (.aload 9, 2) := by decide +kernel
theorem dL_law_736 : decode cL_law 736 = .ok (.iload 25, 2) := by decide +kernel
theorem dL_law_738 : decode cL_law 738 = .ok (.aaload, 1) := by decide +kernel
theorem dL_law_739 : decode cL_law 739 = .ok (.iconst 5, 1) := by decide +kernel
theorem dL_law_740 : decode cL_law 740 = .ok (.iaload, 1) := by decide +kernel
theorem dL_law_741 : decode cL_law 741 = .ok (.ifCond .ne 8, 3) := by decide +kernel
theorem dL_law_744 : decode cL_law 744 = .ok (.iload 27, 2) := by decide +kernel
theorem dL_law_746 : decode cL_law 746 = .ok (.ifCond .gt 33, 3) := by decide +kernel
theorem dL_law_749 : decode cL_law 749 = .ok (.aload_n 1, 1) := by decide +kernel
theorem dL_law_750 : decode cL_law 750 = .ok (.iload 25, 2) := by decide +kernel
theorem dL_law_752 : decode cL_law 752 = .ok (.bipush 9, 2) := by decide +kernel
theorem dL_law_754 : decode cL_law 754 = .ok (.invokevirtual 102, 3) := by decide +kernel
theorem dL_law_757 : decode cL_law 757 = .ok (.aload 9, 2) := by decide +kernel
theorem dL_law_759 : decode cL_law 759 = .ok (.iload 25, 2) := by decide +kernel
theorem dL_law_761 : decode cL_law 761 = .ok (.aaload, 1) := by decide +kernel
theorem dL_law_762 : decode cL_law 762 = .ok (.bipush 9, 2) := by decide +kernel
theorem dL_law_764 : decode cL_law 764 = .ok (.iaload, 1) := by decide +kernel
theorem dL_law_765 : decode cL_law 765 = .ok (.isub, 1) := by decide +kernel
theorem dL_law_766 : decode cL_law 766 = .ok (.iload 27, 2) := by decide +kernel
theorem dL_law_768 : decode cL_law 768 = .ok (.aload_n 1, 1) := by decide +kernel
theorem dL_law_769 : decode cL_law 769 = .ok (.iload 25, 2) := by decide +kernel
theorem dL_law_771 : decode cL_law 771 = .ok (.iconst 0, 1) := by decide +kernel
theorem dL_law_772 : decode cL_law 772 = .ok (.invokevirtual 102, 3) := by decide +kernel
theorem dL_law_775 : decode cL_law 775 = .ok (.imul, 1) := by decide +kernel
theorem dL_law_776 : decode cL_law 776 = .ok (.if_icmp .eq 5, 3) := by decide +kernel
theorem dL_law_779 : decode cL_law 779 = .ok (.iconst 0, 1) := by decide +kernel
theorem dL_law_780 : decode cL_law 780 = .ok (.ireturn, 1) := by decide +kernel
theorem dL_law_781 : decode cL_law 781 = .ok (.iload 19, 2) := by decide +kernel
theorem dL_law_783 : decode cL_law 783 = .ok (.ifCond .eq 28, 3) := by decide +kernel
theorem dL_law_786 : decode cL_law 786 = .ok (.iload 26, 2) := by decide +kernel
theorem dL_law_788 : decode cL_law 788 = .ok (.aload 9, 2) := by decide +kernel
theorem dL_law_790 : decode cL_law 790 = .ok (.iload 25, 2) := by decide +kernel
theorem dL_law_792 : decode cL_law 792 = .ok (.aaload, 1) := by decide +kernel
theorem dL_law_793 : decode cL_law 793 = .ok (.iconst 3, 1) := by decide +kernel
theorem dL_law_794 : decode cL_law 794 = .ok (.iaload, 1) := by decide +kernel
theorem dL_law_795 : decode cL_law 795 = .ok (.if_icmp .ge 16, 3) := by decide +kernel
theorem dL_law_798 : decode cL_law 798 = .ok (.aload_n 1, 1) := by decide +kernel
theorem dL_law_799 : decode cL_law 799 = .ok (.iload 25, 2) := by decide +kernel
theorem dL_law_801 : decode cL_law 801 = .ok (.bipush 7, 2) := by decide +kernel
theorem dL_law_803 : decode cL_law 803 = .ok (.invokevirtual 102, 3) := by decide +kernel
theorem dL_law_806 : decode cL_law 806 = .ok (.ifCond .le 5, 3) := by decide +kernel
theorem dL_law_809 : decode cL_law 809 = .ok (.iconst 0, 1) := by decide +kernel
theorem dL_law_810 : decode cL_law 810 = .ok (.ireturn, 1) := by decide +kernel
theorem dL_law_811 : decode cL_law 811 = .ok (.iload 23, 2) := by decide +kernel
theorem dL_law_813 : decode cL_law 813 = .ok (.iload 27, 2) := by decide +kernel
theorem dL_law_815 : decode cL_law 815 = .ok (.iadd, 1) := by decide +kernel
theorem dL_law_816 : decode cL_law 816 = .ok (.istore 23, 2) := by decide +kernel
theorem dL_law_818 : decode cL_law 818 = .ok (.iload 22, 2) := by decide +kernel
theorem dL_law_820 : decode cL_law 820 = .ok (.aload_n 1, 1) := by decide +kernel
theorem dL_law_821 : decode cL_law 821 = .ok (.iload 25, 2) := by decide +kernel
theorem dL_law_823 : decode cL_law 823 = .ok (.bipush 9, 2) := by decide +kernel
theorem dL_law_825 : decode cL_law 825 = .ok (.invokevirtual 102, 3) := by decide +kernel
theorem dL_law_828 : decode cL_law 828 = .ok (.aload 9, 2) := by decide +kernel
theorem dL_law_830 : decode cL_law 830 = .ok (.iload 25, 2) := by decide +kernel
theorem dL_law_832 : decode cL_law 832 = .ok (.aaload, 1) := by decide +kernel
theorem dL_law_833 : decode cL_law 833 = .ok (.bipush 9, 2) := by decide +kernel
theorem dL_law_835 : decode cL_law 835 = .ok (.iaload, 1) := by decide +kernel
theorem dL_law_836 : decode cL_law 836 = .ok (.isub, 1) := by decide +kernel
theorem dL_law_837 : decode cL_law 837 = .ok (.iadd, 1) := by decide +kernel
theorem dL_law_838 : decode cL_law 838 = .ok (.istore 22, 2) := by decide +kernel
theorem dL_law_840 : decode cL_law 840 = .ok (.iinc 25 1, 3) := by decide +kernel
theorem dL_law_843 : decode cL_law 843 = .ok (.goto (-378), 3) := by decide +kernel
theorem dL_law_846 : decode cL_law 846 = .ok (.iload 24, 2) := by decide +kernel
theorem dL_law_848 : decode cL_law 848 = .ok (.iconst 1, 1) := by decide +kernel
theorem dL_law_849 : decode cL_law 849 = .ok (.if_icmp .ne 13, 3) := by decide +kernel
theorem dL_law_852 : decode cL_law 852 = .ok (.aload_n 1, 1) := by decide +kernel
theorem dL_law_853 : decode cL_law 853 = .ok (.iconst 4, 1) := by decide +kernel
theorem dL_law_854 : decode cL_law 854 = .ok (.invokevirtual 111, 3) := by decide +kernel
theorem dL_law_857 : decode cL_law 857 = .ok (.iload 21, 2) := by decide +kernel
theorem dL_law_859 : decode cL_law 859 = .ok (.if_icmp .eq 5, 3) := by decide +kernel
theorem dL_law_862 : decode cL_law 862 = .ok (.iconst 0, 1) := by decide +kernel
theorem dL_law_863 : decode cL_law 863 = .ok (.ireturn, 1) := by decide +kernel
theorem dL_law_864 : decode cL_law 864 = .ok (.iconst 0, 1) := by decide +kernel
theorem dL_law_865 : decode cL_law 865 = .ok (.istore 25, 2) := by decide +kernel
theorem dL_law_867 : decode cL_law 867 = .ok (.iconst 0, 1) := by decide +kernel
theorem dL_law_868 : decode cL_law 868 = .ok (.istore 26, 2) := by decide +kernel
theorem dL_law_870 : decode cL_law 870 = .ok (.iconst 0, 1) := by decide +kernel
theorem dL_law_871 : decode cL_law 871 = .ok (.istore 27, 2) := by decide +kernel
theorem dL_law_873 : decode cL_law 873 = .ok (.iconst 0, 1) := by decide +kernel
theorem dL_law_874 : decode cL_law 874 = .ok (.istore 28, 2) := by decide +kernel
theorem dL_law_876 : decode cL_law 876 = .ok (.iconst 0, 1) := by decide +kernel
theorem dL_law_877 : decode cL_law 877 = .ok (.istore 29, 2) := by decide +kernel
theorem dL_law_879 : decode cL_law 879 = .ok (.iload 29, 2) := by decide +kernel
theorem dL_law_881 : decode cL_law 881 = .ok (.iload 5, 2) := by decide +kernel
theorem dL_law_883 : decode cL_law 883 = .ok (.if_icmp .ge 254, 3) := by decide +kernel
theorem dL_law_886 : decode cL_law 886 = .ok (.aload 20, 2) := by decide +kernel
theorem dL_law_888 : decode cL_law 888 = .ok (.iload 29, 2) := by decide +kernel
theorem dL_law_890 : decode cL_law 890 = .ok (.iaload, 1) := by decide +kernel
theorem dL_law_891 : decode cL_law 891 = .ok (.aload_n 1, 1) := by decide +kernel
theorem dL_law_892 : decode cL_law 892 = .ok (.iload 29, 2) := by decide +kernel
theorem dL_law_894 : decode cL_law 894 = .ok (.iconst 2, 1) := by decide +kernel
theorem dL_law_895 : decode cL_law 895 = .ok (.invokevirtual 99, 3) := by decide +kernel
theorem dL_law_898 : decode cL_law 898 = .ok (.iconst 1, 1) := by decide +kernel
theorem dL_law_899 : decode cL_law 899 = .ok (.if_icmp .ne 7, 3) := by decide +kernel
theorem dL_law_902 : decode cL_law 902 = .ok (.iconst 1, 1) := by decide +kernel
theorem dL_law_903 : decode cL_law 903 = .ok (.goto 4, 3) := by decide +kernel
theorem dL_law_906 : decode cL_law 906 = .ok (.iconst 0, 1) := by decide +kernel
theorem dL_law_907 : decode cL_law 907 = .ok (.if_icmp .ne 116, 3) := by decide +kernel
theorem dL_law_910 : decode cL_law 910 = .ok (.aload 20, 2) := by decide +kernel
theorem dL_law_912 : decode cL_law 912 = .ok (.iload 29, 2) := by decide +kernel
theorem dL_law_914 : decode cL_law 914 = .ok (.iaload, 1) := by decide +kernel
theorem dL_law_915 : decode cL_law 915 = .ok (.ifCond .ne 7, 3) := by decide +kernel
theorem dL_law_918 : decode cL_law 918 = .ok (.iconst 1, 1) := by decide +kernel
theorem dL_law_919 : decode cL_law 919 = .ok (.goto 4, 3) := by decide +kernel
theorem dL_law_922 : decode cL_law 922 = .ok (.iconst 0, 1) := by decide +kernel
theorem dL_law_923 : decode cL_law 923 = .ok (.aload_n 1, 1) := by decide +kernel
theorem dL_law_924 : decode cL_law 924 = .ok (.iload 29, 2) := by decide +kernel
theorem dL_law_926 : decode cL_law 926 = .ok (.iconst 3, 1) := by decide +kernel
theorem dL_law_927 : decode cL_law 927 = .ok (.invokevirtual 99, 3) := by decide +kernel
theorem dL_law_930 : decode cL_law 930 = .ok (.ifCond .ge 7, 3) := by decide +kernel
theorem dL_law_933 : decode cL_law 933 = .ok (.iconst 1, 1) := by decide +kernel
theorem dL_law_934 : decode cL_law 934 = .ok (.goto 4, 3) := by decide +kernel
theorem dL_law_937 : decode cL_law 937 = .ok (.iconst 0, 1) := by decide +kernel
theorem dL_law_938 : decode cL_law 938 = .ok (.if_icmp .ne 85, 3) := by decide +kernel
theorem dL_law_941 : decode cL_law 941 = .ok (.aload_n 1, 1) := by decide +kernel
theorem dL_law_942 : decode cL_law 942 = .ok (.iload 29, 2) := by decide +kernel
theorem dL_law_944 : decode cL_law 944 = .ok (.iconst 0, 1) := by decide +kernel
theorem dL_law_945 : decode cL_law 945 = .ok (.invokevirtual 99, 3) := by decide +kernel
theorem dL_law_948 : decode cL_law 948 = .ok (.ifCond .lt 75, 3) := by decide +kernel
theorem dL_law_951 : decode cL_law 951 = .ok (.aload_n 1, 1) := by decide +kernel
theorem dL_law_952 : decode cL_law 952 = .ok (.iload 29, 2) := by decide +kernel
theorem dL_law_954 : decode cL_law 954 = .ok (.iconst 1, 1) := by decide +kernel
theorem dL_law_955 : decode cL_law 955 = .ok (.invokevirtual 99, 3) := by decide +kernel
theorem dL_law_958 : decode cL_law 958 = .ok (.aload 8, 2) := by decide +kernel
theorem dL_law_960 : decode cL_law 960 = .ok (.iload 29, 2) := by decide +kernel
theorem dL_law_962 : decode cL_law 962 = .ok (.aaload, 1) := by decide +kernel
theorem dL_law_963 : decode cL_law 963 = .ok (.iconst 1, 1) := by decide +kernel
theorem dL_law_964 : decode cL_law 964 = .ok (.iaload, 1) := by decide +kernel
theorem dL_law_965 : decode cL_law 965 = .ok (.if_icmp .ne 58, 3) := by decide +kernel
theorem dL_law_968 : decode cL_law 968 = .ok (.aload_n 1, 1) := by decide +kernel
theorem dL_law_969 : decode cL_law 969 = .ok (.iload 29, 2) := by decide +kernel
theorem dL_law_971 : decode cL_law 971 = .ok (.bipush 6, 2) := by decide +kernel
theorem dL_law_973 : decode cL_law 973 = .ok (.invokevirtual 99, 3) := by decide +kernel
theorem dL_law_976 : decode cL_law 976 = .ok (.aload 8, 2) := by decide +kernel
theorem dL_law_978 : decode cL_law 978 = .ok (.iload 29, 2) := by decide +kernel
theorem dL_law_980 : decode cL_law 980 = .ok (.aaload, 1) := by decide +kernel
theorem dL_law_981 : decode cL_law 981 = .ok (.bipush 6, 2) := by decide +kernel
theorem dL_law_983 : decode cL_law 983 = .ok (.iaload, 1) := by decide +kernel
theorem dL_law_984 : decode cL_law 984 = .ok (.if_icmp .lt 39, 3) := by decide +kernel
theorem dL_law_987 : decode cL_law 987 = .ok (.aload_n 1, 1) := by decide +kernel
theorem dL_law_988 : decode cL_law 988 = .ok (.iload 29, 2) := by decide +kernel
theorem dL_law_990 : decode cL_law 990 = .ok (.bipush 7, 2) := by decide +kernel
theorem dL_law_992 : decode cL_law 992 = .ok (.invokevirtual 99, 3) := by decide +kernel
theorem dL_law_995 : decode cL_law 995 = .ok (.aload 8, 2) := by decide +kernel
theorem dL_law_997 : decode cL_law 997 = .ok (.iload 29, 2) := by decide +kernel
theorem dL_law_999 : decode cL_law 999 = .ok (.aaload, 1) := by decide +kernel
theorem dL_law_1000 : decode cL_law 1000 = .ok (.bipush 7, 2) := by decide +kernel
theorem dL_law_1002 : decode cL_law 1002 = .ok (.iaload, 1) := by decide +kernel
theorem dL_law_1003 : decode cL_law 1003 = .ok (.if_icmp .lt 20, 3) := by decide +kernel
theorem dL_law_1006 : decode cL_law 1006 = .ok (.aload_n 1, 1) := by decide +kernel
theorem dL_law_1007 : decode cL_law 1007 = .ok (.iload 29, 2) := by decide +kernel
theorem dL_law_1009 : decode cL_law 1009 = .ok (.iconst 4, 1) := by decide +kernel
theorem dL_law_1010 : decode cL_law 1010 = .ok (.invokevirtual 99, 3) := by decide +kernel
theorem dL_law_1013 : decode cL_law 1013 = .ok (.aload 8, 2) := by decide +kernel
theorem dL_law_1015 : decode cL_law 1015 = .ok (.iload 29, 2) := by decide +kernel
theorem dL_law_1017 : decode cL_law 1017 = .ok (.aaload, 1) := by decide +kernel
theorem dL_law_1018 : decode cL_law 1018 = .ok (.iconst 4, 1) := by decide +kernel
theorem dL_law_1019 : decode cL_law 1019 = .ok (.iaload, 1) := by decide +kernel
theorem dL_law_1020 : decode cL_law 1020 = .ok (.if_icmp .ge 5, 3) := by decide +kernel
theorem dL_law_1023 : decode cL_law 1023 = .ok (.iconst 0, 1) := by decide +kernel
theorem dL_law_1024 : decode cL_law 1024 = .ok (.ireturn, 1) := by decide +kernel
theorem dL_law_1025 : decode cL_law 1025 = .ok (.aload 8, 2) := by decide +kernel
theorem dL_law_1027 : decode cL_law 1027 = .ok (.iload 29, 2) := by decide +kernel
theorem dL_law_1029 : decode cL_law 1029 = .ok (.aaload, 1) := by decide +kernel
theorem dL_law_1030 : decode cL_law 1030 = .ok (.iconst 2, 1) := by decide +kernel
theorem dL_law_1031 : decode cL_law 1031 = .ok (.iaload, 1) := by decide +kernel
theorem dL_law_1032 : decode cL_law 1032 = .ok (.iconst 2, 1) := by decide +kernel
theorem dL_law_1033 : decode cL_law 1033 = .ok (.if_icmp .ne 16, 3) := by decide +kernel
theorem dL_law_1036 : decode cL_law 1036 = .ok (.aload_n 1, 1) := by decide +kernel
theorem dL_law_1037 : decode cL_law 1037 = .ok (.iload 29, 2) := by decide +kernel
theorem dL_law_1039 : decode cL_law 1039 = .ok (.iconst 2, 1) := by decide +kernel
theorem dL_law_1040 : decode cL_law 1040 = .ok (.invokevirtual 99, 3) := by decide +kernel
theorem dL_law_1043 : decode cL_law 1043 = .ok (.iconst 2, 1) := by decide +kernel
theorem dL_law_1044 : decode cL_law 1044 = .ok (.if_icmp .eq 5, 3) := by decide +kernel
theorem dL_law_1047 : decode cL_law 1047 = .ok (.iconst 0, 1) := by decide +kernel
theorem dL_law_1048 : decode cL_law 1048 = .ok (.ireturn, 1) := by decide +kernel
theorem dL_law_1049 : decode cL_law 1049 = .ok (.iload 25, 2) := by decide +kernel
theorem dL_law_1051 : decode cL_law 1051 = .ok (.aload 8, 2) := by decide +kernel
theorem dL_law_1053 : decode cL_law 1053 = .ok (.iload 29, 2) := by decide +kernel
theorem dL_law_1055 : decode cL_law 1055 = .ok (.aaload, 1) := by decide +kernel
theorem dL_law_1056 : decode cL_law 1056 = .ok (.iconst 0, 1) := by decide +kernel
theorem dL_law_1057 : decode cL_law 1057 = .ok (.iaload, 1) := by decide +kernel
theorem dL_law_1058 : decode cL_law 1058 = .ok (.aload_n 1, 1) := by decide +kernel
theorem dL_law_1059 : decode cL_law 1059 = .ok (.iload 29, 2) := by decide +kernel
theorem dL_law_1061 : decode cL_law 1061 = .ok (.iconst 0, 1) := by decide +kernel
theorem dL_law_1062 : decode cL_law 1062 = .ok (.invokevirtual 99, 3) := by decide +kernel
theorem dL_law_1065 : decode cL_law 1065 = .ok (.isub, 1) := by decide +kernel
theorem dL_law_1066 : decode cL_law 1066 = .ok (.iadd, 1) := by decide +kernel
theorem dL_law_1067 : decode cL_law 1067 = .ok (.istore 25, 2) := by decide +kernel
theorem dL_law_1069 : decode cL_law 1069 = .ok (.iload 26, 2) := by decide +kernel
theorem dL_law_1071 : decode cL_law 1071 = .ok (.aload_n 1, 1) := by decide +kernel
theorem dL_law_1072 : decode cL_law 1072 = .ok (.iload 29, 2) := by decide +kernel
theorem dL_law_1074 : decode cL_law 1074 = .ok (.bipush 6, 2) := by decide +kernel
theorem dL_law_1076 : decode cL_law 1076 = .ok (.invokevirtual 99, 3) := by decide +kernel
theorem dL_law_1079 : decode cL_law 1079 = .ok (.aload 8, 2) := by decide +kernel
theorem dL_law_1081 : decode cL_law 1081 = .ok (.iload 29, 2) := by decide +kernel
theorem dL_law_1083 : decode cL_law 1083 = .ok (.aaload, 1) := by decide +kernel
theorem dL_law_1084 : decode cL_law 1084 = .ok (.bipush 6, 2) := by decide +kernel
theorem dL_law_1086 : decode cL_law 1086 = .ok (.iaload, 1) := by decide +kernel
theorem dL_law_1087 : decode cL_law 1087 = .ok (.isub, 1) := by decide +kernel
theorem dL_law_1088 : decode cL_law 1088 = .ok (.iadd, 1) := by decide +kernel
theorem dL_law_1089 : decode cL_law 1089 = .ok (.istore 26, 2) := by decide +kernel
theorem dL_law_1091 : decode cL_law 1091 = .ok (.iload 27, 2) := by decide +kernel
theorem dL_law_1093 : decode cL_law 1093 = .ok (.aload_n 1, 1) := by decide +kernel
theorem dL_law_1094 : decode cL_law 1094 = .ok (.iload 29, 2) := by decide +kernel
theorem dL_law_1096 : decode cL_law 1096 = .ok (.iconst 5, 1) := by decide +kernel
theorem dL_law_1097 : decode cL_law 1097 = .ok (.invokevirtual 99, 3) := by decide +kernel
theorem dL_law_1100 : decode cL_law 1100 = .ok (.aload 8, 2) := by decide +kernel
theorem dL_law_1102 : decode cL_law 1102 = .ok (.iload 29, 2) := by decide +kernel
theorem dL_law_1104 : decode cL_law 1104 = .ok (.aaload, 1) := by decide +kernel
theorem dL_law_1105 : decode cL_law 1105 = .ok (.iconst 5, 1) := by decide +kernel
theorem dL_law_1106 : decode cL_law 1106 = .ok (.iaload, 1) := by decide +kernel
theorem dL_law_1107 : decode cL_law 1107 = .ok (.isub, 1) := by decide +kernel
theorem dL_law_1108 : decode cL_law 1108 = .ok (.iadd, 1) := by decide +kernel
theorem dL_law_1109 : decode cL_law 1109 = .ok (.istore 27, 2) := by decide +kernel
theorem dL_law_1111 : decode cL_law 1111 = .ok (.iload 28, 2) := by decide +kernel
theorem dL_law_1113 : decode cL_law 1113 = .ok (.aload_n 1, 1) := by decide +kernel
theorem dL_law_1114 : decode cL_law 1114 = .ok (.iload 29, 2) := by decide +kernel
theorem dL_law_1116 : decode cL_law 1116 = .ok (.iconst 4, 1) := by decide +kernel
theorem dL_law_1117 : decode cL_law 1117 = .ok (.invokevirtual 99, 3) := by decide +kernel
theorem dL_law_1120 : decode cL_law 1120 = .ok (.aload 8, 2) := by decide +kernel
theorem dL_law_1122 : decode cL_law 1122 = .ok (.iload 29, 2) := by decide +kernel
theorem dL_law_1124 : decode cL_law 1124 = .ok (.aaload, 1) := by decide +kernel
theorem dL_law_1125 : decode cL_law 1125 = .ok (.iconst 4, 1) := by decide +kernel
theorem dL_law_1126 : decode cL_law 1126 = .ok (.iaload, 1) := by decide +kernel
theorem dL_law_1127 : decode cL_law 1127 = .ok (.isub, 1) := by decide +kernel
theorem dL_law_1128 : decode cL_law 1128 = .ok (.iadd, 1) := by decide +kernel
theorem dL_law_1129 : decode cL_law 1129 = .ok (.istore 28, 2) := by decide +kernel
theorem dL_law_1131 : decode cL_law 1131 = .ok (.iinc 29 1, 3) := by decide +kernel
theorem dL_law_1134 : decode cL_law 1134 = .ok (.goto (-255), 3) := by decide +kernel
theorem dL_law_1137 : decode cL_law 1137 = .ok (.iload 19, 2) := by decide +kernel
theorem dL_law_1139 : decode cL_law 1139 = .ok (.ifCond .eq 17, 3) := by decide +kernel
theorem dL_law_1142 : decode cL_law 1142 = .ok (.iload 15, 2) := by decide +kernel
theorem dL_law_1144 : decode cL_law 1144 = .ok (.ifCond .gt 8, 3) := by decide +kernel
theorem dL_law_1147 : decode cL_law 1147 = .ok (.iload 23, 2) := by decide +kernel
theorem dL_law_1149 : decode cL_law 1149 = .ok (.ifCond .le 7, 3) := by decide +kernel
theorem dL_law_1152 : decode cL_law 1152 = .ok (.iconst 1, 1) := by decide +kernel
theorem dL_law_1153 : decode cL_law 1153 = .ok (.goto 4, 3) := by decide +kernel
theorem dL_law_1156 : decode cL_law 1156 = .ok (.iconst 0, 1) := by decide +kernel
theorem dL_law_1157 : decode cL_law 1157 = .ok (.istore 29, 2) := by decide +kernel
theorem dL_law_1159 : decode cL_law 1159 = .ok (.iload 25, 2) := by decide +kernel
theorem dL_law_1161 : decode cL_law 1161 = .ok (.iload 22, 2) := by decide +kernel
theorem dL_law_1163 : decode cL_law 1163 = .ok (.iload 29, 2) := by decide +kernel
theorem dL_law_1165 : decode cL_law 1165 = .ok (.ifCond .eq 7, 3) := by decide +kernel
theorem dL_law_1168 : decode cL_law 1168 = .ok (.iconst 5, 1) := by decide +kernel
theorem dL_law_1169 : decode cL_law 1169 = .ok (.goto 4, 3) := by decide +kernel
theorem dL_law_1172 : decode cL_law 1172 = .ok (.iconst 0, 1) := by decide +kernel
theorem dL_law_1173 : decode cL_law 1173 = .ok (.isub, 1) := by decide +kernel
theorem dL_law_1174 : decode cL_law 1174 = .ok (.if_icmp .ne 56, 3) := by decide +kernel
theorem dL_law_1177 : decode cL_law 1177 = .ok (.iload 26, 2) := by decide +kernel
theorem dL_law_1179 : decode cL_law 1179 = .ok (.iload 23, 2) := by decide +kernel
theorem dL_law_1181 : decode cL_law 1181 = .ok (.if_icmp .ne 49, 3) := by decide +kernel
theorem dL_law_1184 : decode cL_law 1184 = .ok (.iload 28, 2) := by decide +kernel
theorem dL_law_1186 : decode cL_law 1186 = .ok (.iload 17, 2) := by decide +kernel
theorem dL_law_1188 : decode cL_law 1188 = .ok (.if_icmp .ne 42, 3) := by decide +kernel
theorem dL_law_1191 : decode cL_law 1191 = .ok (.iload 27, 2) := by decide +kernel
theorem dL_law_1193 : decode cL_law 1193 = .ok (.ifCond .eq 7, 3) := by decide +kernel
theorem dL_law_1196 : decode cL_law 1196 = .ok (.iconst 1, 1) := by decide +kernel
theorem dL_law_1197 : decode cL_law 1197 = .ok (.goto 4, 3) := by decide +kernel
theorem dL_law_1200 : decode cL_law 1200 = .ok (.iconst 0, 1) := by decide +kernel
theorem dL_law_1201 : decode cL_law 1201 = .ok (.iload 29, 2) := by decide +kernel
theorem dL_law_1203 : decode cL_law 1203 = .ok (.if_icmp .ne 27, 3) := by decide +kernel
theorem dL_law_1206 : decode cL_law 1206 = .ok (.iload 29, 2) := by decide +kernel
theorem dL_law_1208 : decode cL_law 1208 = .ok (.ifCond .eq 24, 3) := by decide +kernel
theorem dL_law_1211 : decode cL_law 1211 = .ok (.iload 27, 2) := by decide +kernel
theorem dL_law_1213 : decode cL_law 1213 = .ok (.iconst 3, 1) := by decide +kernel
theorem dL_law_1214 : decode cL_law 1214 = .ok (.if_icmp .eq 18, 3) := by decide +kernel
theorem dL_law_1217 : decode cL_law 1217 = .ok (.iload 27, 2) := by decide +kernel
theorem dL_law_1219 : decode cL_law 1219 = .ok (.iconst 5, 1) := by decide +kernel
theorem dL_law_1220 : decode cL_law 1220 = .ok (.if_icmp .eq 12, 3) := by decide +kernel
theorem dL_law_1223 : decode cL_law 1223 = .ok (.iload 27, 2) := by decide +kernel
theorem dL_law_1225 : decode cL_law 1225 = .ok (.bipush 6, 2) := by decide +kernel
theorem dL_law_1227 : decode cL_law 1227 = .ok (.if_icmp .eq 5, 3) := by decide +kernel
theorem dL_law_1230 : decode cL_law 1230 = .ok (.iconst 0, 1) := by decide +kernel
theorem dL_law_1231 : decode cL_law 1231 = .ok (.ireturn, 1) := by decide +kernel
theorem dL_law_1232 : decode cL_law 1232 = .ok (.iconst 0, 1) := by decide +kernel
theorem dL_law_1233 : decode cL_law 1233 = .ok (.istore 30, 2) := by decide +kernel
theorem dL_law_1235 : decode cL_law 1235 = .ok (.iload 30, 2) := by decide +kernel
theorem dL_law_1237 : decode cL_law 1237 = .ok (.iload 4, 2) := by decide +kernel
theorem dL_law_1239 : decode cL_law 1239 = .ok (.if_icmp .ge 154, 3) := by decide +kernel
theorem dL_law_1242 : decode cL_law 1242 = .ok (.aload 10, 2) := by decide +kernel
theorem dL_law_1244 : decode cL_law 1244 = .ok (.iload 30, 2) := by decide +kernel
theorem dL_law_1246 : decode cL_law 1246 = .ok (.aaload, 1) := by decide +kernel
theorem dL_law_1247 : decode cL_law 1247 = .ok (.iconst 1, 1) := by decide +kernel
theorem dL_law_1248 : decode cL_law 1248 = .ok (.iaload, 1) := by decide +kernel
theorem dL_law_1249 : decode cL_law 1249 = .ok (.ifCond .lt 7, 3) := by decide +kernel
theorem dL_law_1252 : decode cL_law 1252 = .ok (.iconst 1, 1) := by decide +kernel
theorem dL_law_1253 : decode cL_law 1253 = .ok (.goto 4, 3) := by decide +kernel
theorem dL_law_1256 : decode cL_law 1256 = .ok (.iconst 0, 1) := by decide +kernel
theorem dL_law_1257 : decode cL_law 1257 = .ok (.istore 31, 2) := by decide +kernel
theorem dL_law_1259 : decode cL_law 1259 = .ok (.iload 31, 2) := by decide +kernel
theorem dL_law_1261 : decode cL_law 1261 = .ok (.ifCond .eq 15, 3) := by decide +kernel
theorem dL_law_1264 : decode cL_law 1264 = .ok (.aload 10, 2) := by decide +kernel
theorem dL_law_1266 : decode cL_law 1266 = .ok (.iload 30, 2) := by decide +kernel
theorem dL_law_1268 : decode cL_law 1268 = .ok (.aaload, 1) := by decide +kernel
theorem dL_law_1269 : decode cL_law 1269 = .ok (.iconst 0, 1) := by decide +kernel
theorem dL_law_1270 : decode cL_law 1270 = .ok (.iaload, 1) := by decide +kernel
theorem dL_law_1271 : decode cL_law 1271 = .ok (.iconst 1, 1) := by decide +kernel
theorem dL_law_1272 : decode cL_law 1272 = .ok (.isub, 1) := by decide +kernel
theorem dL_law_1273 : decode cL_law 1273 = .ok (.goto 10, 3) := by decide +kernel
theorem dL_law_1276 : decode cL_law 1276 = .ok (.aload 10, 2) := by decide +kernel
theorem dL_law_1278 : decode cL_law 1278 = .ok (.iload 30, 2) := by decide +kernel
theorem dL_law_1280 : decode cL_law 1280 = .ok (.aaload, 1) := by decide +kernel
theorem dL_law_1281 : decode cL_law 1281 = .ok (.iconst 0, 1) := by decide +kernel
theorem dL_law_1282 : decode cL_law 1282 = .ok (.iaload, 1) := by decide +kernel
theorem dL_law_1283 : decode cL_law 1283 = .ok (.istore 32, 2) := by decide +kernel
theorem dL_law_1285 : decode cL_law 1285 = .ok (.iload 31, 2) := by decide +kernel
theorem dL_law_1287 : decode cL_law 1287 = .ok (.ifCond .eq 8, 3) := by decide +kernel
theorem dL_law_1290 : decode cL_law 1290 = .ok (.iload 32, 2) := by decide +kernel
theorem dL_law_1292 : decode cL_law 1292 = .ok (.ifCond .ne 7, 3) := by decide +kernel
theorem dL_law_1295 : decode cL_law 1295 = .ok (.iconst 1, 1) := by decide +kernel
theorem dL_law_1296 : decode cL_law 1296 = .ok (.goto 4, 3) := by decide +kernel
theorem dL_law_1299 : decode cL_law 1299 = .ok (.iconst 0, 1) := by decide +kernel
theorem dL_law_1300 : decode cL_law 1300 = .ok (.istore 33, 2) := by decide +kernel
theorem dL_law_1302 : decode cL_law 1302 = .ok (.aload_n 1, 1) := by decide +kernel
theorem dL_law_1303 : decode cL_law 1303 = .ok (.iload 30, 2) := by decide +kernel
theorem dL_law_1305 : decode cL_law 1305 = .ok (.iconst 1, 1) := by decide +kernel
theorem dL_law_1306 : decode cL_law 1306 = .ok (.invokevirtual 104, 3) := by decide +kernel
theorem dL_law_1309 : decode cL_law 1309 = .ok (.iload 33, 2) := by decide +kernel
theorem dL_law_1311 : decode cL_law 1311 = .ok (.ifCond .eq 7, 3) := by decide +kernel
theorem dL_law_1314 : decode cL_law 1314 = .ok (.iconst (-1), 1) := by decide +kernel
theorem dL_law_1315 : decode cL_law 1315 = .ok (.goto 10, 3) := by decide +kernel
theorem dL_law_1318 : decode cL_law 1318 = .ok (.aload 10, 2) := by decide +kernel
theorem dL_law_1320 : decode cL_law 1320 = .ok (.iload 30, 2) := by decide +kernel
theorem dL_law_1322 : decode cL_law 1322 = .ok (.aaload, 1) := by decide +kernel
theorem dL_law_1323 : decode cL_law 1323 = .ok (.iconst 1, 1) := by decide +kernel
theorem dL_law_1324 : decode cL_law 1324 = .ok (.iaload, 1) := by decide +kernel
theorem dL_law_1325 : decode cL_law 1325 = .ok (.if_icmp .ne 60, 3) := by decide +kernel
theorem dL_law_1328 : decode cL_law 1328 = .ok (.aload_n 1, 1) := by decide +kernel
theorem dL_law_1329 : decode cL_law 1329 = .ok (.iload 30, 2) := by decide +kernel
theorem dL_law_1331 : decode cL_law 1331 = .ok (.iconst 0, 1) := by decide +kernel
theorem dL_law_1332 : decode cL_law 1332 = .ok (.invokevirtual 104, 3) := by decide +kernel
theorem dL_law_1335 : decode cL_law 1335 = .ok (.iload 33, 2) := by decide +kernel
theorem dL_law_1337 : decode cL_law 1337 = .ok (.ifCond .eq 15, 3) := by decide +kernel
theorem dL_law_1340 : decode cL_law 1340 = .ok (.bipush 24, 2) := by decide +kernel
theorem dL_law_1342 : decode cL_law 1342 = .ok (.iload 32, 2) := by decide +kernel
theorem dL_law_1344 : decode cL_law 1344 = .ok (.iconst 2, 1) := by decide +kernel
theorem dL_law_1345 : decode cL_law 1345 = .ok (.iadd, 1) := by decide +kernel
theorem dL_law_1346 : decode cL_law 1346 = .ok (.invokestatic 122, 3) := by decide +kernel
theorem dL_law_1349 : decode cL_law 1349 = .ok (.goto 5, 3) := by decide +kernel
theorem dL_law_1352 : decode cL_law 1352 = .ok (.iload 32, 2) := by decide +kernel
theorem dL_law_1354 : decode cL_law 1354 = .ok (.if_icmp .ne 31, 3) := by decide +kernel
theorem dL_law_1357 : decode cL_law 1357 = .ok (.aload_n 1, 1) := by decide +kernel
theorem dL_law_1358 : decode cL_law 1358 = .ok (.iload 30, 2) := by decide +kernel
theorem dL_law_1360 : decode cL_law 1360 = .ok (.iconst 2, 1) := by decide +kernel
theorem dL_law_1361 : decode cL_law 1361 = .ok (.invokevirtual 104, 3) := by decide +kernel
theorem dL_law_1364 : decode cL_law 1364 = .ok (.aload 10, 2) := by decide +kernel
theorem dL_law_1366 : decode cL_law 1366 = .ok (.iload 30, 2) := by decide +kernel
theorem dL_law_1368 : decode cL_law 1368 = .ok (.aaload, 1) := by decide +kernel
theorem dL_law_1369 : decode cL_law 1369 = .ok (.iconst 2, 1) := by decide +kernel
theorem dL_law_1370 : decode cL_law 1370 = .ok (.iaload, 1) := by decide +kernel
theorem dL_law_1371 : decode cL_law 1371 = .ok (.iload 31, 2) := by decide +kernel
theorem dL_law_1373 : decode cL_law 1373 = .ok (.ifCond .eq 7, 3) := by decide +kernel
theorem dL_law_1376 : decode cL_law 1376 = .ok (.iconst 1, 1) := by decide +kernel
theorem dL_law_1377 : decode cL_law 1377 = .ok (.goto 4, 3) := by decide +kernel
theorem dL_law_1380 : decode cL_law 1380 = .ok (.iconst 0, 1) := by decide +kernel
theorem dL_law_1381 : decode cL_law 1381 = .ok (.iadd, 1) := by decide +kernel
theorem dL_law_1382 : decode cL_law 1382 = .ok (.if_icmp .eq 5, 3) := by decide +kernel
theorem dL_law_1385 : decode cL_law 1385 = .ok (.iconst 0, 1) := by decide +kernel
theorem dL_law_1386 : decode cL_law 1386 = .ok (.ireturn, 1) := by decide +kernel
theorem dL_law_1387 : decode cL_law 1387 = .ok (.iinc 30 1, 3) := by decide +kernel
theorem dL_law_1390 : decode cL_law 1390 = .ok (.goto (-155), 3) := by decide +kernel
theorem dL_law_1393 : decode cL_law 1393 = .ok (.iload 19, 2) := by decide +kernel
theorem dL_law_1395 : decode cL_law 1395 = .ok (.ifCond .eq 15, 3) := by decide +kernel
theorem dL_law_1398 : decode cL_law 1398 = .ok (.aload_n 1, 1) := by decide +kernel
theorem dL_law_1399 : decode cL_law 1399 = .ok (.bipush 9, 2) := by decide +kernel
theorem dL_law_1401 : decode cL_law 1401 = .ok (.invokevirtual 111, 3) := by decide +kernel
theorem dL_law_1404 : decode cL_law 1404 = .ok (.ifCond .eq 26, 3) := by decide +kernel
theorem dL_law_1407 : decode cL_law 1407 = .ok (.goto 21, 3) := by decide +kernel
theorem dL_law_1410 : decode cL_law 1410 = .ok (.aload_n 1, 1) := by decide +kernel
theorem dL_law_1411 : decode cL_law 1411 = .ok (.bipush 9, 2) := by decide +kernel
theorem dL_law_1413 : decode cL_law 1413 = .ok (.invokevirtual 111, 3) := by decide +kernel
theorem dL_law_1416 : decode cL_law 1416 = .ok (.iconst 3, 1) := by decide +kernel
theorem dL_law_1417 : decode cL_law 1417 = .ok (.iload 15, 2) := by decide +kernel
theorem dL_law_1419 : decode cL_law 1419 = .ok (.iload 23, 2) := by decide +kernel
theorem dL_law_1421 : decode cL_law 1421 = .ok (.iadd, 1) := by decide +kernel
theorem dL_law_1422 : decode cL_law 1422 = .ok (.invokestatic 122, 3) := by decide +kernel
theorem dL_law_1425 : decode cL_law 1425 = .ok (.if_icmp .eq 5, 3) := by decide +kernel
theorem dL_law_1428 : decode cL_law 1428 = .ok (.iconst 0, 1) := by decide +kernel
theorem dL_law_1429 : decode cL_law 1429 = .ok (.ireturn, 1) := by decide +kernel
theorem dL_law_1430 : decode cL_law 1430 = .ok (.iconst 1, 1) := by decide +kernel
theorem dL_law_1431 : decode cL_law 1431 = .ok (.istore 30, 2) := by decide +kernel
theorem dL_law_1433 : decode cL_law 1433 = .ok (.iload 30, 2) := by decide +kernel
theorem dL_law_1435 : decode cL_law 1435 = .ok (.aload_n 1, 1) := by decide +kernel
theorem dL_law_1436 : decode cL_law 1436 = .ok (.bipush 9, 2) := by decide +kernel
theorem dL_law_1438 : decode cL_law 1438 = .ok (.invokevirtual 111, 3) := by decide +kernel
theorem dL_law_1441 : decode cL_law 1441 = .ok (.if_icmp .ge 30, 3) := by decide +kernel
theorem dL_law_1444 : decode cL_law 1444 = .ok (.aload_n 1, 1) := by decide +kernel
theorem dL_law_1445 : decode cL_law 1445 = .ok (.iload 30, 2) := by decide +kernel
theorem dL_law_1447 : decode cL_law 1447 = .ok (.iconst 2, 1) := by decide +kernel
theorem dL_law_1448 : decode cL_law 1448 = .ok (.invokevirtual 127, 3) := by decide +kernel
theorem dL_law_1451 : decode cL_law 1451 = .ok (.aload_n 1, 1) := by decide +kernel
theorem dL_law_1452 : decode cL_law 1452 = .ok (.iload 30, 2) := by decide +kernel
theorem dL_law_1454 : decode cL_law 1454 = .ok (.iconst 1, 1) := by decide +kernel
theorem dL_law_1455 : decode cL_law 1455 = .ok (.isub, 1) := by decide +kernel
theorem dL_law_1456 : decode cL_law 1456 = .ok (.iconst 2, 1) := by decide +kernel
theorem dL_law_1457 : decode cL_law 1457 = .ok (.invokevirtual 127, 3) := by decide +kernel
theorem dL_law_1460 : decode cL_law 1460 = .ok (.if_icmp .le 5, 3) := by decide +kernel
theorem dL_law_1463 : decode cL_law 1463 = .ok (.iconst 0, 1) := by decide +kernel
theorem dL_law_1464 : decode cL_law 1464 = .ok (.ireturn, 1) := by decide +kernel
theorem dL_law_1465 : decode cL_law 1465 = .ok (.iinc 30 1, 3) := by decide +kernel
theorem dL_law_1468 : decode cL_law 1468 = .ok (.goto (-35), 3) := by decide +kernel
theorem dL_law_1471 : decode cL_law 1471 = .ok (.iinc 6 1, 3) := by decide +kernel
theorem dL_law_1474 : decode cL_law 1474 = .ok (.goto (-1431), 3) := by decide +kernel
theorem dL_law_1477 : decode cL_law 1477 = .ok (.aload_n 2, 1) := by decide +kernel
theorem dL_law_1478 : decode cL_law 1478 = .ok (.aload_n 1, 1) := by decide +kernel
theorem dL_law_1479 : decode cL_law 1479 = .ok (.invokevirtual 130, 3) := by decide +kernel
theorem dL_law_1482 : decode cL_law 1482 = .ok (.ireturn, 1) := by decide +kernel
