abbrev mX12_several : hM := (yX12_several, cX12_several, 3, none)
abbrev mX12_test : hM := (yX12_test, cX12_test, 3, (some (.int)))
theorem dX12_test_419 : decode cX12_test 419 = .ok (.aload_n 0, 1) := by decide +kernel
theorem dX12_test_420 : decode cX12_test 420 = .ok (.aload_n 0, 1) := by decide +kernel
theorem fX12_361 : h_fl RX12 361 12 66 RX12 TX12 153 := ⟨rfl, by decide, inX12, h_t12 27 rfl rfl⟩
theorem dX12_test_421 : decode cX12_test 421 = .ok (.getfield 361, 3) := by decide +kernel
theorem dX12_test_424 : decode cX12_test 424 = .ok (.iconst 1, 1) := by decide +kernel
theorem dX12_test_425 : decode cX12_test 425 = .ok (.isub, 1) := by decide +kernel
theorem dX12_test_426 : decode cX12_test 426 = .ok (.putfield 361, 3) := by decide +kernel
theorem dX12_test_429 : decode cX12_test 429 = .ok (.iload_n 2, 1) := by decide +kernel
theorem dX12_test_430 : decode cX12_test 430 = .ok (.ireturn, 1) := by decide +kernel
theorem dX12_test_238 : decode cX12_test 238 = .ok (.aload_n 0, 1) := by decide +kernel
theorem dX12_test_239 : decode cX12_test 239 = .ok (.invokevirtual 279, 3) := by decide +kernel
theorem dX12_test_242 : decode cX12_test 242 = .ok (.iload_n 1, 1) := by decide +kernel
theorem dX12_test_243 : decode cX12_test 243 = .ok (.tableswitch 176 20 28 #[49, 49, 49, 97, 125, 148, 156, 156, 164], 49) := by decide +kernel
theorem dX12_test_292 : decode cX12_test 292 = .ok (.aload_n 0, 1) := by decide +kernel
theorem dX12_test_293 : decode cX12_test 293 = .ok (.iload_n 2, 1) := by decide +kernel
theorem kX12_how : h_ml mX12_how 1 := ⟨h_t8 214 rfl rfl, h_t1 16 rfl rfl, ⟨by decide, by decide, by decide +kernel⟩, by decide⟩
theorem lX12_500 : Cond.methodLink RX12 500 mX12_how.1 ∈ lw_g := h_t8 211 rfl rfl
theorem sX12_how : Cond.instanceMethod mX12_how.1 ∈ lw_g ∧ Cond.selects mX12_how.1.cls mX12_how.1 mX12_how.1 ∈ lw_g := ⟨h_t8 213 rfl rfl, h_ins 147 rfl⟩
theorem dX12_test_294 : decode cX12_test 294 = .ok (.invokevirtual 500, 3) := by decide +kernel
theorem dX12_test_297 : decode cX12_test 297 = .ok (.aload_n 0, 1) := by decide +kernel
theorem dX12_test_298 : decode cX12_test 298 = .ok (.getfield 439, 3) := by decide +kernel
theorem dX12_test_301 : decode cX12_test 301 = .ok (.iload_n 2, 1) := by decide +kernel
theorem dX12_test_302 : decode cX12_test 302 = .ok (.aload_n 0, 1) := by decide +kernel
theorem dX12_test_303 : decode cX12_test 303 = .ok (.getfield 340, 3) := by decide +kernel
theorem dX12_test_306 : decode cX12_test 306 = .ok (.iastore, 1) := by decide +kernel
theorem dX12_test_307 : decode cX12_test 307 = .ok (.aload_n 0, 1) := by decide +kernel
theorem dX12_test_308 : decode cX12_test 308 = .ok (.getfield 297, 3) := by decide +kernel
theorem dX12_test_311 : decode cX12_test 311 = .ok (.iload_n 2, 1) := by decide +kernel
theorem dX12_test_312 : decode cX12_test 312 = .ok (.aload_n 0, 1) := by decide +kernel
theorem dX12_test_313 : decode cX12_test 313 = .ok (.invokevirtual 442, 3) := by decide +kernel
theorem dX12_test_316 : decode cX12_test 316 = .ok (.iastore, 1) := by decide +kernel
theorem dX12_test_317 : decode cX12_test 317 = .ok (.aload_n 0, 1) := by decide +kernel
theorem dX12_test_318 : decode cX12_test 318 = .ok (.getfield 454, 3) := by decide +kernel
theorem dX12_test_321 : decode cX12_test 321 = .ok (.iload_n 2, 1) := by decide +kernel
theorem dX12_test_322 : decode cX12_test 322 = .ok (.aload_n 0, 1) := by decide +kernel
theorem dX12_test_323 : decode cX12_test 323 = .ok (.getfield 340, 3) := by decide +kernel
theorem dX12_test_326 : decode cX12_test 326 = .ok (.iastore, 1) := by decide +kernel
theorem dX12_test_327 : decode cX12_test 327 = .ok (.aload_n 0, 1) := by decide +kernel
theorem dX12_test_328 : decode cX12_test 328 = .ok (.getfield 300, 3) := by decide +kernel
theorem dX12_test_331 : decode cX12_test 331 = .ok (.iload_n 2, 1) := by decide +kernel
theorem dX12_test_332 : decode cX12_test 332 = .ok (.aload_n 0, 1) := by decide +kernel
theorem dX12_test_333 : decode cX12_test 333 = .ok (.invokevirtual 442, 3) := by decide +kernel
theorem dX12_test_336 : decode cX12_test 336 = .ok (.iastore, 1) := by decide +kernel
theorem dX12_test_337 : decode cX12_test 337 = .ok (.goto 82, 3) := by decide +kernel
theorem dX12_test_340 : decode cX12_test 340 = .ok (.aload_n 0, 1) := by decide +kernel
theorem dX12_test_341 : decode cX12_test 341 = .ok (.iload_n 2, 1) := by decide +kernel
theorem dX12_test_342 : decode cX12_test 342 = .ok (.invokevirtual 500, 3) := by decide +kernel
theorem dX12_test_345 : decode cX12_test 345 = .ok (.aload_n 0, 1) := by decide +kernel
theorem dX12_test_346 : decode cX12_test 346 = .ok (.getfield 454, 3) := by decide +kernel
theorem dX12_test_349 : decode cX12_test 349 = .ok (.iload_n 2, 1) := by decide +kernel
theorem dX12_test_350 : decode cX12_test 350 = .ok (.aload_n 0, 1) := by decide +kernel
theorem dX12_test_351 : decode cX12_test 351 = .ok (.getfield 340, 3) := by decide +kernel
theorem dX12_test_354 : decode cX12_test 354 = .ok (.iastore, 1) := by decide +kernel
theorem dX12_test_355 : decode cX12_test 355 = .ok (.aload_n 0, 1) := by decide +kernel
theorem dX12_test_356 : decode cX12_test 356 = .ok (.getfield 300, 3) := by decide +kernel
theorem dX12_test_359 : decode cX12_test 359 = .ok (.iload_n 2, 1) := by decide +kernel
theorem dX12_test_360 : decode cX12_test 360 = .ok (.aload_n 0, 1) := by decide +kernel
theorem dX12_test_361 : decode cX12_test 361 = .ok (.invokevirtual 442, 3) := by decide +kernel
theorem dX12_test_364 : decode cX12_test 364 = .ok (.iastore, 1) := by decide +kernel
theorem dX12_test_365 : decode cX12_test 365 = .ok (.goto 54, 3) := by decide +kernel
theorem dX12_test_368 : decode cX12_test 368 = .ok (.aload_n 0, 1) := by decide +kernel
theorem dX12_test_369 : decode cX12_test 369 = .ok (.getfield 439, 3) := by decide +kernel
theorem dX12_test_372 : decode cX12_test 372 = .ok (.iload_n 2, 1) := by decide +kernel
theorem dX12_test_373 : decode cX12_test 373 = .ok (.aload_n 0, 1) := by decide +kernel
theorem dX12_test_374 : decode cX12_test 374 = .ok (.getfield 340, 3) := by decide +kernel
theorem dX12_test_377 : decode cX12_test 377 = .ok (.iastore, 1) := by decide +kernel
theorem dX12_test_378 : decode cX12_test 378 = .ok (.aload_n 0, 1) := by decide +kernel
theorem dX12_test_379 : decode cX12_test 379 = .ok (.getfield 297, 3) := by decide +kernel
theorem dX12_test_382 : decode cX12_test 382 = .ok (.iload_n 2, 1) := by decide +kernel
theorem dX12_test_383 : decode cX12_test 383 = .ok (.aload_n 0, 1) := by decide +kernel
theorem dX12_test_384 : decode cX12_test 384 = .ok (.invokevirtual 442, 3) := by decide +kernel
theorem dX12_test_387 : decode cX12_test 387 = .ok (.iastore, 1) := by decide +kernel
theorem dX12_test_388 : decode cX12_test 388 = .ok (.goto 31, 3) := by decide +kernel
theorem dX12_test_391 : decode cX12_test 391 = .ok (.aload_n 0, 1) := by decide +kernel
theorem dX12_test_392 : decode cX12_test 392 = .ok (.iload_n 2, 1) := by decide +kernel
theorem kX12_size : h_ml mX12_size 1 := ⟨h_t9 12 rfl rfl, h_t1 16 rfl rfl, ⟨by decide, by decide, by decide +kernel⟩, by decide⟩
theorem lX12_503 : Cond.methodLink RX12 503 mX12_size.1 ∈ lw_g := h_t9 9 rfl rfl
theorem sX12_size : Cond.instanceMethod mX12_size.1 ∈ lw_g ∧ Cond.selects mX12_size.1.cls mX12_size.1 mX12_size.1 ∈ lw_g := ⟨h_t9 11 rfl rfl, h_ins 152 rfl⟩
theorem dX12_test_393 : decode cX12_test 393 = .ok (.invokevirtual 503, 3) := by decide +kernel
theorem dX12_test_396 : decode cX12_test 396 = .ok (.goto 23, 3) := by decide +kernel
theorem dX12_test_399 : decode cX12_test 399 = .ok (.aload_n 0, 1) := by decide +kernel
theorem dX12_test_400 : decode cX12_test 400 = .ok (.iload_n 2, 1) := by decide +kernel
theorem kX12_several : h_ml mX12_several 1 := ⟨h_t9 18 rfl rfl, h_t1 16 rfl rfl, ⟨by decide, by decide, by decide +kernel⟩, by decide⟩
theorem lX12_505 : Cond.methodLink RX12 505 mX12_several.1 ∈ lw_g := h_t9 15 rfl rfl
theorem sX12_several : Cond.instanceMethod mX12_several.1 ∈ lw_g ∧ Cond.selects mX12_several.1.cls mX12_several.1 mX12_several.1 ∈ lw_g := ⟨h_t9 17 rfl rfl, h_ins 153 rfl⟩
theorem dX12_test_401 : decode cX12_test 401 = .ok (.invokevirtual 505, 3) := by decide +kernel
theorem dX12_test_404 : decode cX12_test 404 = .ok (.goto 15, 3) := by decide +kernel
theorem dX12_test_407 : decode cX12_test 407 = .ok (.aload_n 0, 1) := by decide +kernel
theorem dX12_test_408 : decode cX12_test 408 = .ok (.iload_n 2, 1) := by decide +kernel
theorem dX12_test_409 : decode cX12_test 409 = .ok (.aload_n 0, 1) := by decide +kernel
theorem kX12_test : h_ml mX12_test 0 := ⟨h_t8 196 rfl rfl, h_t1 16 rfl rfl, ⟨by decide, by decide, by decide +kernel⟩, by decide⟩
theorem lX12_448 : Cond.methodLink RX12 448 mX12_test.1 ∈ lw_g := h_t8 193 rfl rfl
theorem sX12_test : Cond.instanceMethod mX12_test.1 ∈ lw_g ∧ Cond.selects mX12_test.1.cls mX12_test.1 mX12_test.1 ∈ lw_g := ⟨h_t8 195 rfl rfl, h_ins 145 rfl⟩
theorem dX12_test_410 : decode cX12_test 410 = .ok (.invokevirtual 448, 3) := by decide +kernel
theorem kX12_put : h_ml mX12_put 2 := ⟨h_t9 22 rfl rfl, h_t1 16 rfl rfl, ⟨by decide, by decide, by decide +kernel⟩, by decide⟩
theorem lX12_403 : Cond.methodLink RX12 403 mX12_put.1 ∈ lw_g := h_t9 19 rfl rfl
theorem sX12_put : Cond.instanceMethod mX12_put.1 ∈ lw_g ∧ Cond.selects mX12_put.1.cls mX12_put.1 mX12_put.1 ∈ lw_g := ⟨h_t9 21 rfl rfl, h_ins 154 rfl⟩
theorem dX12_test_413 : decode cX12_test 413 = .ok (.invokevirtual 403, 3) := by decide +kernel
theorem dX12_test_416 : decode cX12_test 416 = .ok (.goto 3, 3) := by decide +kernel
theorem dX12_test_226 : decode cX12_test 226 = .ok (.iload_n 1, 1) := by decide +kernel
theorem dX12_test_227 : decode cX12_test 227 = .ok (.bipush 23, 2) := by decide +kernel
theorem dX12_test_229 : decode cX12_test 229 = .ok (.if_icmp .ne 9, 3) := by decide +kernel
theorem dX12_test_232 : decode cX12_test 232 = .ok (.aload_n 0, 1) := by decide +kernel
theorem dX12_test_233 : decode cX12_test 233 = .ok (.bipush 16, 2) := by decide +kernel
theorem dX12_test_235 : decode cX12_test 235 = .ok (.invokevirtual 431, 3) := by decide +kernel
theorem dX12_test_209 : decode cX12_test 209 = .ok (.aload_n 0, 1) := by decide +kernel
theorem dX12_test_210 : decode cX12_test 210 = .ok (.iload_n 1, 1) := by decide +kernel
theorem kX12_counting : h_ml mX12_counting 1 := ⟨h_t8 192 rfl rfl, h_t1 16 rfl rfl, ⟨by decide, by decide, by decide +kernel⟩, by decide⟩
theorem lX12_425 : Cond.methodLink RX12 425 mX12_counting.1 ∈ lw_g := h_t8 189 rfl rfl
theorem sX12_counting : Cond.instanceMethod mX12_counting.1 ∈ lw_g ∧ Cond.selects mX12_counting.1.cls mX12_counting.1 mX12_counting.1 ∈ lw_g := ⟨h_t8 191 rfl rfl, h_ins 144 rfl⟩
theorem dX12_test_211 : decode cX12_test 211 = .ok (.invokevirtual 425, 3) := by decide +kernel
theorem dX12_test_214 : decode cX12_test 214 = .ok (.istore_n 2, 1) := by decide +kernel
theorem dX12_test_215 : decode cX12_test 215 = .ok (.iload_n 1, 1) := by decide +kernel
theorem dX12_test_216 : decode cX12_test 216 = .ok (.bipush 22, 2) := by decide +kernel
theorem dX12_test_218 : decode cX12_test 218 = .ok (.if_icmp .ne 8, 3) := by decide +kernel
theorem dX12_test_221 : decode cX12_test 221 = .ok (.aload_n 0, 1) := by decide +kernel
theorem dX12_test_222 : decode cX12_test 222 = .ok (.iconst 4, 1) := by decide +kernel
theorem dX12_test_223 : decode cX12_test 223 = .ok (.invokevirtual 431, 3) := by decide +kernel
theorem dX12_test_166 : decode cX12_test 166 = .ok (.istore_n 1, 1) := by decide +kernel
theorem dX12_test_167 : decode cX12_test 167 = .ok (.iload_n 1, 1) := by decide +kernel
theorem dX12_test_168 : decode cX12_test 168 = .ok (.iconst (-1), 1) := by decide +kernel
theorem dX12_test_169 : decode cX12_test 169 = .ok (.if_icmp .ne 13, 3) := by decide +kernel
theorem dX12_test_182 : decode cX12_test 182 = .ok (.aload_n 0, 1) := by decide +kernel
theorem dX12_test_183 : decode cX12_test 183 = .ok (.aload_n 0, 1) := by decide +kernel
theorem dX12_test_184 : decode cX12_test 184 = .ok (.getfield 361, 3) := by decide +kernel
theorem dX12_test_187 : decode cX12_test 187 = .ok (.iconst 1, 1) := by decide +kernel
theorem dX12_test_188 : decode cX12_test 188 = .ok (.iadd, 1) := by decide +kernel
theorem dX12_test_189 : decode cX12_test 189 = .ok (.putfield 361, 3) := by decide +kernel
theorem dX12_test_192 : decode cX12_test 192 = .ok (.aload_n 0, 1) := by decide +kernel
theorem dX12_test_193 : decode cX12_test 193 = .ok (.getfield 361, 3) := by decide +kernel
theorem dX12_test_196 : decode cX12_test 196 = .ok (.bipush 8, 2) := by decide +kernel
theorem dX12_test_198 : decode cX12_test 198 = .ok (.if_icmp .le 11, 3) := by decide +kernel
theorem dX12_test_201 : decode cX12_test 201 = .ok (.aload_n 0, 1) := by decide +kernel
theorem dX12_test_202 : decode cX12_test 202 = .ok (.aload_n 0, 1) := by decide +kernel
theorem dX12_test_203 : decode cX12_test 203 = .ok (.getfield 199, 3) := by decide +kernel
theorem dX12_test_206 : decode cX12_test 206 = .ok (.invokevirtual 208, 3) := by decide +kernel
theorem dX12_test_172 : decode cX12_test 172 = .ok (.aload_n 0, 1) := by decide +kernel
theorem dX12_test_173 : decode cX12_test 173 = .ok (.aload_n 0, 1) := by decide +kernel
theorem dX12_test_174 : decode cX12_test 174 = .ok (.getfield 199, 3) := by decide +kernel
theorem dX12_test_177 : decode cX12_test 177 = .ok (.invokevirtual 208, 3) := by decide +kernel
theorem dX12_test_180 : decode cX12_test 180 = .ok (.iconst 0, 1) := by decide +kernel
theorem dX12_test_181 : decode cX12_test 181 = .ok (.ireturn, 1) := by decide +kernel
theorem dX12_test_0 : decode cX12_test 0 = .ok (.aload_n 0, 1) := by decide +kernel
theorem dX12_test_1 : decode cX12_test 1 = .ok (.ldc_w 480, 3) := by decide +kernel
theorem kX12_isWord : h_ml mX12_isWord 1 := ⟨h_t8 135 rfl rfl, h_t1 16 rfl rfl, ⟨by decide, by decide, by decide +kernel⟩, by decide⟩
theorem lX12_366 : Cond.methodLink RX12 366 mX12_isWord.1 ∈ lw_g := h_t8 132 rfl rfl
theorem sX12_isWord : Cond.instanceMethod mX12_isWord.1 ∈ lw_g ∧ Cond.selects mX12_isWord.1.cls mX12_isWord.1 mX12_isWord.1 ∈ lw_g := ⟨h_t8 134 rfl rfl, h_ins 132 rfl⟩
theorem dX12_test_4 : decode cX12_test 4 = .ok (.invokevirtual 366, 3) := by decide +kernel
theorem dX12_test_7 : decode cX12_test 7 = .ok (.ifCond .eq 8, 3) := by decide +kernel
theorem dX12_test_15 : decode cX12_test 15 = .ok (.aload_n 0, 1) := by decide +kernel
theorem dX12_test_16 : decode cX12_test 16 = .ok (.ldc_w 482, 3) := by decide +kernel
theorem dX12_test_19 : decode cX12_test 19 = .ok (.invokevirtual 366, 3) := by decide +kernel
theorem dX12_test_22 : decode cX12_test 22 = .ok (.ifCond .eq 8, 3) := by decide +kernel
theorem dX12_test_30 : decode cX12_test 30 = .ok (.aload_n 0, 1) := by decide +kernel
theorem dX12_test_31 : decode cX12_test 31 = .ok (.ldc_w 388, 3) := by decide +kernel
theorem dX12_test_34 : decode cX12_test 34 = .ok (.invokevirtual 366, 3) := by decide +kernel
theorem dX12_test_37 : decode cX12_test 37 = .ok (.ifCond .eq 8, 3) := by decide +kernel
theorem dX12_test_45 : decode cX12_test 45 = .ok (.aload_n 0, 1) := by decide +kernel
theorem dX12_test_46 : decode cX12_test 46 = .ok (.ldc_w 484, 3) := by decide +kernel
theorem dX12_test_49 : decode cX12_test 49 = .ok (.invokevirtual 366, 3) := by decide +kernel
theorem dX12_test_52 : decode cX12_test 52 = .ok (.ifCond .eq 8, 3) := by decide +kernel
theorem dX12_test_60 : decode cX12_test 60 = .ok (.aload_n 0, 1) := by decide +kernel
theorem dX12_test_61 : decode cX12_test 61 = .ok (.ldc_w 486, 3) := by decide +kernel
theorem dX12_test_64 : decode cX12_test 64 = .ok (.invokevirtual 366, 3) := by decide +kernel
theorem dX12_test_67 : decode cX12_test 67 = .ok (.ifCond .eq 8, 3) := by decide +kernel
theorem dX12_test_75 : decode cX12_test 75 = .ok (.aload_n 0, 1) := by decide +kernel
theorem dX12_test_76 : decode cX12_test 76 = .ok (.ldc_w 488, 3) := by decide +kernel
theorem dX12_test_79 : decode cX12_test 79 = .ok (.invokevirtual 366, 3) := by decide +kernel
theorem dX12_test_82 : decode cX12_test 82 = .ok (.ifCond .eq 8, 3) := by decide +kernel
theorem dX12_test_90 : decode cX12_test 90 = .ok (.aload_n 0, 1) := by decide +kernel
theorem dX12_test_91 : decode cX12_test 91 = .ok (.ldc_w 490, 3) := by decide +kernel
theorem dX12_test_94 : decode cX12_test 94 = .ok (.invokevirtual 366, 3) := by decide +kernel
theorem dX12_test_97 : decode cX12_test 97 = .ok (.ifCond .eq 8, 3) := by decide +kernel
theorem dX12_test_105 : decode cX12_test 105 = .ok (.aload_n 0, 1) := by decide +kernel
theorem dX12_test_106 : decode cX12_test 106 = .ok (.ldc_w 492, 3) := by decide +kernel
theorem dX12_test_109 : decode cX12_test 109 = .ok (.invokevirtual 366, 3) := by decide +kernel
theorem dX12_test_112 : decode cX12_test 112 = .ok (.ifCond .eq 8, 3) := by decide +kernel
theorem dX12_test_120 : decode cX12_test 120 = .ok (.aload_n 0, 1) := by decide +kernel
theorem dX12_test_121 : decode cX12_test 121 = .ok (.ldc_w 494, 3) := by decide +kernel
theorem dX12_test_124 : decode cX12_test 124 = .ok (.invokevirtual 366, 3) := by decide +kernel
theorem dX12_test_127 : decode cX12_test 127 = .ok (.ifCond .eq 8, 3) := by decide +kernel
theorem dX12_test_135 : decode cX12_test 135 = .ok (.aload_n 0, 1) := by decide +kernel
theorem dX12_test_136 : decode cX12_test 136 = .ok (.ldc_w 496, 3) := by decide +kernel
theorem dX12_test_139 : decode cX12_test 139 = .ok (.invokevirtual 366, 3) := by decide +kernel
theorem dX12_test_142 : decode cX12_test 142 = .ok (.ifCond .eq 8, 3) := by decide +kernel
theorem dX12_test_150 : decode cX12_test 150 = .ok (.aload_n 0, 1) := by decide +kernel
theorem dX12_test_151 : decode cX12_test 151 = .ok (.ldc_w 498, 3) := by decide +kernel
theorem dX12_test_154 : decode cX12_test 154 = .ok (.invokevirtual 366, 3) := by decide +kernel
theorem dX12_test_157 : decode cX12_test 157 = .ok (.ifCond .eq 8, 3) := by decide +kernel
theorem dX12_test_165 : decode cX12_test 165 = .ok (.iconst (-1), 1) := by decide +kernel
theorem dX12_test_160 : decode cX12_test 160 = .ok (.bipush 30, 2) := by decide +kernel
theorem dX12_test_162 : decode cX12_test 162 = .ok (.goto 4, 3) := by decide +kernel
theorem dX12_test_145 : decode cX12_test 145 = .ok (.bipush 29, 2) := by decide +kernel
theorem dX12_test_147 : decode cX12_test 147 = .ok (.goto 19, 3) := by decide +kernel
theorem dX12_test_130 : decode cX12_test 130 = .ok (.bipush 28, 2) := by decide +kernel
theorem dX12_test_132 : decode cX12_test 132 = .ok (.goto 34, 3) := by decide +kernel
theorem dX12_test_115 : decode cX12_test 115 = .ok (.bipush 27, 2) := by decide +kernel
theorem dX12_test_117 : decode cX12_test 117 = .ok (.goto 49, 3) := by decide +kernel
theorem dX12_test_100 : decode cX12_test 100 = .ok (.bipush 26, 2) := by decide +kernel
theorem dX12_test_102 : decode cX12_test 102 = .ok (.goto 64, 3) := by decide +kernel
theorem dX12_test_85 : decode cX12_test 85 = .ok (.bipush 25, 2) := by decide +kernel
theorem dX12_test_87 : decode cX12_test 87 = .ok (.goto 79, 3) := by decide +kernel
theorem dX12_test_70 : decode cX12_test 70 = .ok (.bipush 24, 2) := by decide +kernel
theorem dX12_test_72 : decode cX12_test 72 = .ok (.goto 94, 3) := by decide +kernel
theorem dX12_test_55 : decode cX12_test 55 = .ok (.bipush 23, 2) := by decide +kernel
theorem dX12_test_57 : decode cX12_test 57 = .ok (.goto 109, 3) := by decide +kernel
theorem dX12_test_40 : decode cX12_test 40 = .ok (.bipush 22, 2) := by decide +kernel
theorem dX12_test_42 : decode cX12_test 42 = .ok (.goto 124, 3) := by decide +kernel
theorem dX12_test_25 : decode cX12_test 25 = .ok (.bipush 21, 2) := by decide +kernel
theorem dX12_test_27 : decode cX12_test 27 = .ok (.goto 139, 3) := by decide +kernel
theorem dX12_test_10 : decode cX12_test 10 = .ok (.bipush 20, 2) := by decide +kernel
theorem dX12_test_12 : decode cX12_test 12 = .ok (.goto 154, 3) := by decide +kernel
theorem dX12_several_46 : decode cX12_several 46 = .ok (.aload_n 0, 1) := by decide +kernel
theorem dX12_several_47 : decode cX12_several 47 = .ok (.bipush 41, 2) := by decide +kernel
theorem dX12_several_49 : decode cX12_several 49 = .ok (.invokevirtual 355, 3) := by decide +kernel
theorem dX12_several_52 : decode cX12_several 52 = .ok (.return_, 1) := by decide +kernel
theorem dX12_several_8 : decode cX12_several 8 = .ok (.iload_n 2, 1) := by decide +kernel
theorem dX12_several_9 : decode cX12_several 9 = .ok (.ifCond .eq 37, 3) := by decide +kernel
theorem dX12_several_12 : decode cX12_several 12 = .ok (.aload_n 0, 1) := by decide +kernel
theorem dX12_several_13 : decode cX12_several 13 = .ok (.getfield 193, 3) := by decide +kernel
theorem dX12_several_16 : decode cX12_several 16 = .ok (.ifCond .ge 30, 3) := by decide +kernel
theorem dX12_several_19 : decode cX12_several 19 = .ok (.aload_n 0, 1) := by decide +kernel
theorem dX12_several_20 : decode cX12_several 20 = .ok (.iload_n 1, 1) := by decide +kernel
theorem dX12_several_21 : decode cX12_several 21 = .ok (.aload_n 0, 1) := by decide +kernel
theorem dX12_several_22 : decode cX12_several 22 = .ok (.invokevirtual 448, 3) := by decide +kernel
theorem dX12_several_25 : decode cX12_several 25 = .ok (.invokevirtual 403, 3) := by decide +kernel
theorem dX12_several_28 : decode cX12_several 28 = .ok (.aload_n 0, 1) := by decide +kernel
theorem dX12_several_29 : decode cX12_several 29 = .ok (.bipush 44, 2) := by decide +kernel
theorem dX12_several_31 : decode cX12_several 31 = .ok (.invokevirtual 276, 3) := by decide +kernel
theorem dX12_several_34 : decode cX12_several 34 = .ok (.istore_n 2, 1) := by decide +kernel
theorem dX12_several_35 : decode cX12_several 35 = .ok (.iload_n 2, 1) := by decide +kernel
theorem dX12_several_36 : decode cX12_several 36 = .ok (.ifCond .eq (-28), 3) := by decide +kernel
theorem dX12_several_39 : decode cX12_several 39 = .ok (.aload_n 0, 1) := by decide +kernel
theorem dX12_several_40 : decode cX12_several 40 = .ok (.invokevirtual 279, 3) := by decide +kernel
theorem dX12_several_43 : decode cX12_several 43 = .ok (.goto (-35), 3) := by decide +kernel
theorem dX12_several_0 : decode cX12_several 0 = .ok (.aload_n 0, 1) := by decide +kernel
theorem dX12_several_1 : decode cX12_several 1 = .ok (.bipush 40, 2) := by decide +kernel
theorem dX12_several_3 : decode cX12_several 3 = .ok (.invokevirtual 355, 3) := by decide +kernel
theorem dX12_several_6 : decode cX12_several 6 = .ok (.iconst 1, 1) := by decide +kernel
theorem dX12_several_7 : decode cX12_several 7 = .ok (.istore_n 2, 1) := by decide +kernel
abbrev mX12_command : hM := (yX12_command, cX12_command, 2, (some (.int)))
abbrev mX12_commands : hM := (yX12_commands, cX12_commands, 2, none)
theorem dX12_commands_0 : decode cX12_commands 0 = .ok (.aload_n 0, 1) := by decide +kernel
theorem dX12_commands_1 : decode cX12_commands 1 = .ok (.iconst 1, 1) := by decide +kernel
theorem dX12_commands_2 : decode cX12_commands 2 = .ok (.invokevirtual 273, 3) := by decide +kernel
theorem dX12_commands_5 : decode cX12_commands 5 = .ok (.ifCond .eq 15, 3) := by decide +kernel
theorem dX12_commands_20 : decode cX12_commands 20 = .ok (.return_, 1) := by decide +kernel
theorem dX12_commands_8 : decode cX12_commands 8 = .ok (.aload_n 0, 1) := by decide +kernel
theorem dX12_commands_9 : decode cX12_commands 9 = .ok (.iload_n 1, 1) := by decide +kernel
theorem dX12_commands_10 : decode cX12_commands 10 = .ok (.aload_n 0, 1) := by decide +kernel
theorem kX12_command : h_ml mX12_command 0 := ⟨h_t8 183 rfl rfl, h_t1 16 rfl rfl, ⟨by decide, by decide, by decide +kernel⟩, by decide⟩
theorem lX12_400 : Cond.methodLink RX12 400 mX12_command.1 ∈ lw_g := h_t8 180 rfl rfl
theorem sX12_command : Cond.instanceMethod mX12_command.1 ∈ lw_g ∧ Cond.selects mX12_command.1.cls mX12_command.1 mX12_command.1 ∈ lw_g := ⟨h_t8 182 rfl rfl, h_ins 142 rfl⟩
theorem dX12_commands_11 : decode cX12_commands 11 = .ok (.invokevirtual 400, 3) := by decide +kernel
theorem dX12_commands_14 : decode cX12_commands 14 = .ok (.invokevirtual 403, 3) := by decide +kernel
theorem dX12_commands_17 : decode cX12_commands 17 = .ok (.goto (-17), 3) := by decide +kernel
abbrev mX12_block : hM := (yX12_block, cX12_block, 2, (some (.int)))
theorem dX12_block_42 : decode cX12_block 42 = .ok (.aload_n 0, 1) := by decide +kernel
theorem dX12_block_43 : decode cX12_block 43 = .ok (.bipush 123, 2) := by decide +kernel
theorem dX12_block_45 : decode cX12_block 45 = .ok (.invokevirtual 355, 3) := by decide +kernel
theorem dX12_block_48 : decode cX12_block 48 = .ok (.aload_n 0, 1) := by decide +kernel
theorem dX12_block_49 : decode cX12_block 49 = .ok (.iload_n 1, 1) := by decide +kernel
theorem kX12_commands : h_ml mX12_commands 1 := ⟨h_t8 179 rfl rfl, h_t1 16 rfl rfl, ⟨by decide, by decide, by decide +kernel⟩, by decide⟩
theorem lX12_375 : Cond.methodLink RX12 375 mX12_commands.1 ∈ lw_g := h_t8 176 rfl rfl
theorem sX12_commands : Cond.instanceMethod mX12_commands.1 ∈ lw_g ∧ Cond.selects mX12_commands.1.cls mX12_commands.1 mX12_commands.1 ∈ lw_g := ⟨h_t8 178 rfl rfl, h_ins 141 rfl⟩
theorem dX12_block_50 : decode cX12_block 50 = .ok (.invokevirtual 375, 3) := by decide +kernel
theorem dX12_block_53 : decode cX12_block 53 = .ok (.aload_n 0, 1) := by decide +kernel
theorem dX12_block_54 : decode cX12_block 54 = .ok (.bipush 125, 2) := by decide +kernel
theorem dX12_block_56 : decode cX12_block 56 = .ok (.invokevirtual 355, 3) := by decide +kernel
theorem dX12_block_59 : decode cX12_block 59 = .ok (.aload_n 0, 1) := by decide +kernel
theorem dX12_block_60 : decode cX12_block 60 = .ok (.aload_n 0, 1) := by decide +kernel
theorem fX12_358 : h_fl RX12 358 12 65 RX12 TX12 153 := ⟨rfl, by decide, inX12, h_t12 26 rfl rfl⟩
theorem dX12_block_61 : decode cX12_block 61 = .ok (.getfield 358, 3) := by decide +kernel
theorem dX12_block_64 : decode cX12_block 64 = .ok (.iconst 1, 1) := by decide +kernel
theorem dX12_block_65 : decode cX12_block 65 = .ok (.isub, 1) := by decide +kernel
theorem dX12_block_66 : decode cX12_block 66 = .ok (.putfield 358, 3) := by decide +kernel
theorem dX12_block_69 : decode cX12_block 69 = .ok (.iload_n 1, 1) := by decide +kernel
theorem dX12_block_70 : decode cX12_block 70 = .ok (.ireturn, 1) := by decide +kernel
theorem dX12_block_0 : decode cX12_block 0 = .ok (.aload_n 0, 1) := by decide +kernel
theorem dX12_block_1 : decode cX12_block 1 = .ok (.iconst 1, 1) := by decide +kernel
theorem dX12_block_2 : decode cX12_block 2 = .ok (.invokevirtual 334, 3) := by decide +kernel
theorem dX12_block_5 : decode cX12_block 5 = .ok (.istore_n 1, 1) := by decide +kernel
theorem dX12_block_6 : decode cX12_block 6 = .ok (.aload_n 0, 1) := by decide +kernel
theorem dX12_block_7 : decode cX12_block 7 = .ok (.aload_n 0, 1) := by decide +kernel
theorem dX12_block_8 : decode cX12_block 8 = .ok (.getfield 358, 3) := by decide +kernel
theorem dX12_block_11 : decode cX12_block 11 = .ok (.iconst 1, 1) := by decide +kernel
theorem dX12_block_12 : decode cX12_block 12 = .ok (.iadd, 1) := by decide +kernel
theorem dX12_block_13 : decode cX12_block 13 = .ok (.putfield 358, 3) := by decide +kernel
theorem dX12_block_16 : decode cX12_block 16 = .ok (.aload_n 0, 1) := by decide +kernel
theorem dX12_block_17 : decode cX12_block 17 = .ok (.bipush 123, 2) := by decide +kernel
theorem dX12_block_19 : decode cX12_block 19 = .ok (.invokevirtual 276, 3) := by decide +kernel
theorem dX12_block_22 : decode cX12_block 22 = .ok (.ifCond .eq 20, 3) := by decide +kernel
theorem dX12_block_25 : decode cX12_block 25 = .ok (.aload_n 0, 1) := by decide +kernel
theorem dX12_block_26 : decode cX12_block 26 = .ok (.getfield 358, 3) := by decide +kernel
theorem dX12_block_29 : decode cX12_block 29 = .ok (.bipush 8, 2) := by decide +kernel
theorem dX12_block_31 : decode cX12_block 31 = .ok (.if_icmp .le 11, 3) := by decide +kernel
theorem dX12_block_34 : decode cX12_block 34 = .ok (.aload_n 0, 1) := by decide +kernel
theorem dX12_block_35 : decode cX12_block 35 = .ok (.aload_n 0, 1) := by decide +kernel
theorem dX12_block_36 : decode cX12_block 36 = .ok (.getfield 199, 3) := by decide +kernel
theorem dX12_block_39 : decode cX12_block 39 = .ok (.invokevirtual 208, 3) := by decide +kernel
abbrev mX12_choice : hM := (yX12_choice, cX12_choice, 6, (some (.int)))
theorem dX12_command_389 : decode cX12_command 389 = .ok (.aload_n 0, 1) := by decide +kernel
theorem dX12_command_390 : decode cX12_command 390 = .ok (.bipush 59, 2) := by decide +kernel
theorem dX12_command_392 : decode cX12_command 392 = .ok (.invokevirtual 355, 3) := by decide +kernel
theorem dX12_command_395 : decode cX12_command 395 = .ok (.iload_n 1, 1) := by decide +kernel
theorem dX12_command_396 : decode cX12_command 396 = .ok (.ireturn, 1) := by decide +kernel
theorem dX12_command_378 : decode cX12_command 378 = .ok (.putfield 193, 3) := by decide +kernel
theorem dX12_command_381 : decode cX12_command 381 = .ok (.aload_n 0, 1) := by decide +kernel
theorem dX12_command_382 : decode cX12_command 382 = .ok (.aload_n 0, 1) := by decide +kernel
theorem dX12_command_383 : decode cX12_command 383 = .ok (.getfield 199, 3) := by decide +kernel
theorem dX12_command_386 : decode cX12_command 386 = .ok (.invokevirtual 208, 3) := by decide +kernel
theorem dX12_command_163 : decode cX12_command 163 = .ok (.invokevirtual 425, 3) := by decide +kernel
theorem dX12_command_166 : decode cX12_command 166 = .ok (.istore_n 1, 1) := by decide +kernel
theorem dX12_command_167 : decode cX12_command 167 = .ok (.aload_n 0, 1) := by decide +kernel
theorem dX12_command_168 : decode cX12_command 168 = .ok (.getfield 285, 3) := by decide +kernel
theorem dX12_command_171 : decode cX12_command 171 = .ok (.iload_n 1, 1) := by decide +kernel
theorem dX12_command_172 : decode cX12_command 172 = .ok (.iaload, 1) := by decide +kernel
theorem dX12_command_173 : decode cX12_command 173 = .ok (.tableswitch 186 2 11 #[55, 55, 62, 74, 96, 113, 135, 135, 135, 168], 55) := by decide +kernel
theorem dX12_command_228 : decode cX12_command 228 = .ok (.aload_n 0, 1) := by decide +kernel
theorem dX12_command_229 : decode cX12_command 229 = .ok (.invokevirtual 279, 3) := by decide +kernel
theorem dX12_command_232 : decode cX12_command 232 = .ok (.goto 157, 3) := by decide +kernel
theorem dX12_command_235 : decode cX12_command 235 = .ok (.aload_n 0, 1) := by decide +kernel
theorem dX12_command_236 : decode cX12_command 236 = .ok (.invokevirtual 279, 3) := by decide +kernel
theorem dX12_command_239 : decode cX12_command 239 = .ok (.aload_n 0, 1) := by decide +kernel
theorem dX12_command_240 : decode cX12_command 240 = .ok (.iload_n 1, 1) := by decide +kernel
theorem kX12_tags : h_ml mX12_tags 1 := ⟨h_t9 39 rfl rfl, h_t1 16 rfl rfl, ⟨by decide, by decide, by decide +kernel⟩, by decide⟩
theorem lX12_428 : Cond.methodLink RX12 428 mX12_tags.1 ∈ lw_g := h_t9 36 rfl rfl
theorem sX12_tags : Cond.instanceMethod mX12_tags.1 ∈ lw_g ∧ Cond.selects mX12_tags.1.cls mX12_tags.1 mX12_tags.1 ∈ lw_g := ⟨h_t9 38 rfl rfl, h_ins 156 rfl⟩
theorem dX12_command_241 : decode cX12_command 241 = .ok (.invokevirtual 428, 3) := by decide +kernel
theorem dX12_command_244 : decode cX12_command 244 = .ok (.goto 145, 3) := by decide +kernel
theorem dX12_command_247 : decode cX12_command 247 = .ok (.aload_n 0, 1) := by decide +kernel
theorem dX12_command_248 : decode cX12_command 248 = .ok (.iconst 1, 1) := by decide +kernel
theorem dX12_command_249 : decode cX12_command 249 = .ok (.invokevirtual 431, 3) := by decide +kernel
theorem dX12_command_252 : decode cX12_command 252 = .ok (.aload_n 0, 1) := by decide +kernel
theorem dX12_command_253 : decode cX12_command 253 = .ok (.invokevirtual 279, 3) := by decide +kernel
theorem dX12_command_256 : decode cX12_command 256 = .ok (.aload_n 0, 1) := by decide +kernel
theorem dX12_command_257 : decode cX12_command 257 = .ok (.iload_n 1, 1) := by decide +kernel
theorem dX12_command_258 : decode cX12_command 258 = .ok (.invokevirtual 428, 3) := by decide +kernel
theorem dX12_command_261 : decode cX12_command 261 = .ok (.aload_n 0, 1) := by decide +kernel
theorem dX12_command_262 : decode cX12_command 262 = .ok (.iload_n 1, 1) := by decide +kernel
theorem kX12_file : h_ml mX12_file 1 := ⟨h_t9 44 rfl rfl, h_t1 16 rfl rfl, ⟨by decide, by decide, by decide +kernel⟩, by decide⟩
theorem lX12_434 : Cond.methodLink RX12 434 mX12_file.1 ∈ lw_g := h_t9 41 rfl rfl
theorem sX12_file : Cond.instanceMethod mX12_file.1 ∈ lw_g ∧ Cond.selects mX12_file.1.cls mX12_file.1 mX12_file.1 ∈ lw_g := ⟨h_t9 43 rfl rfl, h_ins 157 rfl⟩
theorem dX12_command_263 : decode cX12_command 263 = .ok (.invokevirtual 434, 3) := by decide +kernel
theorem dX12_command_266 : decode cX12_command 266 = .ok (.goto 123, 3) := by decide +kernel
theorem dX12_command_269 : decode cX12_command 269 = .ok (.aload_n 0, 1) := by decide +kernel
theorem dX12_command_270 : decode cX12_command 270 = .ok (.invokevirtual 279, 3) := by decide +kernel
theorem dX12_command_273 : decode cX12_command 273 = .ok (.aload_n 0, 1) := by decide +kernel
theorem dX12_command_274 : decode cX12_command 274 = .ok (.iload_n 1, 1) := by decide +kernel
theorem dX12_command_275 : decode cX12_command 275 = .ok (.invokevirtual 428, 3) := by decide +kernel
theorem dX12_command_278 : decode cX12_command 278 = .ok (.aload_n 0, 1) := by decide +kernel
theorem dX12_command_279 : decode cX12_command 279 = .ok (.iload_n 1, 1) := by decide +kernel
theorem kX12_redirect : h_ml mX12_redirect 1 := ⟨h_t9 48 rfl rfl, h_t1 16 rfl rfl, ⟨by decide, by decide, by decide +kernel⟩, by decide⟩
theorem lX12_437 : Cond.methodLink RX12 437 mX12_redirect.1 ∈ lw_g := h_t9 45 rfl rfl
theorem sX12_redirect : Cond.instanceMethod mX12_redirect.1 ∈ lw_g ∧ Cond.selects mX12_redirect.1.cls mX12_redirect.1 mX12_redirect.1 ∈ lw_g := ⟨h_t9 47 rfl rfl, h_ins 158 rfl⟩
theorem dX12_command_280 : decode cX12_command 280 = .ok (.invokevirtual 437, 3) := by decide +kernel
theorem dX12_command_283 : decode cX12_command 283 = .ok (.goto 106, 3) := by decide +kernel
theorem dX12_command_286 : decode cX12_command 286 = .ok (.aload_n 0, 1) := by decide +kernel
theorem dX12_command_287 : decode cX12_command 287 = .ok (.iconst 2, 1) := by decide +kernel
theorem dX12_command_288 : decode cX12_command 288 = .ok (.invokevirtual 431, 3) := by decide +kernel
theorem dX12_command_291 : decode cX12_command 291 = .ok (.aload_n 0, 1) := by decide +kernel
theorem dX12_command_292 : decode cX12_command 292 = .ok (.invokevirtual 279, 3) := by decide +kernel
theorem dX12_command_295 : decode cX12_command 295 = .ok (.aload_n 0, 1) := by decide +kernel
theorem dX12_command_296 : decode cX12_command 296 = .ok (.getfield 439, 3) := by decide +kernel
theorem dX12_command_299 : decode cX12_command 299 = .ok (.iload_n 1, 1) := by decide +kernel
theorem dX12_command_300 : decode cX12_command 300 = .ok (.aload_n 0, 1) := by decide +kernel
theorem dX12_command_301 : decode cX12_command 301 = .ok (.invokevirtual 352, 3) := by decide +kernel
theorem dX12_command_304 : decode cX12_command 304 = .ok (.iastore, 1) := by decide +kernel
theorem dX12_command_305 : decode cX12_command 305 = .ok (.goto 84, 3) := by decide +kernel
theorem dX12_command_308 : decode cX12_command 308 = .ok (.aload_n 0, 1) := by decide +kernel
theorem dX12_command_309 : decode cX12_command 309 = .ok (.bipush 16, 2) := by decide +kernel
theorem dX12_command_311 : decode cX12_command 311 = .ok (.invokevirtual 431, 3) := by decide +kernel
theorem dX12_command_314 : decode cX12_command 314 = .ok (.aload_n 0, 1) := by decide +kernel
theorem dX12_command_315 : decode cX12_command 315 = .ok (.invokevirtual 279, 3) := by decide +kernel
theorem dX12_command_318 : decode cX12_command 318 = .ok (.aload_n 0, 1) := by decide +kernel
theorem dX12_command_319 : decode cX12_command 319 = .ok (.getfield 439, 3) := by decide +kernel
theorem dX12_command_322 : decode cX12_command 322 = .ok (.iload_n 1, 1) := by decide +kernel
theorem dX12_command_323 : decode cX12_command 323 = .ok (.aload_n 0, 1) := by decide +kernel
theorem dX12_command_324 : decode cX12_command 324 = .ok (.getfield 340, 3) := by decide +kernel
theorem dX12_command_327 : decode cX12_command 327 = .ok (.iastore, 1) := by decide +kernel
theorem dX12_command_328 : decode cX12_command 328 = .ok (.aload_n 0, 1) := by decide +kernel
theorem dX12_command_329 : decode cX12_command 329 = .ok (.getfield 297, 3) := by decide +kernel
theorem dX12_command_332 : decode cX12_command 332 = .ok (.iload_n 1, 1) := by decide +kernel
theorem dX12_command_333 : decode cX12_command 333 = .ok (.aload_n 0, 1) := by decide +kernel
theorem dX12_command_334 : decode cX12_command 334 = .ok (.invokevirtual 442, 3) := by decide +kernel
theorem dX12_command_337 : decode cX12_command 337 = .ok (.iastore, 1) := by decide +kernel
theorem dX12_command_338 : decode cX12_command 338 = .ok (.goto 51, 3) := by decide +kernel
theorem dX12_command_341 : decode cX12_command 341 = .ok (.aload_n 0, 1) := by decide +kernel
theorem dX12_command_342 : decode cX12_command 342 = .ok (.bipush 64, 2) := by decide +kernel
theorem dX12_command_344 : decode cX12_command 344 = .ok (.invokevirtual 431, 3) := by decide +kernel
theorem dX12_command_347 : decode cX12_command 347 = .ok (.aload_n 0, 1) := by decide +kernel
theorem dX12_command_348 : decode cX12_command 348 = .ok (.invokevirtual 279, 3) := by decide +kernel
theorem dX12_command_351 : decode cX12_command 351 = .ok (.aload_n 0, 1) := by decide +kernel
theorem dX12_command_352 : decode cX12_command 352 = .ok (.iload_n 1, 1) := by decide +kernel
theorem kX12_absence : h_ml mX12_absence 1 := ⟨h_t9 70 rfl rfl, h_t1 16 rfl rfl, ⟨by decide, by decide, by decide +kernel⟩, by decide⟩
theorem lX12_445 : Cond.methodLink RX12 445 mX12_absence.1 ∈ lw_g := h_t9 67 rfl rfl
theorem sX12_absence : Cond.instanceMethod mX12_absence.1 ∈ lw_g ∧ Cond.selects mX12_absence.1.cls mX12_absence.1 mX12_absence.1 ∈ lw_g := ⟨h_t9 69 rfl rfl, h_ins 162 rfl⟩
theorem dX12_command_353 : decode cX12_command 353 = .ok (.invokevirtual 445, 3) := by decide +kernel
theorem dX12_command_356 : decode cX12_command 356 = .ok (.goto 33, 3) := by decide +kernel
theorem dX12_command_359 : decode cX12_command 359 = .ok (.aload_n 0, 1) := by decide +kernel
theorem dX12_command_360 : decode cX12_command 360 = .ok (.aload_n 0, 1) := by decide +kernel
theorem dX12_command_361 : decode cX12_command 361 = .ok (.getfield 193, 3) := by decide +kernel
theorem dX12_command_364 : decode cX12_command 364 = .ok (.ifCond .ge 10, 3) := by decide +kernel
theorem dX12_command_374 : decode cX12_command 374 = .ok (.aload_n 0, 1) := by decide +kernel
theorem dX12_command_375 : decode cX12_command 375 = .ok (.getfield 193, 3) := by decide +kernel
theorem dX12_command_367 : decode cX12_command 367 = .ok (.aload_n 0, 1) := by decide +kernel
theorem dX12_command_368 : decode cX12_command 368 = .ok (.getfield 199, 3) := by decide +kernel
theorem dX12_command_371 : decode cX12_command 371 = .ok (.goto 7, 3) := by decide +kernel
theorem dX12_command_0 : decode cX12_command 0 = .ok (.aload_n 0, 1) := by decide +kernel
theorem dX12_command_1 : decode cX12_command 1 = .ok (.ldc_w 406, 3) := by decide +kernel
theorem dX12_command_4 : decode cX12_command 4 = .ok (.invokevirtual 366, 3) := by decide +kernel
theorem dX12_command_7 : decode cX12_command 7 = .ok (.ifCond .eq 8, 3) := by decide +kernel
theorem dX12_command_15 : decode cX12_command 15 = .ok (.aload_n 0, 1) := by decide +kernel
theorem dX12_command_16 : decode cX12_command 16 = .ok (.aload_n 0, 1) := by decide +kernel
theorem dX12_command_17 : decode cX12_command 17 = .ok (.ldc_w 411, 3) := by decide +kernel
theorem dX12_command_20 : decode cX12_command 20 = .ok (.invokevirtual 366, 3) := by decide +kernel
theorem dX12_command_23 : decode cX12_command 23 = .ok (.ifCond .eq 7, 3) := by decide +kernel
theorem dX12_command_30 : decode cX12_command 30 = .ok (.aload_n 0, 1) := by decide +kernel
theorem dX12_command_31 : decode cX12_command 31 = .ok (.ldc_w 413, 3) := by decide +kernel
theorem dX12_command_34 : decode cX12_command 34 = .ok (.invokevirtual 366, 3) := by decide +kernel
theorem dX12_command_37 : decode cX12_command 37 = .ok (.ifCond .eq 7, 3) := by decide +kernel
theorem dX12_command_44 : decode cX12_command 44 = .ok (.aload_n 0, 1) := by decide +kernel
theorem dX12_command_45 : decode cX12_command 45 = .ok (.ldc_w 415, 3) := by decide +kernel
theorem dX12_command_48 : decode cX12_command 48 = .ok (.invokevirtual 366, 3) := by decide +kernel
theorem dX12_command_51 : decode cX12_command 51 = .ok (.ifCond .eq 7, 3) := by decide +kernel
theorem dX12_command_58 : decode cX12_command 58 = .ok (.aload_n 0, 1) := by decide +kernel
theorem dX12_command_59 : decode cX12_command 59 = .ok (.ldc_w 380, 3) := by decide +kernel
theorem dX12_command_62 : decode cX12_command 62 = .ok (.invokevirtual 366, 3) := by decide +kernel
theorem dX12_command_65 : decode cX12_command 65 = .ok (.ifCond .eq 7, 3) := by decide +kernel
theorem dX12_command_72 : decode cX12_command 72 = .ok (.aload_n 0, 1) := by decide +kernel
theorem dX12_command_73 : decode cX12_command 73 = .ok (.ldc_w 417, 3) := by decide +kernel
theorem dX12_command_76 : decode cX12_command 76 = .ok (.invokevirtual 366, 3) := by decide +kernel
theorem dX12_command_79 : decode cX12_command 79 = .ok (.ifCond .eq 8, 3) := by decide +kernel
theorem dX12_command_87 : decode cX12_command 87 = .ok (.aload_n 0, 1) := by decide +kernel
theorem dX12_command_88 : decode cX12_command 88 = .ok (.ldc_w 386, 3) := by decide +kernel
theorem dX12_command_91 : decode cX12_command 91 = .ok (.invokevirtual 366, 3) := by decide +kernel
theorem dX12_command_94 : decode cX12_command 94 = .ok (.ifCond .eq 8, 3) := by decide +kernel
theorem dX12_command_102 : decode cX12_command 102 = .ok (.aload_n 0, 1) := by decide +kernel
theorem dX12_command_103 : decode cX12_command 103 = .ok (.ldc_w 419, 3) := by decide +kernel
theorem dX12_command_106 : decode cX12_command 106 = .ok (.invokevirtual 366, 3) := by decide +kernel
theorem dX12_command_109 : decode cX12_command 109 = .ok (.ifCond .eq 8, 3) := by decide +kernel
theorem dX12_command_117 : decode cX12_command 117 = .ok (.aload_n 0, 1) := by decide +kernel
theorem dX12_command_118 : decode cX12_command 118 = .ok (.ldc_w 421, 3) := by decide +kernel
theorem dX12_command_121 : decode cX12_command 121 = .ok (.invokevirtual 366, 3) := by decide +kernel
theorem dX12_command_124 : decode cX12_command 124 = .ok (.ifCond .eq 8, 3) := by decide +kernel
theorem dX12_command_132 : decode cX12_command 132 = .ok (.aload_n 0, 1) := by decide +kernel
theorem dX12_command_133 : decode cX12_command 133 = .ok (.ldc_w 423, 3) := by decide +kernel
theorem dX12_command_136 : decode cX12_command 136 = .ok (.invokevirtual 366, 3) := by decide +kernel
theorem dX12_command_139 : decode cX12_command 139 = .ok (.ifCond .eq 8, 3) := by decide +kernel
theorem dX12_command_147 : decode cX12_command 147 = .ok (.aload_n 0, 1) := by decide +kernel
theorem dX12_command_148 : decode cX12_command 148 = .ok (.ldc_w 396, 3) := by decide +kernel
theorem dX12_command_151 : decode cX12_command 151 = .ok (.invokevirtual 366, 3) := by decide +kernel
theorem dX12_command_154 : decode cX12_command 154 = .ok (.ifCond .eq 8, 3) := by decide +kernel
theorem dX12_command_162 : decode cX12_command 162 = .ok (.iconst (-1), 1) := by decide +kernel
theorem dX12_command_157 : decode cX12_command 157 = .ok (.bipush 11, 2) := by decide +kernel
theorem dX12_command_159 : decode cX12_command 159 = .ok (.goto 4, 3) := by decide +kernel
theorem dX12_command_142 : decode cX12_command 142 = .ok (.bipush 10, 2) := by decide +kernel
theorem dX12_command_144 : decode cX12_command 144 = .ok (.goto 19, 3) := by decide +kernel
theorem dX12_command_127 : decode cX12_command 127 = .ok (.bipush 9, 2) := by decide +kernel
theorem dX12_command_129 : decode cX12_command 129 = .ok (.goto 34, 3) := by decide +kernel
theorem dX12_command_112 : decode cX12_command 112 = .ok (.bipush 8, 2) := by decide +kernel
theorem dX12_command_114 : decode cX12_command 114 = .ok (.goto 49, 3) := by decide +kernel
theorem dX12_command_97 : decode cX12_command 97 = .ok (.bipush 7, 2) := by decide +kernel
theorem dX12_command_99 : decode cX12_command 99 = .ok (.goto 64, 3) := by decide +kernel
theorem dX12_command_82 : decode cX12_command 82 = .ok (.bipush 6, 2) := by decide +kernel
theorem dX12_command_84 : decode cX12_command 84 = .ok (.goto 79, 3) := by decide +kernel
theorem dX12_command_68 : decode cX12_command 68 = .ok (.iconst 5, 1) := by decide +kernel
theorem dX12_command_69 : decode cX12_command 69 = .ok (.goto 94, 3) := by decide +kernel
theorem dX12_command_54 : decode cX12_command 54 = .ok (.iconst 4, 1) := by decide +kernel
theorem dX12_command_55 : decode cX12_command 55 = .ok (.goto 108, 3) := by decide +kernel
theorem dX12_command_40 : decode cX12_command 40 = .ok (.iconst 3, 1) := by decide +kernel
theorem dX12_command_41 : decode cX12_command 41 = .ok (.goto 122, 3) := by decide +kernel
theorem dX12_command_26 : decode cX12_command 26 = .ok (.iconst 2, 1) := by decide +kernel
theorem dX12_command_27 : decode cX12_command 27 = .ok (.goto 136, 3) := by decide +kernel
theorem dX12_command_10 : decode cX12_command 10 = .ok (.aload_n 0, 1) := by decide +kernel
theorem kX12_choice : h_ml mX12_choice 0 := ⟨h_t8 188 rfl rfl, h_t1 16 rfl rfl, ⟨by decide, by decide, by decide +kernel⟩, by decide⟩
theorem lX12_408 : Cond.methodLink RX12 408 mX12_choice.1 ∈ lw_g := h_t8 185 rfl rfl
theorem sX12_choice : Cond.instanceMethod mX12_choice.1 ∈ lw_g ∧ Cond.selects mX12_choice.1.cls mX12_choice.1 mX12_choice.1 ∈ lw_g := ⟨h_t8 187 rfl rfl, h_ins 143 rfl⟩
theorem dX12_command_11 : decode cX12_command 11 = .ok (.invokevirtual 408, 3) := by decide +kernel
theorem dX12_command_14 : decode cX12_command 14 = .ok (.ireturn, 1) := by decide +kernel
theorem dX12_choice_76 : decode cX12_choice 76 = .ok (.aload_n 0, 1) := by decide +kernel
theorem dX12_choice_77 : decode cX12_choice 77 = .ok (.ldc_w 459, 3) := by decide +kernel
theorem dX12_choice_80 : decode cX12_choice 80 = .ok (.invokevirtual 366, 3) := by decide +kernel
theorem dX12_choice_83 : decode cX12_choice 83 = .ok (.ifCond .eq 42, 3) := by decide +kernel
theorem dX12_choice_125 : decode cX12_choice 125 = .ok (.iload_n 1, 1) := by decide +kernel
theorem dX12_choice_126 : decode cX12_choice 126 = .ok (.ireturn, 1) := by decide +kernel
theorem dX12_choice_86 : decode cX12_choice 86 = .ok (.aload_n 0, 1) := by decide +kernel
theorem dX12_choice_87 : decode cX12_choice 87 = .ok (.invokevirtual 279, 3) := by decide +kernel
theorem dX12_choice_90 : decode cX12_choice 90 = .ok (.aload_n 0, 1) := by decide +kernel
theorem kX12_block : h_ml mX12_block 0 := ⟨h_t9 26 rfl rfl, h_t1 16 rfl rfl, ⟨by decide, by decide, by decide +kernel⟩, by decide⟩
theorem lX12_451 : Cond.methodLink RX12 451 mX12_block.1 ∈ lw_g := h_t9 23 rfl rfl
theorem sX12_block : Cond.instanceMethod mX12_block.1 ∈ lw_g ∧ Cond.selects mX12_block.1.cls mX12_block.1 mX12_block.1 ∈ lw_g := ⟨h_t9 25 rfl rfl, h_ins 155 rfl⟩
theorem dX12_choice_91 : decode cX12_choice 91 = .ok (.invokevirtual 451, 3) := by decide +kernel
theorem dX12_choice_94 : decode cX12_choice 94 = .ok (.istore_n 3, 1) := by decide +kernel
theorem dX12_choice_95 : decode cX12_choice 95 = .ok (.aload_n 0, 1) := by decide +kernel
theorem dX12_choice_96 : decode cX12_choice 96 = .ok (.iconst 1, 1) := by decide +kernel
theorem dX12_choice_97 : decode cX12_choice 97 = .ok (.invokevirtual 334, 3) := by decide +kernel
theorem dX12_choice_100 : decode cX12_choice 100 = .ok (.istore 4, 2) := by decide +kernel
theorem dX12_choice_102 : decode cX12_choice 102 = .ok (.aload_n 0, 1) := by decide +kernel
theorem dX12_choice_103 : decode cX12_choice 103 = .ok (.getfield 439, 3) := by decide +kernel
theorem dX12_choice_106 : decode cX12_choice 106 = .ok (.iload 4, 2) := by decide +kernel
theorem dX12_choice_108 : decode cX12_choice 108 = .ok (.iconst (-1), 1) := by decide +kernel
theorem dX12_choice_109 : decode cX12_choice 109 = .ok (.iastore, 1) := by decide +kernel
theorem dX12_choice_110 : decode cX12_choice 110 = .ok (.aload_n 0, 1) := by decide +kernel
theorem dX12_choice_111 : decode cX12_choice 111 = .ok (.getfield 454, 3) := by decide +kernel
theorem dX12_choice_114 : decode cX12_choice 114 = .ok (.iload 4, 2) := by decide +kernel
theorem dX12_choice_116 : decode cX12_choice 116 = .ok (.iload_n 3, 1) := by decide +kernel
theorem dX12_choice_117 : decode cX12_choice 117 = .ok (.iastore, 1) := by decide +kernel
theorem dX12_choice_118 : decode cX12_choice 118 = .ok (.aload_n 0, 1) := by decide +kernel
theorem dX12_choice_119 : decode cX12_choice 119 = .ok (.iload_n 1, 1) := by decide +kernel
theorem dX12_choice_120 : decode cX12_choice 120 = .ok (.iload 4, 2) := by decide +kernel
theorem dX12_choice_122 : decode cX12_choice 122 = .ok (.invokevirtual 403, 3) := by decide +kernel
theorem dX12_choice_8 : decode cX12_choice 8 = .ok (.iload_n 2, 1) := by decide +kernel
theorem dX12_choice_9 : decode cX12_choice 9 = .ok (.ifCond .eq 67, 3) := by decide +kernel
theorem dX12_choice_12 : decode cX12_choice 12 = .ok (.aload_n 0, 1) := by decide +kernel
theorem dX12_choice_13 : decode cX12_choice 13 = .ok (.getfield 193, 3) := by decide +kernel
theorem dX12_choice_16 : decode cX12_choice 16 = .ok (.ifCond .ge 60, 3) := by decide +kernel
theorem dX12_choice_19 : decode cX12_choice 19 = .ok (.aload_n 0, 1) := by decide +kernel
theorem dX12_choice_20 : decode cX12_choice 20 = .ok (.invokevirtual 279, 3) := by decide +kernel
theorem dX12_choice_23 : decode cX12_choice 23 = .ok (.aload_n 0, 1) := by decide +kernel
theorem dX12_choice_24 : decode cX12_choice 24 = .ok (.invokevirtual 448, 3) := by decide +kernel
theorem dX12_choice_27 : decode cX12_choice 27 = .ok (.istore_n 3, 1) := by decide +kernel
theorem dX12_choice_28 : decode cX12_choice 28 = .ok (.aload_n 0, 1) := by decide +kernel
theorem dX12_choice_29 : decode cX12_choice 29 = .ok (.invokevirtual 451, 3) := by decide +kernel
theorem dX12_choice_32 : decode cX12_choice 32 = .ok (.istore 4, 2) := by decide +kernel
theorem dX12_choice_34 : decode cX12_choice 34 = .ok (.aload_n 0, 1) := by decide +kernel
theorem dX12_choice_35 : decode cX12_choice 35 = .ok (.iconst 1, 1) := by decide +kernel
theorem dX12_choice_36 : decode cX12_choice 36 = .ok (.invokevirtual 334, 3) := by decide +kernel
theorem dX12_choice_39 : decode cX12_choice 39 = .ok (.istore 5, 2) := by decide +kernel
theorem dX12_choice_41 : decode cX12_choice 41 = .ok (.aload_n 0, 1) := by decide +kernel
theorem dX12_choice_42 : decode cX12_choice 42 = .ok (.getfield 439, 3) := by decide +kernel
theorem dX12_choice_45 : decode cX12_choice 45 = .ok (.iload 5, 2) := by decide +kernel
theorem dX12_choice_47 : decode cX12_choice 47 = .ok (.iload_n 3, 1) := by decide +kernel
theorem dX12_choice_48 : decode cX12_choice 48 = .ok (.iastore, 1) := by decide +kernel
theorem dX12_choice_49 : decode cX12_choice 49 = .ok (.aload_n 0, 1) := by decide +kernel
theorem dX12_choice_50 : decode cX12_choice 50 = .ok (.getfield 454, 3) := by decide +kernel
theorem dX12_choice_53 : decode cX12_choice 53 = .ok (.iload 5, 2) := by decide +kernel
theorem dX12_choice_55 : decode cX12_choice 55 = .ok (.iload 4, 2) := by decide +kernel
theorem dX12_choice_57 : decode cX12_choice 57 = .ok (.iastore, 1) := by decide +kernel
theorem dX12_choice_58 : decode cX12_choice 58 = .ok (.aload_n 0, 1) := by decide +kernel
theorem dX12_choice_59 : decode cX12_choice 59 = .ok (.iload_n 1, 1) := by decide +kernel
theorem dX12_choice_60 : decode cX12_choice 60 = .ok (.iload 5, 2) := by decide +kernel
theorem dX12_choice_62 : decode cX12_choice 62 = .ok (.invokevirtual 403, 3) := by decide +kernel
theorem dX12_choice_65 : decode cX12_choice 65 = .ok (.aload_n 0, 1) := by decide +kernel
theorem dX12_choice_66 : decode cX12_choice 66 = .ok (.ldc_w 457, 3) := by decide +kernel
theorem dX12_choice_69 : decode cX12_choice 69 = .ok (.invokevirtual 366, 3) := by decide +kernel
theorem dX12_choice_72 : decode cX12_choice 72 = .ok (.istore_n 2, 1) := by decide +kernel
theorem dX12_choice_73 : decode cX12_choice 73 = .ok (.goto (-65), 3) := by decide +kernel
theorem dX12_choice_0 : decode cX12_choice 0 = .ok (.aload_n 0, 1) := by decide +kernel
theorem dX12_choice_1 : decode cX12_choice 1 = .ok (.iconst 0, 1) := by decide +kernel
theorem dX12_choice_2 : decode cX12_choice 2 = .ok (.invokevirtual 425, 3) := by decide +kernel
theorem dX12_choice_5 : decode cX12_choice 5 = .ok (.istore_n 1, 1) := by decide +kernel
theorem dX12_choice_6 : decode cX12_choice 6 = .ok (.iconst 1, 1) := by decide +kernel
theorem dX12_choice_7 : decode cX12_choice 7 = .ok (.istore_n 2, 1) := by decide +kernel
def fb_X12_test_419 (R_X12_several : Int32 → uS → Option uS) (R_X12_test : uS → Option (uS × Int32))  (x2 : Int32) (s : uS) : Option (uS × Int32) := some (wI s 1079 66 ((s.I 1079 66) - 1), x2)
set_option maxRecDepth 100000 in
set_option maxHeartbeats 4000000 in
theorem xb_X12_test_419 {l : Launch} {D : va_G} {A : Nat → ClassId} {B : Nat} {Z : State → Heap → Prop} {vF : Value} (uk : uK B Z vF) (un : uX A B Z) {n : Nat} {R_X12_several : Int32 → uS → Option uS} {R_X12_test : uS → Option (uS × Int32)}  (hR_X12_several : ∀ (x1 : Int32) (s : uS) (r : uS), R_X12_several x1 s = some r → CU l D A B Z (11 + n) mX12_several s [.ref (B + 1079), .int x1] (r, none)) (hR_X12_test : ∀  (s : uS) (r : (uS × Int32)), R_X12_test  s = some r → CU l D A B Z (11 + n) mX12_test s [.ref (B + 1079)] (r.1, some (.int r.2)))  {x2 : Int32} {s : uS} {r : (uS × Int32)}  (h : fb_X12_test_419 R_X12_several R_X12_test  x2 s = some r) : GU l D A B Z mX12_test (11 + (n + 1)) (r.1, some (.int r.2)) s 419 [(0, .ref (B + 1079)), (2, .int x2)] [] := by
  unfold fb_X12_test_419 at h
  refine uu_aload_n dX12_test_419 rfl (List.mem_of_getElem? (i := 0) rfl) ?_
  refine uu_aload_n dX12_test_420 rfl (List.mem_of_getElem? (i := 0) rfl) ?_
  refine uu_geti (ci := 12) (N := 153) fX12_361 (by decide) so_1079.is (by decide) (by decide) dX12_test_421 ?_
  refine uu_iconst (v := 1) dX12_test_424 (by decide) ?_
  refine uu_isub dX12_test_425 ?_
  refine uu_puti (ft := .int) (ci := 12) (N := 153) fX12_361 ptX12 (Or.inl rfl) (by decide) so_1079.is (by decide) (by decide) (by decide +kernel) rfl rfl dX12_test_426 ?_
  refine uu_iload_n dX12_test_429 rfl (List.mem_of_getElem? (i := 1) rfl) ?_
  have hr := Option.some.inj h
  subst hr
  exact uu_iret rfl dX12_test_430
def fb_X12_test_238 (R_X12_several : Int32 → uS → Option uS) (R_X12_test : uS → Option (uS × Int32))  (x1 : Int32) (x2 : Int32) (s : uS) : Option (uS × Int32) := (fn_X12_next s).bind fun s1 => if x1 = 20 then ((fn_X12_how x2 s1).bind fun s3 => (iput 20 s3 1102 x2 (s3.I 1079 61)).bind fun s5 => (fn_X12_list s5).bind fun r7 => (iput 20 r7.1 1103 x2 r7.2).bind fun s9 => (iput 20 s9 1104 x2 (s9.I 1079 61)).bind fun s11 => (fn_X12_list s11).bind fun r13 => (iput 20 r13.1 1105 x2 r13.2).bind fun s15 => fb_X12_test_419 R_X12_several R_X12_test x2 s15) else (if x1 = 21 then ((fn_X12_how x2 s1).bind fun s17 => (iput 20 s17 1102 x2 (s17.I 1079 61)).bind fun s19 => (fn_X12_list s19).bind fun r21 => (iput 20 r21.1 1103 x2 r21.2).bind fun s23 => (iput 20 s23 1104 x2 (s23.I 1079 61)).bind fun s25 => (fn_X12_list s25).bind fun r27 => (iput 20 r27.1 1105 x2 r27.2).bind fun s29 => fb_X12_test_419 R_X12_several R_X12_test x2 s29) else (if x1 = 22 then ((fn_X12_how x2 s1).bind fun s31 => (iput 20 s31 1102 x2 (s31.I 1079 61)).bind fun s33 => (fn_X12_list s33).bind fun r35 => (iput 20 r35.1 1103 x2 r35.2).bind fun s37 => (iput 20 s37 1104 x2 (s37.I 1079 61)).bind fun s39 => (fn_X12_list s39).bind fun r41 => (iput 20 r41.1 1105 x2 r41.2).bind fun s43 => fb_X12_test_419 R_X12_several R_X12_test x2 s43) else (if x1 = 23 then ((fn_X12_how x2 s1).bind fun s45 => (iput 20 s45 1104 x2 (s45.I 1079 61)).bind fun s47 => (fn_X12_list s47).bind fun r49 => (iput 20 r49.1 1105 x2 r49.2).bind fun s51 => fb_X12_test_419 R_X12_several R_X12_test x2 s51) else (if x1 = 24 then ((iput 20 s1 1102 x2 (s1.I 1079 61)).bind fun s53 => (fn_X12_list s53).bind fun r55 => (iput 20 r55.1 1103 x2 r55.2).bind fun s57 => fb_X12_test_419 R_X12_several R_X12_test x2 s57) else (if x1 = 25 then ((fn_X12_size x2 s1).bind fun s59 => fb_X12_test_419 R_X12_several R_X12_test x2 s59) else (if x1 = 26 then ((R_X12_several x2 s1).bind fun s61 => fb_X12_test_419 R_X12_several R_X12_test x2 s61) else (if x1 = 27 then ((R_X12_several x2 s1).bind fun s63 => fb_X12_test_419 R_X12_several R_X12_test x2 s63) else (if x1 = 28 then ((R_X12_test s1).bind fun r65 => (fn_X12_put x2 r65.2 r65.1).bind fun s67 => fb_X12_test_419 R_X12_several R_X12_test x2 s67) else (fb_X12_test_419 R_X12_several R_X12_test x2 s1)))))))))
set_option maxRecDepth 100000 in
set_option maxHeartbeats 4000000 in
theorem xb_X12_test_238 {l : Launch} {D : va_G} {A : Nat → ClassId} {B : Nat} {Z : State → Heap → Prop} {vF : Value} (uk : uK B Z vF) (un : uX A B Z) {n : Nat} {R_X12_several : Int32 → uS → Option uS} {R_X12_test : uS → Option (uS × Int32)}  (hR_X12_several : ∀ (x1 : Int32) (s : uS) (r : uS), R_X12_several x1 s = some r → CU l D A B Z (11 + n) mX12_several s [.ref (B + 1079), .int x1] (r, none)) (hR_X12_test : ∀  (s : uS) (r : (uS × Int32)), R_X12_test  s = some r → CU l D A B Z (11 + n) mX12_test s [.ref (B + 1079)] (r.1, some (.int r.2)))  {x1 : Int32} {x2 : Int32} {s : uS} {r : (uS × Int32)}  (h : fb_X12_test_238 R_X12_several R_X12_test  x1 x2 s = some r) : GU l D A B Z mX12_test (11 + (n + 1)) (r.1, some (.int r.2)) s 238 [(0, .ref (B + 1079)), (1, .int x1), (2, .int x2)] [] := by
  unfold fb_X12_test_238 at h
  refine uu_aload_n dX12_test_238 rfl (List.mem_of_getElem? (i := 0) rfl) ?_
  obtain ⟨s1, e2, h⟩ := uu_ob h
  refine uu_cv (d1 := 7) (k := 1079) (ci := 12) (T := TX12) (N := 153) (As := []) (st := []) (st' := []) (xc_X12_next uk  e2) so_1079.is (by decide) rfl kX12_next lX12_279 sX12_next (by omega) (Nat.le_of_ble_eq_true rfl) dX12_test_239 rfl ?_
  refine uu_iload_n dX12_test_242 rfl (List.mem_of_getElem? (i := 1) rfl) ?_
  by_cases c243_0 : x1 = 20
  · replace h := uu_pos c243_0 h
    refine uu_tabE (tgt := 292) (off := 49) (v := 20) dX12_test_243 c243_0 (by decide) (by decide) rfl (by decide) ?_
    refine uu_aload_n dX12_test_292 rfl (List.mem_of_getElem? (i := 0) rfl) ?_
    refine uu_iload_n dX12_test_293 rfl (List.mem_of_getElem? (i := 2) rfl) ?_
    obtain ⟨s3, e4, h⟩ := uu_ob h
    refine uu_cv (d1 := 9) (k := 1079) (ci := 12) (T := TX12) (N := 153) (As := [.int x2]) (st := []) (st' := []) (xc_X12_how uk  e4) so_1079.is (by decide) rfl kX12_how lX12_500 sX12_how (by omega) (Nat.le_of_ble_eq_true rfl) dX12_test_294 rfl ?_
    refine uu_aload_n dX12_test_297 rfl (List.mem_of_getElem? (i := 0) rfl) ?_
    refine uu_geta (ci := 12) (N := 153) fX12_439 (by decide) so_1079.is (by decide) (c := 1102) (by decide) dX12_test_298 ?_
    refine uu_iload_n dX12_test_301 rfl (List.mem_of_getElem? (i := 2) rfl) ?_
    refine uu_aload_n dX12_test_302 rfl (List.mem_of_getElem? (i := 0) rfl) ?_
    refine uu_geti (ci := 12) (N := 153) fX12_340 (by decide) so_1079.is (by decide) (by decide) dX12_test_303 ?_
    obtain ⟨s5, e6, h⟩ := uu_ob h
    refine uu_iast e6 dX12_test_306 ?_
    refine uu_aload_n dX12_test_307 rfl (List.mem_of_getElem? (i := 0) rfl) ?_
    refine uu_geta (ci := 12) (N := 153) fX12_297 (by decide) so_1079.is (by decide) (c := 1103) (by decide) dX12_test_308 ?_
    refine uu_iload_n dX12_test_311 rfl (List.mem_of_getElem? (i := 2) rfl) ?_
    refine uu_aload_n dX12_test_312 rfl (List.mem_of_getElem? (i := 0) rfl) ?_
    obtain ⟨r7, e8, h⟩ := uu_ob h
    refine uu_cv (d1 := 9) (k := 1079) (ci := 12) (T := TX12) (N := 153) (As := []) (st := [.int x2, .ref (B + 1103)]) (st' := [.int r7.2, .int x2, .ref (B + 1103)]) (xc_X12_list uk  e8) so_1079.is (by decide) rfl kX12_list lX12_442 sX12_list (by omega) (Nat.le_of_ble_eq_true rfl) dX12_test_313 rfl ?_
    obtain ⟨s9, e10, h⟩ := uu_ob h
    refine uu_iast e10 dX12_test_316 ?_
    refine uu_aload_n dX12_test_317 rfl (List.mem_of_getElem? (i := 0) rfl) ?_
    refine uu_geta (ci := 12) (N := 153) fX12_454 (by decide) so_1079.is (by decide) (c := 1104) (by decide) dX12_test_318 ?_
    refine uu_iload_n dX12_test_321 rfl (List.mem_of_getElem? (i := 2) rfl) ?_
    refine uu_aload_n dX12_test_322 rfl (List.mem_of_getElem? (i := 0) rfl) ?_
    refine uu_geti (ci := 12) (N := 153) fX12_340 (by decide) so_1079.is (by decide) (by decide) dX12_test_323 ?_
    obtain ⟨s11, e12, h⟩ := uu_ob h
    refine uu_iast e12 dX12_test_326 ?_
    refine uu_aload_n dX12_test_327 rfl (List.mem_of_getElem? (i := 0) rfl) ?_
    refine uu_geta (ci := 12) (N := 153) fX12_300 (by decide) so_1079.is (by decide) (c := 1105) (by decide) dX12_test_328 ?_
    refine uu_iload_n dX12_test_331 rfl (List.mem_of_getElem? (i := 2) rfl) ?_
    refine uu_aload_n dX12_test_332 rfl (List.mem_of_getElem? (i := 0) rfl) ?_
    obtain ⟨r13, e14, h⟩ := uu_ob h
    refine uu_cv (d1 := 9) (k := 1079) (ci := 12) (T := TX12) (N := 153) (As := []) (st := [.int x2, .ref (B + 1105)]) (st' := [.int r13.2, .int x2, .ref (B + 1105)]) (xc_X12_list uk  e14) so_1079.is (by decide) rfl kX12_list lX12_442 sX12_list (by omega) (Nat.le_of_ble_eq_true rfl) dX12_test_333 rfl ?_
    obtain ⟨s15, e16, h⟩ := uu_ob h
    refine uu_iast e16 dX12_test_336 ?_
    refine uu_goto (tgt := 419) dX12_test_337 (by decide) ?_
    refine uu_lv [0, 2] (lv' := [(0, .ref (B + 1079)), (2, .int x2)]) rfl ?_
    exact xb_X12_test_419 uk un hR_X12_several hR_X12_test h
  replace h := uu_neg c243_0 h
  by_cases c243_1 : x1 = 21
  · replace h := uu_pos c243_1 h
    refine uu_tabE (tgt := 292) (off := 49) (v := 21) dX12_test_243 c243_1 (by decide) (by decide) rfl (by decide) ?_
    refine uu_aload_n dX12_test_292 rfl (List.mem_of_getElem? (i := 0) rfl) ?_
    refine uu_iload_n dX12_test_293 rfl (List.mem_of_getElem? (i := 2) rfl) ?_
    obtain ⟨s17, e18, h⟩ := uu_ob h
    refine uu_cv (d1 := 9) (k := 1079) (ci := 12) (T := TX12) (N := 153) (As := [.int x2]) (st := []) (st' := []) (xc_X12_how uk  e18) so_1079.is (by decide) rfl kX12_how lX12_500 sX12_how (by omega) (Nat.le_of_ble_eq_true rfl) dX12_test_294 rfl ?_
    refine uu_aload_n dX12_test_297 rfl (List.mem_of_getElem? (i := 0) rfl) ?_
    refine uu_geta (ci := 12) (N := 153) fX12_439 (by decide) so_1079.is (by decide) (c := 1102) (by decide) dX12_test_298 ?_
    refine uu_iload_n dX12_test_301 rfl (List.mem_of_getElem? (i := 2) rfl) ?_
    refine uu_aload_n dX12_test_302 rfl (List.mem_of_getElem? (i := 0) rfl) ?_
    refine uu_geti (ci := 12) (N := 153) fX12_340 (by decide) so_1079.is (by decide) (by decide) dX12_test_303 ?_
    obtain ⟨s19, e20, h⟩ := uu_ob h
    refine uu_iast e20 dX12_test_306 ?_
    refine uu_aload_n dX12_test_307 rfl (List.mem_of_getElem? (i := 0) rfl) ?_
    refine uu_geta (ci := 12) (N := 153) fX12_297 (by decide) so_1079.is (by decide) (c := 1103) (by decide) dX12_test_308 ?_
    refine uu_iload_n dX12_test_311 rfl (List.mem_of_getElem? (i := 2) rfl) ?_
    refine uu_aload_n dX12_test_312 rfl (List.mem_of_getElem? (i := 0) rfl) ?_
    obtain ⟨r21, e22, h⟩ := uu_ob h
    refine uu_cv (d1 := 9) (k := 1079) (ci := 12) (T := TX12) (N := 153) (As := []) (st := [.int x2, .ref (B + 1103)]) (st' := [.int r21.2, .int x2, .ref (B + 1103)]) (xc_X12_list uk  e22) so_1079.is (by decide) rfl kX12_list lX12_442 sX12_list (by omega) (Nat.le_of_ble_eq_true rfl) dX12_test_313 rfl ?_
    obtain ⟨s23, e24, h⟩ := uu_ob h
    refine uu_iast e24 dX12_test_316 ?_
    refine uu_aload_n dX12_test_317 rfl (List.mem_of_getElem? (i := 0) rfl) ?_
    refine uu_geta (ci := 12) (N := 153) fX12_454 (by decide) so_1079.is (by decide) (c := 1104) (by decide) dX12_test_318 ?_
    refine uu_iload_n dX12_test_321 rfl (List.mem_of_getElem? (i := 2) rfl) ?_
    refine uu_aload_n dX12_test_322 rfl (List.mem_of_getElem? (i := 0) rfl) ?_
    refine uu_geti (ci := 12) (N := 153) fX12_340 (by decide) so_1079.is (by decide) (by decide) dX12_test_323 ?_
    obtain ⟨s25, e26, h⟩ := uu_ob h
    refine uu_iast e26 dX12_test_326 ?_
    refine uu_aload_n dX12_test_327 rfl (List.mem_of_getElem? (i := 0) rfl) ?_
    refine uu_geta (ci := 12) (N := 153) fX12_300 (by decide) so_1079.is (by decide) (c := 1105) (by decide) dX12_test_328 ?_
    refine uu_iload_n dX12_test_331 rfl (List.mem_of_getElem? (i := 2) rfl) ?_
    refine uu_aload_n dX12_test_332 rfl (List.mem_of_getElem? (i := 0) rfl) ?_
    obtain ⟨r27, e28, h⟩ := uu_ob h
    refine uu_cv (d1 := 9) (k := 1079) (ci := 12) (T := TX12) (N := 153) (As := []) (st := [.int x2, .ref (B + 1105)]) (st' := [.int r27.2, .int x2, .ref (B + 1105)]) (xc_X12_list uk  e28) so_1079.is (by decide) rfl kX12_list lX12_442 sX12_list (by omega) (Nat.le_of_ble_eq_true rfl) dX12_test_333 rfl ?_
    obtain ⟨s29, e30, h⟩ := uu_ob h
    refine uu_iast e30 dX12_test_336 ?_
    refine uu_goto (tgt := 419) dX12_test_337 (by decide) ?_
    refine uu_lv [0, 2] (lv' := [(0, .ref (B + 1079)), (2, .int x2)]) rfl ?_
    exact xb_X12_test_419 uk un hR_X12_several hR_X12_test h
  replace h := uu_neg c243_1 h
  by_cases c243_2 : x1 = 22
  · replace h := uu_pos c243_2 h
    refine uu_tabE (tgt := 292) (off := 49) (v := 22) dX12_test_243 c243_2 (by decide) (by decide) rfl (by decide) ?_
    refine uu_aload_n dX12_test_292 rfl (List.mem_of_getElem? (i := 0) rfl) ?_
    refine uu_iload_n dX12_test_293 rfl (List.mem_of_getElem? (i := 2) rfl) ?_
    obtain ⟨s31, e32, h⟩ := uu_ob h
    refine uu_cv (d1 := 9) (k := 1079) (ci := 12) (T := TX12) (N := 153) (As := [.int x2]) (st := []) (st' := []) (xc_X12_how uk  e32) so_1079.is (by decide) rfl kX12_how lX12_500 sX12_how (by omega) (Nat.le_of_ble_eq_true rfl) dX12_test_294 rfl ?_
    refine uu_aload_n dX12_test_297 rfl (List.mem_of_getElem? (i := 0) rfl) ?_
    refine uu_geta (ci := 12) (N := 153) fX12_439 (by decide) so_1079.is (by decide) (c := 1102) (by decide) dX12_test_298 ?_
    refine uu_iload_n dX12_test_301 rfl (List.mem_of_getElem? (i := 2) rfl) ?_
    refine uu_aload_n dX12_test_302 rfl (List.mem_of_getElem? (i := 0) rfl) ?_
    refine uu_geti (ci := 12) (N := 153) fX12_340 (by decide) so_1079.is (by decide) (by decide) dX12_test_303 ?_
    obtain ⟨s33, e34, h⟩ := uu_ob h
    refine uu_iast e34 dX12_test_306 ?_
    refine uu_aload_n dX12_test_307 rfl (List.mem_of_getElem? (i := 0) rfl) ?_
    refine uu_geta (ci := 12) (N := 153) fX12_297 (by decide) so_1079.is (by decide) (c := 1103) (by decide) dX12_test_308 ?_
    refine uu_iload_n dX12_test_311 rfl (List.mem_of_getElem? (i := 2) rfl) ?_
    refine uu_aload_n dX12_test_312 rfl (List.mem_of_getElem? (i := 0) rfl) ?_
    obtain ⟨r35, e36, h⟩ := uu_ob h
    refine uu_cv (d1 := 9) (k := 1079) (ci := 12) (T := TX12) (N := 153) (As := []) (st := [.int x2, .ref (B + 1103)]) (st' := [.int r35.2, .int x2, .ref (B + 1103)]) (xc_X12_list uk  e36) so_1079.is (by decide) rfl kX12_list lX12_442 sX12_list (by omega) (Nat.le_of_ble_eq_true rfl) dX12_test_313 rfl ?_
    obtain ⟨s37, e38, h⟩ := uu_ob h
    refine uu_iast e38 dX12_test_316 ?_
    refine uu_aload_n dX12_test_317 rfl (List.mem_of_getElem? (i := 0) rfl) ?_
    refine uu_geta (ci := 12) (N := 153) fX12_454 (by decide) so_1079.is (by decide) (c := 1104) (by decide) dX12_test_318 ?_
    refine uu_iload_n dX12_test_321 rfl (List.mem_of_getElem? (i := 2) rfl) ?_
    refine uu_aload_n dX12_test_322 rfl (List.mem_of_getElem? (i := 0) rfl) ?_
    refine uu_geti (ci := 12) (N := 153) fX12_340 (by decide) so_1079.is (by decide) (by decide) dX12_test_323 ?_
    obtain ⟨s39, e40, h⟩ := uu_ob h
    refine uu_iast e40 dX12_test_326 ?_
    refine uu_aload_n dX12_test_327 rfl (List.mem_of_getElem? (i := 0) rfl) ?_
    refine uu_geta (ci := 12) (N := 153) fX12_300 (by decide) so_1079.is (by decide) (c := 1105) (by decide) dX12_test_328 ?_
    refine uu_iload_n dX12_test_331 rfl (List.mem_of_getElem? (i := 2) rfl) ?_
    refine uu_aload_n dX12_test_332 rfl (List.mem_of_getElem? (i := 0) rfl) ?_
    obtain ⟨r41, e42, h⟩ := uu_ob h
    refine uu_cv (d1 := 9) (k := 1079) (ci := 12) (T := TX12) (N := 153) (As := []) (st := [.int x2, .ref (B + 1105)]) (st' := [.int r41.2, .int x2, .ref (B + 1105)]) (xc_X12_list uk  e42) so_1079.is (by decide) rfl kX12_list lX12_442 sX12_list (by omega) (Nat.le_of_ble_eq_true rfl) dX12_test_333 rfl ?_
    obtain ⟨s43, e44, h⟩ := uu_ob h
    refine uu_iast e44 dX12_test_336 ?_
    refine uu_goto (tgt := 419) dX12_test_337 (by decide) ?_
    refine uu_lv [0, 2] (lv' := [(0, .ref (B + 1079)), (2, .int x2)]) rfl ?_
    exact xb_X12_test_419 uk un hR_X12_several hR_X12_test h
  replace h := uu_neg c243_2 h
  by_cases c243_3 : x1 = 23
  · replace h := uu_pos c243_3 h
    refine uu_tabE (tgt := 340) (off := 97) (v := 23) dX12_test_243 c243_3 (by decide) (by decide) rfl (by decide) ?_
    refine uu_aload_n dX12_test_340 rfl (List.mem_of_getElem? (i := 0) rfl) ?_
    refine uu_iload_n dX12_test_341 rfl (List.mem_of_getElem? (i := 2) rfl) ?_
    obtain ⟨s45, e46, h⟩ := uu_ob h
    refine uu_cv (d1 := 9) (k := 1079) (ci := 12) (T := TX12) (N := 153) (As := [.int x2]) (st := []) (st' := []) (xc_X12_how uk  e46) so_1079.is (by decide) rfl kX12_how lX12_500 sX12_how (by omega) (Nat.le_of_ble_eq_true rfl) dX12_test_342 rfl ?_
    refine uu_aload_n dX12_test_345 rfl (List.mem_of_getElem? (i := 0) rfl) ?_
    refine uu_geta (ci := 12) (N := 153) fX12_454 (by decide) so_1079.is (by decide) (c := 1104) (by decide) dX12_test_346 ?_
    refine uu_iload_n dX12_test_349 rfl (List.mem_of_getElem? (i := 2) rfl) ?_
    refine uu_aload_n dX12_test_350 rfl (List.mem_of_getElem? (i := 0) rfl) ?_
    refine uu_geti (ci := 12) (N := 153) fX12_340 (by decide) so_1079.is (by decide) (by decide) dX12_test_351 ?_
    obtain ⟨s47, e48, h⟩ := uu_ob h
    refine uu_iast e48 dX12_test_354 ?_
    refine uu_aload_n dX12_test_355 rfl (List.mem_of_getElem? (i := 0) rfl) ?_
    refine uu_geta (ci := 12) (N := 153) fX12_300 (by decide) so_1079.is (by decide) (c := 1105) (by decide) dX12_test_356 ?_
    refine uu_iload_n dX12_test_359 rfl (List.mem_of_getElem? (i := 2) rfl) ?_
    refine uu_aload_n dX12_test_360 rfl (List.mem_of_getElem? (i := 0) rfl) ?_
    obtain ⟨r49, e50, h⟩ := uu_ob h
    refine uu_cv (d1 := 9) (k := 1079) (ci := 12) (T := TX12) (N := 153) (As := []) (st := [.int x2, .ref (B + 1105)]) (st' := [.int r49.2, .int x2, .ref (B + 1105)]) (xc_X12_list uk  e50) so_1079.is (by decide) rfl kX12_list lX12_442 sX12_list (by omega) (Nat.le_of_ble_eq_true rfl) dX12_test_361 rfl ?_
    obtain ⟨s51, e52, h⟩ := uu_ob h
    refine uu_iast e52 dX12_test_364 ?_
    refine uu_goto (tgt := 419) dX12_test_365 (by decide) ?_
    refine uu_lv [0, 2] (lv' := [(0, .ref (B + 1079)), (2, .int x2)]) rfl ?_
    exact xb_X12_test_419 uk un hR_X12_several hR_X12_test h
  replace h := uu_neg c243_3 h
  by_cases c243_4 : x1 = 24
  · replace h := uu_pos c243_4 h
    refine uu_tabE (tgt := 368) (off := 125) (v := 24) dX12_test_243 c243_4 (by decide) (by decide) rfl (by decide) ?_
    refine uu_aload_n dX12_test_368 rfl (List.mem_of_getElem? (i := 0) rfl) ?_
    refine uu_geta (ci := 12) (N := 153) fX12_439 (by decide) so_1079.is (by decide) (c := 1102) (by decide) dX12_test_369 ?_
    refine uu_iload_n dX12_test_372 rfl (List.mem_of_getElem? (i := 2) rfl) ?_
    refine uu_aload_n dX12_test_373 rfl (List.mem_of_getElem? (i := 0) rfl) ?_
    refine uu_geti (ci := 12) (N := 153) fX12_340 (by decide) so_1079.is (by decide) (by decide) dX12_test_374 ?_
    obtain ⟨s53, e54, h⟩ := uu_ob h
    refine uu_iast e54 dX12_test_377 ?_
    refine uu_aload_n dX12_test_378 rfl (List.mem_of_getElem? (i := 0) rfl) ?_
    refine uu_geta (ci := 12) (N := 153) fX12_297 (by decide) so_1079.is (by decide) (c := 1103) (by decide) dX12_test_379 ?_
    refine uu_iload_n dX12_test_382 rfl (List.mem_of_getElem? (i := 2) rfl) ?_
    refine uu_aload_n dX12_test_383 rfl (List.mem_of_getElem? (i := 0) rfl) ?_
    obtain ⟨r55, e56, h⟩ := uu_ob h
    refine uu_cv (d1 := 9) (k := 1079) (ci := 12) (T := TX12) (N := 153) (As := []) (st := [.int x2, .ref (B + 1103)]) (st' := [.int r55.2, .int x2, .ref (B + 1103)]) (xc_X12_list uk  e56) so_1079.is (by decide) rfl kX12_list lX12_442 sX12_list (by omega) (Nat.le_of_ble_eq_true rfl) dX12_test_384 rfl ?_
    obtain ⟨s57, e58, h⟩ := uu_ob h
    refine uu_iast e58 dX12_test_387 ?_
    refine uu_goto (tgt := 419) dX12_test_388 (by decide) ?_
    refine uu_lv [0, 2] (lv' := [(0, .ref (B + 1079)), (2, .int x2)]) rfl ?_
    exact xb_X12_test_419 uk un hR_X12_several hR_X12_test h
  replace h := uu_neg c243_4 h
  by_cases c243_5 : x1 = 25
  · replace h := uu_pos c243_5 h
    refine uu_tabE (tgt := 391) (off := 148) (v := 25) dX12_test_243 c243_5 (by decide) (by decide) rfl (by decide) ?_
    refine uu_aload_n dX12_test_391 rfl (List.mem_of_getElem? (i := 0) rfl) ?_
    refine uu_iload_n dX12_test_392 rfl (List.mem_of_getElem? (i := 2) rfl) ?_
    obtain ⟨s59, e60, h⟩ := uu_ob h
    refine uu_cv (d1 := 8) (k := 1079) (ci := 12) (T := TX12) (N := 153) (As := [.int x2]) (st := []) (st' := []) (xc_X12_size uk  e60) so_1079.is (by decide) rfl kX12_size lX12_503 sX12_size (by omega) (Nat.le_of_ble_eq_true rfl) dX12_test_393 rfl ?_
    refine uu_goto (tgt := 419) dX12_test_396 (by decide) ?_
    refine uu_lv [0, 2] (lv' := [(0, .ref (B + 1079)), (2, .int x2)]) rfl ?_
    exact xb_X12_test_419 uk un hR_X12_several hR_X12_test h
  replace h := uu_neg c243_5 h
  by_cases c243_6 : x1 = 26
  · replace h := uu_pos c243_6 h
    refine uu_tabE (tgt := 399) (off := 156) (v := 26) dX12_test_243 c243_6 (by decide) (by decide) rfl (by decide) ?_
    refine uu_aload_n dX12_test_399 rfl (List.mem_of_getElem? (i := 0) rfl) ?_
    refine uu_iload_n dX12_test_400 rfl (List.mem_of_getElem? (i := 2) rfl) ?_
    obtain ⟨s61, e62, h⟩ := uu_ob h
    refine uu_cv (d1 := 11 + n) (k := 1079) (ci := 12) (T := TX12) (N := 153) (As := [.int x2]) (st := []) (st' := []) (hR_X12_several _ _ _ e62) so_1079.is (by decide) rfl kX12_several lX12_505 sX12_several (by omega) (Nat.le_of_ble_eq_true rfl) dX12_test_401 rfl ?_
    refine uu_goto (tgt := 419) dX12_test_404 (by decide) ?_
    refine uu_lv [0, 2] (lv' := [(0, .ref (B + 1079)), (2, .int x2)]) rfl ?_
    exact xb_X12_test_419 uk un hR_X12_several hR_X12_test h
  replace h := uu_neg c243_6 h
  by_cases c243_7 : x1 = 27
  · replace h := uu_pos c243_7 h
    refine uu_tabE (tgt := 399) (off := 156) (v := 27) dX12_test_243 c243_7 (by decide) (by decide) rfl (by decide) ?_
    refine uu_aload_n dX12_test_399 rfl (List.mem_of_getElem? (i := 0) rfl) ?_
    refine uu_iload_n dX12_test_400 rfl (List.mem_of_getElem? (i := 2) rfl) ?_
    obtain ⟨s63, e64, h⟩ := uu_ob h
    refine uu_cv (d1 := 11 + n) (k := 1079) (ci := 12) (T := TX12) (N := 153) (As := [.int x2]) (st := []) (st' := []) (hR_X12_several _ _ _ e64) so_1079.is (by decide) rfl kX12_several lX12_505 sX12_several (by omega) (Nat.le_of_ble_eq_true rfl) dX12_test_401 rfl ?_
    refine uu_goto (tgt := 419) dX12_test_404 (by decide) ?_
    refine uu_lv [0, 2] (lv' := [(0, .ref (B + 1079)), (2, .int x2)]) rfl ?_
    exact xb_X12_test_419 uk un hR_X12_several hR_X12_test h
  replace h := uu_neg c243_7 h
  by_cases c243_8 : x1 = 28
  · replace h := uu_pos c243_8 h
    refine uu_tabE (tgt := 407) (off := 164) (v := 28) dX12_test_243 c243_8 (by decide) (by decide) rfl (by decide) ?_
    refine uu_aload_n dX12_test_407 rfl (List.mem_of_getElem? (i := 0) rfl) ?_
    refine uu_iload_n dX12_test_408 rfl (List.mem_of_getElem? (i := 2) rfl) ?_
    refine uu_aload_n dX12_test_409 rfl (List.mem_of_getElem? (i := 0) rfl) ?_
    obtain ⟨r65, e66, h⟩ := uu_ob h
    refine uu_cv (d1 := 11 + n) (k := 1079) (ci := 12) (T := TX12) (N := 153) (As := []) (st := [.int x2, .ref (B + 1079)]) (st' := [.int r65.2, .int x2, .ref (B + 1079)]) (hR_X12_test  _ _ e66) so_1079.is (by decide) rfl kX12_test lX12_448 sX12_test (by omega) (Nat.le_of_ble_eq_true rfl) dX12_test_410 rfl ?_
    obtain ⟨s67, e68, h⟩ := uu_ob h
    refine uu_cv (d1 := 0) (k := 1079) (ci := 12) (T := TX12) (N := 153) (As := [.int x2, .int r65.2]) (st := []) (st' := []) (xc_X12_put uk  e68) so_1079.is (by decide) rfl kX12_put lX12_403 sX12_put (by omega) (Nat.le_of_ble_eq_true rfl) dX12_test_413 rfl ?_
    refine uu_goto (tgt := 419) dX12_test_416 (by decide) ?_
    refine uu_lv [0, 2] (lv' := [(0, .ref (B + 1079)), (2, .int x2)]) rfl ?_
    exact xb_X12_test_419 uk un hR_X12_several hR_X12_test h
  replace h := uu_neg c243_8 h
  have cx243 : (x1).toInt < 20 ∨ 28 < (x1).toInt := by
    refine Decidable.byContradiction fun q => ?_
    rcases (show (x1).toInt = 20 ∨ (x1).toInt = 21 ∨ (x1).toInt = 22 ∨ (x1).toInt = 23 ∨ (x1).toInt = 24 ∨ (x1).toInt = 25 ∨ (x1).toInt = 26 ∨ (x1).toInt = 27 ∨ (x1).toInt = 28 by omega) with q | q | q | q | q | q | q | q | q
    · exact c243_0 (sw_eq q (by decide))
    · exact c243_1 (sw_eq q (by decide))
    · exact c243_2 (sw_eq q (by decide))
    · exact c243_3 (sw_eq q (by decide))
    · exact c243_4 (sw_eq q (by decide))
    · exact c243_5 (sw_eq q (by decide))
    · exact c243_6 (sw_eq q (by decide))
    · exact c243_7 (sw_eq q (by decide))
    · exact c243_8 (sw_eq q (by decide))
  refine uu_tableOut (tgt := 419) dX12_test_243 cx243 (by decide) ?_
  refine uu_lv [0, 2] (lv' := [(0, .ref (B + 1079)), (2, .int x2)]) rfl ?_
  exact xb_X12_test_419 uk un hR_X12_several hR_X12_test h
def fb_X12_test_226 (R_X12_several : Int32 → uS → Option uS) (R_X12_test : uS → Option (uS × Int32))  (x1 : Int32) (x2 : Int32) (s : uS) : Option (uS × Int32) := if x1 = 23 then ((fn_X12_needs 16 s).bind fun s2 => fb_X12_test_238 R_X12_several R_X12_test x1 x2 s2) else (fb_X12_test_238 R_X12_several R_X12_test x1 x2 s)
set_option maxRecDepth 100000 in
set_option maxHeartbeats 4000000 in
theorem xb_X12_test_226 {l : Launch} {D : va_G} {A : Nat → ClassId} {B : Nat} {Z : State → Heap → Prop} {vF : Value} (uk : uK B Z vF) (un : uX A B Z) {n : Nat} {R_X12_several : Int32 → uS → Option uS} {R_X12_test : uS → Option (uS × Int32)}  (hR_X12_several : ∀ (x1 : Int32) (s : uS) (r : uS), R_X12_several x1 s = some r → CU l D A B Z (11 + n) mX12_several s [.ref (B + 1079), .int x1] (r, none)) (hR_X12_test : ∀  (s : uS) (r : (uS × Int32)), R_X12_test  s = some r → CU l D A B Z (11 + n) mX12_test s [.ref (B + 1079)] (r.1, some (.int r.2)))  {x1 : Int32} {x2 : Int32} {s : uS} {r : (uS × Int32)}  (h : fb_X12_test_226 R_X12_several R_X12_test  x1 x2 s = some r) : GU l D A B Z mX12_test (11 + (n + 1)) (r.1, some (.int r.2)) s 226 [(0, .ref (B + 1079)), (1, .int x1), (2, .int x2)] [] := by
  unfold fb_X12_test_226 at h
  refine uu_iload_n dX12_test_226 rfl (List.mem_of_getElem? (i := 1) rfl) ?_
  refine uu_bipush (v := 23) dX12_test_227 (by decide) ?_
  refine uu_icmp_ne (tgt := 238) dX12_test_229 (by decide) (fun c1 => ?_) (fun c1 => ?_)
  · replace h := uu_neg c1 h
    exact xb_X12_test_238 uk un hR_X12_several hR_X12_test h
  · replace h := uu_pos c1 h
    refine uu_aload_n dX12_test_232 rfl (List.mem_of_getElem? (i := 0) rfl) ?_
    refine uu_bipush (v := 16) dX12_test_233 (by decide) ?_
    obtain ⟨s2, e3, h⟩ := uu_ob h
    refine uu_cv (d1 := 1) (k := 1079) (ci := 12) (T := TX12) (N := 153) (As := [.int 16]) (st := []) (st' := []) (xc_X12_needs uk  e3) so_1079.is (by decide) rfl kX12_needs lX12_431 sX12_needs (by omega) (Nat.le_of_ble_eq_true rfl) dX12_test_235 rfl ?_
    exact xb_X12_test_238 uk un hR_X12_several hR_X12_test h
def fb_X12_test_209 (R_X12_several : Int32 → uS → Option uS) (R_X12_test : uS → Option (uS × Int32))  (x1 : Int32) (s : uS) : Option (uS × Int32) := (fn_X12_counting x1 s).bind fun r1 => if x1 = 22 then ((fn_X12_needs 4 r1.1).bind fun s4 => fb_X12_test_226 R_X12_several R_X12_test x1 r1.2 s4) else (fb_X12_test_226 R_X12_several R_X12_test x1 r1.2 r1.1)
set_option maxRecDepth 100000 in
set_option maxHeartbeats 4000000 in
theorem xb_X12_test_209 {l : Launch} {D : va_G} {A : Nat → ClassId} {B : Nat} {Z : State → Heap → Prop} {vF : Value} (uk : uK B Z vF) (un : uX A B Z) {n : Nat} {R_X12_several : Int32 → uS → Option uS} {R_X12_test : uS → Option (uS × Int32)}  (hR_X12_several : ∀ (x1 : Int32) (s : uS) (r : uS), R_X12_several x1 s = some r → CU l D A B Z (11 + n) mX12_several s [.ref (B + 1079), .int x1] (r, none)) (hR_X12_test : ∀  (s : uS) (r : (uS × Int32)), R_X12_test  s = some r → CU l D A B Z (11 + n) mX12_test s [.ref (B + 1079)] (r.1, some (.int r.2)))  {x1 : Int32} {s : uS} {r : (uS × Int32)}  (h : fb_X12_test_209 R_X12_several R_X12_test  x1 s = some r) : GU l D A B Z mX12_test (11 + (n + 1)) (r.1, some (.int r.2)) s 209 [(0, .ref (B + 1079)), (1, .int x1)] [] := by
  unfold fb_X12_test_209 at h
  refine uu_aload_n dX12_test_209 rfl (List.mem_of_getElem? (i := 0) rfl) ?_
  refine uu_iload_n dX12_test_210 rfl (List.mem_of_getElem? (i := 1) rfl) ?_
  obtain ⟨r1, e2, h⟩ := uu_ob h
  refine uu_cv (d1 := 1) (k := 1079) (ci := 12) (T := TX12) (N := 153) (As := [.int x1]) (st := []) (st' := [.int r1.2]) (xc_X12_counting uk  e2) so_1079.is (by decide) rfl kX12_counting lX12_425 sX12_counting (by omega) (Nat.le_of_ble_eq_true rfl) dX12_test_211 rfl ?_
  refine uu_istore_n dX12_test_214 rfl (by decide) rfl ?_
  refine uu_iload_n dX12_test_215 rfl (List.mem_of_getElem? (i := 2) rfl) ?_
  refine uu_bipush (v := 22) dX12_test_216 (by decide) ?_
  refine uu_icmp_ne (tgt := 226) dX12_test_218 (by decide) (fun c3 => ?_) (fun c3 => ?_)
  · replace h := uu_neg c3 h
    refine uu_lv [1, 2, 0] (lv' := [(0, .ref (B + 1079)), (1, .int x1), (2, .int r1.2)]) rfl ?_
    exact xb_X12_test_226 uk un hR_X12_several hR_X12_test h
  · replace h := uu_pos c3 h
    refine uu_aload_n dX12_test_221 rfl (List.mem_of_getElem? (i := 1) rfl) ?_
    refine uu_iconst (v := 4) dX12_test_222 (by decide) ?_
    obtain ⟨s4, e5, h⟩ := uu_ob h
    refine uu_cv (d1 := 1) (k := 1079) (ci := 12) (T := TX12) (N := 153) (As := [.int 4]) (st := []) (st' := []) (xc_X12_needs uk  e5) so_1079.is (by decide) rfl kX12_needs lX12_431 sX12_needs (by omega) (Nat.le_of_ble_eq_true rfl) dX12_test_223 rfl ?_
    refine uu_lv [1, 2, 0] (lv' := [(0, .ref (B + 1079)), (1, .int x1), (2, .int r1.2)]) rfl ?_
    exact xb_X12_test_226 uk un hR_X12_several hR_X12_test h
def fb_X12_test_166 (R_X12_several : Int32 → uS → Option uS) (R_X12_test : uS → Option (uS × Int32))  (xs0 : Int32) (s : uS) : Option (uS × Int32) := if xs0 = (-1) then ((fn_X12_fail (s.I 1079 32) s).bind fun s5 => some (s5, (0 : Int32))) else (if ((wI s 1079 66 ((s.I 1079 66) + 1)).I 1079 66) ≤ 8 then (fb_X12_test_209 R_X12_several R_X12_test xs0 (wI s 1079 66 ((s.I 1079 66) + 1))) else ((fn_X12_fail ((wI s 1079 66 ((s.I 1079 66) + 1)).I 1079 32) (wI s 1079 66 ((s.I 1079 66) + 1))).bind fun s3 => fb_X12_test_209 R_X12_several R_X12_test xs0 s3))
set_option maxRecDepth 100000 in
set_option maxHeartbeats 4000000 in
theorem xb_X12_test_166 {l : Launch} {D : va_G} {A : Nat → ClassId} {B : Nat} {Z : State → Heap → Prop} {vF : Value} (uk : uK B Z vF) (un : uX A B Z) {n : Nat} {R_X12_several : Int32 → uS → Option uS} {R_X12_test : uS → Option (uS × Int32)}  (hR_X12_several : ∀ (x1 : Int32) (s : uS) (r : uS), R_X12_several x1 s = some r → CU l D A B Z (11 + n) mX12_several s [.ref (B + 1079), .int x1] (r, none)) (hR_X12_test : ∀  (s : uS) (r : (uS × Int32)), R_X12_test  s = some r → CU l D A B Z (11 + n) mX12_test s [.ref (B + 1079)] (r.1, some (.int r.2)))  {xs0 : Int32} {s : uS} {r : (uS × Int32)}  (h : fb_X12_test_166 R_X12_several R_X12_test  xs0 s = some r) : GU l D A B Z mX12_test (11 + (n + 1)) (r.1, some (.int r.2)) s 166 [(0, .ref (B + 1079))] [.int xs0] := by
  unfold fb_X12_test_166 at h
  refine uu_istore_n dX12_test_166 rfl (by decide) rfl ?_
  refine uu_iload_n dX12_test_167 rfl (List.mem_of_getElem? (i := 0) rfl) ?_
  refine uu_iconst (v := -1) dX12_test_168 (by decide) ?_
  refine uu_icmp_ne (tgt := 182) dX12_test_169 (by decide) (fun c1 => ?_) (fun c1 => ?_)
  · replace h := uu_neg c1 h
    refine uu_aload_n dX12_test_182 rfl (List.mem_of_getElem? (i := 1) rfl) ?_
    refine uu_aload_n dX12_test_183 rfl (List.mem_of_getElem? (i := 1) rfl) ?_
    refine uu_geti (ci := 12) (N := 153) fX12_361 (by decide) so_1079.is (by decide) (by decide) dX12_test_184 ?_
    refine uu_iconst (v := 1) dX12_test_187 (by decide) ?_
    refine uu_iadd dX12_test_188 ?_
    refine uu_puti (ft := .int) (ci := 12) (N := 153) fX12_361 ptX12 (Or.inl rfl) (by decide) so_1079.is (by decide) (by decide) (by decide +kernel) rfl rfl dX12_test_189 ?_
    refine uu_aload_n dX12_test_192 rfl (List.mem_of_getElem? (i := 1) rfl) ?_
    refine uu_geti (ci := 12) (N := 153) fX12_361 (by decide) so_1079.is (by decide) (by decide) dX12_test_193 ?_
    refine uu_bipush (v := 8) dX12_test_196 (by decide) ?_
    refine uu_icmp_le (tgt := 209) dX12_test_198 (by decide) (fun c2 => ?_) (fun c2 => ?_)
    · replace h := uu_pos c2 h
      refine uu_lv [1, 0] (lv' := [(0, .ref (B + 1079)), (1, .int xs0)]) rfl ?_
      exact xb_X12_test_209 uk un hR_X12_several hR_X12_test h
    · replace h := uu_neg c2 h
      refine uu_aload_n dX12_test_201 rfl (List.mem_of_getElem? (i := 1) rfl) ?_
      refine uu_aload_n dX12_test_202 rfl (List.mem_of_getElem? (i := 1) rfl) ?_
      refine uu_geti (ci := 12) (N := 153) fX12_199 (by decide) so_1079.is (by decide) (by decide) dX12_test_203 ?_
      obtain ⟨s3, e4, h⟩ := uu_ob h
      refine uu_cv (d1 := 0) (k := 1079) (ci := 12) (T := TX12) (N := 153) (As := [.int ((wI s 1079 66 ((s.I 1079 66) + 1)).I 1079 32)]) (st := []) (st' := []) (xc_X12_fail uk  e4) so_1079.is (by decide) rfl kX12_fail lX12_208 sX12_fail (by omega) (Nat.le_of_ble_eq_true rfl) dX12_test_206 rfl ?_
      refine uu_lv [1, 0] (lv' := [(0, .ref (B + 1079)), (1, .int xs0)]) rfl ?_
      exact xb_X12_test_209 uk un hR_X12_several hR_X12_test h
  · replace h := uu_pos c1 h
    refine uu_aload_n dX12_test_172 rfl (List.mem_of_getElem? (i := 1) rfl) ?_
    refine uu_aload_n dX12_test_173 rfl (List.mem_of_getElem? (i := 1) rfl) ?_
    refine uu_geti (ci := 12) (N := 153) fX12_199 (by decide) so_1079.is (by decide) (by decide) dX12_test_174 ?_
    obtain ⟨s5, e6, h⟩ := uu_ob h
    refine uu_cv (d1 := 0) (k := 1079) (ci := 12) (T := TX12) (N := 153) (As := [.int (s.I 1079 32)]) (st := []) (st' := []) (xc_X12_fail uk  e6) so_1079.is (by decide) rfl kX12_fail lX12_208 sX12_fail (by omega) (Nat.le_of_ble_eq_true rfl) dX12_test_177 rfl ?_
    refine uu_iconst (v := 0) dX12_test_180 (by decide) ?_
    have hr := Option.some.inj h
    subst hr
    exact uu_iret rfl dX12_test_181
def fn_X12_test (R_X12_several : Int32 → uS → Option uS) (R_X12_test : uS → Option (uS × Int32))  (s : uS) : Option (uS × Int32) := (fn_X12_isWord kW_100 s).bind fun v2 => if v2 = true then (fb_X12_test_166 R_X12_several R_X12_test 20 s) else ((fn_X12_isWord kW_101 s).bind fun v6 => if v6 = true then (fb_X12_test_166 R_X12_several R_X12_test 21 s) else ((fn_X12_isWord kW_79 s).bind fun v10 => if v10 = true then (fb_X12_test_166 R_X12_several R_X12_test 22 s) else ((fn_X12_isWord kW_102 s).bind fun v14 => if v14 = true then (fb_X12_test_166 R_X12_several R_X12_test 23 s) else ((fn_X12_isWord kW_103 s).bind fun v18 => if v18 = true then (fb_X12_test_166 R_X12_several R_X12_test 24 s) else ((fn_X12_isWord kW_104 s).bind fun v22 => if v22 = true then (fb_X12_test_166 R_X12_several R_X12_test 25 s) else ((fn_X12_isWord kW_105 s).bind fun v26 => if v26 = true then (fb_X12_test_166 R_X12_several R_X12_test 26 s) else ((fn_X12_isWord kW_106 s).bind fun v30 => if v30 = true then (fb_X12_test_166 R_X12_several R_X12_test 27 s) else ((fn_X12_isWord kW_107 s).bind fun v34 => if v34 = true then (fb_X12_test_166 R_X12_several R_X12_test 28 s) else ((fn_X12_isWord kW_108 s).bind fun v38 => if v38 = true then (fb_X12_test_166 R_X12_several R_X12_test 29 s) else ((fn_X12_isWord kW_109 s).bind fun v42 => if v42 = true then (fb_X12_test_166 R_X12_several R_X12_test 30 s) else (fb_X12_test_166 R_X12_several R_X12_test (-1) s)))))))))))
set_option maxRecDepth 100000 in
set_option maxHeartbeats 4000000 in
theorem xc_X12_test {l : Launch} {D : va_G} {A : Nat → ClassId} {B : Nat} {Z : State → Heap → Prop} {vF : Value} (uk : uK B Z vF) (un : uX A B Z) {n : Nat} {R_X12_several : Int32 → uS → Option uS} {R_X12_test : uS → Option (uS × Int32)} (hR_X12_several : ∀ (x1 : Int32) (s : uS) (r : uS), R_X12_several x1 s = some r → CU l D A B Z (11 + n) mX12_several s [.ref (B + 1079), .int x1] (r, none)) (hR_X12_test : ∀  (s : uS) (r : (uS × Int32)), R_X12_test  s = some r → CU l D A B Z (11 + n) mX12_test s [.ref (B + 1079)] (r.1, some (.int r.2)))  {s : uS} {r : (uS × Int32)}  (h : fn_X12_test R_X12_several R_X12_test  s = some r) : CU l D A B Z (11 + (n + 1)) mX12_test s [.ref (B + 1079)] (r.1, some (.int r.2)) := by
  unfold fn_X12_test at h
  refine cu_of rfl uk.1.1 (Nat.le_of_ble_eq_true rfl) ?_
  show GU _ _ _ _ _ _ _ _ _ 0 [(0, .ref (B + 1079))] []
  refine uu_aload_n dX12_test_0 rfl (List.mem_of_getElem? (i := 0) rfl) ?_
  obtain ⟨cq1, cp1, cv1, cw1⟩ := uk.2.1 100 _ rfl
  refine uu_ldcwS cv1 dX12_test_1 ?_
  obtain ⟨v2, e3, h⟩ := uu_ob h
  refine uu_cv (d1 := 5) (k := 1079) (ci := 12) (T := TX12) (N := 153) (As := [.ref cq1]) (st := []) (st' := [.int (bI v2)]) (xc_X12_isWord uk cw1 e3) so_1079.is (by decide) rfl kX12_isWord lX12_366 sX12_isWord (by omega) (Nat.le_of_ble_eq_true rfl) dX12_test_4 rfl ?_
  refine uu_ifb_eq (tgt := 15) dX12_test_7 (by decide) (fun c4 => ?_) (fun c4 => ?_)
  · replace h := uu_neg c4 h
    refine uu_aload_n dX12_test_15 rfl (List.mem_of_getElem? (i := 0) rfl) ?_
    obtain ⟨cq5, cp5, cv5, cw5⟩ := uk.2.1 101 _ rfl
    refine uu_ldcwS cv5 dX12_test_16 ?_
    obtain ⟨v6, e7, h⟩ := uu_ob h
    refine uu_cv (d1 := 5) (k := 1079) (ci := 12) (T := TX12) (N := 153) (As := [.ref cq5]) (st := []) (st' := [.int (bI v6)]) (xc_X12_isWord uk cw5 e7) so_1079.is (by decide) rfl kX12_isWord lX12_366 sX12_isWord (by omega) (Nat.le_of_ble_eq_true rfl) dX12_test_19 rfl ?_
    refine uu_ifb_eq (tgt := 30) dX12_test_22 (by decide) (fun c8 => ?_) (fun c8 => ?_)
    · replace h := uu_neg c8 h
      refine uu_aload_n dX12_test_30 rfl (List.mem_of_getElem? (i := 0) rfl) ?_
      obtain ⟨cq9, cp9, cv9, cw9⟩ := uk.2.1 79 _ rfl
      refine uu_ldcwS cv9 dX12_test_31 ?_
      obtain ⟨v10, e11, h⟩ := uu_ob h
      refine uu_cv (d1 := 5) (k := 1079) (ci := 12) (T := TX12) (N := 153) (As := [.ref cq9]) (st := []) (st' := [.int (bI v10)]) (xc_X12_isWord uk cw9 e11) so_1079.is (by decide) rfl kX12_isWord lX12_366 sX12_isWord (by omega) (Nat.le_of_ble_eq_true rfl) dX12_test_34 rfl ?_
      refine uu_ifb_eq (tgt := 45) dX12_test_37 (by decide) (fun c12 => ?_) (fun c12 => ?_)
      · replace h := uu_neg c12 h
        refine uu_aload_n dX12_test_45 rfl (List.mem_of_getElem? (i := 0) rfl) ?_
        obtain ⟨cq13, cp13, cv13, cw13⟩ := uk.2.1 102 _ rfl
        refine uu_ldcwS cv13 dX12_test_46 ?_
        obtain ⟨v14, e15, h⟩ := uu_ob h
        refine uu_cv (d1 := 5) (k := 1079) (ci := 12) (T := TX12) (N := 153) (As := [.ref cq13]) (st := []) (st' := [.int (bI v14)]) (xc_X12_isWord uk cw13 e15) so_1079.is (by decide) rfl kX12_isWord lX12_366 sX12_isWord (by omega) (Nat.le_of_ble_eq_true rfl) dX12_test_49 rfl ?_
        refine uu_ifb_eq (tgt := 60) dX12_test_52 (by decide) (fun c16 => ?_) (fun c16 => ?_)
        · replace h := uu_neg c16 h
          refine uu_aload_n dX12_test_60 rfl (List.mem_of_getElem? (i := 0) rfl) ?_
          obtain ⟨cq17, cp17, cv17, cw17⟩ := uk.2.1 103 _ rfl
          refine uu_ldcwS cv17 dX12_test_61 ?_
          obtain ⟨v18, e19, h⟩ := uu_ob h
          refine uu_cv (d1 := 5) (k := 1079) (ci := 12) (T := TX12) (N := 153) (As := [.ref cq17]) (st := []) (st' := [.int (bI v18)]) (xc_X12_isWord uk cw17 e19) so_1079.is (by decide) rfl kX12_isWord lX12_366 sX12_isWord (by omega) (Nat.le_of_ble_eq_true rfl) dX12_test_64 rfl ?_
          refine uu_ifb_eq (tgt := 75) dX12_test_67 (by decide) (fun c20 => ?_) (fun c20 => ?_)
          · replace h := uu_neg c20 h
            refine uu_aload_n dX12_test_75 rfl (List.mem_of_getElem? (i := 0) rfl) ?_
            obtain ⟨cq21, cp21, cv21, cw21⟩ := uk.2.1 104 _ rfl
            refine uu_ldcwS cv21 dX12_test_76 ?_
            obtain ⟨v22, e23, h⟩ := uu_ob h
            refine uu_cv (d1 := 5) (k := 1079) (ci := 12) (T := TX12) (N := 153) (As := [.ref cq21]) (st := []) (st' := [.int (bI v22)]) (xc_X12_isWord uk cw21 e23) so_1079.is (by decide) rfl kX12_isWord lX12_366 sX12_isWord (by omega) (Nat.le_of_ble_eq_true rfl) dX12_test_79 rfl ?_
            refine uu_ifb_eq (tgt := 90) dX12_test_82 (by decide) (fun c24 => ?_) (fun c24 => ?_)
            · replace h := uu_neg c24 h
              refine uu_aload_n dX12_test_90 rfl (List.mem_of_getElem? (i := 0) rfl) ?_
              obtain ⟨cq25, cp25, cv25, cw25⟩ := uk.2.1 105 _ rfl
              refine uu_ldcwS cv25 dX12_test_91 ?_
              obtain ⟨v26, e27, h⟩ := uu_ob h
              refine uu_cv (d1 := 5) (k := 1079) (ci := 12) (T := TX12) (N := 153) (As := [.ref cq25]) (st := []) (st' := [.int (bI v26)]) (xc_X12_isWord uk cw25 e27) so_1079.is (by decide) rfl kX12_isWord lX12_366 sX12_isWord (by omega) (Nat.le_of_ble_eq_true rfl) dX12_test_94 rfl ?_
              refine uu_ifb_eq (tgt := 105) dX12_test_97 (by decide) (fun c28 => ?_) (fun c28 => ?_)
              · replace h := uu_neg c28 h
                refine uu_aload_n dX12_test_105 rfl (List.mem_of_getElem? (i := 0) rfl) ?_
                obtain ⟨cq29, cp29, cv29, cw29⟩ := uk.2.1 106 _ rfl
                refine uu_ldcwS cv29 dX12_test_106 ?_
                obtain ⟨v30, e31, h⟩ := uu_ob h
                refine uu_cv (d1 := 5) (k := 1079) (ci := 12) (T := TX12) (N := 153) (As := [.ref cq29]) (st := []) (st' := [.int (bI v30)]) (xc_X12_isWord uk cw29 e31) so_1079.is (by decide) rfl kX12_isWord lX12_366 sX12_isWord (by omega) (Nat.le_of_ble_eq_true rfl) dX12_test_109 rfl ?_
                refine uu_ifb_eq (tgt := 120) dX12_test_112 (by decide) (fun c32 => ?_) (fun c32 => ?_)
                · replace h := uu_neg c32 h
                  refine uu_aload_n dX12_test_120 rfl (List.mem_of_getElem? (i := 0) rfl) ?_
                  obtain ⟨cq33, cp33, cv33, cw33⟩ := uk.2.1 107 _ rfl
                  refine uu_ldcwS cv33 dX12_test_121 ?_
                  obtain ⟨v34, e35, h⟩ := uu_ob h
                  refine uu_cv (d1 := 5) (k := 1079) (ci := 12) (T := TX12) (N := 153) (As := [.ref cq33]) (st := []) (st' := [.int (bI v34)]) (xc_X12_isWord uk cw33 e35) so_1079.is (by decide) rfl kX12_isWord lX12_366 sX12_isWord (by omega) (Nat.le_of_ble_eq_true rfl) dX12_test_124 rfl ?_
                  refine uu_ifb_eq (tgt := 135) dX12_test_127 (by decide) (fun c36 => ?_) (fun c36 => ?_)
                  · replace h := uu_neg c36 h
                    refine uu_aload_n dX12_test_135 rfl (List.mem_of_getElem? (i := 0) rfl) ?_
                    obtain ⟨cq37, cp37, cv37, cw37⟩ := uk.2.1 108 _ rfl
                    refine uu_ldcwS cv37 dX12_test_136 ?_
                    obtain ⟨v38, e39, h⟩ := uu_ob h
                    refine uu_cv (d1 := 5) (k := 1079) (ci := 12) (T := TX12) (N := 153) (As := [.ref cq37]) (st := []) (st' := [.int (bI v38)]) (xc_X12_isWord uk cw37 e39) so_1079.is (by decide) rfl kX12_isWord lX12_366 sX12_isWord (by omega) (Nat.le_of_ble_eq_true rfl) dX12_test_139 rfl ?_
                    refine uu_ifb_eq (tgt := 150) dX12_test_142 (by decide) (fun c40 => ?_) (fun c40 => ?_)
                    · replace h := uu_neg c40 h
                      refine uu_aload_n dX12_test_150 rfl (List.mem_of_getElem? (i := 0) rfl) ?_
                      obtain ⟨cq41, cp41, cv41, cw41⟩ := uk.2.1 109 _ rfl
                      refine uu_ldcwS cv41 dX12_test_151 ?_
                      obtain ⟨v42, e43, h⟩ := uu_ob h
                      refine uu_cv (d1 := 5) (k := 1079) (ci := 12) (T := TX12) (N := 153) (As := [.ref cq41]) (st := []) (st' := [.int (bI v42)]) (xc_X12_isWord uk cw41 e43) so_1079.is (by decide) rfl kX12_isWord lX12_366 sX12_isWord (by omega) (Nat.le_of_ble_eq_true rfl) dX12_test_154 rfl ?_
                      refine uu_ifb_eq (tgt := 165) dX12_test_157 (by decide) (fun c44 => ?_) (fun c44 => ?_)
                      · replace h := uu_neg c44 h
                        refine uu_iconst (v := -1) dX12_test_165 (by decide) ?_
                        exact xb_X12_test_166 uk un hR_X12_several hR_X12_test h
                      · replace h := uu_pos c44 h
                        refine uu_bipush (v := 30) dX12_test_160 (by decide) ?_
                        refine uu_goto (tgt := 166) dX12_test_162 (by decide) ?_
                        exact xb_X12_test_166 uk un hR_X12_several hR_X12_test h
                    · replace h := uu_pos c40 h
                      refine uu_bipush (v := 29) dX12_test_145 (by decide) ?_
                      refine uu_goto (tgt := 166) dX12_test_147 (by decide) ?_
                      exact xb_X12_test_166 uk un hR_X12_several hR_X12_test h
                  · replace h := uu_pos c36 h
                    refine uu_bipush (v := 28) dX12_test_130 (by decide) ?_
                    refine uu_goto (tgt := 166) dX12_test_132 (by decide) ?_
                    exact xb_X12_test_166 uk un hR_X12_several hR_X12_test h
                · replace h := uu_pos c32 h
                  refine uu_bipush (v := 27) dX12_test_115 (by decide) ?_
                  refine uu_goto (tgt := 166) dX12_test_117 (by decide) ?_
                  exact xb_X12_test_166 uk un hR_X12_several hR_X12_test h
              · replace h := uu_pos c28 h
                refine uu_bipush (v := 26) dX12_test_100 (by decide) ?_
                refine uu_goto (tgt := 166) dX12_test_102 (by decide) ?_
                exact xb_X12_test_166 uk un hR_X12_several hR_X12_test h
            · replace h := uu_pos c24 h
              refine uu_bipush (v := 25) dX12_test_85 (by decide) ?_
              refine uu_goto (tgt := 166) dX12_test_87 (by decide) ?_
              exact xb_X12_test_166 uk un hR_X12_several hR_X12_test h
          · replace h := uu_pos c20 h
            refine uu_bipush (v := 24) dX12_test_70 (by decide) ?_
            refine uu_goto (tgt := 166) dX12_test_72 (by decide) ?_
            exact xb_X12_test_166 uk un hR_X12_several hR_X12_test h
        · replace h := uu_pos c16 h
          refine uu_bipush (v := 23) dX12_test_55 (by decide) ?_
          refine uu_goto (tgt := 166) dX12_test_57 (by decide) ?_
          exact xb_X12_test_166 uk un hR_X12_several hR_X12_test h
      · replace h := uu_pos c12 h
        refine uu_bipush (v := 22) dX12_test_40 (by decide) ?_
        refine uu_goto (tgt := 166) dX12_test_42 (by decide) ?_
        exact xb_X12_test_166 uk un hR_X12_several hR_X12_test h
    · replace h := uu_pos c8 h
      refine uu_bipush (v := 21) dX12_test_25 (by decide) ?_
      refine uu_goto (tgt := 166) dX12_test_27 (by decide) ?_
      exact xb_X12_test_166 uk un hR_X12_several hR_X12_test h
  · replace h := uu_pos c4 h
    refine uu_bipush (v := 20) dX12_test_10 (by decide) ?_
    refine uu_goto (tgt := 166) dX12_test_12 (by decide) ?_
    exact xb_X12_test_166 uk un hR_X12_several hR_X12_test h
def fb_X12_several_46 (R_X12_test : uS → Option (uS × Int32))   (s : uS) : Option uS := (fn_X12_take 41 s).bind fun s1 => some s1
set_option maxRecDepth 100000 in
set_option maxHeartbeats 4000000 in
theorem xb_X12_several_46 {l : Launch} {D : va_G} {A : Nat → ClassId} {B : Nat} {Z : State → Heap → Prop} {vF : Value} (uk : uK B Z vF) (un : uX A B Z) {n : Nat} {R_X12_test : uS → Option (uS × Int32)}  (hR_X12_test : ∀  (s : uS) (r : (uS × Int32)), R_X12_test  s = some r → CU l D A B Z (11 + n) mX12_test s [.ref (B + 1079)] (r.1, some (.int r.2)))   {s : uS} {r : uS}  (h : fb_X12_several_46 R_X12_test   s = some r) : GU l D A B Z mX12_several (11 + (n + 1)) (r, none) s 46 [(0, .ref (B + 1079))] [] := by
  unfold fb_X12_several_46 at h
  refine uu_aload_n dX12_several_46 rfl (List.mem_of_getElem? (i := 0) rfl) ?_
  refine uu_bipush (v := 41) dX12_several_47 (by decide) ?_
  obtain ⟨s1, e2, h⟩ := uu_ob h
  refine uu_cv (d1 := 8) (k := 1079) (ci := 12) (T := TX12) (N := 153) (As := [.int 41]) (st := []) (st' := []) (xc_X12_take uk  e2) so_1079.is (by decide) rfl kX12_take lX12_355 sX12_take (by omega) (Nat.le_of_ble_eq_true rfl) dX12_several_49 rfl ?_
  have hr := Option.some.inj h
  subst hr
  exact uu_vret rfl dX12_several_52
def fb_X12_several_8 (R_X12_test : uS → Option (uS × Int32)) (K8 : Int32 → Bool → uS → Option uS) (x1 : Int32) (b2 : Bool) (s : uS) : Option uS := if b2 = true then (if 0 ≤ (s.I 1079 40) then (fb_X12_several_46 R_X12_test s) else ((R_X12_test s).bind fun r3 => (fn_X12_put x1 r3.2 r3.1).bind fun s5 => (fn_X12_isSign 44 s5).bind fun v7 => if v7 = true then ((fn_X12_next s5).bind fun s10 => K8 x1 v7 s10) else (K8 x1 v7 s5))) else (fb_X12_several_46 R_X12_test s)
set_option maxRecDepth 100000 in
set_option maxHeartbeats 4000000 in
theorem xb_X12_several_8 {l : Launch} {D : va_G} {A : Nat → ClassId} {B : Nat} {Z : State → Heap → Prop} {vF : Value} (uk : uK B Z vF) (un : uX A B Z) {n : Nat} {R_X12_test : uS → Option (uS × Int32)} {K8 : Int32 → Bool → uS → Option uS} (hR_X12_test : ∀  (s : uS) (r : (uS × Int32)), R_X12_test  s = some r → CU l D A B Z (11 + n) mX12_test s [.ref (B + 1079)] (r.1, some (.int r.2))) (hK8 : ∀ (x1 : Int32) (b2 : Bool)  (s : uS) (r : uS), K8 x1 b2 s = some r → GU l D A B Z mX12_several (11 + (n + 1)) (r, none) s 8 [(0, .ref (B + 1079)), (1, .int x1), (2, .int (bI b2))] []) {x1 : Int32} {b2 : Bool} {s : uS} {r : uS}  (h : fb_X12_several_8 R_X12_test K8 x1 b2 s = some r) : GU l D A B Z mX12_several (11 + (n + 1)) (r, none) s 8 [(0, .ref (B + 1079)), (1, .int x1), (2, .int (bI b2))] [] := by
  unfold fb_X12_several_8 at h
  refine uu_iload_n dX12_several_8 rfl (List.mem_of_getElem? (i := 2) rfl) ?_
  refine uu_ifb_eq (tgt := 46) dX12_several_9 (by decide) (fun c1 => ?_) (fun c1 => ?_)
  · replace h := uu_neg c1 h
    refine uu_lv [0] (lv' := [(0, .ref (B + 1079))]) rfl ?_
    exact xb_X12_several_46 uk un hR_X12_test h
  · replace h := uu_pos c1 h
    refine uu_aload_n dX12_several_12 rfl (List.mem_of_getElem? (i := 0) rfl) ?_
    refine uu_geti (ci := 12) (N := 153) fX12_193 (by decide) so_1079.is (by decide) (by decide) dX12_several_13 ?_
    refine uu_if_ge (tgt := 46) dX12_several_16 (by decide) (fun c2 => ?_) (fun c2 => ?_)
    · replace h := uu_pos c2 h
      refine uu_lv [0] (lv' := [(0, .ref (B + 1079))]) rfl ?_
      exact xb_X12_several_46 uk un hR_X12_test h
    · replace h := uu_neg c2 h
      refine uu_aload_n dX12_several_19 rfl (List.mem_of_getElem? (i := 0) rfl) ?_
      refine uu_iload_n dX12_several_20 rfl (List.mem_of_getElem? (i := 1) rfl) ?_
      refine uu_aload_n dX12_several_21 rfl (List.mem_of_getElem? (i := 0) rfl) ?_
      obtain ⟨r3, e4, h⟩ := uu_ob h
      refine uu_cv (d1 := 11 + n) (k := 1079) (ci := 12) (T := TX12) (N := 153) (As := []) (st := [.int x1, .ref (B + 1079)]) (st' := [.int r3.2, .int x1, .ref (B + 1079)]) (hR_X12_test  _ _ e4) so_1079.is (by decide) rfl kX12_test lX12_448 sX12_test (by omega) (Nat.le_of_ble_eq_true rfl) dX12_several_22 rfl ?_
      obtain ⟨s5, e6, h⟩ := uu_ob h
      refine uu_cv (d1 := 0) (k := 1079) (ci := 12) (T := TX12) (N := 153) (As := [.int x1, .int r3.2]) (st := []) (st' := []) (xc_X12_put uk  e6) so_1079.is (by decide) rfl kX12_put lX12_403 sX12_put (by omega) (Nat.le_of_ble_eq_true rfl) dX12_several_25 rfl ?_
      refine uu_aload_n dX12_several_28 rfl (List.mem_of_getElem? (i := 0) rfl) ?_
      refine uu_bipush (v := 44) dX12_several_29 (by decide) ?_
      obtain ⟨v7, e8, h⟩ := uu_ob h
      refine uu_cv (d1 := 1) (k := 1079) (ci := 12) (T := TX12) (N := 153) (As := [.int 44]) (st := []) (st' := [.int (bI v7)]) (xc_X12_isSign uk  e8) so_1079.is (by decide) rfl kX12_isSign lX12_276 sX12_isSign (by omega) (Nat.le_of_ble_eq_true rfl) dX12_several_31 rfl ?_
      refine uu_istore_n dX12_several_34 rfl (by decide) rfl ?_
      refine uu_iload_n dX12_several_35 rfl (List.mem_of_getElem? (i := 0) rfl) ?_
      refine uu_ifb_eq (tgt := 8) dX12_several_36 (by decide) (fun c9 => ?_) (fun c9 => ?_)
      · replace h := uu_neg c9 h
        refine uu_lv [1, 2, 0] (lv' := [(0, .ref (B + 1079)), (1, .int x1), (2, .int (bI v7))]) rfl ?_
        exact hK8 x1 v7 _ _ h
      · replace h := uu_pos c9 h
        refine uu_aload_n dX12_several_39 rfl (List.mem_of_getElem? (i := 1) rfl) ?_
        obtain ⟨s10, e11, h⟩ := uu_ob h
        refine uu_cv (d1 := 7) (k := 1079) (ci := 12) (T := TX12) (N := 153) (As := []) (st := []) (st' := []) (xc_X12_next uk  e11) so_1079.is (by decide) rfl kX12_next lX12_279 sX12_next (by omega) (Nat.le_of_ble_eq_true rfl) dX12_several_40 rfl ?_
        refine uu_goto (tgt := 8) dX12_several_43 (by decide) ?_
        refine uu_lv [1, 2, 0] (lv' := [(0, .ref (B + 1079)), (1, .int x1), (2, .int (bI v7))]) rfl ?_
        exact hK8 x1 v7 _ _ h
def fn_X12_several_8 (R_X12_test : uS → Option (uS × Int32))  : Nat → Int32 → Bool → uS → Option uS
  | 0 => fun _ _ _ => none
  | t + 1 => fb_X12_several_8 R_X12_test (fn_X12_several_8 R_X12_test  t)
set_option maxRecDepth 100000 in
set_option maxHeartbeats 4000000 in
theorem xn_X12_several_8 {l : Launch} {D : va_G} {A : Nat → ClassId} {B : Nat} {Z : State → Heap → Prop} {vF : Value} (uk : uK B Z vF) (un : uX A B Z) {n : Nat} {R_X12_test : uS → Option (uS × Int32)}  (hR_X12_test : ∀  (s : uS) (r : (uS × Int32)), R_X12_test  s = some r → CU l D A B Z (11 + n) mX12_test s [.ref (B + 1079)] (r.1, some (.int r.2)))  : ∀ (t : Nat) (x1 : Int32) (b2 : Bool)  (s : uS) (r : uS), fn_X12_several_8 R_X12_test  t x1 b2 s = some r → GU l D A B Z mX12_several (11 + (n + 1)) (r, none) s 8 [(0, .ref (B + 1079)), (1, .int x1), (2, .int (bI b2))] [] := by
  intro t
  induction t with
  | zero => intro x1 b2 s r h
            cases h
  | succ t ih => intro x1 b2 s r h
                 exact xb_X12_several_8 uk un hR_X12_test ih  h
def fn_X12_several (R_X12_test : uS → Option (uS × Int32)) (x1 : Int32) (s : uS) : Option uS := (fn_X12_take 40 s).bind fun s1 => fn_X12_several_8 R_X12_test uFu x1 true s1
set_option maxRecDepth 100000 in
set_option maxHeartbeats 4000000 in
theorem xc_X12_several {l : Launch} {D : va_G} {A : Nat → ClassId} {B : Nat} {Z : State → Heap → Prop} {vF : Value} (uk : uK B Z vF) (un : uX A B Z) {n : Nat} {R_X12_test : uS → Option (uS × Int32)} (hR_X12_test : ∀  (s : uS) (r : (uS × Int32)), R_X12_test  s = some r → CU l D A B Z (11 + n) mX12_test s [.ref (B + 1079)] (r.1, some (.int r.2))) {x1 : Int32} {s : uS} {r : uS}  (h : fn_X12_several R_X12_test x1 s = some r) : CU l D A B Z (11 + (n + 1)) mX12_several s [.ref (B + 1079), .int x1] (r, none) := by
  unfold fn_X12_several at h
  refine cu_of rfl uk.1.1 (Nat.le_of_ble_eq_true rfl) ?_
  show GU _ _ _ _ _ _ _ _ _ 0 [(0, .ref (B + 1079)), (1, .int x1)] []
  refine uu_aload_n dX12_several_0 rfl (List.mem_of_getElem? (i := 0) rfl) ?_
  refine uu_bipush (v := 40) dX12_several_1 (by decide) ?_
  obtain ⟨s1, e2, h⟩ := uu_ob h
  refine uu_cv (d1 := 8) (k := 1079) (ci := 12) (T := TX12) (N := 153) (As := [.int 40]) (st := []) (st' := []) (xc_X12_take uk  e2) so_1079.is (by decide) rfl kX12_take lX12_355 sX12_take (by omega) (Nat.le_of_ble_eq_true rfl) dX12_several_3 rfl ?_
  refine uu_iconst (v := 1) dX12_several_6 (by decide) ?_
  refine uu_istore_n dX12_several_7 rfl (by decide) rfl ?_
  refine uu_lv [1, 2, 0] (lv' := [(0, .ref (B + 1079)), (1, .int x1), (2, .int 1)]) rfl ?_
  exact xn_X12_several_8 uk un hR_X12_test _ _ _ _ _ h
def fb_X12_commands_0 (R_X12_command : uS → Option (uS × Int32)) (K0 : Int32 → uS → Option uS) (x1 : Int32) (s : uS) : Option uS := (fn_X12_is 1 s).bind fun v1 => if v1 = true then ((R_X12_command s).bind fun r4 => (fn_X12_put x1 r4.2 r4.1).bind fun s6 => K0 x1 s6) else (some s)
set_option maxRecDepth 100000 in
set_option maxHeartbeats 4000000 in
theorem xb_X12_commands_0 {l : Launch} {D : va_G} {A : Nat → ClassId} {B : Nat} {Z : State → Heap → Prop} {vF : Value} (uk : uK B Z vF) (un : uX A B Z) {n : Nat} {R_X12_command : uS → Option (uS × Int32)} {K0 : Int32 → uS → Option uS} (hR_X12_command : ∀  (s : uS) (r : (uS × Int32)), R_X12_command  s = some r → CU l D A B Z (11 + n) mX12_command s [.ref (B + 1079)] (r.1, some (.int r.2))) (hK0 : ∀ (x1 : Int32)  (s : uS) (r : uS), K0 x1 s = some r → GU l D A B Z mX12_commands (11 + (n + 1)) (r, none) s 0 [(0, .ref (B + 1079)), (1, .int x1)] []) {x1 : Int32} {s : uS} {r : uS}  (h : fb_X12_commands_0 R_X12_command K0 x1 s = some r) : GU l D A B Z mX12_commands (11 + (n + 1)) (r, none) s 0 [(0, .ref (B + 1079)), (1, .int x1)] [] := by
  unfold fb_X12_commands_0 at h
  refine uu_aload_n dX12_commands_0 rfl (List.mem_of_getElem? (i := 0) rfl) ?_
  refine uu_iconst (v := 1) dX12_commands_1 (by decide) ?_
  obtain ⟨v1, e2, h⟩ := uu_ob h
  refine uu_cv (d1 := 0) (k := 1079) (ci := 12) (T := TX12) (N := 153) (As := [.int 1]) (st := []) (st' := [.int (bI v1)]) (xc_X12_is uk  e2) so_1079.is (by decide) rfl kX12_is lX12_273 sX12_is (by omega) (Nat.le_of_ble_eq_true rfl) dX12_commands_2 rfl ?_
  refine uu_ifb_eq (tgt := 20) dX12_commands_5 (by decide) (fun c3 => ?_) (fun c3 => ?_)
  · replace h := uu_neg c3 h
    have hr := Option.some.inj h
    subst hr
    exact uu_vret rfl dX12_commands_20
  · replace h := uu_pos c3 h
    refine uu_aload_n dX12_commands_8 rfl (List.mem_of_getElem? (i := 0) rfl) ?_
    refine uu_iload_n dX12_commands_9 rfl (List.mem_of_getElem? (i := 1) rfl) ?_
    refine uu_aload_n dX12_commands_10 rfl (List.mem_of_getElem? (i := 0) rfl) ?_
    obtain ⟨r4, e5, h⟩ := uu_ob h
    refine uu_cv (d1 := 11 + n) (k := 1079) (ci := 12) (T := TX12) (N := 153) (As := []) (st := [.int x1, .ref (B + 1079)]) (st' := [.int r4.2, .int x1, .ref (B + 1079)]) (hR_X12_command  _ _ e5) so_1079.is (by decide) rfl kX12_command lX12_400 sX12_command (by omega) (Nat.le_of_ble_eq_true rfl) dX12_commands_11 rfl ?_
    obtain ⟨s6, e7, h⟩ := uu_ob h
    refine uu_cv (d1 := 0) (k := 1079) (ci := 12) (T := TX12) (N := 153) (As := [.int x1, .int r4.2]) (st := []) (st' := []) (xc_X12_put uk  e7) so_1079.is (by decide) rfl kX12_put lX12_403 sX12_put (by omega) (Nat.le_of_ble_eq_true rfl) dX12_commands_14 rfl ?_
    refine uu_goto (tgt := 0) dX12_commands_17 (by decide) ?_
    exact hK0 x1 _ _ h
def fn_X12_commands_0 (R_X12_command : uS → Option (uS × Int32))  : Nat → Int32 → uS → Option uS
  | 0 => fun _ _ => none
  | t + 1 => fb_X12_commands_0 R_X12_command (fn_X12_commands_0 R_X12_command  t)
set_option maxRecDepth 100000 in
set_option maxHeartbeats 4000000 in
theorem xn_X12_commands_0 {l : Launch} {D : va_G} {A : Nat → ClassId} {B : Nat} {Z : State → Heap → Prop} {vF : Value} (uk : uK B Z vF) (un : uX A B Z) {n : Nat} {R_X12_command : uS → Option (uS × Int32)}  (hR_X12_command : ∀  (s : uS) (r : (uS × Int32)), R_X12_command  s = some r → CU l D A B Z (11 + n) mX12_command s [.ref (B + 1079)] (r.1, some (.int r.2)))  : ∀ (t : Nat) (x1 : Int32)  (s : uS) (r : uS), fn_X12_commands_0 R_X12_command  t x1 s = some r → GU l D A B Z mX12_commands (11 + (n + 1)) (r, none) s 0 [(0, .ref (B + 1079)), (1, .int x1)] [] := by
  intro t
  induction t with
  | zero => intro x1 s r h
            cases h
  | succ t ih => intro x1 s r h
                 exact xb_X12_commands_0 uk un hR_X12_command ih  h
def fn_X12_commands (R_X12_command : uS → Option (uS × Int32)) (x1 : Int32) (s : uS) : Option uS := fn_X12_commands_0 R_X12_command uFu x1 s
set_option maxRecDepth 100000 in
set_option maxHeartbeats 4000000 in
theorem xc_X12_commands {l : Launch} {D : va_G} {A : Nat → ClassId} {B : Nat} {Z : State → Heap → Prop} {vF : Value} (uk : uK B Z vF) (un : uX A B Z) {n : Nat} {R_X12_command : uS → Option (uS × Int32)} (hR_X12_command : ∀  (s : uS) (r : (uS × Int32)), R_X12_command  s = some r → CU l D A B Z (11 + n) mX12_command s [.ref (B + 1079)] (r.1, some (.int r.2))) {x1 : Int32} {s : uS} {r : uS}  (h : fn_X12_commands R_X12_command x1 s = some r) : CU l D A B Z (11 + (n + 1)) mX12_commands s [.ref (B + 1079), .int x1] (r, none) := by
  unfold fn_X12_commands at h
  refine cu_of rfl uk.1.1 (Nat.le_of_ble_eq_true rfl) ?_
  show GU _ _ _ _ _ _ _ _ _ 0 [(0, .ref (B + 1079)), (1, .int x1)] []
  exact xn_X12_commands_0 uk un hR_X12_command _ _ _ _ h
def fb_X12_block_42 (R_X12_commands : Int32 → uS → Option uS)  (x1 : Int32) (s : uS) : Option (uS × Int32) := (fn_X12_take 123 s).bind fun s1 => (R_X12_commands x1 s1).bind fun s3 => (fn_X12_take 125 s3).bind fun s5 => some (wI s5 1079 65 ((s5.I 1079 65) - 1), x1)
set_option maxRecDepth 100000 in
set_option maxHeartbeats 4000000 in
theorem xb_X12_block_42 {l : Launch} {D : va_G} {A : Nat → ClassId} {B : Nat} {Z : State → Heap → Prop} {vF : Value} (uk : uK B Z vF) (un : uX A B Z) {n : Nat} {R_X12_commands : Int32 → uS → Option uS}  (hR_X12_commands : ∀ (x1 : Int32) (s : uS) (r : uS), R_X12_commands x1 s = some r → CU l D A B Z (11 + n) mX12_commands s [.ref (B + 1079), .int x1] (r, none))  {x1 : Int32} {s : uS} {r : (uS × Int32)}  (h : fb_X12_block_42 R_X12_commands  x1 s = some r) : GU l D A B Z mX12_block (11 + (n + 1)) (r.1, some (.int r.2)) s 42 [(0, .ref (B + 1079)), (1, .int x1)] [] := by
  unfold fb_X12_block_42 at h
  refine uu_aload_n dX12_block_42 rfl (List.mem_of_getElem? (i := 0) rfl) ?_
  refine uu_bipush (v := 123) dX12_block_43 (by decide) ?_
  obtain ⟨s1, e2, h⟩ := uu_ob h
  refine uu_cv (d1 := 8) (k := 1079) (ci := 12) (T := TX12) (N := 153) (As := [.int 123]) (st := []) (st' := []) (xc_X12_take uk  e2) so_1079.is (by decide) rfl kX12_take lX12_355 sX12_take (by omega) (Nat.le_of_ble_eq_true rfl) dX12_block_45 rfl ?_
  refine uu_aload_n dX12_block_48 rfl (List.mem_of_getElem? (i := 0) rfl) ?_
  refine uu_iload_n dX12_block_49 rfl (List.mem_of_getElem? (i := 1) rfl) ?_
  obtain ⟨s3, e4, h⟩ := uu_ob h
  refine uu_cv (d1 := 11 + n) (k := 1079) (ci := 12) (T := TX12) (N := 153) (As := [.int x1]) (st := []) (st' := []) (hR_X12_commands _ _ _ e4) so_1079.is (by decide) rfl kX12_commands lX12_375 sX12_commands (by omega) (Nat.le_of_ble_eq_true rfl) dX12_block_50 rfl ?_
  refine uu_aload_n dX12_block_53 rfl (List.mem_of_getElem? (i := 0) rfl) ?_
  refine uu_bipush (v := 125) dX12_block_54 (by decide) ?_
  obtain ⟨s5, e6, h⟩ := uu_ob h
  refine uu_cv (d1 := 8) (k := 1079) (ci := 12) (T := TX12) (N := 153) (As := [.int 125]) (st := []) (st' := []) (xc_X12_take uk  e6) so_1079.is (by decide) rfl kX12_take lX12_355 sX12_take (by omega) (Nat.le_of_ble_eq_true rfl) dX12_block_56 rfl ?_
  refine uu_aload_n dX12_block_59 rfl (List.mem_of_getElem? (i := 0) rfl) ?_
  refine uu_aload_n dX12_block_60 rfl (List.mem_of_getElem? (i := 0) rfl) ?_
  refine uu_geti (ci := 12) (N := 153) fX12_358 (by decide) so_1079.is (by decide) (by decide) dX12_block_61 ?_
  refine uu_iconst (v := 1) dX12_block_64 (by decide) ?_
  refine uu_isub dX12_block_65 ?_
  refine uu_puti (ft := .int) (ci := 12) (N := 153) fX12_358 ptX12 (Or.inl rfl) (by decide) so_1079.is (by decide) (by decide) (by decide +kernel) rfl rfl dX12_block_66 ?_
  refine uu_iload_n dX12_block_69 rfl (List.mem_of_getElem? (i := 1) rfl) ?_
  have hr := Option.some.inj h
  subst hr
  exact uu_iret rfl dX12_block_70
def fn_X12_block (R_X12_commands : Int32 → uS → Option uS)  (s : uS) : Option (uS × Int32) := (fn_X12_node 1 s).bind fun r1 => (fn_X12_isSign 123 (wI r1.1 1079 65 ((r1.1.I 1079 65) + 1))).bind fun v3 => if v3 = true then (if ((wI r1.1 1079 65 ((r1.1.I 1079 65) + 1)).I 1079 65) ≤ 8 then (fb_X12_block_42 R_X12_commands r1.2 (wI r1.1 1079 65 ((r1.1.I 1079 65) + 1))) else ((fn_X12_fail ((wI r1.1 1079 65 ((r1.1.I 1079 65) + 1)).I 1079 32) (wI r1.1 1079 65 ((r1.1.I 1079 65) + 1))).bind fun s7 => fb_X12_block_42 R_X12_commands r1.2 s7)) else (fb_X12_block_42 R_X12_commands r1.2 (wI r1.1 1079 65 ((r1.1.I 1079 65) + 1)))
set_option maxRecDepth 100000 in
set_option maxHeartbeats 4000000 in
theorem xc_X12_block {l : Launch} {D : va_G} {A : Nat → ClassId} {B : Nat} {Z : State → Heap → Prop} {vF : Value} (uk : uK B Z vF) (un : uX A B Z) {n : Nat} {R_X12_commands : Int32 → uS → Option uS} (hR_X12_commands : ∀ (x1 : Int32) (s : uS) (r : uS), R_X12_commands x1 s = some r → CU l D A B Z (11 + n) mX12_commands s [.ref (B + 1079), .int x1] (r, none))  {s : uS} {r : (uS × Int32)}  (h : fn_X12_block R_X12_commands  s = some r) : CU l D A B Z (11 + (n + 1)) mX12_block s [.ref (B + 1079)] (r.1, some (.int r.2)) := by
  unfold fn_X12_block at h
  refine cu_of rfl uk.1.1 (Nat.le_of_ble_eq_true rfl) ?_
  show GU _ _ _ _ _ _ _ _ _ 0 [(0, .ref (B + 1079))] []
  refine uu_aload_n dX12_block_0 rfl (List.mem_of_getElem? (i := 0) rfl) ?_
  refine uu_iconst (v := 1) dX12_block_1 (by decide) ?_
  obtain ⟨r1, e2, h⟩ := uu_ob h
  refine uu_cv (d1 := 0) (k := 1079) (ci := 12) (T := TX12) (N := 153) (As := [.int 1]) (st := []) (st' := [.int r1.2]) (xc_X12_node uk  e2) so_1079.is (by decide) rfl kX12_node lX12_334 sX12_node (by omega) (Nat.le_of_ble_eq_true rfl) dX12_block_2 rfl ?_
  refine uu_istore_n dX12_block_5 rfl (by decide) rfl ?_
  refine uu_aload_n dX12_block_6 rfl (List.mem_of_getElem? (i := 1) rfl) ?_
  refine uu_aload_n dX12_block_7 rfl (List.mem_of_getElem? (i := 1) rfl) ?_
  refine uu_geti (ci := 12) (N := 153) fX12_358 (by decide) so_1079.is (by decide) (by decide) dX12_block_8 ?_
  refine uu_iconst (v := 1) dX12_block_11 (by decide) ?_
  refine uu_iadd dX12_block_12 ?_
  refine uu_puti (ft := .int) (ci := 12) (N := 153) fX12_358 ptX12 (Or.inl rfl) (by decide) so_1079.is (by decide) (by decide) (by decide +kernel) rfl rfl dX12_block_13 ?_
  refine uu_aload_n dX12_block_16 rfl (List.mem_of_getElem? (i := 1) rfl) ?_
  refine uu_bipush (v := 123) dX12_block_17 (by decide) ?_
  obtain ⟨v3, e4, h⟩ := uu_ob h
  refine uu_cv (d1 := 1) (k := 1079) (ci := 12) (T := TX12) (N := 153) (As := [.int 123]) (st := []) (st' := [.int (bI v3)]) (xc_X12_isSign uk  e4) so_1079.is (by decide) rfl kX12_isSign lX12_276 sX12_isSign (by omega) (Nat.le_of_ble_eq_true rfl) dX12_block_19 rfl ?_
  refine uu_ifb_eq (tgt := 42) dX12_block_22 (by decide) (fun c5 => ?_) (fun c5 => ?_)
  · replace h := uu_neg c5 h
    refine uu_lv [1, 0] (lv' := [(0, .ref (B + 1079)), (1, .int r1.2)]) rfl ?_
    exact xb_X12_block_42 uk un hR_X12_commands h
  · replace h := uu_pos c5 h
    refine uu_aload_n dX12_block_25 rfl (List.mem_of_getElem? (i := 1) rfl) ?_
    refine uu_geti (ci := 12) (N := 153) fX12_358 (by decide) so_1079.is (by decide) (by decide) dX12_block_26 ?_
    refine uu_bipush (v := 8) dX12_block_29 (by decide) ?_
    refine uu_icmp_le (tgt := 42) dX12_block_31 (by decide) (fun c6 => ?_) (fun c6 => ?_)
    · replace h := uu_pos c6 h
      refine uu_lv [1, 0] (lv' := [(0, .ref (B + 1079)), (1, .int r1.2)]) rfl ?_
      exact xb_X12_block_42 uk un hR_X12_commands h
    · replace h := uu_neg c6 h
      refine uu_aload_n dX12_block_34 rfl (List.mem_of_getElem? (i := 1) rfl) ?_
      refine uu_aload_n dX12_block_35 rfl (List.mem_of_getElem? (i := 1) rfl) ?_
      refine uu_geti (ci := 12) (N := 153) fX12_199 (by decide) so_1079.is (by decide) (by decide) dX12_block_36 ?_
      obtain ⟨s7, e8, h⟩ := uu_ob h
      refine uu_cv (d1 := 0) (k := 1079) (ci := 12) (T := TX12) (N := 153) (As := [.int ((wI r1.1 1079 65 ((r1.1.I 1079 65) + 1)).I 1079 32)]) (st := []) (st' := []) (xc_X12_fail uk  e8) so_1079.is (by decide) rfl kX12_fail lX12_208 sX12_fail (by omega) (Nat.le_of_ble_eq_true rfl) dX12_block_39 rfl ?_
      refine uu_lv [1, 0] (lv' := [(0, .ref (B + 1079)), (1, .int r1.2)]) rfl ?_
      exact xb_X12_block_42 uk un hR_X12_commands h
def fb_X12_command_389 (R_X12_choice : uS → Option (uS × Int32))  (x1 : Int32) (s : uS) : Option (uS × Int32) := (fn_X12_take 59 s).bind fun s1 => some (s1, x1)
set_option maxRecDepth 100000 in
set_option maxHeartbeats 4000000 in
theorem xb_X12_command_389 {l : Launch} {D : va_G} {A : Nat → ClassId} {B : Nat} {Z : State → Heap → Prop} {vF : Value} (uk : uK B Z vF) (un : uX A B Z) {n : Nat} {R_X12_choice : uS → Option (uS × Int32)}  (hR_X12_choice : ∀  (s : uS) (r : (uS × Int32)), R_X12_choice  s = some r → CU l D A B Z (11 + n) mX12_choice s [.ref (B + 1079)] (r.1, some (.int r.2)))  {x1 : Int32} {s : uS} {r : (uS × Int32)}  (h : fb_X12_command_389 R_X12_choice  x1 s = some r) : GU l D A B Z mX12_command (11 + (n + 1)) (r.1, some (.int r.2)) s 389 [(0, .ref (B + 1079)), (1, .int x1)] [] := by
  unfold fb_X12_command_389 at h
  refine uu_aload_n dX12_command_389 rfl (List.mem_of_getElem? (i := 0) rfl) ?_
  refine uu_bipush (v := 59) dX12_command_390 (by decide) ?_
  obtain ⟨s1, e2, h⟩ := uu_ob h
  refine uu_cv (d1 := 8) (k := 1079) (ci := 12) (T := TX12) (N := 153) (As := [.int 59]) (st := []) (st' := []) (xc_X12_take uk  e2) so_1079.is (by decide) rfl kX12_take lX12_355 sX12_take (by omega) (Nat.le_of_ble_eq_true rfl) dX12_command_392 rfl ?_
  refine uu_iload_n dX12_command_395 rfl (List.mem_of_getElem? (i := 1) rfl) ?_
  have hr := Option.some.inj h
  subst hr
  exact uu_iret rfl dX12_command_396
def fb_X12_command_378 (R_X12_choice : uS → Option (uS × Int32))  (x1 : Int32) (xs0 : Int32) (s : uS) : Option (uS × Int32) := (fn_X12_fail ((wI s 1079 40 xs0).I 1079 32) (wI s 1079 40 xs0)).bind fun s1 => fb_X12_command_389 R_X12_choice x1 s1
set_option maxRecDepth 100000 in
set_option maxHeartbeats 4000000 in
theorem xb_X12_command_378 {l : Launch} {D : va_G} {A : Nat → ClassId} {B : Nat} {Z : State → Heap → Prop} {vF : Value} (uk : uK B Z vF) (un : uX A B Z) {n : Nat} {R_X12_choice : uS → Option (uS × Int32)}  (hR_X12_choice : ∀  (s : uS) (r : (uS × Int32)), R_X12_choice  s = some r → CU l D A B Z (11 + n) mX12_choice s [.ref (B + 1079)] (r.1, some (.int r.2)))  {x1 : Int32} {xs0 : Int32} {s : uS} {r : (uS × Int32)}  (h : fb_X12_command_378 R_X12_choice  x1 xs0 s = some r) : GU l D A B Z mX12_command (11 + (n + 1)) (r.1, some (.int r.2)) s 378 [(0, .ref (B + 1079)), (1, .int x1)] [.int xs0, .ref (B + 1079)] := by
  unfold fb_X12_command_378 at h
  refine uu_puti (ft := .int) (ci := 12) (N := 153) fX12_193 ptX12 (Or.inl rfl) (by decide) so_1079.is (by decide) (by decide) (by decide +kernel) rfl rfl dX12_command_378 ?_
  refine uu_aload_n dX12_command_381 rfl (List.mem_of_getElem? (i := 0) rfl) ?_
  refine uu_aload_n dX12_command_382 rfl (List.mem_of_getElem? (i := 0) rfl) ?_
  refine uu_geti (ci := 12) (N := 153) fX12_199 (by decide) so_1079.is (by decide) (by decide) dX12_command_383 ?_
  obtain ⟨s1, e2, h⟩ := uu_ob h
  refine uu_cv (d1 := 0) (k := 1079) (ci := 12) (T := TX12) (N := 153) (As := [.int ((wI s 1079 40 xs0).I 1079 32)]) (st := []) (st' := []) (xc_X12_fail uk  e2) so_1079.is (by decide) rfl kX12_fail lX12_208 sX12_fail (by omega) (Nat.le_of_ble_eq_true rfl) dX12_command_386 rfl ?_
  exact xb_X12_command_389 uk un hR_X12_choice h
def fb_X12_command_163 (R_X12_choice : uS → Option (uS × Int32))  (xs0 : Int32) (s : uS) : Option (uS × Int32) := (fn_X12_counting xs0 s).bind fun r1 => (iget 20 r1.1 1098 r1.2).bind fun v3 => if v3 = 2 then ((fn_X12_next r1.1).bind fun s5 => fb_X12_command_389 R_X12_choice r1.2 s5) else (if v3 = 3 then ((fn_X12_next r1.1).bind fun s7 => fb_X12_command_389 R_X12_choice r1.2 s7) else (if v3 = 4 then ((fn_X12_next r1.1).bind fun s9 => (fn_X12_tags r1.2 s9).bind fun s11 => fb_X12_command_389 R_X12_choice r1.2 s11) else (if v3 = 5 then ((fn_X12_needs 1 r1.1).bind fun s13 => (fn_X12_next s13).bind fun s15 => (fn_X12_tags r1.2 s15).bind fun s17 => (fn_X12_file r1.2 s17).bind fun s19 => fb_X12_command_389 R_X12_choice r1.2 s19) else (if v3 = 6 then ((fn_X12_next r1.1).bind fun s21 => (fn_X12_tags r1.2 s21).bind fun s23 => (fn_X12_redirect r1.2 s23).bind fun s25 => fb_X12_command_389 R_X12_choice r1.2 s25) else (if v3 = 7 then ((fn_X12_needs 2 r1.1).bind fun s27 => (fn_X12_next s27).bind fun s29 => (fn_X12_taken s29).bind fun r31 => (iput 20 r31.1 1102 r1.2 r31.2).bind fun s33 => fb_X12_command_389 R_X12_choice r1.2 s33) else (if v3 = 8 then ((fn_X12_needs 16 r1.1).bind fun s35 => (fn_X12_next s35).bind fun s37 => (iput 20 s37 1102 r1.2 (s37.I 1079 61)).bind fun s39 => (fn_X12_list s39).bind fun r41 => (iput 20 r41.1 1103 r1.2 r41.2).bind fun s43 => fb_X12_command_389 R_X12_choice r1.2 s43) else (if v3 = 9 then ((fn_X12_needs 16 r1.1).bind fun s45 => (fn_X12_next s45).bind fun s47 => (iput 20 s47 1102 r1.2 (s47.I 1079 61)).bind fun s49 => (fn_X12_list s49).bind fun r51 => (iput 20 r51.1 1103 r1.2 r51.2).bind fun s53 => fb_X12_command_389 R_X12_choice r1.2 s53) else (if v3 = 10 then ((fn_X12_needs 16 r1.1).bind fun s55 => (fn_X12_next s55).bind fun s57 => (iput 20 s57 1102 r1.2 (s57.I 1079 61)).bind fun s59 => (fn_X12_list s59).bind fun r61 => (iput 20 r61.1 1103 r1.2 r61.2).bind fun s63 => fb_X12_command_389 R_X12_choice r1.2 s63) else (if v3 = 11 then ((fn_X12_needs 64 r1.1).bind fun s65 => (fn_X12_next s65).bind fun s67 => (fn_X12_absence r1.2 s67).bind fun s69 => fb_X12_command_389 R_X12_choice r1.2 s69) else (if 0 ≤ (r1.1.I 1079 40) then (fb_X12_command_378 R_X12_choice r1.2 (r1.1.I 1079 40) r1.1) else (fb_X12_command_378 R_X12_choice r1.2 (r1.1.I 1079 32) r1.1)))))))))))
set_option maxRecDepth 100000 in
set_option maxHeartbeats 4000000 in
theorem xb_X12_command_163 {l : Launch} {D : va_G} {A : Nat → ClassId} {B : Nat} {Z : State → Heap → Prop} {vF : Value} (uk : uK B Z vF) (un : uX A B Z) {n : Nat} {R_X12_choice : uS → Option (uS × Int32)}  (hR_X12_choice : ∀  (s : uS) (r : (uS × Int32)), R_X12_choice  s = some r → CU l D A B Z (11 + n) mX12_choice s [.ref (B + 1079)] (r.1, some (.int r.2)))  {xs0 : Int32} {s : uS} {r : (uS × Int32)}  (h : fb_X12_command_163 R_X12_choice  xs0 s = some r) : GU l D A B Z mX12_command (11 + (n + 1)) (r.1, some (.int r.2)) s 163 [(0, .ref (B + 1079))] [.int xs0, .ref (B + 1079)] := by
  unfold fb_X12_command_163 at h
  obtain ⟨r1, e2, h⟩ := uu_ob h
  refine uu_cv (d1 := 1) (k := 1079) (ci := 12) (T := TX12) (N := 153) (As := [.int xs0]) (st := []) (st' := [.int r1.2]) (xc_X12_counting uk  e2) so_1079.is (by decide) rfl kX12_counting lX12_425 sX12_counting (by omega) (Nat.le_of_ble_eq_true rfl) dX12_command_163 rfl ?_
  refine uu_istore_n dX12_command_166 rfl (by decide) rfl ?_
  refine uu_aload_n dX12_command_167 rfl (List.mem_of_getElem? (i := 1) rfl) ?_
  refine uu_geta (ci := 12) (N := 153) fX12_285 (by decide) so_1079.is (by decide) (c := 1098) (by decide) dX12_command_168 ?_
  refine uu_iload_n dX12_command_171 rfl (List.mem_of_getElem? (i := 0) rfl) ?_
  obtain ⟨v3, e4, h⟩ := uu_ob h
  refine uu_iald e4 dX12_command_172 ?_
  by_cases c173_0 : v3 = 2
  · replace h := uu_pos c173_0 h
    refine uu_tabE (tgt := 228) (off := 55) (v := 2) dX12_command_173 c173_0 (by decide) (by decide) rfl (by decide) ?_
    refine uu_aload_n dX12_command_228 rfl (List.mem_of_getElem? (i := 1) rfl) ?_
    obtain ⟨s5, e6, h⟩ := uu_ob h
    refine uu_cv (d1 := 7) (k := 1079) (ci := 12) (T := TX12) (N := 153) (As := []) (st := []) (st' := []) (xc_X12_next uk  e6) so_1079.is (by decide) rfl kX12_next lX12_279 sX12_next (by omega) (Nat.le_of_ble_eq_true rfl) dX12_command_229 rfl ?_
    refine uu_goto (tgt := 389) dX12_command_232 (by decide) ?_
    refine uu_lv [1, 0] (lv' := [(0, .ref (B + 1079)), (1, .int r1.2)]) rfl ?_
    exact xb_X12_command_389 uk un hR_X12_choice h
  replace h := uu_neg c173_0 h
  by_cases c173_1 : v3 = 3
  · replace h := uu_pos c173_1 h
    refine uu_tabE (tgt := 228) (off := 55) (v := 3) dX12_command_173 c173_1 (by decide) (by decide) rfl (by decide) ?_
    refine uu_aload_n dX12_command_228 rfl (List.mem_of_getElem? (i := 1) rfl) ?_
    obtain ⟨s7, e8, h⟩ := uu_ob h
    refine uu_cv (d1 := 7) (k := 1079) (ci := 12) (T := TX12) (N := 153) (As := []) (st := []) (st' := []) (xc_X12_next uk  e8) so_1079.is (by decide) rfl kX12_next lX12_279 sX12_next (by omega) (Nat.le_of_ble_eq_true rfl) dX12_command_229 rfl ?_
    refine uu_goto (tgt := 389) dX12_command_232 (by decide) ?_
    refine uu_lv [1, 0] (lv' := [(0, .ref (B + 1079)), (1, .int r1.2)]) rfl ?_
    exact xb_X12_command_389 uk un hR_X12_choice h
  replace h := uu_neg c173_1 h
  by_cases c173_2 : v3 = 4
  · replace h := uu_pos c173_2 h
    refine uu_tabE (tgt := 235) (off := 62) (v := 4) dX12_command_173 c173_2 (by decide) (by decide) rfl (by decide) ?_
    refine uu_aload_n dX12_command_235 rfl (List.mem_of_getElem? (i := 1) rfl) ?_
    obtain ⟨s9, e10, h⟩ := uu_ob h
    refine uu_cv (d1 := 7) (k := 1079) (ci := 12) (T := TX12) (N := 153) (As := []) (st := []) (st' := []) (xc_X12_next uk  e10) so_1079.is (by decide) rfl kX12_next lX12_279 sX12_next (by omega) (Nat.le_of_ble_eq_true rfl) dX12_command_236 rfl ?_
    refine uu_aload_n dX12_command_239 rfl (List.mem_of_getElem? (i := 1) rfl) ?_
    refine uu_iload_n dX12_command_240 rfl (List.mem_of_getElem? (i := 0) rfl) ?_
    obtain ⟨s11, e12, h⟩ := uu_ob h
    refine uu_cv (d1 := 10) (k := 1079) (ci := 12) (T := TX12) (N := 153) (As := [.int r1.2]) (st := []) (st' := []) (xc_X12_tags uk  e12) so_1079.is (by decide) rfl kX12_tags lX12_428 sX12_tags (by omega) (Nat.le_of_ble_eq_true rfl) dX12_command_241 rfl ?_
    refine uu_goto (tgt := 389) dX12_command_244 (by decide) ?_
    refine uu_lv [1, 0] (lv' := [(0, .ref (B + 1079)), (1, .int r1.2)]) rfl ?_
    exact xb_X12_command_389 uk un hR_X12_choice h
  replace h := uu_neg c173_2 h
  by_cases c173_3 : v3 = 5
  · replace h := uu_pos c173_3 h
    refine uu_tabE (tgt := 247) (off := 74) (v := 5) dX12_command_173 c173_3 (by decide) (by decide) rfl (by decide) ?_
    refine uu_aload_n dX12_command_247 rfl (List.mem_of_getElem? (i := 1) rfl) ?_
    refine uu_iconst (v := 1) dX12_command_248 (by decide) ?_
    obtain ⟨s13, e14, h⟩ := uu_ob h
    refine uu_cv (d1 := 1) (k := 1079) (ci := 12) (T := TX12) (N := 153) (As := [.int 1]) (st := []) (st' := []) (xc_X12_needs uk  e14) so_1079.is (by decide) rfl kX12_needs lX12_431 sX12_needs (by omega) (Nat.le_of_ble_eq_true rfl) dX12_command_249 rfl ?_
    refine uu_aload_n dX12_command_252 rfl (List.mem_of_getElem? (i := 1) rfl) ?_
    obtain ⟨s15, e16, h⟩ := uu_ob h
    refine uu_cv (d1 := 7) (k := 1079) (ci := 12) (T := TX12) (N := 153) (As := []) (st := []) (st' := []) (xc_X12_next uk  e16) so_1079.is (by decide) rfl kX12_next lX12_279 sX12_next (by omega) (Nat.le_of_ble_eq_true rfl) dX12_command_253 rfl ?_
    refine uu_aload_n dX12_command_256 rfl (List.mem_of_getElem? (i := 1) rfl) ?_
    refine uu_iload_n dX12_command_257 rfl (List.mem_of_getElem? (i := 0) rfl) ?_
    obtain ⟨s17, e18, h⟩ := uu_ob h
    refine uu_cv (d1 := 10) (k := 1079) (ci := 12) (T := TX12) (N := 153) (As := [.int r1.2]) (st := []) (st' := []) (xc_X12_tags uk  e18) so_1079.is (by decide) rfl kX12_tags lX12_428 sX12_tags (by omega) (Nat.le_of_ble_eq_true rfl) dX12_command_258 rfl ?_
    refine uu_aload_n dX12_command_261 rfl (List.mem_of_getElem? (i := 1) rfl) ?_
    refine uu_iload_n dX12_command_262 rfl (List.mem_of_getElem? (i := 0) rfl) ?_
    obtain ⟨s19, e20, h⟩ := uu_ob h
    refine uu_cv (d1 := 8) (k := 1079) (ci := 12) (T := TX12) (N := 153) (As := [.int r1.2]) (st := []) (st' := []) (xc_X12_file uk  e20) so_1079.is (by decide) rfl kX12_file lX12_434 sX12_file (by omega) (Nat.le_of_ble_eq_true rfl) dX12_command_263 rfl ?_
    refine uu_goto (tgt := 389) dX12_command_266 (by decide) ?_
    refine uu_lv [1, 0] (lv' := [(0, .ref (B + 1079)), (1, .int r1.2)]) rfl ?_
    exact xb_X12_command_389 uk un hR_X12_choice h
  replace h := uu_neg c173_3 h
  by_cases c173_4 : v3 = 6
  · replace h := uu_pos c173_4 h
    refine uu_tabE (tgt := 269) (off := 96) (v := 6) dX12_command_173 c173_4 (by decide) (by decide) rfl (by decide) ?_
    refine uu_aload_n dX12_command_269 rfl (List.mem_of_getElem? (i := 1) rfl) ?_
    obtain ⟨s21, e22, h⟩ := uu_ob h
    refine uu_cv (d1 := 7) (k := 1079) (ci := 12) (T := TX12) (N := 153) (As := []) (st := []) (st' := []) (xc_X12_next uk  e22) so_1079.is (by decide) rfl kX12_next lX12_279 sX12_next (by omega) (Nat.le_of_ble_eq_true rfl) dX12_command_270 rfl ?_
    refine uu_aload_n dX12_command_273 rfl (List.mem_of_getElem? (i := 1) rfl) ?_
    refine uu_iload_n dX12_command_274 rfl (List.mem_of_getElem? (i := 0) rfl) ?_
    obtain ⟨s23, e24, h⟩ := uu_ob h
    refine uu_cv (d1 := 10) (k := 1079) (ci := 12) (T := TX12) (N := 153) (As := [.int r1.2]) (st := []) (st' := []) (xc_X12_tags uk  e24) so_1079.is (by decide) rfl kX12_tags lX12_428 sX12_tags (by omega) (Nat.le_of_ble_eq_true rfl) dX12_command_275 rfl ?_
    refine uu_aload_n dX12_command_278 rfl (List.mem_of_getElem? (i := 1) rfl) ?_
    refine uu_iload_n dX12_command_279 rfl (List.mem_of_getElem? (i := 0) rfl) ?_
    obtain ⟨s25, e26, h⟩ := uu_ob h
    refine uu_cv (d1 := 8) (k := 1079) (ci := 12) (T := TX12) (N := 153) (As := [.int r1.2]) (st := []) (st' := []) (xc_X12_redirect uk  e26) so_1079.is (by decide) rfl kX12_redirect lX12_437 sX12_redirect (by omega) (Nat.le_of_ble_eq_true rfl) dX12_command_280 rfl ?_
    refine uu_goto (tgt := 389) dX12_command_283 (by decide) ?_
    refine uu_lv [1, 0] (lv' := [(0, .ref (B + 1079)), (1, .int r1.2)]) rfl ?_
    exact xb_X12_command_389 uk un hR_X12_choice h
  replace h := uu_neg c173_4 h
  by_cases c173_5 : v3 = 7
  · replace h := uu_pos c173_5 h
    refine uu_tabE (tgt := 286) (off := 113) (v := 7) dX12_command_173 c173_5 (by decide) (by decide) rfl (by decide) ?_
    refine uu_aload_n dX12_command_286 rfl (List.mem_of_getElem? (i := 1) rfl) ?_
    refine uu_iconst (v := 2) dX12_command_287 (by decide) ?_
    obtain ⟨s27, e28, h⟩ := uu_ob h
    refine uu_cv (d1 := 1) (k := 1079) (ci := 12) (T := TX12) (N := 153) (As := [.int 2]) (st := []) (st' := []) (xc_X12_needs uk  e28) so_1079.is (by decide) rfl kX12_needs lX12_431 sX12_needs (by omega) (Nat.le_of_ble_eq_true rfl) dX12_command_288 rfl ?_
    refine uu_aload_n dX12_command_291 rfl (List.mem_of_getElem? (i := 1) rfl) ?_
    obtain ⟨s29, e30, h⟩ := uu_ob h
    refine uu_cv (d1 := 7) (k := 1079) (ci := 12) (T := TX12) (N := 153) (As := []) (st := []) (st' := []) (xc_X12_next uk  e30) so_1079.is (by decide) rfl kX12_next lX12_279 sX12_next (by omega) (Nat.le_of_ble_eq_true rfl) dX12_command_292 rfl ?_
    refine uu_aload_n dX12_command_295 rfl (List.mem_of_getElem? (i := 1) rfl) ?_
    refine uu_geta (ci := 12) (N := 153) fX12_439 (by decide) so_1079.is (by decide) (c := 1102) (by decide) dX12_command_296 ?_
    refine uu_iload_n dX12_command_299 rfl (List.mem_of_getElem? (i := 0) rfl) ?_
    refine uu_aload_n dX12_command_300 rfl (List.mem_of_getElem? (i := 1) rfl) ?_
    obtain ⟨r31, e32, h⟩ := uu_ob h
    refine uu_cv (d1 := 8) (k := 1079) (ci := 12) (T := TX12) (N := 153) (As := []) (st := [.int r1.2, .ref (B + 1102)]) (st' := [.int r31.2, .int r1.2, .ref (B + 1102)]) (xc_X12_taken uk  e32) so_1079.is (by decide) rfl kX12_taken lX12_352 sX12_taken (by omega) (Nat.le_of_ble_eq_true rfl) dX12_command_301 rfl ?_
    obtain ⟨s33, e34, h⟩ := uu_ob h
    refine uu_iast e34 dX12_command_304 ?_
    refine uu_goto (tgt := 389) dX12_command_305 (by decide) ?_
    refine uu_lv [1, 0] (lv' := [(0, .ref (B + 1079)), (1, .int r1.2)]) rfl ?_
    exact xb_X12_command_389 uk un hR_X12_choice h
  replace h := uu_neg c173_5 h
  by_cases c173_6 : v3 = 8
  · replace h := uu_pos c173_6 h
    refine uu_tabE (tgt := 308) (off := 135) (v := 8) dX12_command_173 c173_6 (by decide) (by decide) rfl (by decide) ?_
    refine uu_aload_n dX12_command_308 rfl (List.mem_of_getElem? (i := 1) rfl) ?_
    refine uu_bipush (v := 16) dX12_command_309 (by decide) ?_
    obtain ⟨s35, e36, h⟩ := uu_ob h
    refine uu_cv (d1 := 1) (k := 1079) (ci := 12) (T := TX12) (N := 153) (As := [.int 16]) (st := []) (st' := []) (xc_X12_needs uk  e36) so_1079.is (by decide) rfl kX12_needs lX12_431 sX12_needs (by omega) (Nat.le_of_ble_eq_true rfl) dX12_command_311 rfl ?_
    refine uu_aload_n dX12_command_314 rfl (List.mem_of_getElem? (i := 1) rfl) ?_
    obtain ⟨s37, e38, h⟩ := uu_ob h
    refine uu_cv (d1 := 7) (k := 1079) (ci := 12) (T := TX12) (N := 153) (As := []) (st := []) (st' := []) (xc_X12_next uk  e38) so_1079.is (by decide) rfl kX12_next lX12_279 sX12_next (by omega) (Nat.le_of_ble_eq_true rfl) dX12_command_315 rfl ?_
    refine uu_aload_n dX12_command_318 rfl (List.mem_of_getElem? (i := 1) rfl) ?_
    refine uu_geta (ci := 12) (N := 153) fX12_439 (by decide) so_1079.is (by decide) (c := 1102) (by decide) dX12_command_319 ?_
    refine uu_iload_n dX12_command_322 rfl (List.mem_of_getElem? (i := 0) rfl) ?_
    refine uu_aload_n dX12_command_323 rfl (List.mem_of_getElem? (i := 1) rfl) ?_
    refine uu_geti (ci := 12) (N := 153) fX12_340 (by decide) so_1079.is (by decide) (by decide) dX12_command_324 ?_
    obtain ⟨s39, e40, h⟩ := uu_ob h
    refine uu_iast e40 dX12_command_327 ?_
    refine uu_aload_n dX12_command_328 rfl (List.mem_of_getElem? (i := 1) rfl) ?_
    refine uu_geta (ci := 12) (N := 153) fX12_297 (by decide) so_1079.is (by decide) (c := 1103) (by decide) dX12_command_329 ?_
    refine uu_iload_n dX12_command_332 rfl (List.mem_of_getElem? (i := 0) rfl) ?_
    refine uu_aload_n dX12_command_333 rfl (List.mem_of_getElem? (i := 1) rfl) ?_
    obtain ⟨r41, e42, h⟩ := uu_ob h
    refine uu_cv (d1 := 9) (k := 1079) (ci := 12) (T := TX12) (N := 153) (As := []) (st := [.int r1.2, .ref (B + 1103)]) (st' := [.int r41.2, .int r1.2, .ref (B + 1103)]) (xc_X12_list uk  e42) so_1079.is (by decide) rfl kX12_list lX12_442 sX12_list (by omega) (Nat.le_of_ble_eq_true rfl) dX12_command_334 rfl ?_
    obtain ⟨s43, e44, h⟩ := uu_ob h
    refine uu_iast e44 dX12_command_337 ?_
    refine uu_goto (tgt := 389) dX12_command_338 (by decide) ?_
    refine uu_lv [1, 0] (lv' := [(0, .ref (B + 1079)), (1, .int r1.2)]) rfl ?_
    exact xb_X12_command_389 uk un hR_X12_choice h
  replace h := uu_neg c173_6 h
  by_cases c173_7 : v3 = 9
  · replace h := uu_pos c173_7 h
    refine uu_tabE (tgt := 308) (off := 135) (v := 9) dX12_command_173 c173_7 (by decide) (by decide) rfl (by decide) ?_
    refine uu_aload_n dX12_command_308 rfl (List.mem_of_getElem? (i := 1) rfl) ?_
    refine uu_bipush (v := 16) dX12_command_309 (by decide) ?_
    obtain ⟨s45, e46, h⟩ := uu_ob h
    refine uu_cv (d1 := 1) (k := 1079) (ci := 12) (T := TX12) (N := 153) (As := [.int 16]) (st := []) (st' := []) (xc_X12_needs uk  e46) so_1079.is (by decide) rfl kX12_needs lX12_431 sX12_needs (by omega) (Nat.le_of_ble_eq_true rfl) dX12_command_311 rfl ?_
    refine uu_aload_n dX12_command_314 rfl (List.mem_of_getElem? (i := 1) rfl) ?_
    obtain ⟨s47, e48, h⟩ := uu_ob h
    refine uu_cv (d1 := 7) (k := 1079) (ci := 12) (T := TX12) (N := 153) (As := []) (st := []) (st' := []) (xc_X12_next uk  e48) so_1079.is (by decide) rfl kX12_next lX12_279 sX12_next (by omega) (Nat.le_of_ble_eq_true rfl) dX12_command_315 rfl ?_
    refine uu_aload_n dX12_command_318 rfl (List.mem_of_getElem? (i := 1) rfl) ?_
    refine uu_geta (ci := 12) (N := 153) fX12_439 (by decide) so_1079.is (by decide) (c := 1102) (by decide) dX12_command_319 ?_
    refine uu_iload_n dX12_command_322 rfl (List.mem_of_getElem? (i := 0) rfl) ?_
    refine uu_aload_n dX12_command_323 rfl (List.mem_of_getElem? (i := 1) rfl) ?_
    refine uu_geti (ci := 12) (N := 153) fX12_340 (by decide) so_1079.is (by decide) (by decide) dX12_command_324 ?_
    obtain ⟨s49, e50, h⟩ := uu_ob h
    refine uu_iast e50 dX12_command_327 ?_
    refine uu_aload_n dX12_command_328 rfl (List.mem_of_getElem? (i := 1) rfl) ?_
    refine uu_geta (ci := 12) (N := 153) fX12_297 (by decide) so_1079.is (by decide) (c := 1103) (by decide) dX12_command_329 ?_
    refine uu_iload_n dX12_command_332 rfl (List.mem_of_getElem? (i := 0) rfl) ?_
    refine uu_aload_n dX12_command_333 rfl (List.mem_of_getElem? (i := 1) rfl) ?_
    obtain ⟨r51, e52, h⟩ := uu_ob h
    refine uu_cv (d1 := 9) (k := 1079) (ci := 12) (T := TX12) (N := 153) (As := []) (st := [.int r1.2, .ref (B + 1103)]) (st' := [.int r51.2, .int r1.2, .ref (B + 1103)]) (xc_X12_list uk  e52) so_1079.is (by decide) rfl kX12_list lX12_442 sX12_list (by omega) (Nat.le_of_ble_eq_true rfl) dX12_command_334 rfl ?_
    obtain ⟨s53, e54, h⟩ := uu_ob h
    refine uu_iast e54 dX12_command_337 ?_
    refine uu_goto (tgt := 389) dX12_command_338 (by decide) ?_
    refine uu_lv [1, 0] (lv' := [(0, .ref (B + 1079)), (1, .int r1.2)]) rfl ?_
    exact xb_X12_command_389 uk un hR_X12_choice h
  replace h := uu_neg c173_7 h
  by_cases c173_8 : v3 = 10
  · replace h := uu_pos c173_8 h
    refine uu_tabE (tgt := 308) (off := 135) (v := 10) dX12_command_173 c173_8 (by decide) (by decide) rfl (by decide) ?_
    refine uu_aload_n dX12_command_308 rfl (List.mem_of_getElem? (i := 1) rfl) ?_
    refine uu_bipush (v := 16) dX12_command_309 (by decide) ?_
    obtain ⟨s55, e56, h⟩ := uu_ob h
    refine uu_cv (d1 := 1) (k := 1079) (ci := 12) (T := TX12) (N := 153) (As := [.int 16]) (st := []) (st' := []) (xc_X12_needs uk  e56) so_1079.is (by decide) rfl kX12_needs lX12_431 sX12_needs (by omega) (Nat.le_of_ble_eq_true rfl) dX12_command_311 rfl ?_
    refine uu_aload_n dX12_command_314 rfl (List.mem_of_getElem? (i := 1) rfl) ?_
    obtain ⟨s57, e58, h⟩ := uu_ob h
    refine uu_cv (d1 := 7) (k := 1079) (ci := 12) (T := TX12) (N := 153) (As := []) (st := []) (st' := []) (xc_X12_next uk  e58) so_1079.is (by decide) rfl kX12_next lX12_279 sX12_next (by omega) (Nat.le_of_ble_eq_true rfl) dX12_command_315 rfl ?_
    refine uu_aload_n dX12_command_318 rfl (List.mem_of_getElem? (i := 1) rfl) ?_
    refine uu_geta (ci := 12) (N := 153) fX12_439 (by decide) so_1079.is (by decide) (c := 1102) (by decide) dX12_command_319 ?_
    refine uu_iload_n dX12_command_322 rfl (List.mem_of_getElem? (i := 0) rfl) ?_
    refine uu_aload_n dX12_command_323 rfl (List.mem_of_getElem? (i := 1) rfl) ?_
    refine uu_geti (ci := 12) (N := 153) fX12_340 (by decide) so_1079.is (by decide) (by decide) dX12_command_324 ?_
    obtain ⟨s59, e60, h⟩ := uu_ob h
    refine uu_iast e60 dX12_command_327 ?_
    refine uu_aload_n dX12_command_328 rfl (List.mem_of_getElem? (i := 1) rfl) ?_
    refine uu_geta (ci := 12) (N := 153) fX12_297 (by decide) so_1079.is (by decide) (c := 1103) (by decide) dX12_command_329 ?_
    refine uu_iload_n dX12_command_332 rfl (List.mem_of_getElem? (i := 0) rfl) ?_
    refine uu_aload_n dX12_command_333 rfl (List.mem_of_getElem? (i := 1) rfl) ?_
    obtain ⟨r61, e62, h⟩ := uu_ob h
    refine uu_cv (d1 := 9) (k := 1079) (ci := 12) (T := TX12) (N := 153) (As := []) (st := [.int r1.2, .ref (B + 1103)]) (st' := [.int r61.2, .int r1.2, .ref (B + 1103)]) (xc_X12_list uk  e62) so_1079.is (by decide) rfl kX12_list lX12_442 sX12_list (by omega) (Nat.le_of_ble_eq_true rfl) dX12_command_334 rfl ?_
    obtain ⟨s63, e64, h⟩ := uu_ob h
    refine uu_iast e64 dX12_command_337 ?_
    refine uu_goto (tgt := 389) dX12_command_338 (by decide) ?_
    refine uu_lv [1, 0] (lv' := [(0, .ref (B + 1079)), (1, .int r1.2)]) rfl ?_
    exact xb_X12_command_389 uk un hR_X12_choice h
  replace h := uu_neg c173_8 h
  by_cases c173_9 : v3 = 11
  · replace h := uu_pos c173_9 h
    refine uu_tabE (tgt := 341) (off := 168) (v := 11) dX12_command_173 c173_9 (by decide) (by decide) rfl (by decide) ?_
    refine uu_aload_n dX12_command_341 rfl (List.mem_of_getElem? (i := 1) rfl) ?_
    refine uu_bipush (v := 64) dX12_command_342 (by decide) ?_
    obtain ⟨s65, e66, h⟩ := uu_ob h
    refine uu_cv (d1 := 1) (k := 1079) (ci := 12) (T := TX12) (N := 153) (As := [.int 64]) (st := []) (st' := []) (xc_X12_needs uk  e66) so_1079.is (by decide) rfl kX12_needs lX12_431 sX12_needs (by omega) (Nat.le_of_ble_eq_true rfl) dX12_command_344 rfl ?_
    refine uu_aload_n dX12_command_347 rfl (List.mem_of_getElem? (i := 1) rfl) ?_
    obtain ⟨s67, e68, h⟩ := uu_ob h
    refine uu_cv (d1 := 7) (k := 1079) (ci := 12) (T := TX12) (N := 153) (As := []) (st := []) (st' := []) (xc_X12_next uk  e68) so_1079.is (by decide) rfl kX12_next lX12_279 sX12_next (by omega) (Nat.le_of_ble_eq_true rfl) dX12_command_348 rfl ?_
    refine uu_aload_n dX12_command_351 rfl (List.mem_of_getElem? (i := 1) rfl) ?_
    refine uu_iload_n dX12_command_352 rfl (List.mem_of_getElem? (i := 0) rfl) ?_
    obtain ⟨s69, e70, h⟩ := uu_ob h
    refine uu_cv (d1 := 10) (k := 1079) (ci := 12) (T := TX12) (N := 153) (As := [.int r1.2]) (st := []) (st' := []) (xc_X12_absence uk  e70) so_1079.is (by decide) rfl kX12_absence lX12_445 sX12_absence (by omega) (Nat.le_of_ble_eq_true rfl) dX12_command_353 rfl ?_
    refine uu_goto (tgt := 389) dX12_command_356 (by decide) ?_
    refine uu_lv [1, 0] (lv' := [(0, .ref (B + 1079)), (1, .int r1.2)]) rfl ?_
    exact xb_X12_command_389 uk un hR_X12_choice h
  replace h := uu_neg c173_9 h
  have cx173 : (v3).toInt < 2 ∨ 11 < (v3).toInt := by
    refine Decidable.byContradiction fun q => ?_
    rcases (show (v3).toInt = 2 ∨ (v3).toInt = 3 ∨ (v3).toInt = 4 ∨ (v3).toInt = 5 ∨ (v3).toInt = 6 ∨ (v3).toInt = 7 ∨ (v3).toInt = 8 ∨ (v3).toInt = 9 ∨ (v3).toInt = 10 ∨ (v3).toInt = 11 by omega) with q | q | q | q | q | q | q | q | q | q
    · exact c173_0 (sw_eq q (by decide))
    · exact c173_1 (sw_eq q (by decide))
    · exact c173_2 (sw_eq q (by decide))
    · exact c173_3 (sw_eq q (by decide))
    · exact c173_4 (sw_eq q (by decide))
    · exact c173_5 (sw_eq q (by decide))
    · exact c173_6 (sw_eq q (by decide))
    · exact c173_7 (sw_eq q (by decide))
    · exact c173_8 (sw_eq q (by decide))
    · exact c173_9 (sw_eq q (by decide))
  refine uu_tableOut (tgt := 359) dX12_command_173 cx173 (by decide) ?_
  refine uu_aload_n dX12_command_359 rfl (List.mem_of_getElem? (i := 1) rfl) ?_
  refine uu_aload_n dX12_command_360 rfl (List.mem_of_getElem? (i := 1) rfl) ?_
  refine uu_geti (ci := 12) (N := 153) fX12_193 (by decide) so_1079.is (by decide) (by decide) dX12_command_361 ?_
  refine uu_if_ge (tgt := 374) dX12_command_364 (by decide) (fun c71 => ?_) (fun c71 => ?_)
  · replace h := uu_pos c71 h
    refine uu_aload_n dX12_command_374 rfl (List.mem_of_getElem? (i := 1) rfl) ?_
    refine uu_geti (ci := 12) (N := 153) fX12_193 (by decide) so_1079.is (by decide) (by decide) dX12_command_375 ?_
    refine uu_lv [1, 0] (lv' := [(0, .ref (B + 1079)), (1, .int r1.2)]) rfl ?_
    exact xb_X12_command_378 uk un hR_X12_choice h
  · replace h := uu_neg c71 h
    refine uu_aload_n dX12_command_367 rfl (List.mem_of_getElem? (i := 1) rfl) ?_
    refine uu_geti (ci := 12) (N := 153) fX12_199 (by decide) so_1079.is (by decide) (by decide) dX12_command_368 ?_
    refine uu_goto (tgt := 378) dX12_command_371 (by decide) ?_
    refine uu_lv [1, 0] (lv' := [(0, .ref (B + 1079)), (1, .int r1.2)]) rfl ?_
    exact xb_X12_command_378 uk un hR_X12_choice h
def fn_X12_command (R_X12_choice : uS → Option (uS × Int32))  (s : uS) : Option (uS × Int32) := (fn_X12_isWord kW_85 s).bind fun v2 => if v2 = true then ((R_X12_choice s).bind fun r45 => some (r45.1, r45.2)) else ((fn_X12_isWord kW_86 s).bind fun v6 => if v6 = true then (fb_X12_command_163 R_X12_choice 2 s) else ((fn_X12_isWord kW_87 s).bind fun v10 => if v10 = true then (fb_X12_command_163 R_X12_choice 3 s) else ((fn_X12_isWord kW_88 s).bind fun v14 => if v14 = true then (fb_X12_command_163 R_X12_choice 4 s) else ((fn_X12_isWord kW_77 s).bind fun v18 => if v18 = true then (fb_X12_command_163 R_X12_choice 5 s) else ((fn_X12_isWord kW_89 s).bind fun v22 => if v22 = true then (fb_X12_command_163 R_X12_choice 6 s) else ((fn_X12_isWord kW_78 s).bind fun v26 => if v26 = true then (fb_X12_command_163 R_X12_choice 7 s) else ((fn_X12_isWord kW_90 s).bind fun v30 => if v30 = true then (fb_X12_command_163 R_X12_choice 8 s) else ((fn_X12_isWord kW_91 s).bind fun v34 => if v34 = true then (fb_X12_command_163 R_X12_choice 9 s) else ((fn_X12_isWord kW_92 s).bind fun v38 => if v38 = true then (fb_X12_command_163 R_X12_choice 10 s) else ((fn_X12_isWord kW_83 s).bind fun v42 => if v42 = true then (fb_X12_command_163 R_X12_choice 11 s) else (fb_X12_command_163 R_X12_choice (-1) s)))))))))))
set_option maxRecDepth 100000 in
set_option maxHeartbeats 4000000 in
theorem xc_X12_command {l : Launch} {D : va_G} {A : Nat → ClassId} {B : Nat} {Z : State → Heap → Prop} {vF : Value} (uk : uK B Z vF) (un : uX A B Z) {n : Nat} {R_X12_choice : uS → Option (uS × Int32)} (hR_X12_choice : ∀  (s : uS) (r : (uS × Int32)), R_X12_choice  s = some r → CU l D A B Z (11 + n) mX12_choice s [.ref (B + 1079)] (r.1, some (.int r.2)))  {s : uS} {r : (uS × Int32)}  (h : fn_X12_command R_X12_choice  s = some r) : CU l D A B Z (11 + (n + 1)) mX12_command s [.ref (B + 1079)] (r.1, some (.int r.2)) := by
  unfold fn_X12_command at h
  refine cu_of rfl uk.1.1 (Nat.le_of_ble_eq_true rfl) ?_
  show GU _ _ _ _ _ _ _ _ _ 0 [(0, .ref (B + 1079))] []
  refine uu_aload_n dX12_command_0 rfl (List.mem_of_getElem? (i := 0) rfl) ?_
  obtain ⟨cq1, cp1, cv1, cw1⟩ := uk.2.1 85 _ rfl
  refine uu_ldcwS cv1 dX12_command_1 ?_
  obtain ⟨v2, e3, h⟩ := uu_ob h
  refine uu_cv (d1 := 5) (k := 1079) (ci := 12) (T := TX12) (N := 153) (As := [.ref cq1]) (st := []) (st' := [.int (bI v2)]) (xc_X12_isWord uk cw1 e3) so_1079.is (by decide) rfl kX12_isWord lX12_366 sX12_isWord (by omega) (Nat.le_of_ble_eq_true rfl) dX12_command_4 rfl ?_
  refine uu_ifb_eq (tgt := 15) dX12_command_7 (by decide) (fun c4 => ?_) (fun c4 => ?_)
  · replace h := uu_neg c4 h
    refine uu_aload_n dX12_command_15 rfl (List.mem_of_getElem? (i := 0) rfl) ?_
    refine uu_aload_n dX12_command_16 rfl (List.mem_of_getElem? (i := 0) rfl) ?_
    obtain ⟨cq5, cp5, cv5, cw5⟩ := uk.2.1 86 _ rfl
    refine uu_ldcwS cv5 dX12_command_17 ?_
    obtain ⟨v6, e7, h⟩ := uu_ob h
    refine uu_cv (d1 := 5) (k := 1079) (ci := 12) (T := TX12) (N := 153) (As := [.ref cq5]) (st := [.ref (B + 1079)]) (st' := [.int (bI v6), .ref (B + 1079)]) (xc_X12_isWord uk cw5 e7) so_1079.is (by decide) rfl kX12_isWord lX12_366 sX12_isWord (by omega) (Nat.le_of_ble_eq_true rfl) dX12_command_20 rfl ?_
    refine uu_ifb_eq (tgt := 30) dX12_command_23 (by decide) (fun c8 => ?_) (fun c8 => ?_)
    · replace h := uu_neg c8 h
      refine uu_aload_n dX12_command_30 rfl (List.mem_of_getElem? (i := 0) rfl) ?_
      obtain ⟨cq9, cp9, cv9, cw9⟩ := uk.2.1 87 _ rfl
      refine uu_ldcwS cv9 dX12_command_31 ?_
      obtain ⟨v10, e11, h⟩ := uu_ob h
      refine uu_cv (d1 := 5) (k := 1079) (ci := 12) (T := TX12) (N := 153) (As := [.ref cq9]) (st := [.ref (B + 1079)]) (st' := [.int (bI v10), .ref (B + 1079)]) (xc_X12_isWord uk cw9 e11) so_1079.is (by decide) rfl kX12_isWord lX12_366 sX12_isWord (by omega) (Nat.le_of_ble_eq_true rfl) dX12_command_34 rfl ?_
      refine uu_ifb_eq (tgt := 44) dX12_command_37 (by decide) (fun c12 => ?_) (fun c12 => ?_)
      · replace h := uu_neg c12 h
        refine uu_aload_n dX12_command_44 rfl (List.mem_of_getElem? (i := 0) rfl) ?_
        obtain ⟨cq13, cp13, cv13, cw13⟩ := uk.2.1 88 _ rfl
        refine uu_ldcwS cv13 dX12_command_45 ?_
        obtain ⟨v14, e15, h⟩ := uu_ob h
        refine uu_cv (d1 := 5) (k := 1079) (ci := 12) (T := TX12) (N := 153) (As := [.ref cq13]) (st := [.ref (B + 1079)]) (st' := [.int (bI v14), .ref (B + 1079)]) (xc_X12_isWord uk cw13 e15) so_1079.is (by decide) rfl kX12_isWord lX12_366 sX12_isWord (by omega) (Nat.le_of_ble_eq_true rfl) dX12_command_48 rfl ?_
        refine uu_ifb_eq (tgt := 58) dX12_command_51 (by decide) (fun c16 => ?_) (fun c16 => ?_)
        · replace h := uu_neg c16 h
          refine uu_aload_n dX12_command_58 rfl (List.mem_of_getElem? (i := 0) rfl) ?_
          obtain ⟨cq17, cp17, cv17, cw17⟩ := uk.2.1 77 _ rfl
          refine uu_ldcwS cv17 dX12_command_59 ?_
          obtain ⟨v18, e19, h⟩ := uu_ob h
          refine uu_cv (d1 := 5) (k := 1079) (ci := 12) (T := TX12) (N := 153) (As := [.ref cq17]) (st := [.ref (B + 1079)]) (st' := [.int (bI v18), .ref (B + 1079)]) (xc_X12_isWord uk cw17 e19) so_1079.is (by decide) rfl kX12_isWord lX12_366 sX12_isWord (by omega) (Nat.le_of_ble_eq_true rfl) dX12_command_62 rfl ?_
          refine uu_ifb_eq (tgt := 72) dX12_command_65 (by decide) (fun c20 => ?_) (fun c20 => ?_)
          · replace h := uu_neg c20 h
            refine uu_aload_n dX12_command_72 rfl (List.mem_of_getElem? (i := 0) rfl) ?_
            obtain ⟨cq21, cp21, cv21, cw21⟩ := uk.2.1 89 _ rfl
            refine uu_ldcwS cv21 dX12_command_73 ?_
            obtain ⟨v22, e23, h⟩ := uu_ob h
            refine uu_cv (d1 := 5) (k := 1079) (ci := 12) (T := TX12) (N := 153) (As := [.ref cq21]) (st := [.ref (B + 1079)]) (st' := [.int (bI v22), .ref (B + 1079)]) (xc_X12_isWord uk cw21 e23) so_1079.is (by decide) rfl kX12_isWord lX12_366 sX12_isWord (by omega) (Nat.le_of_ble_eq_true rfl) dX12_command_76 rfl ?_
            refine uu_ifb_eq (tgt := 87) dX12_command_79 (by decide) (fun c24 => ?_) (fun c24 => ?_)
            · replace h := uu_neg c24 h
              refine uu_aload_n dX12_command_87 rfl (List.mem_of_getElem? (i := 0) rfl) ?_
              obtain ⟨cq25, cp25, cv25, cw25⟩ := uk.2.1 78 _ rfl
              refine uu_ldcwS cv25 dX12_command_88 ?_
              obtain ⟨v26, e27, h⟩ := uu_ob h
              refine uu_cv (d1 := 5) (k := 1079) (ci := 12) (T := TX12) (N := 153) (As := [.ref cq25]) (st := [.ref (B + 1079)]) (st' := [.int (bI v26), .ref (B + 1079)]) (xc_X12_isWord uk cw25 e27) so_1079.is (by decide) rfl kX12_isWord lX12_366 sX12_isWord (by omega) (Nat.le_of_ble_eq_true rfl) dX12_command_91 rfl ?_
              refine uu_ifb_eq (tgt := 102) dX12_command_94 (by decide) (fun c28 => ?_) (fun c28 => ?_)
              · replace h := uu_neg c28 h
                refine uu_aload_n dX12_command_102 rfl (List.mem_of_getElem? (i := 0) rfl) ?_
                obtain ⟨cq29, cp29, cv29, cw29⟩ := uk.2.1 90 _ rfl
                refine uu_ldcwS cv29 dX12_command_103 ?_
                obtain ⟨v30, e31, h⟩ := uu_ob h
                refine uu_cv (d1 := 5) (k := 1079) (ci := 12) (T := TX12) (N := 153) (As := [.ref cq29]) (st := [.ref (B + 1079)]) (st' := [.int (bI v30), .ref (B + 1079)]) (xc_X12_isWord uk cw29 e31) so_1079.is (by decide) rfl kX12_isWord lX12_366 sX12_isWord (by omega) (Nat.le_of_ble_eq_true rfl) dX12_command_106 rfl ?_
                refine uu_ifb_eq (tgt := 117) dX12_command_109 (by decide) (fun c32 => ?_) (fun c32 => ?_)
                · replace h := uu_neg c32 h
                  refine uu_aload_n dX12_command_117 rfl (List.mem_of_getElem? (i := 0) rfl) ?_
                  obtain ⟨cq33, cp33, cv33, cw33⟩ := uk.2.1 91 _ rfl
                  refine uu_ldcwS cv33 dX12_command_118 ?_
                  obtain ⟨v34, e35, h⟩ := uu_ob h
                  refine uu_cv (d1 := 5) (k := 1079) (ci := 12) (T := TX12) (N := 153) (As := [.ref cq33]) (st := [.ref (B + 1079)]) (st' := [.int (bI v34), .ref (B + 1079)]) (xc_X12_isWord uk cw33 e35) so_1079.is (by decide) rfl kX12_isWord lX12_366 sX12_isWord (by omega) (Nat.le_of_ble_eq_true rfl) dX12_command_121 rfl ?_
                  refine uu_ifb_eq (tgt := 132) dX12_command_124 (by decide) (fun c36 => ?_) (fun c36 => ?_)
                  · replace h := uu_neg c36 h
                    refine uu_aload_n dX12_command_132 rfl (List.mem_of_getElem? (i := 0) rfl) ?_
                    obtain ⟨cq37, cp37, cv37, cw37⟩ := uk.2.1 92 _ rfl
                    refine uu_ldcwS cv37 dX12_command_133 ?_
                    obtain ⟨v38, e39, h⟩ := uu_ob h
                    refine uu_cv (d1 := 5) (k := 1079) (ci := 12) (T := TX12) (N := 153) (As := [.ref cq37]) (st := [.ref (B + 1079)]) (st' := [.int (bI v38), .ref (B + 1079)]) (xc_X12_isWord uk cw37 e39) so_1079.is (by decide) rfl kX12_isWord lX12_366 sX12_isWord (by omega) (Nat.le_of_ble_eq_true rfl) dX12_command_136 rfl ?_
                    refine uu_ifb_eq (tgt := 147) dX12_command_139 (by decide) (fun c40 => ?_) (fun c40 => ?_)
                    · replace h := uu_neg c40 h
                      refine uu_aload_n dX12_command_147 rfl (List.mem_of_getElem? (i := 0) rfl) ?_
                      obtain ⟨cq41, cp41, cv41, cw41⟩ := uk.2.1 83 _ rfl
                      refine uu_ldcwS cv41 dX12_command_148 ?_
                      obtain ⟨v42, e43, h⟩ := uu_ob h
                      refine uu_cv (d1 := 5) (k := 1079) (ci := 12) (T := TX12) (N := 153) (As := [.ref cq41]) (st := [.ref (B + 1079)]) (st' := [.int (bI v42), .ref (B + 1079)]) (xc_X12_isWord uk cw41 e43) so_1079.is (by decide) rfl kX12_isWord lX12_366 sX12_isWord (by omega) (Nat.le_of_ble_eq_true rfl) dX12_command_151 rfl ?_
                      refine uu_ifb_eq (tgt := 162) dX12_command_154 (by decide) (fun c44 => ?_) (fun c44 => ?_)
                      · replace h := uu_neg c44 h
                        refine uu_iconst (v := -1) dX12_command_162 (by decide) ?_
                        exact xb_X12_command_163 uk un hR_X12_choice h
                      · replace h := uu_pos c44 h
                        refine uu_bipush (v := 11) dX12_command_157 (by decide) ?_
                        refine uu_goto (tgt := 163) dX12_command_159 (by decide) ?_
                        exact xb_X12_command_163 uk un hR_X12_choice h
                    · replace h := uu_pos c40 h
                      refine uu_bipush (v := 10) dX12_command_142 (by decide) ?_
                      refine uu_goto (tgt := 163) dX12_command_144 (by decide) ?_
                      exact xb_X12_command_163 uk un hR_X12_choice h
                  · replace h := uu_pos c36 h
                    refine uu_bipush (v := 9) dX12_command_127 (by decide) ?_
                    refine uu_goto (tgt := 163) dX12_command_129 (by decide) ?_
                    exact xb_X12_command_163 uk un hR_X12_choice h
                · replace h := uu_pos c32 h
                  refine uu_bipush (v := 8) dX12_command_112 (by decide) ?_
                  refine uu_goto (tgt := 163) dX12_command_114 (by decide) ?_
                  exact xb_X12_command_163 uk un hR_X12_choice h
              · replace h := uu_pos c28 h
                refine uu_bipush (v := 7) dX12_command_97 (by decide) ?_
                refine uu_goto (tgt := 163) dX12_command_99 (by decide) ?_
                exact xb_X12_command_163 uk un hR_X12_choice h
            · replace h := uu_pos c24 h
              refine uu_bipush (v := 6) dX12_command_82 (by decide) ?_
              refine uu_goto (tgt := 163) dX12_command_84 (by decide) ?_
              exact xb_X12_command_163 uk un hR_X12_choice h
          · replace h := uu_pos c20 h
            refine uu_iconst (v := 5) dX12_command_68 (by decide) ?_
            refine uu_goto (tgt := 163) dX12_command_69 (by decide) ?_
            exact xb_X12_command_163 uk un hR_X12_choice h
        · replace h := uu_pos c16 h
          refine uu_iconst (v := 4) dX12_command_54 (by decide) ?_
          refine uu_goto (tgt := 163) dX12_command_55 (by decide) ?_
          exact xb_X12_command_163 uk un hR_X12_choice h
      · replace h := uu_pos c12 h
        refine uu_iconst (v := 3) dX12_command_40 (by decide) ?_
        refine uu_goto (tgt := 163) dX12_command_41 (by decide) ?_
        exact xb_X12_command_163 uk un hR_X12_choice h
    · replace h := uu_pos c8 h
      refine uu_iconst (v := 2) dX12_command_26 (by decide) ?_
      refine uu_goto (tgt := 163) dX12_command_27 (by decide) ?_
      exact xb_X12_command_163 uk un hR_X12_choice h
  · replace h := uu_pos c4 h
    refine uu_aload_n dX12_command_10 rfl (List.mem_of_getElem? (i := 0) rfl) ?_
    obtain ⟨r45, e46, h⟩ := uu_ob h
    refine uu_cv (d1 := 11 + n) (k := 1079) (ci := 12) (T := TX12) (N := 153) (As := []) (st := []) (st' := [.int r45.2]) (hR_X12_choice  _ _ e46) so_1079.is (by decide) rfl kX12_choice lX12_408 sX12_choice (by omega) (Nat.le_of_ble_eq_true rfl) dX12_command_11 rfl ?_
    have hr := Option.some.inj h
    subst hr
    exact uu_iret rfl dX12_command_14
def fb_X12_choice_76 (R_X12_test : uS → Option (uS × Int32)) (R_X12_block : uS → Option (uS × Int32))  (x1 : Int32) (s : uS) : Option (uS × Int32) := (fn_X12_isWord kW_94 s).bind fun v2 => if v2 = true then ((fn_X12_next s).bind fun s5 => (R_X12_block s5).bind fun r7 => (fn_X12_node 1 r7.1).bind fun r9 => (iput 20 r9.1 1102 r9.2 (-1)).bind fun s11 => (iput 20 s11 1104 r9.2 r7.2).bind fun s13 => (fn_X12_put x1 r9.2 s13).bind fun s15 => some (s15, x1)) else (some (s, x1))
set_option maxRecDepth 100000 in
set_option maxHeartbeats 4000000 in
theorem xb_X12_choice_76 {l : Launch} {D : va_G} {A : Nat → ClassId} {B : Nat} {Z : State → Heap → Prop} {vF : Value} (uk : uK B Z vF) (un : uX A B Z) {n : Nat} {R_X12_test : uS → Option (uS × Int32)} {R_X12_block : uS → Option (uS × Int32)}  (hR_X12_test : ∀  (s : uS) (r : (uS × Int32)), R_X12_test  s = some r → CU l D A B Z (11 + n) mX12_test s [.ref (B + 1079)] (r.1, some (.int r.2))) (hR_X12_block : ∀  (s : uS) (r : (uS × Int32)), R_X12_block  s = some r → CU l D A B Z (11 + n) mX12_block s [.ref (B + 1079)] (r.1, some (.int r.2)))  {x1 : Int32} {s : uS} {r : (uS × Int32)}  (h : fb_X12_choice_76 R_X12_test R_X12_block  x1 s = some r) : GU l D A B Z mX12_choice (11 + (n + 1)) (r.1, some (.int r.2)) s 76 [(0, .ref (B + 1079)), (1, .int x1)] [] := by
  unfold fb_X12_choice_76 at h
  refine uu_aload_n dX12_choice_76 rfl (List.mem_of_getElem? (i := 0) rfl) ?_
  obtain ⟨cq1, cp1, cv1, cw1⟩ := uk.2.1 94 _ rfl
  refine uu_ldcwS cv1 dX12_choice_77 ?_
  obtain ⟨v2, e3, h⟩ := uu_ob h
  refine uu_cv (d1 := 5) (k := 1079) (ci := 12) (T := TX12) (N := 153) (As := [.ref cq1]) (st := []) (st' := [.int (bI v2)]) (xc_X12_isWord uk cw1 e3) so_1079.is (by decide) rfl kX12_isWord lX12_366 sX12_isWord (by omega) (Nat.le_of_ble_eq_true rfl) dX12_choice_80 rfl ?_
  refine uu_ifb_eq (tgt := 125) dX12_choice_83 (by decide) (fun c4 => ?_) (fun c4 => ?_)
  · replace h := uu_neg c4 h
    refine uu_iload_n dX12_choice_125 rfl (List.mem_of_getElem? (i := 1) rfl) ?_
    have hr := Option.some.inj h
    subst hr
    exact uu_iret rfl dX12_choice_126
  · replace h := uu_pos c4 h
    refine uu_aload_n dX12_choice_86 rfl (List.mem_of_getElem? (i := 0) rfl) ?_
    obtain ⟨s5, e6, h⟩ := uu_ob h
    refine uu_cv (d1 := 7) (k := 1079) (ci := 12) (T := TX12) (N := 153) (As := []) (st := []) (st' := []) (xc_X12_next uk  e6) so_1079.is (by decide) rfl kX12_next lX12_279 sX12_next (by omega) (Nat.le_of_ble_eq_true rfl) dX12_choice_87 rfl ?_
    refine uu_aload_n dX12_choice_90 rfl (List.mem_of_getElem? (i := 0) rfl) ?_
    obtain ⟨r7, e8, h⟩ := uu_ob h
    refine uu_cv (d1 := 11 + n) (k := 1079) (ci := 12) (T := TX12) (N := 153) (As := []) (st := []) (st' := [.int r7.2]) (hR_X12_block  _ _ e8) so_1079.is (by decide) rfl kX12_block lX12_451 sX12_block (by omega) (Nat.le_of_ble_eq_true rfl) dX12_choice_91 rfl ?_
    refine uu_istore_n dX12_choice_94 rfl (by decide) rfl ?_
    refine uu_aload_n dX12_choice_95 rfl (List.mem_of_getElem? (i := 1) rfl) ?_
    refine uu_iconst (v := 1) dX12_choice_96 (by decide) ?_
    obtain ⟨r9, e10, h⟩ := uu_ob h
    refine uu_cv (d1 := 0) (k := 1079) (ci := 12) (T := TX12) (N := 153) (As := [.int 1]) (st := []) (st' := [.int r9.2]) (xc_X12_node uk  e10) so_1079.is (by decide) rfl kX12_node lX12_334 sX12_node (by omega) (Nat.le_of_ble_eq_true rfl) dX12_choice_97 rfl ?_
    refine uu_istore dX12_choice_100 (by decide) rfl ?_
    refine uu_aload_n dX12_choice_102 rfl (List.mem_of_getElem? (i := 2) rfl) ?_
    refine uu_geta (ci := 12) (N := 153) fX12_439 (by decide) so_1079.is (by decide) (c := 1102) (by decide) dX12_choice_103 ?_
    refine uu_iload dX12_choice_106 (List.mem_of_getElem? (i := 0) rfl) ?_
    refine uu_iconst (v := -1) dX12_choice_108 (by decide) ?_
    obtain ⟨s11, e12, h⟩ := uu_ob h
    refine uu_iast e12 dX12_choice_109 ?_
    refine uu_aload_n dX12_choice_110 rfl (List.mem_of_getElem? (i := 2) rfl) ?_
    refine uu_geta (ci := 12) (N := 153) fX12_454 (by decide) so_1079.is (by decide) (c := 1104) (by decide) dX12_choice_111 ?_
    refine uu_iload dX12_choice_114 (List.mem_of_getElem? (i := 0) rfl) ?_
    refine uu_iload_n dX12_choice_116 rfl (List.mem_of_getElem? (i := 1) rfl) ?_
    obtain ⟨s13, e14, h⟩ := uu_ob h
    refine uu_iast e14 dX12_choice_117 ?_
    refine uu_aload_n dX12_choice_118 rfl (List.mem_of_getElem? (i := 2) rfl) ?_
    refine uu_iload_n dX12_choice_119 rfl (List.mem_of_getElem? (i := 3) rfl) ?_
    refine uu_iload dX12_choice_120 (List.mem_of_getElem? (i := 0) rfl) ?_
    obtain ⟨s15, e16, h⟩ := uu_ob h
    refine uu_cv (d1 := 0) (k := 1079) (ci := 12) (T := TX12) (N := 153) (As := [.int x1, .int r9.2]) (st := []) (st' := []) (xc_X12_put uk  e16) so_1079.is (by decide) rfl kX12_put lX12_403 sX12_put (by omega) (Nat.le_of_ble_eq_true rfl) dX12_choice_122 rfl ?_
    refine uu_iload_n dX12_choice_125 rfl (List.mem_of_getElem? (i := 3) rfl) ?_
    have hr := Option.some.inj h
    subst hr
    exact uu_iret rfl dX12_choice_126
def fb_X12_choice_8 (R_X12_test : uS → Option (uS × Int32)) (R_X12_block : uS → Option (uS × Int32)) (K8 : Int32 → Bool → uS → Option (uS × Int32)) (x1 : Int32) (b2 : Bool) (s : uS) : Option (uS × Int32) := if b2 = true then (if 0 ≤ (s.I 1079 40) then (fb_X12_choice_76 R_X12_test R_X12_block x1 s) else ((fn_X12_next s).bind fun s3 => (R_X12_test s3).bind fun r5 => (R_X12_block r5.1).bind fun r7 => (fn_X12_node 1 r7.1).bind fun r9 => (iput 20 r9.1 1102 r9.2 r5.2).bind fun s11 => (iput 20 s11 1104 r9.2 r7.2).bind fun s13 => (fn_X12_put x1 r9.2 s13).bind fun s15 => (fn_X12_isWord kW_93 s15).bind fun v18 => K8 x1 v18 s15)) else (fb_X12_choice_76 R_X12_test R_X12_block x1 s)
set_option maxRecDepth 100000 in
set_option maxHeartbeats 4000000 in
theorem xb_X12_choice_8 {l : Launch} {D : va_G} {A : Nat → ClassId} {B : Nat} {Z : State → Heap → Prop} {vF : Value} (uk : uK B Z vF) (un : uX A B Z) {n : Nat} {R_X12_test : uS → Option (uS × Int32)} {R_X12_block : uS → Option (uS × Int32)} {K8 : Int32 → Bool → uS → Option (uS × Int32)} (hR_X12_test : ∀  (s : uS) (r : (uS × Int32)), R_X12_test  s = some r → CU l D A B Z (11 + n) mX12_test s [.ref (B + 1079)] (r.1, some (.int r.2))) (hR_X12_block : ∀  (s : uS) (r : (uS × Int32)), R_X12_block  s = some r → CU l D A B Z (11 + n) mX12_block s [.ref (B + 1079)] (r.1, some (.int r.2))) (hK8 : ∀ (x1 : Int32) (b2 : Bool)  (s : uS) (r : (uS × Int32)), K8 x1 b2 s = some r → GU l D A B Z mX12_choice (11 + (n + 1)) (r.1, some (.int r.2)) s 8 [(0, .ref (B + 1079)), (1, .int x1), (2, .int (bI b2))] []) {x1 : Int32} {b2 : Bool} {s : uS} {r : (uS × Int32)}  (h : fb_X12_choice_8 R_X12_test R_X12_block K8 x1 b2 s = some r) : GU l D A B Z mX12_choice (11 + (n + 1)) (r.1, some (.int r.2)) s 8 [(0, .ref (B + 1079)), (1, .int x1), (2, .int (bI b2))] [] := by
  unfold fb_X12_choice_8 at h
  refine uu_iload_n dX12_choice_8 rfl (List.mem_of_getElem? (i := 2) rfl) ?_
  refine uu_ifb_eq (tgt := 76) dX12_choice_9 (by decide) (fun c1 => ?_) (fun c1 => ?_)
  · replace h := uu_neg c1 h
    refine uu_lv [0, 1] (lv' := [(0, .ref (B + 1079)), (1, .int x1)]) rfl ?_
    exact xb_X12_choice_76 uk un hR_X12_test hR_X12_block h
  · replace h := uu_pos c1 h
    refine uu_aload_n dX12_choice_12 rfl (List.mem_of_getElem? (i := 0) rfl) ?_
    refine uu_geti (ci := 12) (N := 153) fX12_193 (by decide) so_1079.is (by decide) (by decide) dX12_choice_13 ?_
    refine uu_if_ge (tgt := 76) dX12_choice_16 (by decide) (fun c2 => ?_) (fun c2 => ?_)
    · replace h := uu_pos c2 h
      refine uu_lv [0, 1] (lv' := [(0, .ref (B + 1079)), (1, .int x1)]) rfl ?_
      exact xb_X12_choice_76 uk un hR_X12_test hR_X12_block h
    · replace h := uu_neg c2 h
      refine uu_aload_n dX12_choice_19 rfl (List.mem_of_getElem? (i := 0) rfl) ?_
      obtain ⟨s3, e4, h⟩ := uu_ob h
      refine uu_cv (d1 := 7) (k := 1079) (ci := 12) (T := TX12) (N := 153) (As := []) (st := []) (st' := []) (xc_X12_next uk  e4) so_1079.is (by decide) rfl kX12_next lX12_279 sX12_next (by omega) (Nat.le_of_ble_eq_true rfl) dX12_choice_20 rfl ?_
      refine uu_aload_n dX12_choice_23 rfl (List.mem_of_getElem? (i := 0) rfl) ?_
      obtain ⟨r5, e6, h⟩ := uu_ob h
      refine uu_cv (d1 := 11 + n) (k := 1079) (ci := 12) (T := TX12) (N := 153) (As := []) (st := []) (st' := [.int r5.2]) (hR_X12_test  _ _ e6) so_1079.is (by decide) rfl kX12_test lX12_448 sX12_test (by omega) (Nat.le_of_ble_eq_true rfl) dX12_choice_24 rfl ?_
      refine uu_istore_n dX12_choice_27 rfl (by decide) rfl ?_
      refine uu_aload_n dX12_choice_28 rfl (List.mem_of_getElem? (i := 1) rfl) ?_
      obtain ⟨r7, e8, h⟩ := uu_ob h
      refine uu_cv (d1 := 11 + n) (k := 1079) (ci := 12) (T := TX12) (N := 153) (As := []) (st := []) (st' := [.int r7.2]) (hR_X12_block  _ _ e8) so_1079.is (by decide) rfl kX12_block lX12_451 sX12_block (by omega) (Nat.le_of_ble_eq_true rfl) dX12_choice_29 rfl ?_
      refine uu_istore dX12_choice_32 (by decide) rfl ?_
      refine uu_aload_n dX12_choice_34 rfl (List.mem_of_getElem? (i := 2) rfl) ?_
      refine uu_iconst (v := 1) dX12_choice_35 (by decide) ?_
      obtain ⟨r9, e10, h⟩ := uu_ob h
      refine uu_cv (d1 := 0) (k := 1079) (ci := 12) (T := TX12) (N := 153) (As := [.int 1]) (st := []) (st' := [.int r9.2]) (xc_X12_node uk  e10) so_1079.is (by decide) rfl kX12_node lX12_334 sX12_node (by omega) (Nat.le_of_ble_eq_true rfl) dX12_choice_36 rfl ?_
      refine uu_istore dX12_choice_39 (by decide) rfl ?_
      refine uu_aload_n dX12_choice_41 rfl (List.mem_of_getElem? (i := 3) rfl) ?_
      refine uu_geta (ci := 12) (N := 153) fX12_439 (by decide) so_1079.is (by decide) (c := 1102) (by decide) dX12_choice_42 ?_
      refine uu_iload dX12_choice_45 (List.mem_of_getElem? (i := 0) rfl) ?_
      refine uu_iload_n dX12_choice_47 rfl (List.mem_of_getElem? (i := 2) rfl) ?_
      obtain ⟨s11, e12, h⟩ := uu_ob h
      refine uu_iast e12 dX12_choice_48 ?_
      refine uu_aload_n dX12_choice_49 rfl (List.mem_of_getElem? (i := 3) rfl) ?_
      refine uu_geta (ci := 12) (N := 153) fX12_454 (by decide) so_1079.is (by decide) (c := 1104) (by decide) dX12_choice_50 ?_
      refine uu_iload dX12_choice_53 (List.mem_of_getElem? (i := 0) rfl) ?_
      refine uu_iload dX12_choice_55 (List.mem_of_getElem? (i := 1) rfl) ?_
      obtain ⟨s13, e14, h⟩ := uu_ob h
      refine uu_iast e14 dX12_choice_57 ?_
      refine uu_aload_n dX12_choice_58 rfl (List.mem_of_getElem? (i := 3) rfl) ?_
      refine uu_iload_n dX12_choice_59 rfl (List.mem_of_getElem? (i := 4) rfl) ?_
      refine uu_iload dX12_choice_60 (List.mem_of_getElem? (i := 0) rfl) ?_
      obtain ⟨s15, e16, h⟩ := uu_ob h
      refine uu_cv (d1 := 0) (k := 1079) (ci := 12) (T := TX12) (N := 153) (As := [.int x1, .int r9.2]) (st := []) (st' := []) (xc_X12_put uk  e16) so_1079.is (by decide) rfl kX12_put lX12_403 sX12_put (by omega) (Nat.le_of_ble_eq_true rfl) dX12_choice_62 rfl ?_
      refine uu_aload_n dX12_choice_65 rfl (List.mem_of_getElem? (i := 3) rfl) ?_
      obtain ⟨cq17, cp17, cv17, cw17⟩ := uk.2.1 93 _ rfl
      refine uu_ldcwS cv17 dX12_choice_66 ?_
      obtain ⟨v18, e19, h⟩ := uu_ob h
      refine uu_cv (d1 := 5) (k := 1079) (ci := 12) (T := TX12) (N := 153) (As := [.ref cq17]) (st := []) (st' := [.int (bI v18)]) (xc_X12_isWord uk cw17 e19) so_1079.is (by decide) rfl kX12_isWord lX12_366 sX12_isWord (by omega) (Nat.le_of_ble_eq_true rfl) dX12_choice_69 rfl ?_
      refine uu_istore_n dX12_choice_72 rfl (by decide) rfl ?_
      refine uu_goto (tgt := 8) dX12_choice_73 (by decide) ?_
      refine uu_lv [4, 5, 0] (lv' := [(0, .ref (B + 1079)), (1, .int x1), (2, .int (bI v18))]) rfl ?_
      exact hK8 x1 v18 _ _ h
def fn_X12_choice_8 (R_X12_test : uS → Option (uS × Int32)) (R_X12_block : uS → Option (uS × Int32))  : Nat → Int32 → Bool → uS → Option (uS × Int32)
  | 0 => fun _ _ _ => none
  | t + 1 => fb_X12_choice_8 R_X12_test R_X12_block (fn_X12_choice_8 R_X12_test R_X12_block  t)
set_option maxRecDepth 100000 in
set_option maxHeartbeats 4000000 in
theorem xn_X12_choice_8 {l : Launch} {D : va_G} {A : Nat → ClassId} {B : Nat} {Z : State → Heap → Prop} {vF : Value} (uk : uK B Z vF) (un : uX A B Z) {n : Nat} {R_X12_test : uS → Option (uS × Int32)} {R_X12_block : uS → Option (uS × Int32)}  (hR_X12_test : ∀  (s : uS) (r : (uS × Int32)), R_X12_test  s = some r → CU l D A B Z (11 + n) mX12_test s [.ref (B + 1079)] (r.1, some (.int r.2))) (hR_X12_block : ∀  (s : uS) (r : (uS × Int32)), R_X12_block  s = some r → CU l D A B Z (11 + n) mX12_block s [.ref (B + 1079)] (r.1, some (.int r.2)))  : ∀ (t : Nat) (x1 : Int32) (b2 : Bool)  (s : uS) (r : (uS × Int32)), fn_X12_choice_8 R_X12_test R_X12_block  t x1 b2 s = some r → GU l D A B Z mX12_choice (11 + (n + 1)) (r.1, some (.int r.2)) s 8 [(0, .ref (B + 1079)), (1, .int x1), (2, .int (bI b2))] [] := by
  intro t
  induction t with
  | zero => intro x1 b2 s r h
            cases h
  | succ t ih => intro x1 b2 s r h
                 exact xb_X12_choice_8 uk un hR_X12_test hR_X12_block ih  h
def fn_X12_choice (R_X12_test : uS → Option (uS × Int32)) (R_X12_block : uS → Option (uS × Int32))  (s : uS) : Option (uS × Int32) := (fn_X12_counting 0 s).bind fun r1 => fn_X12_choice_8 R_X12_test R_X12_block uFu r1.2 true r1.1
set_option maxRecDepth 100000 in
set_option maxHeartbeats 4000000 in
theorem xc_X12_choice {l : Launch} {D : va_G} {A : Nat → ClassId} {B : Nat} {Z : State → Heap → Prop} {vF : Value} (uk : uK B Z vF) (un : uX A B Z) {n : Nat} {R_X12_test : uS → Option (uS × Int32)} {R_X12_block : uS → Option (uS × Int32)} (hR_X12_test : ∀  (s : uS) (r : (uS × Int32)), R_X12_test  s = some r → CU l D A B Z (11 + n) mX12_test s [.ref (B + 1079)] (r.1, some (.int r.2))) (hR_X12_block : ∀  (s : uS) (r : (uS × Int32)), R_X12_block  s = some r → CU l D A B Z (11 + n) mX12_block s [.ref (B + 1079)] (r.1, some (.int r.2)))  {s : uS} {r : (uS × Int32)}  (h : fn_X12_choice R_X12_test R_X12_block  s = some r) : CU l D A B Z (11 + (n + 1)) mX12_choice s [.ref (B + 1079)] (r.1, some (.int r.2)) := by
  unfold fn_X12_choice at h
  refine cu_of rfl uk.1.1 (Nat.le_of_ble_eq_true rfl) ?_
  show GU _ _ _ _ _ _ _ _ _ 0 [(0, .ref (B + 1079))] []
  refine uu_aload_n dX12_choice_0 rfl (List.mem_of_getElem? (i := 0) rfl) ?_
  refine uu_iconst (v := 0) dX12_choice_1 (by decide) ?_
  obtain ⟨r1, e2, h⟩ := uu_ob h
  refine uu_cv (d1 := 1) (k := 1079) (ci := 12) (T := TX12) (N := 153) (As := [.int 0]) (st := []) (st' := [.int r1.2]) (xc_X12_counting uk  e2) so_1079.is (by decide) rfl kX12_counting lX12_425 sX12_counting (by omega) (Nat.le_of_ble_eq_true rfl) dX12_choice_2 rfl ?_
  refine uu_istore_n dX12_choice_5 rfl (by decide) rfl ?_
  refine uu_iconst (v := 1) dX12_choice_6 (by decide) ?_
  refine uu_istore_n dX12_choice_7 rfl (by decide) rfl ?_
  refine uu_lv [2, 1, 0] (lv' := [(0, .ref (B + 1079)), (1, .int r1.2), (2, .int 1)]) rfl ?_
  exact xn_X12_choice_8 uk un hR_X12_test hR_X12_block _ _ _ _ _ h
def fg_0 : Nat → (uS → Option (uS × Int32)) × (Int32 → uS → Option uS) × (Int32 → uS → Option uS) × (uS → Option (uS × Int32)) × (uS → Option (uS × Int32)) × (uS → Option (uS × Int32))
  | 0 => (fun _ => none, fun _ _ => none, fun _ _ => none, fun _ => none, fun _ => none, fun _ => none)
  | n + 1 => (fn_X12_test ((fg_0 n).2.1) ((fg_0 n).1), fn_X12_several ((fg_0 n).1), fn_X12_commands ((fg_0 n).2.2.2.2.1), fn_X12_block ((fg_0 n).2.2.1), fn_X12_command ((fg_0 n).2.2.2.2.2), fn_X12_choice ((fg_0 n).1) ((fg_0 n).2.2.2.1))
set_option maxRecDepth 100000 in
set_option maxHeartbeats 4000000 in
theorem xg_0 {l : Launch} {D : va_G} {A : Nat → ClassId} {B : Nat} {Z : State → Heap → Prop} {vF : Value} (uk : uK B Z vF) (un : uX A B Z) : ∀ n : Nat, (∀  (s : uS) (r : (uS × Int32)), (fg_0 n).1  s = some r → CU l D A B Z (11 + n) mX12_test s [.ref (B + 1079)] (r.1, some (.int r.2))) ∧ (∀ (x1 : Int32) (s : uS) (r : uS), (fg_0 n).2.1 x1 s = some r → CU l D A B Z (11 + n) mX12_several s [.ref (B + 1079), .int x1] (r, none)) ∧ (∀ (x1 : Int32) (s : uS) (r : uS), (fg_0 n).2.2.1 x1 s = some r → CU l D A B Z (11 + n) mX12_commands s [.ref (B + 1079), .int x1] (r, none)) ∧ (∀  (s : uS) (r : (uS × Int32)), (fg_0 n).2.2.2.1  s = some r → CU l D A B Z (11 + n) mX12_block s [.ref (B + 1079)] (r.1, some (.int r.2))) ∧ (∀  (s : uS) (r : (uS × Int32)), (fg_0 n).2.2.2.2.1  s = some r → CU l D A B Z (11 + n) mX12_command s [.ref (B + 1079)] (r.1, some (.int r.2))) ∧ (∀  (s : uS) (r : (uS × Int32)), (fg_0 n).2.2.2.2.2  s = some r → CU l D A B Z (11 + n) mX12_choice s [.ref (B + 1079)] (r.1, some (.int r.2))) := by
  intro n
  induction n with
  | zero => exact ⟨fun s r h => (by cases h), fun x1 s r h => (by cases h), fun x1 s r h => (by cases h), fun s r h => (by cases h), fun s r h => (by cases h), fun s r h => (by cases h)⟩
  | succ n ih => exact ⟨fun s r h => xc_X12_test uk un ih.2.1 ih.1 h, fun x1 s r h => xc_X12_several uk un ih.1 h, fun x1 s r h => xc_X12_commands uk un ih.2.2.2.2.1 h, fun s r h => xc_X12_block uk un ih.2.2.1 h, fun s r h => xc_X12_command uk un ih.2.2.2.2.2 h, fun s r h => xc_X12_choice uk un ih.1 ih.2.2.2.1 h⟩
