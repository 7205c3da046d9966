abbrev mX12_deliver : hM := (yX12_deliver, cX12_deliver, 8, (some (.boolean)))
theorem dX12_deliver_233 : decode cX12_deliver 233 = .ok (.aload_n 0, 1) := by decide +kernel
theorem dX12_deliver_234 : decode cX12_deliver 234 = .ok (.iconst 4, 1) := by decide +kernel
theorem dX12_deliver_235 : decode cX12_deliver 235 = .ok (.ldc_w 991, 3) := by decide +kernel
theorem dX12_deliver_238 : decode cX12_deliver 238 = .ok (.invokevirtual 974, 3) := by decide +kernel
theorem dX12_deliver_241 : decode cX12_deliver 241 = .ok (.iconst 1, 1) := by decide +kernel
theorem dX12_deliver_242 : decode cX12_deliver 242 = .ok (.ireturn, 1) := by decide +kernel
theorem dX12_deliver_357 : decode cX12_deliver 357 = .ok (.iload 7, 2) := by decide +kernel
theorem dX12_deliver_359 : decode cX12_deliver 359 = .ok (.aload_n 0, 1) := by decide +kernel
theorem dX12_deliver_360 : decode cX12_deliver 360 = .ok (.getfield 684, 3) := by decide +kernel
theorem dX12_deliver_363 : decode cX12_deliver 363 = .ok (.if_icmp .ge 21, 3) := by decide +kernel
theorem dX12_deliver_384 : decode cX12_deliver 384 = .ok (.aload_n 0, 1) := by decide +kernel
theorem dX12_deliver_385 : decode cX12_deliver 385 = .ok (.iconst 4, 1) := by decide +kernel
theorem dX12_deliver_386 : decode cX12_deliver 386 = .ok (.ldc_w 1010, 3) := by decide +kernel
theorem dX12_deliver_389 : decode cX12_deliver 389 = .ok (.invokevirtual 974, 3) := by decide +kernel
theorem dX12_deliver_392 : decode cX12_deliver 392 = .ok (.iconst 1, 1) := by decide +kernel
theorem dX12_deliver_393 : decode cX12_deliver 393 = .ok (.ireturn, 1) := by decide +kernel
theorem dX12_deliver_366 : decode cX12_deliver 366 = .ok (.aload_n 0, 1) := by decide +kernel
theorem dX12_deliver_367 : decode cX12_deliver 367 = .ok (.iconst 4, 1) := by decide +kernel
theorem dX12_deliver_368 : decode cX12_deliver 368 = .ok (.aload_n 0, 1) := by decide +kernel
theorem dX12_deliver_369 : decode cX12_deliver 369 = .ok (.getfield 687, 3) := by decide +kernel
theorem dX12_deliver_372 : decode cX12_deliver 372 = .ok (.iload 7, 2) := by decide +kernel
theorem dX12_deliver_374 : decode cX12_deliver 374 = .ok (.iaload, 1) := by decide +kernel
theorem dX12_deliver_375 : decode cX12_deliver 375 = .ok (.invokevirtual 54, 3) := by decide +kernel
theorem dX12_deliver_378 : decode cX12_deliver 378 = .ok (.iinc 7 1, 3) := by decide +kernel
theorem dX12_deliver_381 : decode cX12_deliver 381 = .ok (.goto (-24), 3) := by decide +kernel
theorem dX12_deliver_346 : decode cX12_deliver 346 = .ok (.aload_n 0, 1) := by decide +kernel
theorem dX12_deliver_347 : decode cX12_deliver 347 = .ok (.iconst 4, 1) := by decide +kernel
theorem dX12_deliver_348 : decode cX12_deliver 348 = .ok (.ldc_w 1008, 3) := by decide +kernel
theorem dX12_deliver_351 : decode cX12_deliver 351 = .ok (.invokevirtual 68, 3) := by decide +kernel
theorem dX12_deliver_354 : decode cX12_deliver 354 = .ok (.iconst 0, 1) := by decide +kernel
theorem dX12_deliver_355 : decode cX12_deliver 355 = .ok (.istore 7, 2) := by decide +kernel
theorem dX12_deliver_338 : decode cX12_deliver 338 = .ok (.iload_n 3, 1) := by decide +kernel
theorem dX12_deliver_339 : decode cX12_deliver 339 = .ok (.ifCond .eq 7, 3) := by decide +kernel
theorem dX12_deliver_342 : decode cX12_deliver 342 = .ok (.aload_n 0, 1) := by decide +kernel
theorem kX12_addNote : h_ml mX12_addNote 0 := ⟨h_t10 163 rfl rfl, h_t1 16 rfl rfl, ⟨by decide, by decide, by decide +kernel⟩, by decide⟩
theorem lX12_1005 : Cond.methodLink RX12 1005 mX12_addNote.1 ∈ lw_g := h_t10 160 rfl rfl
theorem sX12_addNote : Cond.instanceMethod mX12_addNote.1 ∈ lw_g ∧ Cond.selects mX12_addNote.1.cls mX12_addNote.1 mX12_addNote.1 ∈ lw_g := ⟨h_t10 162 rfl rfl, h_ins 233 rfl⟩
theorem dX12_deliver_343 : decode cX12_deliver 343 = .ok (.invokevirtual 1005, 3) := by decide +kernel
theorem dX12_deliver_303 : decode cX12_deliver 303 = .ok (.iload 7, 2) := by decide +kernel
theorem dX12_deliver_305 : decode cX12_deliver 305 = .ok (.aload_n 0, 1) := by decide +kernel
theorem dX12_deliver_306 : decode cX12_deliver 306 = .ok (.getfield 787, 3) := by decide +kernel
theorem dX12_deliver_309 : decode cX12_deliver 309 = .ok (.if_icmp .ge 20, 3) := by decide +kernel
theorem dX12_deliver_329 : decode cX12_deliver 329 = .ok (.iload 4, 2) := by decide +kernel
theorem dX12_deliver_331 : decode cX12_deliver 331 = .ok (.ifCond .eq 7, 3) := by decide +kernel
theorem dX12_deliver_334 : decode cX12_deliver 334 = .ok (.aload_n 0, 1) := by decide +kernel
theorem kX12_sendLetter : h_ml mX12_sendLetter 0 := ⟨h_t10 159 rfl rfl, h_t1 16 rfl rfl, ⟨by decide, by decide, by decide +kernel⟩, by decide⟩
theorem lX12_1002 : Cond.methodLink RX12 1002 mX12_sendLetter.1 ∈ lw_g := h_t10 156 rfl rfl
theorem sX12_sendLetter : Cond.instanceMethod mX12_sendLetter.1 ∈ lw_g ∧ Cond.selects mX12_sendLetter.1.cls mX12_sendLetter.1 mX12_sendLetter.1 ∈ lw_g := ⟨h_t10 158 rfl rfl, h_ins 232 rfl⟩
theorem dX12_deliver_335 : decode cX12_deliver 335 = .ok (.invokevirtual 1002, 3) := by decide +kernel
theorem dX12_deliver_312 : decode cX12_deliver 312 = .ok (.aload_n 0, 1) := by decide +kernel
theorem dX12_deliver_313 : decode cX12_deliver 313 = .ok (.aload_n 0, 1) := by decide +kernel
theorem dX12_deliver_314 : decode cX12_deliver 314 = .ok (.getfield 790, 3) := by decide +kernel
theorem dX12_deliver_317 : decode cX12_deliver 317 = .ok (.iload 7, 2) := by decide +kernel
theorem dX12_deliver_319 : decode cX12_deliver 319 = .ok (.iaload, 1) := by decide +kernel
theorem kX12_sendTo : h_ml mX12_sendTo 1 := ⟨h_t10 155 rfl rfl, h_t1 16 rfl rfl, ⟨by decide, by decide, by decide +kernel⟩, by decide⟩
theorem lX12_999 : Cond.methodLink RX12 999 mX12_sendTo.1 ∈ lw_g := h_t10 152 rfl rfl
theorem sX12_sendTo : Cond.instanceMethod mX12_sendTo.1 ∈ lw_g ∧ Cond.selects mX12_sendTo.1.cls mX12_sendTo.1 mX12_sendTo.1 ∈ lw_g := ⟨h_t10 154 rfl rfl, h_ins 231 rfl⟩
theorem dX12_deliver_320 : decode cX12_deliver 320 = .ok (.invokevirtual 999, 3) := by decide +kernel
theorem dX12_deliver_323 : decode cX12_deliver 323 = .ok (.iinc 7 1, 3) := by decide +kernel
theorem dX12_deliver_326 : decode cX12_deliver 326 = .ok (.goto (-23), 3) := by decide +kernel
theorem dX12_deliver_255 : decode cX12_deliver 255 = .ok (.iload 7, 2) := by decide +kernel
theorem dX12_deliver_257 : decode cX12_deliver 257 = .ok (.aload_n 0, 1) := by decide +kernel
theorem dX12_deliver_258 : decode cX12_deliver 258 = .ok (.getfield 775, 3) := by decide +kernel
theorem dX12_deliver_261 : decode cX12_deliver 261 = .ok (.if_icmp .ge 39, 3) := by decide +kernel
theorem dX12_deliver_300 : decode cX12_deliver 300 = .ok (.iconst 0, 1) := by decide +kernel
theorem dX12_deliver_301 : decode cX12_deliver 301 = .ok (.istore 7, 2) := by decide +kernel
theorem dX12_deliver_264 : decode cX12_deliver 264 = .ok (.aload_n 0, 1) := by decide +kernel
theorem dX12_deliver_265 : decode cX12_deliver 265 = .ok (.aload_n 0, 1) := by decide +kernel
theorem dX12_deliver_266 : decode cX12_deliver 266 = .ok (.aload_n 0, 1) := by decide +kernel
theorem dX12_deliver_267 : decode cX12_deliver 267 = .ok (.getfield 799, 3) := by decide +kernel
theorem dX12_deliver_270 : decode cX12_deliver 270 = .ok (.aload_n 0, 1) := by decide +kernel
theorem dX12_deliver_271 : decode cX12_deliver 271 = .ok (.aload_n 0, 1) := by decide +kernel
theorem dX12_deliver_272 : decode cX12_deliver 272 = .ok (.getfield 778, 3) := by decide +kernel
theorem dX12_deliver_275 : decode cX12_deliver 275 = .ok (.iload 7, 2) := by decide +kernel
theorem dX12_deliver_277 : decode cX12_deliver 277 = .ok (.iaload, 1) := by decide +kernel
theorem kX12_boxMade : h_ml mX12_boxMade 1 := ⟨h_t10 137 rfl rfl, h_t1 16 rfl rfl, ⟨by decide, by decide, by decide +kernel⟩, by decide⟩
theorem lX12_996 : Cond.methodLink RX12 996 mX12_boxMade.1 ∈ lw_g := h_t10 134 rfl rfl
theorem sX12_boxMade : Cond.instanceMethod mX12_boxMade.1 ∈ lw_g ∧ Cond.selects mX12_boxMade.1.cls mX12_boxMade.1 mX12_boxMade.1 ∈ lw_g := ⟨h_t10 136 rfl rfl, h_ins 227 rfl⟩
theorem dX12_deliver_278 : decode cX12_deliver 278 = .ok (.invokevirtual 996, 3) := by decide +kernel
theorem dX12_deliver_281 : decode cX12_deliver 281 = .ok (.aload_n 0, 1) := by decide +kernel
theorem dX12_deliver_282 : decode cX12_deliver 282 = .ok (.getfield 784, 3) := by decide +kernel
theorem dX12_deliver_285 : decode cX12_deliver 285 = .ok (.iload 7, 2) := by decide +kernel
theorem dX12_deliver_287 : decode cX12_deliver 287 = .ok (.iaload, 1) := by decide +kernel
theorem dX12_deliver_288 : decode cX12_deliver 288 = .ok (.invokevirtual 950, 3) := by decide +kernel
theorem dX12_deliver_291 : decode cX12_deliver 291 = .ok (.invokevirtual 960, 3) := by decide +kernel
theorem dX12_deliver_294 : decode cX12_deliver 294 = .ok (.iinc 7 1, 3) := by decide +kernel
theorem dX12_deliver_297 : decode cX12_deliver 297 = .ok (.goto (-42), 3) := by decide +kernel
theorem dX12_deliver_190 : decode cX12_deliver 190 = .ok (.iadd, 1) := by decide +kernel
theorem dX12_deliver_191 : decode cX12_deliver 191 = .ok (.istore 6, 2) := by decide +kernel
theorem dX12_deliver_193 : decode cX12_deliver 193 = .ok (.aload_n 0, 1) := by decide +kernel
theorem dX12_deliver_194 : decode cX12_deliver 194 = .ok (.getfield 563, 3) := by decide +kernel
theorem dX12_deliver_197 : decode cX12_deliver 197 = .ok (.aload_n 0, 1) := by decide +kernel
theorem dX12_deliver_198 : decode cX12_deliver 198 = .ok (.getfield 775, 3) := by decide +kernel
theorem dX12_deliver_201 : decode cX12_deliver 201 = .ok (.iadd, 1) := by decide +kernel
theorem dX12_deliver_202 : decode cX12_deliver 202 = .ok (.sipush 300, 3) := by decide +kernel
theorem dX12_deliver_205 : decode cX12_deliver 205 = .ok (.if_icmp .gt 28, 3) := by decide +kernel
theorem dX12_deliver_208 : decode cX12_deliver 208 = .ok (.aload_n 0, 1) := by decide +kernel
theorem dX12_deliver_209 : decode cX12_deliver 209 = .ok (.getfield 566, 3) := by decide +kernel
theorem dX12_deliver_212 : decode cX12_deliver 212 = .ok (.iload 5, 2) := by decide +kernel
theorem dX12_deliver_214 : decode cX12_deliver 214 = .ok (.iadd, 1) := by decide +kernel
theorem dX12_deliver_215 : decode cX12_deliver 215 = .ok (.bipush 100, 2) := by decide +kernel
theorem dX12_deliver_217 : decode cX12_deliver 217 = .ok (.if_icmp .gt 16, 3) := by decide +kernel
theorem dX12_deliver_220 : decode cX12_deliver 220 = .ok (.aload_n 0, 1) := by decide +kernel
theorem dX12_deliver_221 : decode cX12_deliver 221 = .ok (.getfield 552, 3) := by decide +kernel
theorem dX12_deliver_224 : decode cX12_deliver 224 = .ok (.iload 6, 2) := by decide +kernel
theorem dX12_deliver_226 : decode cX12_deliver 226 = .ok (.iadd, 1) := by decide +kernel
theorem cX12_990 : Cond.constant RX12 990 (150000) ∈ lw_g := h_t10 124 rfl rfl
theorem dX12_deliver_227 : decode cX12_deliver 227 = .ok (.ldc_w 990, 3) := by decide +kernel
theorem dX12_deliver_230 : decode cX12_deliver 230 = .ok (.if_icmp .le 13, 3) := by decide +kernel
theorem dX12_deliver_243 : decode cX12_deliver 243 = .ok (.aload_n 0, 1) := by decide +kernel
theorem dX12_deliver_244 : decode cX12_deliver 244 = .ok (.invokevirtual 993, 3) := by decide +kernel
theorem dX12_deliver_247 : decode cX12_deliver 247 = .ok (.ifCond .ne 5, 3) := by decide +kernel
theorem dX12_deliver_252 : decode cX12_deliver 252 = .ok (.iconst 0, 1) := by decide +kernel
theorem dX12_deliver_253 : decode cX12_deliver 253 = .ok (.istore 7, 2) := by decide +kernel
theorem dX12_deliver_250 : decode cX12_deliver 250 = .ok (.iconst 0, 1) := by decide +kernel
theorem dX12_deliver_251 : decode cX12_deliver 251 = .ok (.ireturn, 1) := by decide +kernel
theorem dX12_deliver_160 : decode cX12_deliver 160 = .ok (.iadd, 1) := by decide +kernel
theorem dX12_deliver_161 : decode cX12_deliver 161 = .ok (.istore 5, 2) := by decide +kernel
theorem dX12_deliver_163 : decode cX12_deliver 163 = .ok (.aload_n 0, 1) := by decide +kernel
theorem dX12_deliver_164 : decode cX12_deliver 164 = .ok (.getfield 75, 3) := by decide +kernel
theorem dX12_deliver_167 : decode cX12_deliver 167 = .ok (.aload_n 0, 1) := by decide +kernel
theorem dX12_deliver_168 : decode cX12_deliver 168 = .ok (.getfield 775, 3) := by decide +kernel
theorem dX12_deliver_171 : decode cX12_deliver 171 = .ok (.aload_n 0, 1) := by decide +kernel
theorem dX12_deliver_172 : decode cX12_deliver 172 = .ok (.getfield 787, 3) := by decide +kernel
theorem dX12_deliver_175 : decode cX12_deliver 175 = .ok (.iadd, 1) := by decide +kernel
theorem dX12_deliver_176 : decode cX12_deliver 176 = .ok (.imul, 1) := by decide +kernel
theorem dX12_deliver_177 : decode cX12_deliver 177 = .ok (.iload 4, 2) := by decide +kernel
theorem dX12_deliver_179 : decode cX12_deliver 179 = .ok (.ifCond .eq 10, 3) := by decide +kernel
theorem dX12_deliver_189 : decode cX12_deliver 189 = .ok (.iconst 0, 1) := by decide +kernel
theorem dX12_deliver_182 : decode cX12_deliver 182 = .ok (.aload_n 0, 1) := by decide +kernel
theorem dX12_deliver_183 : decode cX12_deliver 183 = .ok (.getfield 900, 3) := by decide +kernel
theorem dX12_deliver_186 : decode cX12_deliver 186 = .ok (.goto 4, 3) := by decide +kernel
theorem dX12_deliver_146 : decode cX12_deliver 146 = .ok (.aload_n 0, 1) := by decide +kernel
theorem dX12_deliver_147 : decode cX12_deliver 147 = .ok (.getfield 787, 3) := by decide +kernel
theorem dX12_deliver_150 : decode cX12_deliver 150 = .ok (.iload 4, 2) := by decide +kernel
theorem dX12_deliver_152 : decode cX12_deliver 152 = .ok (.ifCond .eq 7, 3) := by decide +kernel
theorem dX12_deliver_159 : decode cX12_deliver 159 = .ok (.iconst 0, 1) := by decide +kernel
theorem dX12_deliver_155 : decode cX12_deliver 155 = .ok (.iconst 1, 1) := by decide +kernel
theorem dX12_deliver_156 : decode cX12_deliver 156 = .ok (.goto 4, 3) := by decide +kernel
theorem dX12_deliver_134 : decode cX12_deliver 134 = .ok (.istore 4, 2) := by decide +kernel
theorem dX12_deliver_136 : decode cX12_deliver 136 = .ok (.iload 4, 2) := by decide +kernel
theorem dX12_deliver_138 : decode cX12_deliver 138 = .ok (.ifCond .eq 8, 3) := by decide +kernel
theorem dX12_deliver_141 : decode cX12_deliver 141 = .ok (.aload_n 0, 1) := by decide +kernel
theorem dX12_deliver_142 : decode cX12_deliver 142 = .ok (.iload_n 2, 1) := by decide +kernel
theorem kX12_writeLetter : h_ml mX12_writeLetter 1 := ⟨h_t10 99 rfl rfl, h_t1 16 rfl rfl, ⟨by decide, by decide, by decide +kernel⟩, by decide⟩
theorem lX12_986 : Cond.methodLink RX12 986 mX12_writeLetter.1 ∈ lw_g := h_t10 96 rfl rfl
theorem sX12_writeLetter : Cond.instanceMethod mX12_writeLetter.1 ∈ lw_g ∧ Cond.selects mX12_writeLetter.1.cls mX12_writeLetter.1 mX12_writeLetter.1 ∈ lw_g := ⟨h_t10 98 rfl rfl, h_ins 219 rfl⟩
theorem dX12_deliver_143 : decode cX12_deliver 143 = .ok (.invokevirtual 986, 3) := by decide +kernel
theorem dX12_deliver_120 : decode cX12_deliver 120 = .ok (.istore_n 3, 1) := by decide +kernel
theorem dX12_deliver_121 : decode cX12_deliver 121 = .ok (.iload_n 2, 1) := by decide +kernel
theorem dX12_deliver_122 : decode cX12_deliver 122 = .ok (.ifCond .ne 7, 3) := by decide +kernel
theorem dX12_deliver_129 : decode cX12_deliver 129 = .ok (.iconst 1, 1) := by decide +kernel
theorem dX12_deliver_130 : decode cX12_deliver 130 = .ok (.goto 4, 3) := by decide +kernel
theorem dX12_deliver_125 : decode cX12_deliver 125 = .ok (.iload_n 3, 1) := by decide +kernel
theorem dX12_deliver_126 : decode cX12_deliver 126 = .ok (.ifCond .eq 7, 3) := by decide +kernel
theorem dX12_deliver_133 : decode cX12_deliver 133 = .ok (.iconst 0, 1) := by decide +kernel
theorem dX12_deliver_100 : decode cX12_deliver 100 = .ok (.istore_n 2, 1) := by decide +kernel
theorem dX12_deliver_101 : decode cX12_deliver 101 = .ok (.aload_n 0, 1) := by decide +kernel
theorem dX12_deliver_102 : decode cX12_deliver 102 = .ok (.getfield 752, 3) := by decide +kernel
theorem dX12_deliver_105 : decode cX12_deliver 105 = .ok (.ifCond .ne 14, 3) := by decide +kernel
theorem dX12_deliver_119 : decode cX12_deliver 119 = .ok (.iconst 0, 1) := by decide +kernel
theorem dX12_deliver_108 : decode cX12_deliver 108 = .ok (.aload_n 0, 1) := by decide +kernel
theorem kX12_answers : h_ml mX12_answers 0 := ⟨h_t10 35 rfl rfl, h_t1 16 rfl rfl, ⟨by decide, by decide, by decide +kernel⟩, by decide⟩
theorem lX12_983 : Cond.methodLink RX12 983 mX12_answers.1 ∈ lw_g := h_t10 32 rfl rfl
theorem sX12_answers : Cond.instanceMethod mX12_answers.1 ∈ lw_g ∧ Cond.selects mX12_answers.1.cls mX12_answers.1 mX12_answers.1 ∈ lw_g := ⟨h_t10 34 rfl rfl, h_ins 206 rfl⟩
theorem dX12_deliver_109 : decode cX12_deliver 109 = .ok (.invokevirtual 983, 3) := by decide +kernel
theorem dX12_deliver_112 : decode cX12_deliver 112 = .ok (.ifCond .eq 7, 3) := by decide +kernel
theorem dX12_deliver_115 : decode cX12_deliver 115 = .ok (.iconst 1, 1) := by decide +kernel
theorem dX12_deliver_116 : decode cX12_deliver 116 = .ok (.goto 4, 3) := by decide +kernel
theorem dX12_deliver_22 : decode cX12_deliver 22 = .ok (.iload_n 2, 1) := by decide +kernel
theorem dX12_deliver_23 : decode cX12_deliver 23 = .ok (.aload_n 0, 1) := by decide +kernel
theorem dX12_deliver_24 : decode cX12_deliver 24 = .ok (.getfield 684, 3) := by decide +kernel
theorem dX12_deliver_27 : decode cX12_deliver 27 = .ok (.if_icmp .ge 26, 3) := by decide +kernel
theorem dX12_deliver_53 : decode cX12_deliver 53 = .ok (.aload_n 0, 1) := by decide +kernel
theorem dX12_deliver_54 : decode cX12_deliver 54 = .ok (.getfield 75, 3) := by decide +kernel
theorem dX12_deliver_57 : decode cX12_deliver 57 = .ok (.sipush 4000, 3) := by decide +kernel
theorem dX12_deliver_60 : decode cX12_deliver 60 = .ok (.if_icmp .le 13, 3) := by decide +kernel
theorem dX12_deliver_73 : decode cX12_deliver 73 = .ok (.aload_n 0, 1) := by decide +kernel
theorem kX12_readHeader : h_ml mX12_readHeader 0 := ⟨h_t8 28 rfl rfl, h_t1 16 rfl rfl, ⟨by decide, by decide, by decide +kernel⟩, by decide⟩
theorem lX12_977 : Cond.methodLink RX12 977 mX12_readHeader.1 ∈ lw_g := h_t8 25 rfl rfl
theorem sX12_readHeader : Cond.instanceMethod mX12_readHeader.1 ∈ lw_g ∧ Cond.selects mX12_readHeader.1.cls mX12_readHeader.1 mX12_readHeader.1 ∈ lw_g := ⟨h_t8 27 rfl rfl, h_ins 110 rfl⟩
theorem dX12_deliver_74 : decode cX12_deliver 74 = .ok (.invokevirtual 977, 3) := by decide +kernel
theorem dX12_deliver_77 : decode cX12_deliver 77 = .ok (.aload_n 0, 1) := by decide +kernel
theorem kX12_sortIt : h_ml mX12_sortIt 0 := ⟨h_t8 44 rfl rfl, h_t1 16 rfl rfl, ⟨by decide, by decide, by decide +kernel⟩, by decide⟩
theorem lX12_980 : Cond.methodLink RX12 980 mX12_sortIt.1 ∈ lw_g := h_t8 41 rfl rfl
theorem sX12_sortIt : Cond.instanceMethod mX12_sortIt.1 ∈ lw_g ∧ Cond.selects mX12_sortIt.1.cls mX12_sortIt.1 mX12_sortIt.1 ∈ lw_g := ⟨h_t8 43 rfl rfl, h_ins 114 rfl⟩
theorem dX12_deliver_78 : decode cX12_deliver 78 = .ok (.invokevirtual 980, 3) := by decide +kernel
theorem dX12_deliver_81 : decode cX12_deliver 81 = .ok (.aload_n 0, 1) := by decide +kernel
theorem dX12_deliver_82 : decode cX12_deliver 82 = .ok (.getfield 752, 3) := by decide +kernel
theorem dX12_deliver_85 : decode cX12_deliver 85 = .ok (.ifCond .le 14, 3) := by decide +kernel
theorem dX12_deliver_99 : decode cX12_deliver 99 = .ok (.iconst 0, 1) := by decide +kernel
theorem dX12_deliver_88 : decode cX12_deliver 88 = .ok (.aload_n 0, 1) := by decide +kernel
theorem dX12_deliver_89 : decode cX12_deliver 89 = .ok (.getfield 678, 3) := by decide +kernel
theorem dX12_deliver_92 : decode cX12_deliver 92 = .ok (.ifCond .le 7, 3) := by decide +kernel
theorem dX12_deliver_95 : decode cX12_deliver 95 = .ok (.iconst 1, 1) := by decide +kernel
theorem dX12_deliver_96 : decode cX12_deliver 96 = .ok (.goto 4, 3) := by decide +kernel
theorem dX12_deliver_63 : decode cX12_deliver 63 = .ok (.aload_n 0, 1) := by decide +kernel
theorem dX12_deliver_64 : decode cX12_deliver 64 = .ok (.iconst 4, 1) := by decide +kernel
theorem dX12_deliver_65 : decode cX12_deliver 65 = .ok (.ldc_w 972, 3) := by decide +kernel
theorem dX12_deliver_68 : decode cX12_deliver 68 = .ok (.invokevirtual 974, 3) := by decide +kernel
theorem dX12_deliver_71 : decode cX12_deliver 71 = .ok (.iconst 1, 1) := by decide +kernel
theorem dX12_deliver_72 : decode cX12_deliver 72 = .ok (.ireturn, 1) := by decide +kernel
theorem dX12_deliver_30 : decode cX12_deliver 30 = .ok (.aload_n 0, 1) := by decide +kernel
theorem dX12_deliver_31 : decode cX12_deliver 31 = .ok (.getfield 687, 3) := by decide +kernel
theorem dX12_deliver_34 : decode cX12_deliver 34 = .ok (.iload_n 2, 1) := by decide +kernel
theorem dX12_deliver_35 : decode cX12_deliver 35 = .ok (.aload_n 0, 1) := by decide +kernel
theorem dX12_deliver_36 : decode cX12_deliver 36 = .ok (.getfield 969, 3) := by decide +kernel
theorem dX12_deliver_39 : decode cX12_deliver 39 = .ok (.bipush 101, 2) := by decide +kernel
theorem dX12_deliver_41 : decode cX12_deliver 41 = .ok (.iload_n 1, 1) := by decide +kernel
theorem dX12_deliver_42 : decode cX12_deliver 42 = .ok (.imul, 1) := by decide +kernel
theorem dX12_deliver_43 : decode cX12_deliver 43 = .ok (.iload_n 2, 1) := by decide +kernel
theorem dX12_deliver_44 : decode cX12_deliver 44 = .ok (.iadd, 1) := by decide +kernel
theorem dX12_deliver_45 : decode cX12_deliver 45 = .ok (.iaload, 1) := by decide +kernel
theorem dX12_deliver_46 : decode cX12_deliver 46 = .ok (.iastore, 1) := by decide +kernel
theorem dX12_deliver_47 : decode cX12_deliver 47 = .ok (.iinc 2 1, 3) := by decide +kernel
theorem dX12_deliver_50 : decode cX12_deliver 50 = .ok (.goto (-28), 3) := by decide +kernel
theorem dX12_deliver_0 : decode cX12_deliver 0 = .ok (.aload_n 0, 1) := by decide +kernel
theorem dX12_deliver_1 : decode cX12_deliver 1 = .ok (.aload_n 0, 1) := by decide +kernel
theorem dX12_deliver_2 : decode cX12_deliver 2 = .ok (.getfield 963, 3) := by decide +kernel
theorem dX12_deliver_5 : decode cX12_deliver 5 = .ok (.iload_n 1, 1) := by decide +kernel
theorem dX12_deliver_6 : decode cX12_deliver 6 = .ok (.iaload, 1) := by decide +kernel
theorem dX12_deliver_7 : decode cX12_deliver 7 = .ok (.putfield 799, 3) := by decide +kernel
theorem dX12_deliver_10 : decode cX12_deliver 10 = .ok (.aload_n 0, 1) := by decide +kernel
theorem dX12_deliver_11 : decode cX12_deliver 11 = .ok (.aload_n 0, 1) := by decide +kernel
theorem dX12_deliver_12 : decode cX12_deliver 12 = .ok (.getfield 966, 3) := by decide +kernel
theorem dX12_deliver_15 : decode cX12_deliver 15 = .ok (.iload_n 1, 1) := by decide +kernel
theorem dX12_deliver_16 : decode cX12_deliver 16 = .ok (.iaload, 1) := by decide +kernel
theorem dX12_deliver_17 : decode cX12_deliver 17 = .ok (.putfield 684, 3) := by decide +kernel
theorem dX12_deliver_20 : decode cX12_deliver 20 = .ok (.iconst 0, 1) := by decide +kernel
theorem dX12_deliver_21 : decode cX12_deliver 21 = .ok (.istore_n 2, 1) := by decide +kernel
def fb_X12_deliver_233   (s : uS) : Option (uS × Bool) := (fn_X12_line 4 kW_160 s).bind fun s2 => some (s2, true)
set_option maxRecDepth 100000 in
set_option maxHeartbeats 4000000 in
theorem xb_X12_deliver_233 {l : Launch} {D : va_G} {A : Nat → ClassId} {B : Nat} {Z : State → Heap → Prop} {vF : Value} (uk : uK B Z vF) (un : uX A B Z)    {s : uS} {r : (uS × Bool)}  (h : fb_X12_deliver_233   s = some r) : GU l D A B Z mX12_deliver 114 (r.1, some (.int (bI r.2))) s 233 [(0, .ref (B + 1079))] [] := by
  unfold fb_X12_deliver_233 at h
  refine uu_aload_n dX12_deliver_233 rfl (List.mem_of_getElem? (i := 0) rfl) ?_
  refine uu_iconst (v := 4) dX12_deliver_234 (by decide) ?_
  obtain ⟨cq1, cp1, cv1, cw1⟩ := uk.2.1 160 _ rfl
  refine uu_ldcwS cv1 dX12_deliver_235 ?_
  obtain ⟨s2, e3, h⟩ := uu_ob h
  refine uu_cv (d1 := 5) (k := 1079) (ci := 12) (T := TX12) (N := 153) (As := [.int 4, .ref cq1]) (st := []) (st' := []) (xc_X12_line uk cw1 e3) so_1079.is (by decide) rfl kX12_line lX12_974 sX12_line (by decide) (Nat.le_of_ble_eq_true rfl) dX12_deliver_238 rfl ?_
  refine uu_iconst (v := 1) dX12_deliver_241 (by decide) ?_
  have hr := Option.some.inj h
  subst hr
  exact uu_zret (x := bI true) rfl (bI_z _) dX12_deliver_242
def fb_X12_deliver_357 (K357 : Int32 → uS → Option (uS × Bool)) (x7 : Int32) (s : uS) : Option (uS × Bool) := if (s.I 1079 91) ≤ x7 then ((fn_X12_line 4 kW_162 s).bind fun s3 => some (s3, true)) else ((iget 20 s 1136 x7).bind fun v5 => (fn_X12_say 4 v5 s).bind fun s7 => K357 (x7 + 1) s7)
set_option maxRecDepth 100000 in
set_option maxHeartbeats 4000000 in
theorem xb_X12_deliver_357 {l : Launch} {D : va_G} {A : Nat → ClassId} {B : Nat} {Z : State → Heap → Prop} {vF : Value} (uk : uK B Z vF) (un : uX A B Z) {K357 : Int32 → uS → Option (uS × Bool)} (hK357 : ∀ (x7 : Int32)  (s : uS) (r : (uS × Bool)), K357 x7 s = some r → GU l D A B Z mX12_deliver 114 (r.1, some (.int (bI r.2))) s 357 [(0, .ref (B + 1079)), (7, .int x7)] []) {x7 : Int32} {s : uS} {r : (uS × Bool)}  (h : fb_X12_deliver_357 K357 x7 s = some r) : GU l D A B Z mX12_deliver 114 (r.1, some (.int (bI r.2))) s 357 [(0, .ref (B + 1079)), (7, .int x7)] [] := by
  unfold fb_X12_deliver_357 at h
  refine uu_iload dX12_deliver_357 (List.mem_of_getElem? (i := 1) rfl) ?_
  refine uu_aload_n dX12_deliver_359 rfl (List.mem_of_getElem? (i := 0) rfl) ?_
  refine uu_geti (ci := 12) (N := 153) fX12_684 (by decide) so_1079.is (by decide) (by decide) dX12_deliver_360 ?_
  refine uu_icmp_ge (tgt := 384) dX12_deliver_363 (by decide) (fun c1 => ?_) (fun c1 => ?_)
  · replace h := uu_pos c1 h
    refine uu_aload_n dX12_deliver_384 rfl (List.mem_of_getElem? (i := 0) rfl) ?_
    refine uu_iconst (v := 4) dX12_deliver_385 (by decide) ?_
    obtain ⟨cq2, cp2, cv2, cw2⟩ := uk.2.1 162 _ rfl
    refine uu_ldcwS cv2 dX12_deliver_386 ?_
    obtain ⟨s3, e4, h⟩ := uu_ob h
    refine uu_cv (d1 := 5) (k := 1079) (ci := 12) (T := TX12) (N := 153) (As := [.int 4, .ref cq2]) (st := []) (st' := []) (xc_X12_line uk cw2 e4) so_1079.is (by decide) rfl kX12_line lX12_974 sX12_line (by decide) (Nat.le_of_ble_eq_true rfl) dX12_deliver_389 rfl ?_
    refine uu_iconst (v := 1) dX12_deliver_392 (by decide) ?_
    have hr := Option.some.inj h
    subst hr
    exact uu_zret (x := bI true) rfl (bI_z _) dX12_deliver_393
  · replace h := uu_neg c1 h
    refine uu_aload_n dX12_deliver_366 rfl (List.mem_of_getElem? (i := 0) rfl) ?_
    refine uu_iconst (v := 4) dX12_deliver_367 (by decide) ?_
    refine uu_aload_n dX12_deliver_368 rfl (List.mem_of_getElem? (i := 0) rfl) ?_
    refine uu_geta (ci := 12) (N := 153) fX12_687 (by decide) so_1079.is (by decide) (c := 1136) (by decide) dX12_deliver_369 ?_
    refine uu_iload dX12_deliver_372 (List.mem_of_getElem? (i := 1) rfl) ?_
    obtain ⟨v5, e6, h⟩ := uu_ob h
    refine uu_iald e6 dX12_deliver_374 ?_
    obtain ⟨s7, e8, h⟩ := uu_ob h
    refine uu_cv (d1 := 0) (k := 1079) (ci := 12) (T := TX12) (N := 153) (As := [.int 4, .int v5]) (st := []) (st' := []) (xc_X12_say uk  e8) so_1079.is (by decide) rfl kX12_say lX12_54 sX12_say (by decide) (Nat.le_of_ble_eq_true rfl) dX12_deliver_375 rfl ?_
    refine uu_iinc (v := x7 + 1) dX12_deliver_378 (k := 1) rfl rfl (by decide) rfl ?_
    refine uu_goto (tgt := 357) dX12_deliver_381 (by decide) ?_
    refine uu_lv [1, 0] (lv' := [(0, .ref (B + 1079)), (7, .int (x7 + 1))]) rfl ?_
    exact hK357 (x7 + 1) _ _ h
def fn_X12_deliver_357  : Nat → Int32 → uS → Option (uS × Bool)
  | 0 => fun _ _ => none
  | n + 1 => fb_X12_deliver_357 (fn_X12_deliver_357  n)
set_option maxRecDepth 100000 in
set_option maxHeartbeats 4000000 in
theorem xn_X12_deliver_357 {l : Launch} {D : va_G} {A : Nat → ClassId} {B : Nat} {Z : State → Heap → Prop} {vF : Value} (uk : uK B Z vF) (un : uX A B Z)   : ∀ (n : Nat) (x7 : Int32)  (s : uS) (r : (uS × Bool)), fn_X12_deliver_357  n x7 s = some r → GU l D A B Z mX12_deliver 114 (r.1, some (.int (bI r.2))) s 357 [(0, .ref (B + 1079)), (7, .int x7)] [] := by
  intro n
  induction n with
  | zero => intro x7 s r h
            cases h
  | succ n ih => intro x7 s r h
                 exact xb_X12_deliver_357 uk un ih  h
def fb_X12_deliver_346   (s : uS) : Option (uS × Bool) := (fn_X12_tell 4 kW_161 s).bind fun s2 => fn_X12_deliver_357 uFu 0 s2
set_option maxRecDepth 100000 in
set_option maxHeartbeats 4000000 in
theorem xb_X12_deliver_346 {l : Launch} {D : va_G} {A : Nat → ClassId} {B : Nat} {Z : State → Heap → Prop} {vF : Value} (uk : uK B Z vF) (un : uX A B Z)    {s : uS} {r : (uS × Bool)}  (h : fb_X12_deliver_346   s = some r) : GU l D A B Z mX12_deliver 114 (r.1, some (.int (bI r.2))) s 346 [(0, .ref (B + 1079))] [] := by
  unfold fb_X12_deliver_346 at h
  refine uu_aload_n dX12_deliver_346 rfl (List.mem_of_getElem? (i := 0) rfl) ?_
  refine uu_iconst (v := 4) dX12_deliver_347 (by decide) ?_
  obtain ⟨cq1, cp1, cv1, cw1⟩ := uk.2.1 161 _ rfl
  refine uu_ldcwS cv1 dX12_deliver_348 ?_
  obtain ⟨s2, e3, h⟩ := uu_ob h
  refine uu_cv (d1 := 4) (k := 1079) (ci := 12) (T := TX12) (N := 153) (As := [.int 4, .ref cq1]) (st := []) (st' := []) (xc_X12_tell uk cw1 e3) so_1079.is (by decide) rfl kX12_tell lX12_68 sX12_tell (by decide) (Nat.le_of_ble_eq_true rfl) dX12_deliver_351 rfl ?_
  refine uu_iconst (v := 0) dX12_deliver_354 (by decide) ?_
  refine uu_istore dX12_deliver_355 (by decide) rfl ?_
  refine uu_lv [1, 0] (lv' := [(0, .ref (B + 1079)), (7, .int 0)]) rfl ?_
  exact xn_X12_deliver_357 uk un  _ _ _ _ h
def fb_X12_deliver_338  (b3 : Bool) (s : uS) : Option (uS × Bool) := if b3 = true then ((fn_X12_addNote s).bind fun s2 => fb_X12_deliver_346 s2) else (fb_X12_deliver_346 s)
set_option maxRecDepth 100000 in
set_option maxHeartbeats 4000000 in
theorem xb_X12_deliver_338 {l : Launch} {D : va_G} {A : Nat → ClassId} {B : Nat} {Z : State → Heap → Prop} {vF : Value} (uk : uK B Z vF) (un : uX A B Z)   {b3 : Bool} {s : uS} {r : (uS × Bool)}  (h : fb_X12_deliver_338  b3 s = some r) : GU l D A B Z mX12_deliver 114 (r.1, some (.int (bI r.2))) s 338 [(0, .ref (B + 1079)), (3, .int (bI b3))] [] := by
  unfold fb_X12_deliver_338 at h
  refine uu_iload_n dX12_deliver_338 rfl (List.mem_of_getElem? (i := 1) rfl) ?_
  refine uu_ifb_eq (tgt := 346) dX12_deliver_339 (by decide) (fun c1 => ?_) (fun c1 => ?_)
  · replace h := uu_neg c1 h
    refine uu_lv [0] (lv' := [(0, .ref (B + 1079))]) rfl ?_
    exact xb_X12_deliver_346 uk un  h
  · replace h := uu_pos c1 h
    refine uu_aload_n dX12_deliver_342 rfl (List.mem_of_getElem? (i := 0) rfl) ?_
    obtain ⟨s2, e3, h⟩ := uu_ob h
    refine uu_cv (d1 := 2) (k := 1079) (ci := 12) (T := TX12) (N := 153) (As := []) (st := []) (st' := []) (xc_X12_addNote uk  e3) so_1079.is (by decide) rfl kX12_addNote lX12_1005 sX12_addNote (by decide) (Nat.le_of_ble_eq_true rfl) dX12_deliver_343 rfl ?_
    refine uu_lv [0] (lv' := [(0, .ref (B + 1079))]) rfl ?_
    exact xb_X12_deliver_346 uk un  h
def fb_X12_deliver_303 (K303 : Bool → Bool → Int32 → uS → Option (uS × Bool)) (b3 : Bool) (b4 : Bool) (x7 : Int32) (s : uS) : Option (uS × Bool) := if (s.I 1079 100) ≤ x7 then (if b4 = true then ((fn_X12_sendLetter s).bind fun s3 => fb_X12_deliver_338 b3 s3) else (fb_X12_deliver_338 b3 s)) else ((iget 20 s 1140 x7).bind fun v5 => (fn_X12_sendTo v5 s).bind fun s7 => K303 b3 b4 (x7 + 1) s7)
set_option maxRecDepth 100000 in
set_option maxHeartbeats 4000000 in
theorem xb_X12_deliver_303 {l : Launch} {D : va_G} {A : Nat → ClassId} {B : Nat} {Z : State → Heap → Prop} {vF : Value} (uk : uK B Z vF) (un : uX A B Z) {K303 : Bool → Bool → Int32 → uS → Option (uS × Bool)} (hK303 : ∀ (b3 : Bool) (b4 : Bool) (x7 : Int32)  (s : uS) (r : (uS × Bool)), K303 b3 b4 x7 s = some r → GU l D A B Z mX12_deliver 114 (r.1, some (.int (bI r.2))) s 303 [(0, .ref (B + 1079)), (3, .int (bI b3)), (4, .int (bI b4)), (7, .int x7)] []) {b3 : Bool} {b4 : Bool} {x7 : Int32} {s : uS} {r : (uS × Bool)}  (h : fb_X12_deliver_303 K303 b3 b4 x7 s = some r) : GU l D A B Z mX12_deliver 114 (r.1, some (.int (bI r.2))) s 303 [(0, .ref (B + 1079)), (3, .int (bI b3)), (4, .int (bI b4)), (7, .int x7)] [] := by
  unfold fb_X12_deliver_303 at h
  refine uu_iload dX12_deliver_303 (List.mem_of_getElem? (i := 3) rfl) ?_
  refine uu_aload_n dX12_deliver_305 rfl (List.mem_of_getElem? (i := 0) rfl) ?_
  refine uu_geti (ci := 12) (N := 153) fX12_787 (by decide) so_1079.is (by decide) (by decide) dX12_deliver_306 ?_
  refine uu_icmp_ge (tgt := 329) dX12_deliver_309 (by decide) (fun c1 => ?_) (fun c1 => ?_)
  · replace h := uu_pos c1 h
    refine uu_iload dX12_deliver_329 (List.mem_of_getElem? (i := 2) rfl) ?_
    refine uu_ifb_eq (tgt := 338) dX12_deliver_331 (by decide) (fun c2 => ?_) (fun c2 => ?_)
    · replace h := uu_neg c2 h
      refine uu_lv [0, 1] (lv' := [(0, .ref (B + 1079)), (3, .int (bI b3))]) rfl ?_
      exact xb_X12_deliver_338 uk un  h
    · replace h := uu_pos c2 h
      refine uu_aload_n dX12_deliver_334 rfl (List.mem_of_getElem? (i := 0) rfl) ?_
      obtain ⟨s3, e4, h⟩ := uu_ob h
      refine uu_cv (d1 := 1) (k := 1079) (ci := 12) (T := TX12) (N := 153) (As := []) (st := []) (st' := []) (xc_X12_sendLetter uk  e4) so_1079.is (by decide) rfl kX12_sendLetter lX12_1002 sX12_sendLetter (by decide) (Nat.le_of_ble_eq_true rfl) dX12_deliver_335 rfl ?_
      refine uu_lv [0, 1] (lv' := [(0, .ref (B + 1079)), (3, .int (bI b3))]) rfl ?_
      exact xb_X12_deliver_338 uk un  h
  · replace h := uu_neg c1 h
    refine uu_aload_n dX12_deliver_312 rfl (List.mem_of_getElem? (i := 0) rfl) ?_
    refine uu_aload_n dX12_deliver_313 rfl (List.mem_of_getElem? (i := 0) rfl) ?_
    refine uu_geta (ci := 12) (N := 153) fX12_790 (by decide) so_1079.is (by decide) (c := 1140) (by decide) dX12_deliver_314 ?_
    refine uu_iload dX12_deliver_317 (List.mem_of_getElem? (i := 3) rfl) ?_
    obtain ⟨v5, e6, h⟩ := uu_ob h
    refine uu_iald e6 dX12_deliver_319 ?_
    obtain ⟨s7, e8, h⟩ := uu_ob h
    refine uu_cv (d1 := 2) (k := 1079) (ci := 12) (T := TX12) (N := 153) (As := [.int v5]) (st := []) (st' := []) (xc_X12_sendTo uk  e8) so_1079.is (by decide) rfl kX12_sendTo lX12_999 sX12_sendTo (by decide) (Nat.le_of_ble_eq_true rfl) dX12_deliver_320 rfl ?_
    refine uu_iinc (v := x7 + 1) dX12_deliver_323 (k := 3) rfl rfl (by decide) rfl ?_
    refine uu_goto (tgt := 303) dX12_deliver_326 (by decide) ?_
    refine uu_lv [1, 2, 3, 0] (lv' := [(0, .ref (B + 1079)), (3, .int (bI b3)), (4, .int (bI b4)), (7, .int (x7 + 1))]) rfl ?_
    exact hK303 b3 b4 (x7 + 1) _ _ h
def fn_X12_deliver_303  : Nat → Bool → Bool → Int32 → uS → Option (uS × Bool)
  | 0 => fun _ _ _ _ => none
  | n + 1 => fb_X12_deliver_303 (fn_X12_deliver_303  n)
set_option maxRecDepth 100000 in
set_option maxHeartbeats 4000000 in
theorem xn_X12_deliver_303 {l : Launch} {D : va_G} {A : Nat → ClassId} {B : Nat} {Z : State → Heap → Prop} {vF : Value} (uk : uK B Z vF) (un : uX A B Z)   : ∀ (n : Nat) (b3 : Bool) (b4 : Bool) (x7 : Int32)  (s : uS) (r : (uS × Bool)), fn_X12_deliver_303  n b3 b4 x7 s = some r → GU l D A B Z mX12_deliver 114 (r.1, some (.int (bI r.2))) s 303 [(0, .ref (B + 1079)), (3, .int (bI b3)), (4, .int (bI b4)), (7, .int x7)] [] := by
  intro n
  induction n with
  | zero => intro b3 b4 x7 s r h
            cases h
  | succ n ih => intro b3 b4 x7 s r h
                 exact xb_X12_deliver_303 uk un ih  h
def fb_X12_deliver_255 (K255 : Bool → Bool → Int32 → uS → Option (uS × Bool)) (b3 : Bool) (b4 : Bool) (x7 : Int32) (s : uS) : Option (uS × Bool) := if (s.I 1079 97) ≤ x7 then (fn_X12_deliver_303 uFu b3 b4 0 s) else ((iget 20 s 1138 x7).bind fun v2 => (fn_X12_boxMade v2 s).bind fun r4 => (iget 20 r4.1 1139 x7).bind fun v6 => (fn_X12_beginMail (s.I 1079 89) r4.2 v6 r4.1).bind fun r8 => (fn_X12_copyMail r8.2 r8.1).bind fun s10 => K255 b3 b4 (x7 + 1) s10)
set_option maxRecDepth 100000 in
set_option maxHeartbeats 4000000 in
theorem xb_X12_deliver_255 {l : Launch} {D : va_G} {A : Nat → ClassId} {B : Nat} {Z : State → Heap → Prop} {vF : Value} (uk : uK B Z vF) (un : uX A B Z) {K255 : Bool → Bool → Int32 → uS → Option (uS × Bool)} (hK255 : ∀ (b3 : Bool) (b4 : Bool) (x7 : Int32)  (s : uS) (r : (uS × Bool)), K255 b3 b4 x7 s = some r → GU l D A B Z mX12_deliver 114 (r.1, some (.int (bI r.2))) s 255 [(0, .ref (B + 1079)), (3, .int (bI b3)), (4, .int (bI b4)), (7, .int x7)] []) {b3 : Bool} {b4 : Bool} {x7 : Int32} {s : uS} {r : (uS × Bool)}  (h : fb_X12_deliver_255 K255 b3 b4 x7 s = some r) : GU l D A B Z mX12_deliver 114 (r.1, some (.int (bI r.2))) s 255 [(0, .ref (B + 1079)), (3, .int (bI b3)), (4, .int (bI b4)), (7, .int x7)] [] := by
  unfold fb_X12_deliver_255 at h
  refine uu_iload dX12_deliver_255 (List.mem_of_getElem? (i := 3) rfl) ?_
  refine uu_aload_n dX12_deliver_257 rfl (List.mem_of_getElem? (i := 0) rfl) ?_
  refine uu_geti (ci := 12) (N := 153) fX12_775 (by decide) so_1079.is (by decide) (by decide) dX12_deliver_258 ?_
  refine uu_icmp_ge (tgt := 300) dX12_deliver_261 (by decide) (fun c1 => ?_) (fun c1 => ?_)
  · replace h := uu_pos c1 h
    refine uu_iconst (v := 0) dX12_deliver_300 (by decide) ?_
    refine uu_istore dX12_deliver_301 (by decide) rfl ?_
    refine uu_lv [1, 2, 3, 0] (lv' := [(0, .ref (B + 1079)), (3, .int (bI b3)), (4, .int (bI b4)), (7, .int 0)]) rfl ?_
    exact xn_X12_deliver_303 uk un  _ _ _ _ _ _ h
  · replace h := uu_neg c1 h
    refine uu_aload_n dX12_deliver_264 rfl (List.mem_of_getElem? (i := 0) rfl) ?_
    refine uu_aload_n dX12_deliver_265 rfl (List.mem_of_getElem? (i := 0) rfl) ?_
    refine uu_aload_n dX12_deliver_266 rfl (List.mem_of_getElem? (i := 0) rfl) ?_
    refine uu_geti (ci := 12) (N := 153) fX12_799 (by decide) so_1079.is (by decide) (by decide) dX12_deliver_267 ?_
    refine uu_aload_n dX12_deliver_270 rfl (List.mem_of_getElem? (i := 0) rfl) ?_
    refine uu_aload_n dX12_deliver_271 rfl (List.mem_of_getElem? (i := 0) rfl) ?_
    refine uu_geta (ci := 12) (N := 153) fX12_778 (by decide) so_1079.is (by decide) (c := 1138) (by decide) dX12_deliver_272 ?_
    refine uu_iload dX12_deliver_275 (List.mem_of_getElem? (i := 3) rfl) ?_
    obtain ⟨v2, e3, h⟩ := uu_ob h
    refine uu_iald e3 dX12_deliver_277 ?_
    obtain ⟨r4, e5, h⟩ := uu_ob h
    refine uu_cv (d1 := 8) (k := 1079) (ci := 12) (T := TX12) (N := 153) (As := [.int v2]) (st := [.int (s.I 1079 89), .ref (B + 1079), .ref (B + 1079)]) (st' := [.int r4.2, .int (s.I 1079 89), .ref (B + 1079), .ref (B + 1079)]) (xc_X12_boxMade uk  e5) so_1079.is (by decide) rfl kX12_boxMade lX12_996 sX12_boxMade (by decide) (Nat.le_of_ble_eq_true rfl) dX12_deliver_278 rfl ?_
    refine uu_aload_n dX12_deliver_281 rfl (List.mem_of_getElem? (i := 0) rfl) ?_
    refine uu_geta (ci := 12) (N := 153) fX12_784 (by decide) so_1079.is (by decide) (c := 1139) (by decide) dX12_deliver_282 ?_
    refine uu_iload dX12_deliver_285 (List.mem_of_getElem? (i := 3) rfl) ?_
    obtain ⟨v6, e7, h⟩ := uu_ob h
    refine uu_iald e7 dX12_deliver_287 ?_
    obtain ⟨r8, e9, h⟩ := uu_ob h
    refine uu_cv (d1 := 0) (k := 1079) (ci := 12) (T := TX12) (N := 153) (As := [.int (s.I 1079 89), .int r4.2, .int v6]) (st := [.ref (B + 1079)]) (st' := [.int r8.2, .ref (B + 1079)]) (xc_X12_beginMail uk  e9) so_1079.is (by decide) rfl kX12_beginMail lX12_950 sX12_beginMail (by decide) (Nat.le_of_ble_eq_true rfl) dX12_deliver_288 rfl ?_
    obtain ⟨s10, e11, h⟩ := uu_ob h
    refine uu_cv (d1 := 1) (k := 1079) (ci := 12) (T := TX12) (N := 153) (As := [.int r8.2]) (st := []) (st' := []) (xc_X12_copyMail uk  e11) so_1079.is (by decide) rfl kX12_copyMail lX12_960 sX12_copyMail (by decide) (Nat.le_of_ble_eq_true rfl) dX12_deliver_291 rfl ?_
    refine uu_iinc (v := x7 + 1) dX12_deliver_294 (k := 3) rfl rfl (by decide) rfl ?_
    refine uu_goto (tgt := 255) dX12_deliver_297 (by decide) ?_
    refine uu_lv [1, 2, 3, 0] (lv' := [(0, .ref (B + 1079)), (3, .int (bI b3)), (4, .int (bI b4)), (7, .int (x7 + 1))]) rfl ?_
    exact hK255 b3 b4 (x7 + 1) _ _ h
def fn_X12_deliver_255  : Nat → Bool → Bool → Int32 → uS → Option (uS × Bool)
  | 0 => fun _ _ _ _ => none
  | n + 1 => fb_X12_deliver_255 (fn_X12_deliver_255  n)
set_option maxRecDepth 100000 in
set_option maxHeartbeats 4000000 in
theorem xn_X12_deliver_255 {l : Launch} {D : va_G} {A : Nat → ClassId} {B : Nat} {Z : State → Heap → Prop} {vF : Value} (uk : uK B Z vF) (un : uX A B Z)   : ∀ (n : Nat) (b3 : Bool) (b4 : Bool) (x7 : Int32)  (s : uS) (r : (uS × Bool)), fn_X12_deliver_255  n b3 b4 x7 s = some r → GU l D A B Z mX12_deliver 114 (r.1, some (.int (bI r.2))) s 255 [(0, .ref (B + 1079)), (3, .int (bI b3)), (4, .int (bI b4)), (7, .int x7)] [] := by
  intro n
  induction n with
  | zero => intro b3 b4 x7 s r h
            cases h
  | succ n ih => intro b3 b4 x7 s r h
                 exact xb_X12_deliver_255 uk un ih  h
def fb_X12_deliver_190  (b3 : Bool) (b4 : Bool) (x5 : Int32) (xs0 : Int32) (xs1 : Int32) (s : uS) : Option (uS × Bool) := if (300 : Int32) < ((s.I 1079 70) + (s.I 1079 97)) then (fb_X12_deliver_233 s) else (if (100 : Int32) < ((s.I 1079 71) + x5) then (fb_X12_deliver_233 s) else (if ((s.I 1079 69) + (xs1 + xs0)) ≤ 150000 then ((fn_X12_commit s).bind fun r4 => if r4.2 = true then (fn_X12_deliver_255 uFu b3 b4 0 r4.1) else (some (r4.1, false))) else (fb_X12_deliver_233 s)))
set_option maxRecDepth 100000 in
set_option maxHeartbeats 4000000 in
theorem xb_X12_deliver_190 {l : Launch} {D : va_G} {A : Nat → ClassId} {B : Nat} {Z : State → Heap → Prop} {vF : Value} (uk : uK B Z vF) (un : uX A B Z)   {b3 : Bool} {b4 : Bool} {x5 : Int32} {xs0 : Int32} {xs1 : Int32} {s : uS} {r : (uS × Bool)}  (h : fb_X12_deliver_190  b3 b4 x5 xs0 xs1 s = some r) : GU l D A B Z mX12_deliver 114 (r.1, some (.int (bI r.2))) s 190 [(0, .ref (B + 1079)), (3, .int (bI b3)), (4, .int (bI b4)), (5, .int x5)] [.int xs0, .int xs1] := by
  unfold fb_X12_deliver_190 at h
  refine uu_iadd dX12_deliver_190 ?_
  refine uu_istore dX12_deliver_191 (by decide) rfl ?_
  refine uu_aload_n dX12_deliver_193 rfl (List.mem_of_getElem? (i := 1) rfl) ?_
  refine uu_geti (ci := 12) (N := 153) fX12_563 (by decide) so_1079.is (by decide) (by decide) dX12_deliver_194 ?_
  refine uu_aload_n dX12_deliver_197 rfl (List.mem_of_getElem? (i := 1) rfl) ?_
  refine uu_geti (ci := 12) (N := 153) fX12_775 (by decide) so_1079.is (by decide) (by decide) dX12_deliver_198 ?_
  refine uu_iadd dX12_deliver_201 ?_
  refine uu_sipush (v := 300) dX12_deliver_202 (by decide) ?_
  refine uu_icmp_gt (tgt := 233) dX12_deliver_205 (by decide) (fun c1 => ?_) (fun c1 => ?_)
  · replace h := uu_pos c1 h
    refine uu_lv [1] (lv' := [(0, .ref (B + 1079))]) rfl ?_
    exact xb_X12_deliver_233 uk un  h
  · replace h := uu_neg c1 h
    refine uu_aload_n dX12_deliver_208 rfl (List.mem_of_getElem? (i := 1) rfl) ?_
    refine uu_geti (ci := 12) (N := 153) fX12_566 (by decide) so_1079.is (by decide) (by decide) dX12_deliver_209 ?_
    refine uu_iload dX12_deliver_212 (List.mem_of_getElem? (i := 4) rfl) ?_
    refine uu_iadd dX12_deliver_214 ?_
    refine uu_bipush (v := 100) dX12_deliver_215 (by decide) ?_
    refine uu_icmp_gt (tgt := 233) dX12_deliver_217 (by decide) (fun c2 => ?_) (fun c2 => ?_)
    · replace h := uu_pos c2 h
      refine uu_lv [1] (lv' := [(0, .ref (B + 1079))]) rfl ?_
      exact xb_X12_deliver_233 uk un  h
    · replace h := uu_neg c2 h
      refine uu_aload_n dX12_deliver_220 rfl (List.mem_of_getElem? (i := 1) rfl) ?_
      refine uu_geti (ci := 12) (N := 153) fX12_552 (by decide) so_1079.is (by decide) (by decide) dX12_deliver_221 ?_
      refine uu_iload dX12_deliver_224 (List.mem_of_getElem? (i := 0) rfl) ?_
      refine uu_iadd dX12_deliver_226 ?_
      refine uu_ldcwI (v := 150000) cX12_990 dX12_deliver_227 ?_
      refine uu_icmp_le (tgt := 243) dX12_deliver_230 (by decide) (fun c3 => ?_) (fun c3 => ?_)
      · replace h := uu_pos c3 h
        refine uu_aload_n dX12_deliver_243 rfl (List.mem_of_getElem? (i := 1) rfl) ?_
        obtain ⟨r4, e5, h⟩ := uu_ob h
        refine uu_cv (d1 := 1) (k := 1079) (ci := 12) (T := TX12) (N := 153) (As := []) (st := []) (st' := [.int (bI r4.2)]) (xc_X12_commit uk  e5) so_1079.is (by decide) rfl kX12_commit lX12_993 sX12_commit (by decide) (Nat.le_of_ble_eq_true rfl) dX12_deliver_244 rfl ?_
        refine uu_ifb_ne (tgt := 252) dX12_deliver_247 (by decide) (fun c6 => ?_) (fun c6 => ?_)
        · replace h := uu_pos c6 h
          refine uu_iconst (v := 0) dX12_deliver_252 (by decide) ?_
          refine uu_istore dX12_deliver_253 (by decide) rfl ?_
          refine uu_lv [2, 3, 4, 0] (lv' := [(0, .ref (B + 1079)), (3, .int (bI b3)), (4, .int (bI b4)), (7, .int 0)]) rfl ?_
          exact xn_X12_deliver_255 uk un  _ _ _ _ _ _ h
        · replace h := uu_neg c6 h
          refine uu_iconst (v := 0) dX12_deliver_250 (by decide) ?_
          have hr := Option.some.inj h
          subst hr
          exact uu_zret (x := bI false) rfl (bI_z _) dX12_deliver_251
      · replace h := uu_neg c3 h
        refine uu_lv [1] (lv' := [(0, .ref (B + 1079))]) rfl ?_
        exact xb_X12_deliver_233 uk un  h
def fb_X12_deliver_160  (b3 : Bool) (b4 : Bool) (bs0 : Bool) (xs1 : Int32) (s : uS) : Option (uS × Bool) := if b4 = true then (fb_X12_deliver_190 b3 b4 (xs1 + (bI bs0)) (s.I 1079 112) ((s.I 1079 13) * ((s.I 1079 97) + (s.I 1079 100))) s) else (fb_X12_deliver_190 b3 b4 (xs1 + (bI bs0)) 0 ((s.I 1079 13) * ((s.I 1079 97) + (s.I 1079 100))) s)
set_option maxRecDepth 100000 in
set_option maxHeartbeats 4000000 in
theorem xb_X12_deliver_160 {l : Launch} {D : va_G} {A : Nat → ClassId} {B : Nat} {Z : State → Heap → Prop} {vF : Value} (uk : uK B Z vF) (un : uX A B Z)   {b3 : Bool} {b4 : Bool} {bs0 : Bool} {xs1 : Int32} {s : uS} {r : (uS × Bool)}  (h : fb_X12_deliver_160  b3 b4 bs0 xs1 s = some r) : GU l D A B Z mX12_deliver 114 (r.1, some (.int (bI r.2))) s 160 [(0, .ref (B + 1079)), (3, .int (bI b3)), (4, .int (bI b4))] [.int (bI bs0), .int xs1] := by
  unfold fb_X12_deliver_160 at h
  refine uu_iadd dX12_deliver_160 ?_
  refine uu_istore dX12_deliver_161 (by decide) rfl ?_
  refine uu_aload_n dX12_deliver_163 rfl (List.mem_of_getElem? (i := 1) rfl) ?_
  refine uu_geti (ci := 12) (N := 153) fX12_75 (by decide) so_1079.is (by decide) (by decide) dX12_deliver_164 ?_
  refine uu_aload_n dX12_deliver_167 rfl (List.mem_of_getElem? (i := 1) rfl) ?_
  refine uu_geti (ci := 12) (N := 153) fX12_775 (by decide) so_1079.is (by decide) (by decide) dX12_deliver_168 ?_
  refine uu_aload_n dX12_deliver_171 rfl (List.mem_of_getElem? (i := 1) rfl) ?_
  refine uu_geti (ci := 12) (N := 153) fX12_787 (by decide) so_1079.is (by decide) (by decide) dX12_deliver_172 ?_
  refine uu_iadd dX12_deliver_175 ?_
  refine uu_imul dX12_deliver_176 ?_
  refine uu_iload dX12_deliver_177 (List.mem_of_getElem? (i := 3) rfl) ?_
  refine uu_ifb_eq (tgt := 189) dX12_deliver_179 (by decide) (fun c1 => ?_) (fun c1 => ?_)
  · replace h := uu_neg c1 h
    refine uu_iconst (v := 0) dX12_deliver_189 (by decide) ?_
    refine uu_lv [1, 2, 3, 0] (lv' := [(0, .ref (B + 1079)), (3, .int (bI b3)), (4, .int (bI b4)), (5, .int (xs1 + (bI bs0)))]) rfl ?_
    exact xb_X12_deliver_190 uk un  h
  · replace h := uu_pos c1 h
    refine uu_aload_n dX12_deliver_182 rfl (List.mem_of_getElem? (i := 1) rfl) ?_
    refine uu_geti (ci := 12) (N := 153) fX12_900 (by decide) so_1079.is (by decide) (by decide) dX12_deliver_183 ?_
    refine uu_goto (tgt := 190) dX12_deliver_186 (by decide) ?_
    refine uu_lv [1, 2, 3, 0] (lv' := [(0, .ref (B + 1079)), (3, .int (bI b3)), (4, .int (bI b4)), (5, .int (xs1 + (bI bs0)))]) rfl ?_
    exact xb_X12_deliver_190 uk un  h
def fb_X12_deliver_146  (b3 : Bool) (b4 : Bool) (s : uS) : Option (uS × Bool) := if b4 = true then (fb_X12_deliver_160 b3 b4 true (s.I 1079 100) s) else (fb_X12_deliver_160 b3 b4 false (s.I 1079 100) s)
set_option maxRecDepth 100000 in
set_option maxHeartbeats 4000000 in
theorem xb_X12_deliver_146 {l : Launch} {D : va_G} {A : Nat → ClassId} {B : Nat} {Z : State → Heap → Prop} {vF : Value} (uk : uK B Z vF) (un : uX A B Z)   {b3 : Bool} {b4 : Bool} {s : uS} {r : (uS × Bool)}  (h : fb_X12_deliver_146  b3 b4 s = some r) : GU l D A B Z mX12_deliver 114 (r.1, some (.int (bI r.2))) s 146 [(0, .ref (B + 1079)), (3, .int (bI b3)), (4, .int (bI b4))] [] := by
  unfold fb_X12_deliver_146 at h
  refine uu_aload_n dX12_deliver_146 rfl (List.mem_of_getElem? (i := 0) rfl) ?_
  refine uu_geti (ci := 12) (N := 153) fX12_787 (by decide) so_1079.is (by decide) (by decide) dX12_deliver_147 ?_
  refine uu_iload dX12_deliver_150 (List.mem_of_getElem? (i := 2) rfl) ?_
  refine uu_ifb_eq (tgt := 159) dX12_deliver_152 (by decide) (fun c1 => ?_) (fun c1 => ?_)
  · replace h := uu_neg c1 h
    refine uu_iconst (v := 0) dX12_deliver_159 (by decide) ?_
    exact xb_X12_deliver_160 uk un  h
  · replace h := uu_pos c1 h
    refine uu_iconst (v := 1) dX12_deliver_155 (by decide) ?_
    refine uu_goto (tgt := 160) dX12_deliver_156 (by decide) ?_
    exact xb_X12_deliver_160 uk un  h
def fb_X12_deliver_134  (b2 : Bool) (b3 : Bool) (bs0 : Bool) (s : uS) : Option (uS × Bool) := if bs0 = true then ((fn_X12_writeLetter b2 s).bind fun s2 => fb_X12_deliver_146 b3 bs0 s2) else (fb_X12_deliver_146 b3 bs0 s)
set_option maxRecDepth 100000 in
set_option maxHeartbeats 4000000 in
theorem xb_X12_deliver_134 {l : Launch} {D : va_G} {A : Nat → ClassId} {B : Nat} {Z : State → Heap → Prop} {vF : Value} (uk : uK B Z vF) (un : uX A B Z)   {b2 : Bool} {b3 : Bool} {bs0 : Bool} {s : uS} {r : (uS × Bool)}  (h : fb_X12_deliver_134  b2 b3 bs0 s = some r) : GU l D A B Z mX12_deliver 114 (r.1, some (.int (bI r.2))) s 134 [(0, .ref (B + 1079)), (2, .int (bI b2)), (3, .int (bI b3))] [.int (bI bs0)] := by
  unfold fb_X12_deliver_134 at h
  refine uu_istore dX12_deliver_134 (by decide) rfl ?_
  refine uu_iload dX12_deliver_136 (List.mem_of_getElem? (i := 0) rfl) ?_
  refine uu_ifb_eq (tgt := 146) dX12_deliver_138 (by decide) (fun c1 => ?_) (fun c1 => ?_)
  · replace h := uu_neg c1 h
    refine uu_lv [1, 3, 0] (lv' := [(0, .ref (B + 1079)), (3, .int (bI b3)), (4, .int (bI bs0))]) rfl ?_
    exact xb_X12_deliver_146 uk un  h
  · replace h := uu_pos c1 h
    refine uu_aload_n dX12_deliver_141 rfl (List.mem_of_getElem? (i := 1) rfl) ?_
    refine uu_iload_n dX12_deliver_142 rfl (List.mem_of_getElem? (i := 2) rfl) ?_
    obtain ⟨s2, e3, h⟩ := uu_ob h
    refine uu_cv (d1 := 7) (k := 1079) (ci := 12) (T := TX12) (N := 153) (As := [.int (bI b2)]) (st := []) (st' := []) (xc_X12_writeLetter uk  e3) so_1079.is (by decide) rfl kX12_writeLetter lX12_986 sX12_writeLetter (by decide) (Nat.le_of_ble_eq_true rfl) dX12_deliver_143 rfl ?_
    refine uu_lv [1, 3, 0] (lv' := [(0, .ref (B + 1079)), (3, .int (bI b3)), (4, .int (bI bs0))]) rfl ?_
    exact xb_X12_deliver_146 uk un  h
def fb_X12_deliver_120  (b2 : Bool) (bs0 : Bool) (s : uS) : Option (uS × Bool) := if b2 = true then (fb_X12_deliver_134 b2 bs0 true s) else (if bs0 = true then (fb_X12_deliver_134 b2 bs0 true s) else (fb_X12_deliver_134 b2 bs0 false s))
set_option maxRecDepth 100000 in
set_option maxHeartbeats 4000000 in
theorem xb_X12_deliver_120 {l : Launch} {D : va_G} {A : Nat → ClassId} {B : Nat} {Z : State → Heap → Prop} {vF : Value} (uk : uK B Z vF) (un : uX A B Z)   {b2 : Bool} {bs0 : Bool} {s : uS} {r : (uS × Bool)}  (h : fb_X12_deliver_120  b2 bs0 s = some r) : GU l D A B Z mX12_deliver 114 (r.1, some (.int (bI r.2))) s 120 [(0, .ref (B + 1079)), (2, .int (bI b2))] [.int (bI bs0)] := by
  unfold fb_X12_deliver_120 at h
  refine uu_istore_n dX12_deliver_120 rfl (by decide) rfl ?_
  refine uu_iload_n dX12_deliver_121 rfl (List.mem_of_getElem? (i := 2) rfl) ?_
  refine uu_ifb_ne (tgt := 129) dX12_deliver_122 (by decide) (fun c1 => ?_) (fun c1 => ?_)
  · replace h := uu_pos c1 h
    refine uu_iconst (v := 1) dX12_deliver_129 (by decide) ?_
    refine uu_goto (tgt := 134) dX12_deliver_130 (by decide) ?_
    refine uu_lv [1, 2, 0] (lv' := [(0, .ref (B + 1079)), (2, .int (bI b2)), (3, .int (bI bs0))]) rfl ?_
    exact xb_X12_deliver_134 uk un  h
  · replace h := uu_neg c1 h
    refine uu_iload_n dX12_deliver_125 rfl (List.mem_of_getElem? (i := 0) rfl) ?_
    refine uu_ifb_eq (tgt := 133) dX12_deliver_126 (by decide) (fun c2 => ?_) (fun c2 => ?_)
    · replace h := uu_neg c2 h
      refine uu_iconst (v := 0) dX12_deliver_133 (by decide) ?_
      refine uu_lv [1, 2, 0] (lv' := [(0, .ref (B + 1079)), (2, .int (bI b2)), (3, .int (bI bs0))]) rfl ?_
      exact xb_X12_deliver_134 uk un  h
    · replace h := uu_pos c2 h
      refine uu_iconst (v := 1) dX12_deliver_129 (by decide) ?_
      refine uu_goto (tgt := 134) dX12_deliver_130 (by decide) ?_
      refine uu_lv [1, 2, 0] (lv' := [(0, .ref (B + 1079)), (2, .int (bI b2)), (3, .int (bI bs0))]) rfl ?_
      exact xb_X12_deliver_134 uk un  h
def fb_X12_deliver_100  (bs0 : Bool) (s : uS) : Option (uS × Bool) := if (s.I 1079 102) = 0 then ((fn_X12_answers s).bind fun r2 => if r2.2 = true then (fb_X12_deliver_120 bs0 true r2.1) else (fb_X12_deliver_120 bs0 false r2.1)) else (fb_X12_deliver_120 bs0 false s)
set_option maxRecDepth 100000 in
set_option maxHeartbeats 4000000 in
theorem xb_X12_deliver_100 {l : Launch} {D : va_G} {A : Nat → ClassId} {B : Nat} {Z : State → Heap → Prop} {vF : Value} (uk : uK B Z vF) (un : uX A B Z)   {bs0 : Bool} {s : uS} {r : (uS × Bool)}  (h : fb_X12_deliver_100  bs0 s = some r) : GU l D A B Z mX12_deliver 114 (r.1, some (.int (bI r.2))) s 100 [(0, .ref (B + 1079))] [.int (bI bs0)] := by
  unfold fb_X12_deliver_100 at h
  refine uu_istore_n dX12_deliver_100 rfl (by decide) rfl ?_
  refine uu_aload_n dX12_deliver_101 rfl (List.mem_of_getElem? (i := 1) rfl) ?_
  refine uu_geti (ci := 12) (N := 153) fX12_752 (by decide) so_1079.is (by decide) (by decide) dX12_deliver_102 ?_
  refine uu_if_ne (tgt := 119) dX12_deliver_105 (by decide) (fun c1 => ?_) (fun c1 => ?_)
  · replace h := uu_neg c1 h
    refine uu_iconst (v := 0) dX12_deliver_119 (by decide) ?_
    refine uu_lv [1, 0] (lv' := [(0, .ref (B + 1079)), (2, .int (bI bs0))]) rfl ?_
    exact xb_X12_deliver_120 uk un  h
  · replace h := uu_pos c1 h
    refine uu_aload_n dX12_deliver_108 rfl (List.mem_of_getElem? (i := 1) rfl) ?_
    obtain ⟨r2, e3, h⟩ := uu_ob h
    refine uu_cv (d1 := 7) (k := 1079) (ci := 12) (T := TX12) (N := 153) (As := []) (st := []) (st' := [.int (bI r2.2)]) (xc_X12_answers uk  e3) so_1079.is (by decide) rfl kX12_answers lX12_983 sX12_answers (by decide) (Nat.le_of_ble_eq_true rfl) dX12_deliver_109 rfl ?_
    refine uu_ifb_eq (tgt := 119) dX12_deliver_112 (by decide) (fun c4 => ?_) (fun c4 => ?_)
    · replace h := uu_neg c4 h
      refine uu_iconst (v := 0) dX12_deliver_119 (by decide) ?_
      refine uu_lv [1, 0] (lv' := [(0, .ref (B + 1079)), (2, .int (bI bs0))]) rfl ?_
      exact xb_X12_deliver_120 uk un  h
    · replace h := uu_pos c4 h
      refine uu_iconst (v := 1) dX12_deliver_115 (by decide) ?_
      refine uu_goto (tgt := 120) dX12_deliver_116 (by decide) ?_
      refine uu_lv [1, 0] (lv' := [(0, .ref (B + 1079)), (2, .int (bI bs0))]) rfl ?_
      exact xb_X12_deliver_120 uk un  h
def fb_X12_deliver_22 (K22 : Int32 → Int32 → uS → Option (uS × Bool)) (x1 : Int32) (x2 : Int32) (s : uS) : Option (uS × Bool) := if (s.I 1079 91) ≤ x2 then (if (s.I 1079 13) ≤ 4000 then ((fn_X12_readHeader s).bind fun s3 => (fn_X12_sortIt s3).bind fun s5 => if (s5.I 1079 102) ≤ 0 then (fb_X12_deliver_100 false s5) else (if (s5.I 1079 93) ≤ 0 then (fb_X12_deliver_100 false s5) else (fb_X12_deliver_100 true s5))) else ((fn_X12_line 4 kW_159 s).bind fun s10 => some (s10, true))) else ((iget 20 s 1145 (((101 : Int32) * x1) + x2)).bind fun v12 => (iput 20 s 1136 x2 v12).bind fun s14 => K22 x1 (x2 + 1) s14)
set_option maxRecDepth 100000 in
set_option maxHeartbeats 4000000 in
theorem xb_X12_deliver_22 {l : Launch} {D : va_G} {A : Nat → ClassId} {B : Nat} {Z : State → Heap → Prop} {vF : Value} (uk : uK B Z vF) (un : uX A B Z) {K22 : Int32 → Int32 → uS → Option (uS × Bool)} (hK22 : ∀ (x1 : Int32) (x2 : Int32)  (s : uS) (r : (uS × Bool)), K22 x1 x2 s = some r → GU l D A B Z mX12_deliver 114 (r.1, some (.int (bI r.2))) s 22 [(0, .ref (B + 1079)), (1, .int x1), (2, .int x2)] []) {x1 : Int32} {x2 : Int32} {s : uS} {r : (uS × Bool)}  (h : fb_X12_deliver_22 K22 x1 x2 s = some r) : GU l D A B Z mX12_deliver 114 (r.1, some (.int (bI r.2))) s 22 [(0, .ref (B + 1079)), (1, .int x1), (2, .int x2)] [] := by
  unfold fb_X12_deliver_22 at h
  refine uu_iload_n dX12_deliver_22 rfl (List.mem_of_getElem? (i := 2) rfl) ?_
  refine uu_aload_n dX12_deliver_23 rfl (List.mem_of_getElem? (i := 0) rfl) ?_
  refine uu_geti (ci := 12) (N := 153) fX12_684 (by decide) so_1079.is (by decide) (by decide) dX12_deliver_24 ?_
  refine uu_icmp_ge (tgt := 53) dX12_deliver_27 (by decide) (fun c1 => ?_) (fun c1 => ?_)
  · replace h := uu_pos c1 h
    refine uu_aload_n dX12_deliver_53 rfl (List.mem_of_getElem? (i := 0) rfl) ?_
    refine uu_geti (ci := 12) (N := 153) fX12_75 (by decide) so_1079.is (by decide) (by decide) dX12_deliver_54 ?_
    refine uu_sipush (v := 4000) dX12_deliver_57 (by decide) ?_
    refine uu_icmp_le (tgt := 73) dX12_deliver_60 (by decide) (fun c2 => ?_) (fun c2 => ?_)
    · replace h := uu_pos c2 h
      refine uu_aload_n dX12_deliver_73 rfl (List.mem_of_getElem? (i := 0) rfl) ?_
      obtain ⟨s3, e4, h⟩ := uu_ob h
      refine uu_cv (d1 := 1) (k := 1079) (ci := 12) (T := TX12) (N := 153) (As := []) (st := []) (st' := []) (xc_X12_readHeader uk  e4) so_1079.is (by decide) rfl kX12_readHeader lX12_977 sX12_readHeader (by decide) (Nat.le_of_ble_eq_true rfl) dX12_deliver_74 rfl ?_
      refine uu_aload_n dX12_deliver_77 rfl (List.mem_of_getElem? (i := 0) rfl) ?_
      obtain ⟨s5, e6, h⟩ := uu_ob h
      refine uu_cv (d1 := 113) (k := 1079) (ci := 12) (T := TX12) (N := 153) (As := []) (st := []) (st' := []) (xc_X12_sortIt uk un  e6) so_1079.is (by decide) rfl kX12_sortIt lX12_980 sX12_sortIt (by decide) (Nat.le_of_ble_eq_true rfl) dX12_deliver_78 rfl ?_
      refine uu_aload_n dX12_deliver_81 rfl (List.mem_of_getElem? (i := 0) rfl) ?_
      refine uu_geti (ci := 12) (N := 153) fX12_752 (by decide) so_1079.is (by decide) (by decide) dX12_deliver_82 ?_
      refine uu_if_le (tgt := 99) dX12_deliver_85 (by decide) (fun c7 => ?_) (fun c7 => ?_)
      · replace h := uu_pos c7 h
        refine uu_iconst (v := 0) dX12_deliver_99 (by decide) ?_
        refine uu_lv [0] (lv' := [(0, .ref (B + 1079))]) rfl ?_
        exact xb_X12_deliver_100 uk un  h
      · replace h := uu_neg c7 h
        refine uu_aload_n dX12_deliver_88 rfl (List.mem_of_getElem? (i := 0) rfl) ?_
        refine uu_geti (ci := 12) (N := 153) fX12_678 (by decide) so_1079.is (by decide) (by decide) dX12_deliver_89 ?_
        refine uu_if_le (tgt := 99) dX12_deliver_92 (by decide) (fun c8 => ?_) (fun c8 => ?_)
        · replace h := uu_pos c8 h
          refine uu_iconst (v := 0) dX12_deliver_99 (by decide) ?_
          refine uu_lv [0] (lv' := [(0, .ref (B + 1079))]) rfl ?_
          exact xb_X12_deliver_100 uk un  h
        · replace h := uu_neg c8 h
          refine uu_iconst (v := 1) dX12_deliver_95 (by decide) ?_
          refine uu_goto (tgt := 100) dX12_deliver_96 (by decide) ?_
          refine uu_lv [0] (lv' := [(0, .ref (B + 1079))]) rfl ?_
          exact xb_X12_deliver_100 uk un  h
    · replace h := uu_neg c2 h
      refine uu_aload_n dX12_deliver_63 rfl (List.mem_of_getElem? (i := 0) rfl) ?_
      refine uu_iconst (v := 4) dX12_deliver_64 (by decide) ?_
      obtain ⟨cq9, cp9, cv9, cw9⟩ := uk.2.1 159 _ rfl
      refine uu_ldcwS cv9 dX12_deliver_65 ?_
      obtain ⟨s10, e11, h⟩ := uu_ob h
      refine uu_cv (d1 := 5) (k := 1079) (ci := 12) (T := TX12) (N := 153) (As := [.int 4, .ref cq9]) (st := []) (st' := []) (xc_X12_line uk cw9 e11) so_1079.is (by decide) rfl kX12_line lX12_974 sX12_line (by decide) (Nat.le_of_ble_eq_true rfl) dX12_deliver_68 rfl ?_
      refine uu_iconst (v := 1) dX12_deliver_71 (by decide) ?_
      have hr := Option.some.inj h
      subst hr
      exact uu_zret (x := bI true) rfl (bI_z _) dX12_deliver_72
  · replace h := uu_neg c1 h
    refine uu_aload_n dX12_deliver_30 rfl (List.mem_of_getElem? (i := 0) rfl) ?_
    refine uu_geta (ci := 12) (N := 153) fX12_687 (by decide) so_1079.is (by decide) (c := 1136) (by decide) dX12_deliver_31 ?_
    refine uu_iload_n dX12_deliver_34 rfl (List.mem_of_getElem? (i := 2) rfl) ?_
    refine uu_aload_n dX12_deliver_35 rfl (List.mem_of_getElem? (i := 0) rfl) ?_
    refine uu_geta (ci := 12) (N := 153) fX12_969 (by decide) so_1079.is (by decide) (c := 1145) (by decide) dX12_deliver_36 ?_
    refine uu_bipush (v := 101) dX12_deliver_39 (by decide) ?_
    refine uu_iload_n dX12_deliver_41 rfl (List.mem_of_getElem? (i := 1) rfl) ?_
    refine uu_imul dX12_deliver_42 ?_
    refine uu_iload_n dX12_deliver_43 rfl (List.mem_of_getElem? (i := 2) rfl) ?_
    refine uu_iadd dX12_deliver_44 ?_
    obtain ⟨v12, e13, h⟩ := uu_ob h
    refine uu_iald e13 dX12_deliver_45 ?_
    obtain ⟨s14, e15, h⟩ := uu_ob h
    refine uu_iast e15 dX12_deliver_46 ?_
    refine uu_iinc (v := x2 + 1) dX12_deliver_47 (k := 2) rfl rfl (by decide) rfl ?_
    refine uu_goto (tgt := 22) dX12_deliver_50 (by decide) ?_
    refine uu_lv [1, 2, 0] (lv' := [(0, .ref (B + 1079)), (1, .int x1), (2, .int (x2 + 1))]) rfl ?_
    exact hK22 x1 (x2 + 1) _ _ h
def fn_X12_deliver_22  : Nat → Int32 → Int32 → uS → Option (uS × Bool)
  | 0 => fun _ _ _ => none
  | n + 1 => fb_X12_deliver_22 (fn_X12_deliver_22  n)
set_option maxRecDepth 100000 in
set_option maxHeartbeats 4000000 in
theorem xn_X12_deliver_22 {l : Launch} {D : va_G} {A : Nat → ClassId} {B : Nat} {Z : State → Heap → Prop} {vF : Value} (uk : uK B Z vF) (un : uX A B Z)   : ∀ (n : Nat) (x1 : Int32) (x2 : Int32)  (s : uS) (r : (uS × Bool)), fn_X12_deliver_22  n x1 x2 s = some r → GU l D A B Z mX12_deliver 114 (r.1, some (.int (bI r.2))) s 22 [(0, .ref (B + 1079)), (1, .int x1), (2, .int x2)] [] := by
  intro n
  induction n with
  | zero => intro x1 x2 s r h
            cases h
  | succ n ih => intro x1 x2 s r h
                 exact xb_X12_deliver_22 uk un ih  h
def fn_X12_deliver (x1 : Int32) (s : uS) : Option (uS × Bool) := (iget 20 s 1144 x1).bind fun v1 => (iget 20 (wI s 1079 89 v1) 1146 x1).bind fun v3 => fn_X12_deliver_22 uFu x1 0 (wI (wI s 1079 89 v1) 1079 91 v3)
set_option maxRecDepth 100000 in
set_option maxHeartbeats 4000000 in
theorem xc_X12_deliver {l : Launch} {D : va_G} {A : Nat → ClassId} {B : Nat} {Z : State → Heap → Prop} {vF : Value} (uk : uK B Z vF) (un : uX A B Z) {x1 : Int32} {s : uS} {r : (uS × Bool)}  (h : fn_X12_deliver x1 s = some r) : CU l D A B Z 114 mX12_deliver s [.ref (B + 1079), .int x1] (r.1, some (.int (bI r.2))) := by
  unfold fn_X12_deliver at h
  refine cu_of rfl uk.1.1 (Nat.le_of_ble_eq_true rfl) ?_
  show GU _ _ _ _ _ _ _ _ _ 0 [(0, .ref (B + 1079)), (1, .int x1)] []
  refine uu_aload_n dX12_deliver_0 rfl (List.mem_of_getElem? (i := 0) rfl) ?_
  refine uu_aload_n dX12_deliver_1 rfl (List.mem_of_getElem? (i := 0) rfl) ?_
  refine uu_geta (ci := 12) (N := 153) fX12_963 (by decide) so_1079.is (by decide) (c := 1144) (by decide) dX12_deliver_2 ?_
  refine uu_iload_n dX12_deliver_5 rfl (List.mem_of_getElem? (i := 1) rfl) ?_
  obtain ⟨v1, e2, h⟩ := uu_ob h
  refine uu_iald e2 dX12_deliver_6 ?_
  refine uu_puti (ft := .int) (ci := 12) (N := 153) fX12_799 ptX12 (Or.inl rfl) (by decide) so_1079.is (by decide) (by decide) (by decide +kernel) rfl rfl dX12_deliver_7 ?_
  refine uu_aload_n dX12_deliver_10 rfl (List.mem_of_getElem? (i := 0) rfl) ?_
  refine uu_aload_n dX12_deliver_11 rfl (List.mem_of_getElem? (i := 0) rfl) ?_
  refine uu_geta (ci := 12) (N := 153) fX12_966 (by decide) so_1079.is (by decide) (c := 1146) (by decide) dX12_deliver_12 ?_
  refine uu_iload_n dX12_deliver_15 rfl (List.mem_of_getElem? (i := 1) rfl) ?_
  obtain ⟨v3, e4, h⟩ := uu_ob h
  refine uu_iald e4 dX12_deliver_16 ?_
  refine uu_puti (ft := .int) (ci := 12) (N := 153) fX12_684 ptX12 (Or.inl rfl) (by decide) so_1079.is (by decide) (by decide) (by decide +kernel) rfl rfl dX12_deliver_17 ?_
  refine uu_iconst (v := 0) dX12_deliver_20 (by decide) ?_
  refine uu_istore_n dX12_deliver_21 rfl (by decide) rfl ?_
  refine uu_lv [1, 2, 0] (lv' := [(0, .ref (B + 1079)), (1, .int x1), (2, .int 0)]) rfl ?_
  exact xn_X12_deliver_22 uk un  _ _ _ _ _ h
abbrev mX12_dataLine : hM := (yX12_dataLine, cX12_dataLine, 4, (some (.boolean)))
theorem dX12_dataLine_81 : decode cX12_dataLine 81 = .ok (.aload_n 0, 1) := by decide +kernel
theorem dX12_dataLine_82 : decode cX12_dataLine 82 = .ok (.invokevirtual 1015, 3) := by decide +kernel
theorem dX12_dataLine_85 : decode cX12_dataLine 85 = .ok (.iload_n 2, 1) := by decide +kernel
theorem dX12_dataLine_86 : decode cX12_dataLine 86 = .ok (.ireturn, 1) := by decide +kernel
theorem dX12_dataLine_57 : decode cX12_dataLine 57 = .ok (.iload_n 3, 1) := by decide +kernel
theorem dX12_dataLine_58 : decode cX12_dataLine 58 = .ok (.aload_n 0, 1) := by decide +kernel
theorem dX12_dataLine_59 : decode cX12_dataLine 59 = .ok (.getfield 1032, 3) := by decide +kernel
theorem dX12_dataLine_62 : decode cX12_dataLine 62 = .ok (.if_icmp .ge 19, 3) := by decide +kernel
theorem dX12_dataLine_65 : decode cX12_dataLine 65 = .ok (.iload_n 2, 1) := by decide +kernel
theorem dX12_dataLine_66 : decode cX12_dataLine 66 = .ok (.ifCond .eq 15, 3) := by decide +kernel
theorem dX12_dataLine_69 : decode cX12_dataLine 69 = .ok (.aload_n 0, 1) := by decide +kernel
theorem dX12_dataLine_70 : decode cX12_dataLine 70 = .ok (.iload_n 3, 1) := by decide +kernel
theorem kX12_deliver : h_ml mX12_deliver 1 := ⟨h_t8 23 rfl rfl, h_t1 16 rfl rfl, ⟨by decide, by decide, by decide +kernel⟩, by decide⟩
theorem lX12_1060 : Cond.methodLink RX12 1060 mX12_deliver.1 ∈ lw_g := h_t8 20 rfl rfl
theorem sX12_deliver : Cond.instanceMethod mX12_deliver.1 ∈ lw_g ∧ Cond.selects mX12_deliver.1.cls mX12_deliver.1 mX12_deliver.1 ∈ lw_g := ⟨h_t8 22 rfl rfl, h_ins 109 rfl⟩
theorem dX12_dataLine_71 : decode cX12_dataLine 71 = .ok (.invokevirtual 1060, 3) := by decide +kernel
theorem dX12_dataLine_74 : decode cX12_dataLine 74 = .ok (.istore_n 2, 1) := by decide +kernel
theorem dX12_dataLine_75 : decode cX12_dataLine 75 = .ok (.iinc 3 1, 3) := by decide +kernel
theorem dX12_dataLine_78 : decode cX12_dataLine 78 = .ok (.goto (-21), 3) := by decide +kernel
theorem dX12_dataLine_19 : decode cX12_dataLine 19 = .ok (.istore_n 1, 1) := by decide +kernel
theorem dX12_dataLine_20 : decode cX12_dataLine 20 = .ok (.aload_n 0, 1) := by decide +kernel
theorem dX12_dataLine_21 : decode cX12_dataLine 21 = .ok (.iconst 0, 1) := by decide +kernel
theorem dX12_dataLine_22 : decode cX12_dataLine 22 = .ok (.putfield 1054, 3) := by decide +kernel
theorem dX12_dataLine_25 : decode cX12_dataLine 25 = .ok (.aload_n 0, 1) := by decide +kernel
theorem dX12_dataLine_26 : decode cX12_dataLine 26 = .ok (.iconst 0, 1) := by decide +kernel
theorem dX12_dataLine_27 : decode cX12_dataLine 27 = .ok (.putfield 1051, 3) := by decide +kernel
theorem dX12_dataLine_30 : decode cX12_dataLine 30 = .ok (.iload_n 1, 1) := by decide +kernel
theorem dX12_dataLine_31 : decode cX12_dataLine 31 = .ok (.ifCond .ne 17, 3) := by decide +kernel
theorem dX12_dataLine_48 : decode cX12_dataLine 48 = .ok (.aload_n 0, 1) := by decide +kernel
theorem dX12_dataLine_49 : decode cX12_dataLine 49 = .ok (.iconst 0, 1) := by decide +kernel
theorem dX12_dataLine_50 : decode cX12_dataLine 50 = .ok (.putfield 1018, 3) := by decide +kernel
theorem dX12_dataLine_53 : decode cX12_dataLine 53 = .ok (.iconst 1, 1) := by decide +kernel
theorem dX12_dataLine_54 : decode cX12_dataLine 54 = .ok (.istore_n 2, 1) := by decide +kernel
theorem dX12_dataLine_55 : decode cX12_dataLine 55 = .ok (.iconst 0, 1) := by decide +kernel
theorem dX12_dataLine_56 : decode cX12_dataLine 56 = .ok (.istore_n 3, 1) := by decide +kernel
theorem dX12_dataLine_34 : decode cX12_dataLine 34 = .ok (.aload_n 0, 1) := by decide +kernel
theorem dX12_dataLine_35 : decode cX12_dataLine 35 = .ok (.bipush 13, 2) := by decide +kernel
theorem dX12_dataLine_37 : decode cX12_dataLine 37 = .ok (.invokevirtual 1057, 3) := by decide +kernel
theorem dX12_dataLine_40 : decode cX12_dataLine 40 = .ok (.aload_n 0, 1) := by decide +kernel
theorem dX12_dataLine_41 : decode cX12_dataLine 41 = .ok (.bipush 10, 2) := by decide +kernel
theorem dX12_dataLine_43 : decode cX12_dataLine 43 = .ok (.invokevirtual 1057, 3) := by decide +kernel
theorem dX12_dataLine_46 : decode cX12_dataLine 46 = .ok (.iconst 1, 1) := by decide +kernel
theorem dX12_dataLine_47 : decode cX12_dataLine 47 = .ok (.ireturn, 1) := by decide +kernel
theorem dX12_dataLine_0 : decode cX12_dataLine 0 = .ok (.aload_n 0, 1) := by decide +kernel
theorem dX12_dataLine_1 : decode cX12_dataLine 1 = .ok (.getfield 1054, 3) := by decide +kernel
theorem dX12_dataLine_4 : decode cX12_dataLine 4 = .ok (.ifCond .eq 14, 3) := by decide +kernel
theorem dX12_dataLine_18 : decode cX12_dataLine 18 = .ok (.iconst 0, 1) := by decide +kernel
theorem dX12_dataLine_7 : decode cX12_dataLine 7 = .ok (.aload_n 0, 1) := by decide +kernel
theorem dX12_dataLine_8 : decode cX12_dataLine 8 = .ok (.getfield 1051, 3) := by decide +kernel
theorem dX12_dataLine_11 : decode cX12_dataLine 11 = .ok (.ifCond .ne 7, 3) := by decide +kernel
theorem dX12_dataLine_14 : decode cX12_dataLine 14 = .ok (.iconst 1, 1) := by decide +kernel
theorem dX12_dataLine_15 : decode cX12_dataLine 15 = .ok (.goto 4, 3) := by decide +kernel
def fb_X12_dataLine_81  (b2 : Bool) (s : uS) : Option (uS × Bool) := (fn_X12_reset s).bind fun s1 => some (s1, b2)
set_option maxRecDepth 100000 in
set_option maxHeartbeats 4000000 in
theorem xb_X12_dataLine_81 {l : Launch} {D : va_G} {A : Nat → ClassId} {B : Nat} {Z : State → Heap → Prop} {vF : Value} (uk : uK B Z vF) (un : uX A B Z)   {b2 : Bool} {s : uS} {r : (uS × Bool)}  (h : fb_X12_dataLine_81  b2 s = some r) : GU l D A B Z mX12_dataLine 115 (r.1, some (.int (bI r.2))) s 81 [(0, .ref (B + 1079)), (2, .int (bI b2))] [] := by
  unfold fb_X12_dataLine_81 at h
  refine uu_aload_n dX12_dataLine_81 rfl (List.mem_of_getElem? (i := 0) rfl) ?_
  obtain ⟨s1, e2, h⟩ := uu_ob h
  refine uu_cv (d1 := 0) (k := 1079) (ci := 12) (T := TX12) (N := 153) (As := []) (st := []) (st' := []) (xc_X12_reset uk  e2) so_1079.is (by decide) rfl kX12_reset lX12_1015 sX12_reset (by decide) (Nat.le_of_ble_eq_true rfl) dX12_dataLine_82 rfl ?_
  refine uu_iload_n dX12_dataLine_85 rfl (List.mem_of_getElem? (i := 1) rfl) ?_
  have hr := Option.some.inj h
  subst hr
  exact uu_zret (x := bI b2) rfl (bI_z _) dX12_dataLine_86
def fb_X12_dataLine_57 (K57 : Bool → Int32 → uS → Option (uS × Bool)) (b2 : Bool) (x3 : Int32) (s : uS) : Option (uS × Bool) := if (s.I 1079 117) ≤ x3 then (fb_X12_dataLine_81 b2 s) else (if b2 = true then ((fn_X12_deliver x3 s).bind fun r3 => K57 r3.2 (x3 + 1) r3.1) else (fb_X12_dataLine_81 b2 s))
set_option maxRecDepth 100000 in
set_option maxHeartbeats 4000000 in
theorem xb_X12_dataLine_57 {l : Launch} {D : va_G} {A : Nat → ClassId} {B : Nat} {Z : State → Heap → Prop} {vF : Value} (uk : uK B Z vF) (un : uX A B Z) {K57 : Bool → Int32 → uS → Option (uS × Bool)} (hK57 : ∀ (b2 : Bool) (x3 : Int32)  (s : uS) (r : (uS × Bool)), K57 b2 x3 s = some r → GU l D A B Z mX12_dataLine 115 (r.1, some (.int (bI r.2))) s 57 [(0, .ref (B + 1079)), (2, .int (bI b2)), (3, .int x3)] []) {b2 : Bool} {x3 : Int32} {s : uS} {r : (uS × Bool)}  (h : fb_X12_dataLine_57 K57 b2 x3 s = some r) : GU l D A B Z mX12_dataLine 115 (r.1, some (.int (bI r.2))) s 57 [(0, .ref (B + 1079)), (2, .int (bI b2)), (3, .int x3)] [] := by
  unfold fb_X12_dataLine_57 at h
  refine uu_iload_n dX12_dataLine_57 rfl (List.mem_of_getElem? (i := 2) rfl) ?_
  refine uu_aload_n dX12_dataLine_58 rfl (List.mem_of_getElem? (i := 0) rfl) ?_
  refine uu_geti (ci := 12) (N := 153) fX12_1032 (by decide) so_1079.is (by decide) (by decide) dX12_dataLine_59 ?_
  refine uu_icmp_ge (tgt := 81) dX12_dataLine_62 (by decide) (fun c1 => ?_) (fun c1 => ?_)
  · replace h := uu_pos c1 h
    refine uu_lv [0, 1] (lv' := [(0, .ref (B + 1079)), (2, .int (bI b2))]) rfl ?_
    exact xb_X12_dataLine_81 uk un  h
  · replace h := uu_neg c1 h
    refine uu_iload_n dX12_dataLine_65 rfl (List.mem_of_getElem? (i := 1) rfl) ?_
    refine uu_ifb_eq (tgt := 81) dX12_dataLine_66 (by decide) (fun c2 => ?_) (fun c2 => ?_)
    · replace h := uu_neg c2 h
      refine uu_lv [0, 1] (lv' := [(0, .ref (B + 1079)), (2, .int (bI b2))]) rfl ?_
      exact xb_X12_dataLine_81 uk un  h
    · replace h := uu_pos c2 h
      refine uu_aload_n dX12_dataLine_69 rfl (List.mem_of_getElem? (i := 0) rfl) ?_
      refine uu_iload_n dX12_dataLine_70 rfl (List.mem_of_getElem? (i := 2) rfl) ?_
      obtain ⟨r3, e4, h⟩ := uu_ob h
      refine uu_cv (d1 := 114) (k := 1079) (ci := 12) (T := TX12) (N := 153) (As := [.int x3]) (st := []) (st' := [.int (bI r3.2)]) (xc_X12_deliver uk un  e4) so_1079.is (by decide) rfl kX12_deliver lX12_1060 sX12_deliver (by decide) (Nat.le_of_ble_eq_true rfl) dX12_dataLine_71 rfl ?_
      refine uu_istore_n dX12_dataLine_74 rfl (by decide) rfl ?_
      refine uu_iinc (v := x3 + 1) dX12_dataLine_75 (k := 2) rfl rfl (by decide) rfl ?_
      refine uu_goto (tgt := 57) dX12_dataLine_78 (by decide) ?_
      refine uu_lv [2, 1, 0] (lv' := [(0, .ref (B + 1079)), (2, .int (bI r3.2)), (3, .int (x3 + 1))]) rfl ?_
      exact hK57 r3.2 (x3 + 1) _ _ h
def fn_X12_dataLine_57  : Nat → Bool → Int32 → uS → Option (uS × Bool)
  | 0 => fun _ _ _ => none
  | n + 1 => fb_X12_dataLine_57 (fn_X12_dataLine_57  n)
set_option maxRecDepth 100000 in
set_option maxHeartbeats 4000000 in
theorem xn_X12_dataLine_57 {l : Launch} {D : va_G} {A : Nat → ClassId} {B : Nat} {Z : State → Heap → Prop} {vF : Value} (uk : uK B Z vF) (un : uX A B Z)   : ∀ (n : Nat) (b2 : Bool) (x3 : Int32)  (s : uS) (r : (uS × Bool)), fn_X12_dataLine_57  n b2 x3 s = some r → GU l D A B Z mX12_dataLine 115 (r.1, some (.int (bI r.2))) s 57 [(0, .ref (B + 1079)), (2, .int (bI b2)), (3, .int x3)] [] := by
  intro n
  induction n with
  | zero => intro b2 x3 s r h
            cases h
  | succ n ih => intro b2 x3 s r h
                 exact xb_X12_dataLine_57 uk un ih  h
def fb_X12_dataLine_19  (bs0 : Bool) (s : uS) : Option (uS × Bool) := if bs0 = true then (fn_X12_dataLine_57 uFu true 0 (wI (wI (wI s 1079 124 0) 1079 125 0) 1079 116 0)) else ((fn_X12_mailByte 13 (wI (wI s 1079 124 0) 1079 125 0)).bind fun s2 => (fn_X12_mailByte 10 s2).bind fun s4 => some (s4, true))
set_option maxRecDepth 100000 in
set_option maxHeartbeats 4000000 in
theorem xb_X12_dataLine_19 {l : Launch} {D : va_G} {A : Nat → ClassId} {B : Nat} {Z : State → Heap → Prop} {vF : Value} (uk : uK B Z vF) (un : uX A B Z)   {bs0 : Bool} {s : uS} {r : (uS × Bool)}  (h : fb_X12_dataLine_19  bs0 s = some r) : GU l D A B Z mX12_dataLine 115 (r.1, some (.int (bI r.2))) s 19 [(0, .ref (B + 1079))] [.int (bI bs0)] := by
  unfold fb_X12_dataLine_19 at h
  refine uu_istore_n dX12_dataLine_19 rfl (by decide) rfl ?_
  refine uu_aload_n dX12_dataLine_20 rfl (List.mem_of_getElem? (i := 1) rfl) ?_
  refine uu_iconst (v := 0) dX12_dataLine_21 (by decide) ?_
  refine uu_puti (ft := .boolean) (ci := 12) (N := 153) fX12_1054 ptX12 (Or.inl rfl) (by decide) so_1079.is (by decide) (by decide) (by decide +kernel) rfl rfl dX12_dataLine_22 ?_
  refine uu_aload_n dX12_dataLine_25 rfl (List.mem_of_getElem? (i := 1) rfl) ?_
  refine uu_iconst (v := 0) dX12_dataLine_26 (by decide) ?_
  refine uu_puti (ft := .int) (ci := 12) (N := 153) fX12_1051 ptX12 (Or.inl rfl) (by decide) so_1079.is (by decide) (by decide) (by decide +kernel) rfl rfl dX12_dataLine_27 ?_
  refine uu_iload_n dX12_dataLine_30 rfl (List.mem_of_getElem? (i := 0) rfl) ?_
  refine uu_ifb_ne (tgt := 48) dX12_dataLine_31 (by decide) (fun c1 => ?_) (fun c1 => ?_)
  · replace h := uu_pos c1 h
    refine uu_aload_n dX12_dataLine_48 rfl (List.mem_of_getElem? (i := 1) rfl) ?_
    refine uu_iconst (v := 0) dX12_dataLine_49 (by decide) ?_
    refine uu_puti (ft := .boolean) (ci := 12) (N := 153) fX12_1018 ptX12 (Or.inl rfl) (by decide) so_1079.is (by decide) (by decide) (by decide +kernel) rfl rfl dX12_dataLine_50 ?_
    refine uu_iconst (v := 1) dX12_dataLine_53 (by decide) ?_
    refine uu_istore_n dX12_dataLine_54 rfl (by decide) rfl ?_
    refine uu_iconst (v := 0) dX12_dataLine_55 (by decide) ?_
    refine uu_istore_n dX12_dataLine_56 rfl (by decide) rfl ?_
    refine uu_lv [3, 1, 0] (lv' := [(0, .ref (B + 1079)), (2, .int 1), (3, .int 0)]) rfl ?_
    exact xn_X12_dataLine_57 uk un  _ _ _ _ _ h
  · replace h := uu_neg c1 h
    refine uu_aload_n dX12_dataLine_34 rfl (List.mem_of_getElem? (i := 1) rfl) ?_
    refine uu_bipush (v := 13) dX12_dataLine_35 (by decide) ?_
    obtain ⟨s2, e3, h⟩ := uu_ob h
    refine uu_cv (d1 := 0) (k := 1079) (ci := 12) (T := TX12) (N := 153) (As := [.int 13]) (st := []) (st' := []) (xc_X12_mailByte uk  e3) so_1079.is (by decide) rfl kX12_mailByte lX12_1057 sX12_mailByte (by decide) (Nat.le_of_ble_eq_true rfl) dX12_dataLine_37 rfl ?_
    refine uu_aload_n dX12_dataLine_40 rfl (List.mem_of_getElem? (i := 1) rfl) ?_
    refine uu_bipush (v := 10) dX12_dataLine_41 (by decide) ?_
    obtain ⟨s4, e5, h⟩ := uu_ob h
    refine uu_cv (d1 := 0) (k := 1079) (ci := 12) (T := TX12) (N := 153) (As := [.int 10]) (st := []) (st' := []) (xc_X12_mailByte uk  e5) so_1079.is (by decide) rfl kX12_mailByte lX12_1057 sX12_mailByte (by decide) (Nat.le_of_ble_eq_true rfl) dX12_dataLine_43 rfl ?_
    refine uu_iconst (v := 1) dX12_dataLine_46 (by decide) ?_
    have hr := Option.some.inj h
    subst hr
    exact uu_zret (x := bI true) rfl (bI_z _) dX12_dataLine_47
def fn_X12_dataLine  (s : uS) : Option (uS × Bool) := if (s.I 1079 124) = 0 then (fb_X12_dataLine_19 false s) else (if (s.I 1079 125) = 0 then (fb_X12_dataLine_19 true s) else (fb_X12_dataLine_19 false s))
set_option maxRecDepth 100000 in
set_option maxHeartbeats 4000000 in
theorem xc_X12_dataLine {l : Launch} {D : va_G} {A : Nat → ClassId} {B : Nat} {Z : State → Heap → Prop} {vF : Value} (uk : uK B Z vF) (un : uX A B Z)  {s : uS} {r : (uS × Bool)}  (h : fn_X12_dataLine  s = some r) : CU l D A B Z 115 mX12_dataLine s [.ref (B + 1079)] (r.1, some (.int (bI r.2))) := by
  unfold fn_X12_dataLine at h
  refine cu_of rfl uk.1.1 (Nat.le_of_ble_eq_true rfl) ?_
  show GU _ _ _ _ _ _ _ _ _ 0 [(0, .ref (B + 1079))] []
  refine uu_aload_n dX12_dataLine_0 rfl (List.mem_of_getElem? (i := 0) rfl) ?_
  refine uu_geti (ci := 12) (N := 153) fX12_1054 (by decide) so_1079.is (by decide) (by decide) dX12_dataLine_1 ?_
  refine uu_if_eq (tgt := 18) dX12_dataLine_4 (by decide) (fun c1 => ?_) (fun c1 => ?_)
  · replace h := uu_pos c1 h
    refine uu_iconst (v := 0) dX12_dataLine_18 (by decide) ?_
    exact xb_X12_dataLine_19 uk un  h
  · replace h := uu_neg c1 h
    refine uu_aload_n dX12_dataLine_7 rfl (List.mem_of_getElem? (i := 0) rfl) ?_
    refine uu_geti (ci := 12) (N := 153) fX12_1051 (by decide) so_1079.is (by decide) (by decide) dX12_dataLine_8 ?_
    refine uu_if_ne (tgt := 18) dX12_dataLine_11 (by decide) (fun c2 => ?_) (fun c2 => ?_)
    · replace h := uu_neg c2 h
      refine uu_iconst (v := 0) dX12_dataLine_18 (by decide) ?_
      exact xb_X12_dataLine_19 uk un  h
    · replace h := uu_pos c2 h
      refine uu_iconst (v := 1) dX12_dataLine_14 (by decide) ?_
      refine uu_goto (tgt := 19) dX12_dataLine_15 (by decide) ?_
      exact xb_X12_dataLine_19 uk un  h
theorem dX12_mailIn_62 : decode cX12_mailIn 62 = .ok (.putfield 1024, 3) := by decide +kernel
theorem dX12_mailIn_65 : decode cX12_mailIn 65 = .ok (.aload_n 0, 1) := by decide +kernel
theorem dX12_mailIn_66 : decode cX12_mailIn 66 = .ok (.getfield 1024, 3) := by decide +kernel
theorem dX12_mailIn_69 : decode cX12_mailIn 69 = .ok (.ifCond .ne 8, 3) := by decide +kernel
theorem dX12_mailIn_77 : decode cX12_mailIn 77 = .ok (.iconst 1, 1) := by decide +kernel
theorem dX12_mailIn_78 : decode cX12_mailIn 78 = .ok (.ireturn, 1) := by decide +kernel
theorem dX12_mailIn_72 : decode cX12_mailIn 72 = .ok (.aload_n 0, 1) := by decide +kernel
theorem dX12_mailIn_73 : decode cX12_mailIn 73 = .ok (.iload_n 1, 1) := by decide +kernel
theorem kX12_plain : h_ml mX12_plain 1 := ⟨h_t11 25 rfl rfl, h_t1 16 rfl rfl, ⟨by decide, by decide, by decide +kernel⟩, by decide⟩
theorem lX12_1045 : Cond.methodLink RX12 1045 mX12_plain.1 ∈ lw_g := h_t11 22 rfl rfl
theorem sX12_plain : Cond.instanceMethod mX12_plain.1 ∈ lw_g ∧ Cond.selects mX12_plain.1.cls mX12_plain.1 mX12_plain.1 ∈ lw_g := ⟨h_t11 24 rfl rfl, h_ins 250 rfl⟩
theorem dX12_mailIn_74 : decode cX12_mailIn 74 = .ok (.invokevirtual 1045, 3) := by decide +kernel
theorem dX12_mailIn_50 : decode cX12_mailIn 50 = .ok (.aload_n 0, 1) := by decide +kernel
theorem dX12_mailIn_51 : decode cX12_mailIn 51 = .ok (.iload_n 1, 1) := by decide +kernel
theorem dX12_mailIn_52 : decode cX12_mailIn 52 = .ok (.bipush 13, 2) := by decide +kernel
theorem dX12_mailIn_54 : decode cX12_mailIn 54 = .ok (.if_icmp .ne 7, 3) := by decide +kernel
theorem dX12_mailIn_61 : decode cX12_mailIn 61 = .ok (.iconst 0, 1) := by decide +kernel
theorem dX12_mailIn_57 : decode cX12_mailIn 57 = .ok (.iconst 1, 1) := by decide +kernel
theorem dX12_mailIn_58 : decode cX12_mailIn 58 = .ok (.goto 4, 3) := by decide +kernel
theorem dX12_mailIn_37 : decode cX12_mailIn 37 = .ok (.aload_n 0, 1) := by decide +kernel
theorem dX12_mailIn_38 : decode cX12_mailIn 38 = .ok (.getfield 1024, 3) := by decide +kernel
theorem dX12_mailIn_41 : decode cX12_mailIn 41 = .ok (.ifCond .eq 9, 3) := by decide +kernel
theorem dX12_mailIn_44 : decode cX12_mailIn 44 = .ok (.aload_n 0, 1) := by decide +kernel
theorem dX12_mailIn_45 : decode cX12_mailIn 45 = .ok (.bipush 13, 2) := by decide +kernel
theorem dX12_mailIn_47 : decode cX12_mailIn 47 = .ok (.invokevirtual 1045, 3) := by decide +kernel
theorem dX12_mailIn_0 : decode cX12_mailIn 0 = .ok (.aload_n 0, 1) := by decide +kernel
theorem dX12_mailIn_1 : decode cX12_mailIn 1 = .ok (.getfield 1024, 3) := by decide +kernel
theorem dX12_mailIn_4 : decode cX12_mailIn 4 = .ok (.ifCond .eq 33, 3) := by decide +kernel
theorem dX12_mailIn_7 : decode cX12_mailIn 7 = .ok (.iload_n 1, 1) := by decide +kernel
theorem dX12_mailIn_8 : decode cX12_mailIn 8 = .ok (.bipush 10, 2) := by decide +kernel
theorem dX12_mailIn_10 : decode cX12_mailIn 10 = .ok (.if_icmp .ne 27, 3) := by decide +kernel
theorem dX12_mailIn_13 : decode cX12_mailIn 13 = .ok (.aload_n 0, 1) := by decide +kernel
theorem dX12_mailIn_14 : decode cX12_mailIn 14 = .ok (.iconst 0, 1) := by decide +kernel
theorem dX12_mailIn_15 : decode cX12_mailIn 15 = .ok (.putfield 1024, 3) := by decide +kernel
theorem dX12_mailIn_18 : decode cX12_mailIn 18 = .ok (.aload_n 0, 1) := by decide +kernel
theorem dX12_mailIn_19 : decode cX12_mailIn 19 = .ok (.getfield 1018, 3) := by decide +kernel
theorem dX12_mailIn_22 : decode cX12_mailIn 22 = .ok (.ifCond .eq 10, 3) := by decide +kernel
theorem dX12_mailIn_32 : decode cX12_mailIn 32 = .ok (.aload_n 0, 1) := by decide +kernel
theorem kX12_commandLine : h_ml mX12_commandLine 0 := ⟨h_t10 177 rfl rfl, h_t1 16 rfl rfl, ⟨by decide, by decide, by decide +kernel⟩, by decide⟩
theorem lX12_1042 : Cond.methodLink RX12 1042 mX12_commandLine.1 ∈ lw_g := h_t10 174 rfl rfl
theorem sX12_commandLine : Cond.instanceMethod mX12_commandLine.1 ∈ lw_g ∧ Cond.selects mX12_commandLine.1.cls mX12_commandLine.1 mX12_commandLine.1 ∈ lw_g := ⟨h_t10 176 rfl rfl, h_ins 236 rfl⟩
theorem dX12_mailIn_33 : decode cX12_mailIn 33 = .ok (.invokevirtual 1042, 3) := by decide +kernel
theorem dX12_mailIn_36 : decode cX12_mailIn 36 = .ok (.ireturn, 1) := by decide +kernel
theorem dX12_mailIn_25 : decode cX12_mailIn 25 = .ok (.aload_n 0, 1) := by decide +kernel
theorem kX12_dataLine : h_ml mX12_dataLine 0 := ⟨h_t8 14 rfl rfl, h_t1 16 rfl rfl, ⟨by decide, by decide, by decide +kernel⟩, by decide⟩
theorem lX12_1039 : Cond.methodLink RX12 1039 mX12_dataLine.1 ∈ lw_g := h_t8 11 rfl rfl
theorem sX12_dataLine : Cond.instanceMethod mX12_dataLine.1 ∈ lw_g ∧ Cond.selects mX12_dataLine.1.cls mX12_dataLine.1 mX12_dataLine.1 ∈ lw_g := ⟨h_t8 13 rfl rfl, h_ins 107 rfl⟩
theorem dX12_mailIn_26 : decode cX12_mailIn 26 = .ok (.invokevirtual 1039, 3) := by decide +kernel
theorem dX12_mailIn_29 : decode cX12_mailIn 29 = .ok (.goto 7, 3) := by decide +kernel
def fb_X12_mailIn_62  (x1 : Int32) (bs0 : Bool) (s : uS) : Option (uS × Bool) := if ((wI s 1079 123 (bI bs0)).I 1079 123) = 0 then ((fn_X12_plain x1 (wI s 1079 123 (bI bs0))).bind fun s2 => some (s2, true)) else (some (wI s 1079 123 (bI bs0), true))
set_option maxRecDepth 100000 in
set_option maxHeartbeats 4000000 in
theorem xb_X12_mailIn_62 {l : Launch} {D : va_G} {A : Nat → ClassId} {B : Nat} {Z : State → Heap → Prop} {vF : Value} (uk : uK B Z vF) (un : uX A B Z)   {x1 : Int32} {bs0 : Bool} {s : uS} {r : (uS × Bool)}  (h : fb_X12_mailIn_62  x1 bs0 s = some r) : GU l D A B Z mX12_mailIn 116 (r.1, some (.int (bI r.2))) s 62 [(0, .ref (B + 1079)), (1, .int x1)] [.int (bI bs0), .ref (B + 1079)] := by
  unfold fb_X12_mailIn_62 at h
  refine uu_puti (ft := .boolean) (ci := 12) (N := 153) fX12_1024 ptX12 (Or.inl rfl) (by decide) so_1079.is (by decide) (by decide) (by decide +kernel) (bI_z _) (bI_f _) dX12_mailIn_62 ?_
  refine uu_aload_n dX12_mailIn_65 rfl (List.mem_of_getElem? (i := 0) rfl) ?_
  refine uu_geti (ci := 12) (N := 153) fX12_1024 (by decide) so_1079.is (by decide) (by decide) dX12_mailIn_66 ?_
  refine uu_if_ne (tgt := 77) dX12_mailIn_69 (by decide) (fun c1 => ?_) (fun c1 => ?_)
  · replace h := uu_neg c1 h
    refine uu_iconst (v := 1) dX12_mailIn_77 (by decide) ?_
    have hr := Option.some.inj h
    subst hr
    exact uu_zret (x := bI true) rfl (bI_z _) dX12_mailIn_78
  · replace h := uu_pos c1 h
    refine uu_aload_n dX12_mailIn_72 rfl (List.mem_of_getElem? (i := 0) rfl) ?_
    refine uu_iload_n dX12_mailIn_73 rfl (List.mem_of_getElem? (i := 1) rfl) ?_
    obtain ⟨s2, e3, h⟩ := uu_ob h
    refine uu_cv (d1 := 1) (k := 1079) (ci := 12) (T := TX12) (N := 153) (As := [.int x1]) (st := []) (st' := []) (xc_X12_plain uk  e3) so_1079.is (by decide) rfl kX12_plain lX12_1045 sX12_plain (by decide) (Nat.le_of_ble_eq_true rfl) dX12_mailIn_74 rfl ?_
    refine uu_iconst (v := 1) dX12_mailIn_77 (by decide) ?_
    have hr := Option.some.inj h
    subst hr
    exact uu_zret (x := bI true) rfl (bI_z _) dX12_mailIn_78
def fb_X12_mailIn_50  (x1 : Int32) (s : uS) : Option (uS × Bool) := if x1 = 13 then (fb_X12_mailIn_62 x1 true s) else (fb_X12_mailIn_62 x1 false s)
set_option maxRecDepth 100000 in
set_option maxHeartbeats 4000000 in
theorem xb_X12_mailIn_50 {l : Launch} {D : va_G} {A : Nat → ClassId} {B : Nat} {Z : State → Heap → Prop} {vF : Value} (uk : uK B Z vF) (un : uX A B Z)   {x1 : Int32} {s : uS} {r : (uS × Bool)}  (h : fb_X12_mailIn_50  x1 s = some r) : GU l D A B Z mX12_mailIn 116 (r.1, some (.int (bI r.2))) s 50 [(0, .ref (B + 1079)), (1, .int x1)] [] := by
  unfold fb_X12_mailIn_50 at h
  refine uu_aload_n dX12_mailIn_50 rfl (List.mem_of_getElem? (i := 0) rfl) ?_
  refine uu_iload_n dX12_mailIn_51 rfl (List.mem_of_getElem? (i := 1) rfl) ?_
  refine uu_bipush (v := 13) dX12_mailIn_52 (by decide) ?_
  refine uu_icmp_ne (tgt := 61) dX12_mailIn_54 (by decide) (fun c1 => ?_) (fun c1 => ?_)
  · replace h := uu_neg c1 h
    refine uu_iconst (v := 0) dX12_mailIn_61 (by decide) ?_
    exact xb_X12_mailIn_62 uk un  h
  · replace h := uu_pos c1 h
    refine uu_iconst (v := 1) dX12_mailIn_57 (by decide) ?_
    refine uu_goto (tgt := 62) dX12_mailIn_58 (by decide) ?_
    exact xb_X12_mailIn_62 uk un  h
def fb_X12_mailIn_37  (x1 : Int32) (s : uS) : Option (uS × Bool) := if (s.I 1079 123) = 0 then (fb_X12_mailIn_50 x1 s) else ((fn_X12_plain 13 s).bind fun s2 => fb_X12_mailIn_50 x1 s2)
set_option maxRecDepth 100000 in
set_option maxHeartbeats 4000000 in
theorem xb_X12_mailIn_37 {l : Launch} {D : va_G} {A : Nat → ClassId} {B : Nat} {Z : State → Heap → Prop} {vF : Value} (uk : uK B Z vF) (un : uX A B Z)   {x1 : Int32} {s : uS} {r : (uS × Bool)}  (h : fb_X12_mailIn_37  x1 s = some r) : GU l D A B Z mX12_mailIn 116 (r.1, some (.int (bI r.2))) s 37 [(0, .ref (B + 1079)), (1, .int x1)] [] := by
  unfold fb_X12_mailIn_37 at h
  refine uu_aload_n dX12_mailIn_37 rfl (List.mem_of_getElem? (i := 0) rfl) ?_
  refine uu_geti (ci := 12) (N := 153) fX12_1024 (by decide) so_1079.is (by decide) (by decide) dX12_mailIn_38 ?_
  refine uu_if_eq (tgt := 50) dX12_mailIn_41 (by decide) (fun c1 => ?_) (fun c1 => ?_)
  · replace h := uu_pos c1 h
    exact xb_X12_mailIn_50 uk un  h
  · replace h := uu_neg c1 h
    refine uu_aload_n dX12_mailIn_44 rfl (List.mem_of_getElem? (i := 0) rfl) ?_
    refine uu_bipush (v := 13) dX12_mailIn_45 (by decide) ?_
    obtain ⟨s2, e3, h⟩ := uu_ob h
    refine uu_cv (d1 := 1) (k := 1079) (ci := 12) (T := TX12) (N := 153) (As := [.int 13]) (st := []) (st' := []) (xc_X12_plain uk  e3) so_1079.is (by decide) rfl kX12_plain lX12_1045 sX12_plain (by decide) (Nat.le_of_ble_eq_true rfl) dX12_mailIn_47 rfl ?_
    exact xb_X12_mailIn_50 uk un  h
def fn_X12_mailIn (x1 : Int32) (s : uS) : Option (uS × Bool) := if (s.I 1079 123) = 0 then (fb_X12_mailIn_37 x1 s) else (if x1 = 10 then (if ((wI s 1079 123 0).I 1079 116) = 0 then ((fn_X12_commandLine (wI s 1079 123 0)).bind fun r4 => some (r4.1, r4.2)) else ((fn_X12_dataLine (wI s 1079 123 0)).bind fun r6 => some (r6.1, r6.2))) else (fb_X12_mailIn_37 x1 s))
set_option maxRecDepth 100000 in
set_option maxHeartbeats 4000000 in
theorem xc_X12_mailIn {l : Launch} {D : va_G} {A : Nat → ClassId} {B : Nat} {Z : State → Heap → Prop} {vF : Value} (uk : uK B Z vF) (un : uX A B Z) {x1 : Int32} {s : uS} {r : (uS × Bool)}  (h : fn_X12_mailIn x1 s = some r) : CU l D A B Z 116 mX12_mailIn s [.ref (B + 1079), .int x1] (r.1, some (.int (bI r.2))) := by
  unfold fn_X12_mailIn at h
  refine cu_of rfl uk.1.1 (Nat.le_of_ble_eq_true rfl) ?_
  show GU _ _ _ _ _ _ _ _ _ 0 [(0, .ref (B + 1079)), (1, .int x1)] []
  refine uu_aload_n dX12_mailIn_0 rfl (List.mem_of_getElem? (i := 0) rfl) ?_
  refine uu_geti (ci := 12) (N := 153) fX12_1024 (by decide) so_1079.is (by decide) (by decide) dX12_mailIn_1 ?_
  refine uu_if_eq (tgt := 37) dX12_mailIn_4 (by decide) (fun c1 => ?_) (fun c1 => ?_)
  · replace h := uu_pos c1 h
    exact xb_X12_mailIn_37 uk un  h
  · replace h := uu_neg c1 h
    refine uu_iload_n dX12_mailIn_7 rfl (List.mem_of_getElem? (i := 1) rfl) ?_
    refine uu_bipush (v := 10) dX12_mailIn_8 (by decide) ?_
    refine uu_icmp_ne (tgt := 37) dX12_mailIn_10 (by decide) (fun c2 => ?_) (fun c2 => ?_)
    · replace h := uu_neg c2 h
      exact xb_X12_mailIn_37 uk un  h
    · replace h := uu_pos c2 h
      refine uu_aload_n dX12_mailIn_13 rfl (List.mem_of_getElem? (i := 0) rfl) ?_
      refine uu_iconst (v := 0) dX12_mailIn_14 (by decide) ?_
      refine uu_puti (ft := .boolean) (ci := 12) (N := 153) fX12_1024 ptX12 (Or.inl rfl) (by decide) so_1079.is (by decide) (by decide) (by decide +kernel) rfl rfl dX12_mailIn_15 ?_
      refine uu_aload_n dX12_mailIn_18 rfl (List.mem_of_getElem? (i := 0) rfl) ?_
      refine uu_geti (ci := 12) (N := 153) fX12_1018 (by decide) so_1079.is (by decide) (by decide) dX12_mailIn_19 ?_
      refine uu_if_eq (tgt := 32) dX12_mailIn_22 (by decide) (fun c3 => ?_) (fun c3 => ?_)
      · replace h := uu_pos c3 h
        refine uu_aload_n dX12_mailIn_32 rfl (List.mem_of_getElem? (i := 0) rfl) ?_
        obtain ⟨r4, e5, h⟩ := uu_ob h
        refine uu_cv (d1 := 10) (k := 1079) (ci := 12) (T := TX12) (N := 153) (As := []) (st := []) (st' := [.int (bI r4.2)]) (xc_X12_commandLine uk  e5) so_1079.is (by decide) rfl kX12_commandLine lX12_1042 sX12_commandLine (by decide) (Nat.le_of_ble_eq_true rfl) dX12_mailIn_33 rfl ?_
        have hr := Option.some.inj h
        subst hr
        exact uu_zret (x := bI r4.2) rfl (bI_z _) dX12_mailIn_36
      · replace h := uu_neg c3 h
        refine uu_aload_n dX12_mailIn_25 rfl (List.mem_of_getElem? (i := 0) rfl) ?_
        obtain ⟨r6, e7, h⟩ := uu_ob h
        refine uu_cv (d1 := 115) (k := 1079) (ci := 12) (T := TX12) (N := 153) (As := []) (st := []) (st' := [.int (bI r6.2)]) (xc_X12_dataLine uk un  e7) so_1079.is (by decide) rfl kX12_dataLine lX12_1039 sX12_dataLine (by decide) (Nat.le_of_ble_eq_true rfl) dX12_mailIn_26 rfl ?_
        refine uu_goto (tgt := 36) dX12_mailIn_29 (by decide) ?_
        have hr := Option.some.inj h
        subst hr
        exact uu_zret (x := bI r6.2) rfl (bI_z _) dX12_mailIn_36
def fb_X12_mail_35 (K35 : Int32 → Int32 → uS → Option (uS × Int32)) (x1 : Int32) (x2 : Int32) (s : uS) : Option (uS × Int32) := if x1 ≤ x2 then (some (s, x1)) else (if (s.I 1079 113) = 0 then (K35 x1 (x2 + 1) s) else ((iget 20 s 1080 x2).bind fun v3 => (fn_X12_mailIn v3 s).bind fun r5 => if r5.2 = true then (K35 x1 (x2 + 1) r5.1) else (some (r5.1, x2 + 1))))
set_option maxRecDepth 100000 in
set_option maxHeartbeats 4000000 in
theorem xb_X12_mail_35 {l : Launch} {D : va_G} {A : Nat → ClassId} {B : Nat} {Z : State → Heap → Prop} {vF : Value} (uk : uK B Z vF) (un : uX A B Z) {K35 : Int32 → Int32 → uS → Option (uS × Int32)} (hK35 : ∀ (x1 : Int32) (x2 : Int32)  (s : uS) (r : (uS × Int32)), K35 x1 x2 s = some r → GU l D A B Z mX12_mail 117 (r.1, some (.int r.2)) s 35 [(0, .ref (B + 1079)), (1, .int x1), (2, .int x2)] []) {x1 : Int32} {x2 : Int32} {s : uS} {r : (uS × Int32)}  (h : fb_X12_mail_35 K35 x1 x2 s = some r) : GU l D A B Z mX12_mail 117 (r.1, some (.int r.2)) s 35 [(0, .ref (B + 1079)), (1, .int x1), (2, .int x2)] [] := by
  unfold fb_X12_mail_35 at h
  refine uu_iload_n dX12_mail_35 rfl (List.mem_of_getElem? (i := 2) rfl) ?_
  refine uu_iload_n dX12_mail_36 rfl (List.mem_of_getElem? (i := 1) rfl) ?_
  refine uu_icmp_ge (tgt := 70) dX12_mail_37 (by decide) (fun c1 => ?_) (fun c1 => ?_)
  · replace h := uu_pos c1 h
    refine uu_iload_n dX12_mail_70 rfl (List.mem_of_getElem? (i := 1) rfl) ?_
    have hr := Option.some.inj h
    subst hr
    exact uu_iret rfl dX12_mail_71
  · replace h := uu_neg c1 h
    refine uu_aload_n dX12_mail_40 rfl (List.mem_of_getElem? (i := 0) rfl) ?_
    refine uu_geti (ci := 12) (N := 153) fX12_11 (by decide) so_1079.is (by decide) (by decide) dX12_mail_41 ?_
    refine uu_if_eq (tgt := 64) dX12_mail_44 (by decide) (fun c2 => ?_) (fun c2 => ?_)
    · replace h := uu_pos c2 h
      refine uu_iinc (v := x2 + 1) dX12_mail_64 (k := 2) rfl rfl (by decide) rfl ?_
      refine uu_goto (tgt := 35) dX12_mail_67 (by decide) ?_
      refine uu_lv [1, 2, 0] (lv' := [(0, .ref (B + 1079)), (1, .int x1), (2, .int (x2 + 1))]) rfl ?_
      exact hK35 x1 (x2 + 1) _ _ h
    · replace h := uu_neg c2 h
      refine uu_aload_n dX12_mail_47 rfl (List.mem_of_getElem? (i := 0) rfl) ?_
      refine uu_aload_n dX12_mail_48 rfl (List.mem_of_getElem? (i := 0) rfl) ?_
      refine uu_geta (ci := 12) (N := 153) fX12_21 (by decide) so_1079.is (by decide) (c := 1080) (by decide) dX12_mail_49 ?_
      refine uu_iload_n dX12_mail_52 rfl (List.mem_of_getElem? (i := 2) rfl) ?_
      obtain ⟨v3, e4, h⟩ := uu_ob h
      refine uu_iald e4 dX12_mail_53 ?_
      obtain ⟨r5, e6, h⟩ := uu_ob h
      refine uu_cv (d1 := 116) (k := 1079) (ci := 12) (T := TX12) (N := 153) (As := [.int v3]) (st := []) (st' := [.int (bI r5.2)]) (xc_X12_mailIn uk un  e6) so_1079.is (by decide) rfl kX12_mailIn lX12_1171 sX12_mailIn (by decide) (Nat.le_of_ble_eq_true rfl) dX12_mail_54 rfl ?_
      refine uu_ifb_ne (tgt := 64) dX12_mail_57 (by decide) (fun c7 => ?_) (fun c7 => ?_)
      · replace h := uu_pos c7 h
        refine uu_iinc (v := x2 + 1) dX12_mail_64 (k := 2) rfl rfl (by decide) rfl ?_
        refine uu_goto (tgt := 35) dX12_mail_67 (by decide) ?_
        refine uu_lv [1, 2, 0] (lv' := [(0, .ref (B + 1079)), (1, .int x1), (2, .int (x2 + 1))]) rfl ?_
        exact hK35 x1 (x2 + 1) _ _ h
      · replace h := uu_neg c7 h
        refine uu_iload_n dX12_mail_60 rfl (List.mem_of_getElem? (i := 2) rfl) ?_
        refine uu_iconst (v := 1) dX12_mail_61 (by decide) ?_
        refine uu_iadd dX12_mail_62 ?_
        have hr := Option.some.inj h
        subst hr
        exact uu_iret rfl dX12_mail_63
def fn_X12_mail_35  : Nat → Int32 → Int32 → uS → Option (uS × Int32)
  | 0 => fun _ _ _ => none
  | n + 1 => fb_X12_mail_35 (fn_X12_mail_35  n)
set_option maxRecDepth 100000 in
set_option maxHeartbeats 4000000 in
theorem xn_X12_mail_35 {l : Launch} {D : va_G} {A : Nat → ClassId} {B : Nat} {Z : State → Heap → Prop} {vF : Value} (uk : uK B Z vF) (un : uX A B Z)   : ∀ (n : Nat) (x1 : Int32) (x2 : Int32)  (s : uS) (r : (uS × Int32)), fn_X12_mail_35  n x1 x2 s = some r → GU l D A B Z mX12_mail 117 (r.1, some (.int r.2)) s 35 [(0, .ref (B + 1079)), (1, .int x1), (2, .int x2)] [] := by
  intro n
  induction n with
  | zero => intro x1 x2 s r h
            cases h
  | succ n ih => intro x1 x2 s r h
                 exact xb_X12_mail_35 uk un ih  h
def fn_X12_mail (x1 : Int32) (s : uS) : Option (uS × Int32) := if (s.I 1079 113) = 0 then (some (s, (-1 : Int32))) else (if (s.I 1079 0) = 0 then (some (s, (-1 : Int32))) else (if x1 < 0 then (some (s, (-1 : Int32))) else (if x1 ≤ (s.I 1079 5) then (fn_X12_mail_35 uFu x1 0 (wI s 1079 5 0)) else (some (s, (-1 : Int32))))))
set_option maxRecDepth 100000 in
set_option maxHeartbeats 4000000 in
theorem xc_X12_mail {l : Launch} {D : va_G} {A : Nat → ClassId} {B : Nat} {Z : State → Heap → Prop} {vF : Value} (uk : uK B Z vF) (un : uX A B Z) {x1 : Int32} {s : uS} {r : (uS × Int32)}  (h : fn_X12_mail x1 s = some r) : CU l D A B Z 117 mX12_mail s [.ref (B + 1079), .int x1] (r.1, some (.int r.2)) := by
  unfold fn_X12_mail at h
  refine cu_of rfl uk.1.1 (Nat.le_of_ble_eq_true rfl) ?_
  show GU _ _ _ _ _ _ _ _ _ 0 [(0, .ref (B + 1079)), (1, .int x1)] []
  refine uu_aload_n dX12_mail_0 rfl (List.mem_of_getElem? (i := 0) rfl) ?_
  refine uu_geti (ci := 12) (N := 153) fX12_11 (by decide) so_1079.is (by decide) (by decide) dX12_mail_1 ?_
  refine uu_if_eq (tgt := 26) dX12_mail_4 (by decide) (fun c1 => ?_) (fun c1 => ?_)
  · replace h := uu_pos c1 h
    refine uu_iconst (v := -1) dX12_mail_26 (by decide) ?_
    have hr := Option.some.inj h
    subst hr
    exact uu_iret rfl dX12_mail_27
  · replace h := uu_neg c1 h
    refine uu_aload_n dX12_mail_7 rfl (List.mem_of_getElem? (i := 0) rfl) ?_
    refine uu_geti (ci := 12) (N := 153) fX12_7 (by decide) so_1079.is (by decide) (by decide) dX12_mail_8 ?_
    refine uu_if_eq (tgt := 26) dX12_mail_11 (by decide) (fun c2 => ?_) (fun c2 => ?_)
    · replace h := uu_pos c2 h
      refine uu_iconst (v := -1) dX12_mail_26 (by decide) ?_
      have hr := Option.some.inj h
      subst hr
      exact uu_iret rfl dX12_mail_27
    · replace h := uu_neg c2 h
      refine uu_iload_n dX12_mail_14 rfl (List.mem_of_getElem? (i := 1) rfl) ?_
      refine uu_if_lt (tgt := 26) dX12_mail_15 (by decide) (fun c3 => ?_) (fun c3 => ?_)
      · replace h := uu_pos c3 h
        refine uu_iconst (v := -1) dX12_mail_26 (by decide) ?_
        have hr := Option.some.inj h
        subst hr
        exact uu_iret rfl dX12_mail_27
      · replace h := uu_neg c3 h
        refine uu_iload_n dX12_mail_18 rfl (List.mem_of_getElem? (i := 1) rfl) ?_
        refine uu_aload_n dX12_mail_19 rfl (List.mem_of_getElem? (i := 0) rfl) ?_
        refine uu_geti (ci := 12) (N := 153) fX12_25 (by decide) so_1079.is (by decide) (by decide) dX12_mail_20 ?_
        refine uu_icmp_le (tgt := 28) dX12_mail_23 (by decide) (fun c4 => ?_) (fun c4 => ?_)
        · replace h := uu_pos c4 h
          refine uu_aload_n dX12_mail_28 rfl (List.mem_of_getElem? (i := 0) rfl) ?_
          refine uu_iconst (v := 0) dX12_mail_29 (by decide) ?_
          refine uu_puti (ft := .int) (ci := 12) (N := 153) fX12_25 ptX12 (Or.inl rfl) (by decide) so_1079.is (by decide) (by decide) (by decide +kernel) rfl rfl dX12_mail_30 ?_
          refine uu_iconst (v := 0) dX12_mail_33 (by decide) ?_
          refine uu_istore_n dX12_mail_34 rfl (by decide) rfl ?_
          refine uu_lv [1, 2, 0] (lv' := [(0, .ref (B + 1079)), (1, .int x1), (2, .int 0)]) rfl ?_
          exact xn_X12_mail_35 uk un  _ _ _ _ _ h
        · replace h := uu_neg c4 h
          refine uu_iconst (v := -1) dX12_mail_26 (by decide) ?_
          have hr := Option.some.inj h
          subst hr
          exact uu_iret rfl dX12_mail_27
abbrev mX12_isScript : hM := (yX12_isScript, cX12_isScript, 5, (some (.boolean)))
theorem dX12_isScript_16 : decode cX12_isScript 16 = .ok (.iload 4, 2) := by decide +kernel
theorem dX12_isScript_18 : decode cX12_isScript 18 = .ok (.iload_n 2, 1) := by decide +kernel
theorem dX12_isScript_19 : decode cX12_isScript 19 = .ok (.if_icmp .ge 29, 3) := by decide +kernel
theorem dX12_isScript_48 : decode cX12_isScript 48 = .ok (.aload_n 0, 1) := by decide +kernel
theorem dX12_isScript_49 : decode cX12_isScript 49 = .ok (.iload_n 1, 1) := by decide +kernel
theorem dX12_isScript_50 : decode cX12_isScript 50 = .ok (.ldc_w 1356, 3) := by decide +kernel
theorem dX12_isScript_53 : decode cX12_isScript 53 = .ok (.invokevirtual 68, 3) := by decide +kernel
theorem dX12_isScript_56 : decode cX12_isScript 56 = .ok (.aload_n 0, 1) := by decide +kernel
theorem dX12_isScript_57 : decode cX12_isScript 57 = .ok (.iload_n 1, 1) := by decide +kernel
theorem dX12_isScript_58 : decode cX12_isScript 58 = .ok (.iload_n 3, 1) := by decide +kernel
theorem dX12_isScript_59 : decode cX12_isScript 59 = .ok (.invokevirtual 1358, 3) := by decide +kernel
theorem dX12_isScript_62 : decode cX12_isScript 62 = .ok (.aload_n 0, 1) := by decide +kernel
theorem dX12_isScript_63 : decode cX12_isScript 63 = .ok (.iload_n 1, 1) := by decide +kernel
theorem dX12_isScript_64 : decode cX12_isScript 64 = .ok (.ldc_w 1317, 3) := by decide +kernel
theorem dX12_isScript_67 : decode cX12_isScript 67 = .ok (.invokevirtual 974, 3) := by decide +kernel
theorem dX12_isScript_70 : decode cX12_isScript 70 = .ok (.iconst 0, 1) := by decide +kernel
theorem dX12_isScript_71 : decode cX12_isScript 71 = .ok (.ireturn, 1) := by decide +kernel
theorem dX12_isScript_22 : decode cX12_isScript 22 = .ok (.aload_n 0, 1) := by decide +kernel
theorem dX12_isScript_23 : decode cX12_isScript 23 = .ok (.getfield 187, 3) := by decide +kernel
theorem dX12_isScript_26 : decode cX12_isScript 26 = .ok (.iload 4, 2) := by decide +kernel
theorem dX12_isScript_28 : decode cX12_isScript 28 = .ok (.iaload, 1) := by decide +kernel
theorem dX12_isScript_29 : decode cX12_isScript 29 = .ok (.bipush 10, 2) := by decide +kernel
theorem dX12_isScript_31 : decode cX12_isScript 31 = .ok (.if_icmp .ne 9, 3) := by decide +kernel
theorem dX12_isScript_40 : decode cX12_isScript 40 = .ok (.iload_n 3, 1) := by decide +kernel
theorem dX12_isScript_41 : decode cX12_isScript 41 = .ok (.istore_n 3, 1) := by decide +kernel
theorem dX12_isScript_42 : decode cX12_isScript 42 = .ok (.iinc 4 1, 3) := by decide +kernel
theorem dX12_isScript_45 : decode cX12_isScript 45 = .ok (.goto (-29), 3) := by decide +kernel
theorem dX12_isScript_34 : decode cX12_isScript 34 = .ok (.iload_n 3, 1) := by decide +kernel
theorem dX12_isScript_35 : decode cX12_isScript 35 = .ok (.iconst 1, 1) := by decide +kernel
theorem dX12_isScript_36 : decode cX12_isScript 36 = .ok (.iadd, 1) := by decide +kernel
theorem dX12_isScript_37 : decode cX12_isScript 37 = .ok (.goto 4, 3) := by decide +kernel
theorem dX12_isScript_0 : decode cX12_isScript 0 = .ok (.aload_n 0, 1) := by decide +kernel
theorem dX12_isScript_1 : decode cX12_isScript 1 = .ok (.invokevirtual 938, 3) := by decide +kernel
theorem dX12_isScript_4 : decode cX12_isScript 4 = .ok (.istore_n 2, 1) := by decide +kernel
theorem dX12_isScript_5 : decode cX12_isScript 5 = .ok (.iload_n 2, 1) := by decide +kernel
theorem dX12_isScript_6 : decode cX12_isScript 6 = .ok (.ifCond .ge 5, 3) := by decide +kernel
theorem dX12_isScript_11 : decode cX12_isScript 11 = .ok (.iconst 1, 1) := by decide +kernel
theorem dX12_isScript_12 : decode cX12_isScript 12 = .ok (.istore_n 3, 1) := by decide +kernel
theorem dX12_isScript_13 : decode cX12_isScript 13 = .ok (.iconst 0, 1) := by decide +kernel
theorem dX12_isScript_14 : decode cX12_isScript 14 = .ok (.istore 4, 2) := by decide +kernel
theorem dX12_isScript_9 : decode cX12_isScript 9 = .ok (.iconst 1, 1) := by decide +kernel
theorem dX12_isScript_10 : decode cX12_isScript 10 = .ok (.ireturn, 1) := by decide +kernel
def fb_X12_isScript_16 (K16 : Int32 → Int32 → Int32 → Int32 → uS → Option (uS × Bool)) (x1 : Int32) (x2 : Int32) (x3 : Int32) (x4 : Int32) (s : uS) : Option (uS × Bool) := if x2 ≤ x4 then ((fn_X12_tell x1 kW_206 s).bind fun s3 => (fn_X12_sayNumber x1 x3 s3).bind fun s5 => (fn_X12_line x1 kW_203 s5).bind fun s8 => some (s8, false)) else ((iget 20 s 1096 x4).bind fun v10 => if v10 = 10 then (K16 x1 x2 (x3 + 1) (x4 + 1) s) else (K16 x1 x2 x3 (x4 + 1) s))
set_option maxRecDepth 100000 in
set_option maxHeartbeats 4000000 in
theorem xb_X12_isScript_16 {l : Launch} {D : va_G} {A : Nat → ClassId} {B : Nat} {Z : State → Heap → Prop} {vF : Value} (uk : uK B Z vF) (un : uX A B Z) {K16 : Int32 → Int32 → Int32 → Int32 → uS → Option (uS × Bool)} (hK16 : ∀ (x1 : Int32) (x2 : Int32) (x3 : Int32) (x4 : Int32)  (s : uS) (r : (uS × Bool)), K16 x1 x2 x3 x4 s = some r → GU l D A B Z mX12_isScript 113 (r.1, some (.int (bI r.2))) s 16 [(0, .ref (B + 1079)), (1, .int x1), (2, .int x2), (3, .int x3), (4, .int x4)] []) {x1 : Int32} {x2 : Int32} {x3 : Int32} {x4 : Int32} {s : uS} {r : (uS × Bool)}  (h : fb_X12_isScript_16 K16 x1 x2 x3 x4 s = some r) : GU l D A B Z mX12_isScript 113 (r.1, some (.int (bI r.2))) s 16 [(0, .ref (B + 1079)), (1, .int x1), (2, .int x2), (3, .int x3), (4, .int x4)] [] := by
  unfold fb_X12_isScript_16 at h
  refine uu_iload dX12_isScript_16 (List.mem_of_getElem? (i := 4) rfl) ?_
  refine uu_iload_n dX12_isScript_18 rfl (List.mem_of_getElem? (i := 2) rfl) ?_
  refine uu_icmp_ge (tgt := 48) dX12_isScript_19 (by decide) (fun c1 => ?_) (fun c1 => ?_)
  · replace h := uu_pos c1 h
    refine uu_aload_n dX12_isScript_48 rfl (List.mem_of_getElem? (i := 0) rfl) ?_
    refine uu_iload_n dX12_isScript_49 rfl (List.mem_of_getElem? (i := 1) rfl) ?_
    obtain ⟨cq2, cp2, cv2, cw2⟩ := uk.2.1 206 _ rfl
    refine uu_ldcwS cv2 dX12_isScript_50 ?_
    obtain ⟨s3, e4, h⟩ := uu_ob h
    refine uu_cv (d1 := 4) (k := 1079) (ci := 12) (T := TX12) (N := 153) (As := [.int x1, .ref cq2]) (st := []) (st' := []) (xc_X12_tell uk cw2 e4) so_1079.is (by decide) rfl kX12_tell lX12_68 sX12_tell (by decide) (Nat.le_of_ble_eq_true rfl) dX12_isScript_53 rfl ?_
    refine uu_aload_n dX12_isScript_56 rfl (List.mem_of_getElem? (i := 0) rfl) ?_
    refine uu_iload_n dX12_isScript_57 rfl (List.mem_of_getElem? (i := 1) rfl) ?_
    refine uu_iload_n dX12_isScript_58 rfl (List.mem_of_getElem? (i := 3) rfl) ?_
    obtain ⟨s5, e6, h⟩ := uu_ob h
    refine uu_cv (d1 := 2) (k := 1079) (ci := 12) (T := TX12) (N := 153) (As := [.int x1, .int x3]) (st := []) (st' := []) (xc_X12_sayNumber uk  e6) so_1079.is (by decide) rfl kX12_sayNumber lX12_1358 sX12_sayNumber (by decide) (Nat.le_of_ble_eq_true rfl) dX12_isScript_59 rfl ?_
    refine uu_aload_n dX12_isScript_62 rfl (List.mem_of_getElem? (i := 0) rfl) ?_
    refine uu_iload_n dX12_isScript_63 rfl (List.mem_of_getElem? (i := 1) rfl) ?_
    obtain ⟨cq7, cp7, cv7, cw7⟩ := uk.2.1 203 _ rfl
    refine uu_ldcwS cv7 dX12_isScript_64 ?_
    obtain ⟨s8, e9, h⟩ := uu_ob h
    refine uu_cv (d1 := 5) (k := 1079) (ci := 12) (T := TX12) (N := 153) (As := [.int x1, .ref cq7]) (st := []) (st' := []) (xc_X12_line uk cw7 e9) so_1079.is (by decide) rfl kX12_line lX12_974 sX12_line (by decide) (Nat.le_of_ble_eq_true rfl) dX12_isScript_67 rfl ?_
    refine uu_iconst (v := 0) dX12_isScript_70 (by decide) ?_
    have hr := Option.some.inj h
    subst hr
    exact uu_zret (x := bI false) rfl (bI_z _) dX12_isScript_71
  · replace h := uu_neg c1 h
    refine uu_aload_n dX12_isScript_22 rfl (List.mem_of_getElem? (i := 0) rfl) ?_
    refine uu_geta (ci := 12) (N := 153) fX12_187 (by decide) so_1079.is (by decide) (c := 1096) (by decide) dX12_isScript_23 ?_
    refine uu_iload dX12_isScript_26 (List.mem_of_getElem? (i := 4) rfl) ?_
    obtain ⟨v10, e11, h⟩ := uu_ob h
    refine uu_iald e11 dX12_isScript_28 ?_
    refine uu_bipush (v := 10) dX12_isScript_29 (by decide) ?_
    refine uu_icmp_ne (tgt := 40) dX12_isScript_31 (by decide) (fun c12 => ?_) (fun c12 => ?_)
    · replace h := uu_neg c12 h
      refine uu_iload_n dX12_isScript_40 rfl (List.mem_of_getElem? (i := 3) rfl) ?_
      refine uu_istore_n dX12_isScript_41 rfl (by decide) rfl ?_
      refine uu_iinc (v := x4 + 1) dX12_isScript_42 (k := 4) rfl rfl (by decide) rfl ?_
      refine uu_goto (tgt := 16) dX12_isScript_45 (by decide) ?_
      refine uu_lv [2, 3, 4, 1, 0] (lv' := [(0, .ref (B + 1079)), (1, .int x1), (2, .int x2), (3, .int x3), (4, .int (x4 + 1))]) rfl ?_
      exact hK16 x1 x2 x3 (x4 + 1) _ _ h
    · replace h := uu_pos c12 h
      refine uu_iload_n dX12_isScript_34 rfl (List.mem_of_getElem? (i := 3) rfl) ?_
      refine uu_iconst (v := 1) dX12_isScript_35 (by decide) ?_
      refine uu_iadd dX12_isScript_36 ?_
      refine uu_goto (tgt := 41) dX12_isScript_37 (by decide) ?_
      refine uu_istore_n dX12_isScript_41 rfl (by decide) rfl ?_
      refine uu_iinc (v := x4 + 1) dX12_isScript_42 (k := 4) rfl rfl (by decide) rfl ?_
      refine uu_goto (tgt := 16) dX12_isScript_45 (by decide) ?_
      refine uu_lv [2, 3, 4, 1, 0] (lv' := [(0, .ref (B + 1079)), (1, .int x1), (2, .int x2), (3, .int (x3 + 1)), (4, .int (x4 + 1))]) rfl ?_
      exact hK16 x1 x2 (x3 + 1) (x4 + 1) _ _ h
def fn_X12_isScript_16  : Nat → Int32 → Int32 → Int32 → Int32 → uS → Option (uS × Bool)
  | 0 => fun _ _ _ _ _ => none
  | n + 1 => fb_X12_isScript_16 (fn_X12_isScript_16  n)
set_option maxRecDepth 100000 in
set_option maxHeartbeats 4000000 in
theorem xn_X12_isScript_16 {l : Launch} {D : va_G} {A : Nat → ClassId} {B : Nat} {Z : State → Heap → Prop} {vF : Value} (uk : uK B Z vF) (un : uX A B Z)   : ∀ (n : Nat) (x1 : Int32) (x2 : Int32) (x3 : Int32) (x4 : Int32)  (s : uS) (r : (uS × Bool)), fn_X12_isScript_16  n x1 x2 x3 x4 s = some r → GU l D A B Z mX12_isScript 113 (r.1, some (.int (bI r.2))) s 16 [(0, .ref (B + 1079)), (1, .int x1), (2, .int x2), (3, .int x3), (4, .int x4)] [] := by
  intro n
  induction n with
  | zero => intro x1 x2 x3 x4 s r h
            cases h
  | succ n ih => intro x1 x2 x3 x4 s r h
                 exact xb_X12_isScript_16 uk un ih  h
def fn_X12_isScript (x1 : Int32) (s : uS) : Option (uS × Bool) := (fn_X12_read s).bind fun r1 => if 0 ≤ r1.2 then (fn_X12_isScript_16 uFu x1 r1.2 1 0 r1.1) else (some (r1.1, true))
set_option maxRecDepth 100000 in
set_option maxHeartbeats 4000000 in
theorem xc_X12_isScript {l : Launch} {D : va_G} {A : Nat → ClassId} {B : Nat} {Z : State → Heap → Prop} {vF : Value} (uk : uK B Z vF) (un : uX A B Z) {x1 : Int32} {s : uS} {r : (uS × Bool)}  (h : fn_X12_isScript x1 s = some r) : CU l D A B Z 113 mX12_isScript s [.ref (B + 1079), .int x1] (r.1, some (.int (bI r.2))) := by
  unfold fn_X12_isScript at h
  refine cu_of rfl uk.1.1 (Nat.le_of_ble_eq_true rfl) ?_
  show GU _ _ _ _ _ _ _ _ _ 0 [(0, .ref (B + 1079)), (1, .int x1)] []
  refine uu_aload_n dX12_isScript_0 rfl (List.mem_of_getElem? (i := 0) rfl) ?_
  obtain ⟨r1, e2, h⟩ := uu_ob h
  refine uu_cv (d1 := 112) (k := 1079) (ci := 12) (T := TX12) (N := 153) (As := []) (st := []) (st' := [.int r1.2]) (xc_X12_read uk un  e2) so_1079.is (by decide) rfl kX12_read lX12_938 sX12_read (by decide) (Nat.le_of_ble_eq_true rfl) dX12_isScript_1 rfl ?_
  refine uu_istore_n dX12_isScript_4 rfl (by decide) rfl ?_
  refine uu_iload_n dX12_isScript_5 rfl (List.mem_of_getElem? (i := 0) rfl) ?_
  refine uu_if_ge (tgt := 11) dX12_isScript_6 (by decide) (fun c3 => ?_) (fun c3 => ?_)
  · replace h := uu_pos c3 h
    refine uu_iconst (v := 1) dX12_isScript_11 (by decide) ?_
    refine uu_istore_n dX12_isScript_12 rfl (by decide) rfl ?_
    refine uu_iconst (v := 0) dX12_isScript_13 (by decide) ?_
    refine uu_istore dX12_isScript_14 (by decide) rfl ?_
    refine uu_lv [3, 4, 2, 1, 0] (lv' := [(0, .ref (B + 1079)), (1, .int x1), (2, .int r1.2), (3, .int 1), (4, .int 0)]) rfl ?_
    exact xn_X12_isScript_16 uk un  _ _ _ _ _ _ _ h
  · replace h := uu_neg c3 h
    refine uu_iconst (v := 1) dX12_isScript_9 (by decide) ?_
    have hr := Option.some.inj h
    subst hr
    exact uu_zret (x := bI true) rfl (bI_z _) dX12_isScript_10
abbrev mX12_putScript : hM := (yX12_putScript, cX12_putScript, 4, (some (.boolean)))
theorem dX12_putScript_120 : decode cX12_putScript 120 = .ok (.aload_n 0, 1) := by decide +kernel
theorem dX12_putScript_121 : decode cX12_putScript 121 = .ok (.iload_n 3, 1) := by decide +kernel
theorem kX12_saveScript : h_ml mX12_saveScript 1 := ⟨h_t11 168 rfl rfl, h_t1 16 rfl rfl, ⟨by decide, by decide, by decide +kernel⟩, by decide⟩
theorem lX12_1367 : Cond.methodLink RX12 1367 mX12_saveScript.1 ∈ lw_g := h_t11 165 rfl rfl
theorem sX12_saveScript : Cond.instanceMethod mX12_saveScript.1 ∈ lw_g ∧ Cond.selects mX12_saveScript.1.cls mX12_saveScript.1 mX12_saveScript.1 ∈ lw_g := ⟨h_t11 167 rfl rfl, h_ins 280 rfl⟩
theorem dX12_putScript_122 : decode cX12_putScript 122 = .ok (.invokevirtual 1367, 3) := by decide +kernel
theorem dX12_putScript_125 : decode cX12_putScript 125 = .ok (.aload_n 0, 1) := by decide +kernel
theorem dX12_putScript_126 : decode cX12_putScript 126 = .ok (.iload_n 1, 1) := by decide +kernel
theorem dX12_putScript_127 : decode cX12_putScript 127 = .ok (.ldc_w 1334, 3) := by decide +kernel
theorem dX12_putScript_130 : decode cX12_putScript 130 = .ok (.invokevirtual 974, 3) := by decide +kernel
theorem dX12_putScript_133 : decode cX12_putScript 133 = .ok (.iconst 1, 1) := by decide +kernel
theorem dX12_putScript_134 : decode cX12_putScript 134 = .ok (.ireturn, 1) := by decide +kernel
theorem dX12_putScript_78 : decode cX12_putScript 78 = .ok (.istore_n 3, 1) := by decide +kernel
theorem dX12_putScript_79 : decode cX12_putScript 79 = .ok (.iload_n 2, 1) := by decide +kernel
theorem dX12_putScript_80 : decode cX12_putScript 80 = .ok (.ifCond .ge 40, 3) := by decide +kernel
theorem dX12_putScript_83 : decode cX12_putScript 83 = .ok (.aload_n 0, 1) := by decide +kernel
theorem dX12_putScript_84 : decode cX12_putScript 84 = .ok (.getfield 1183, 3) := by decide +kernel
theorem dX12_putScript_87 : decode cX12_putScript 87 = .ok (.iconst 4, 1) := by decide +kernel
theorem dX12_putScript_88 : decode cX12_putScript 88 = .ok (.iload_n 1, 1) := by decide +kernel
theorem dX12_putScript_89 : decode cX12_putScript 89 = .ok (.imul, 1) := by decide +kernel
theorem dX12_putScript_90 : decode cX12_putScript 90 = .ok (.aload_n 0, 1) := by decide +kernel
theorem dX12_putScript_91 : decode cX12_putScript 91 = .ok (.getfield 1180, 3) := by decide +kernel
theorem dX12_putScript_94 : decode cX12_putScript 94 = .ok (.iload_n 1, 1) := by decide +kernel
theorem dX12_putScript_95 : decode cX12_putScript 95 = .ok (.iaload, 1) := by decide +kernel
theorem dX12_putScript_96 : decode cX12_putScript 96 = .ok (.iadd, 1) := by decide +kernel
theorem dX12_putScript_97 : decode cX12_putScript 97 = .ok (.iload_n 3, 1) := by decide +kernel
theorem dX12_putScript_98 : decode cX12_putScript 98 = .ok (.iastore, 1) := by decide +kernel
theorem dX12_putScript_99 : decode cX12_putScript 99 = .ok (.aload_n 0, 1) := by decide +kernel
theorem dX12_putScript_100 : decode cX12_putScript 100 = .ok (.getfield 1180, 3) := by decide +kernel
theorem dX12_putScript_103 : decode cX12_putScript 103 = .ok (.iload_n 1, 1) := by decide +kernel
theorem dX12_putScript_104 : decode cX12_putScript 104 = .ok (.aload_n 0, 1) := by decide +kernel
theorem dX12_putScript_105 : decode cX12_putScript 105 = .ok (.getfield 1180, 3) := by decide +kernel
theorem dX12_putScript_108 : decode cX12_putScript 108 = .ok (.iload_n 1, 1) := by decide +kernel
theorem dX12_putScript_109 : decode cX12_putScript 109 = .ok (.iaload, 1) := by decide +kernel
theorem dX12_putScript_110 : decode cX12_putScript 110 = .ok (.iconst 1, 1) := by decide +kernel
theorem dX12_putScript_111 : decode cX12_putScript 111 = .ok (.iadd, 1) := by decide +kernel
theorem dX12_putScript_112 : decode cX12_putScript 112 = .ok (.iastore, 1) := by decide +kernel
theorem dX12_putScript_113 : decode cX12_putScript 113 = .ok (.aload_n 0, 1) := by decide +kernel
theorem dX12_putScript_114 : decode cX12_putScript 114 = .ok (.iload_n 1, 1) := by decide +kernel
theorem dX12_putScript_115 : decode cX12_putScript 115 = .ok (.iload_n 3, 1) := by decide +kernel
theorem dX12_putScript_116 : decode cX12_putScript 116 = .ok (.iconst 0, 1) := by decide +kernel
theorem dX12_putScript_117 : decode cX12_putScript 117 = .ok (.invokevirtual 1364, 3) := by decide +kernel
theorem dX12_putScript_47 : decode cX12_putScript 47 = .ok (.aload_n 0, 1) := by decide +kernel
theorem dX12_putScript_48 : decode cX12_putScript 48 = .ok (.invokevirtual 993, 3) := by decide +kernel
theorem dX12_putScript_51 : decode cX12_putScript 51 = .ok (.ifCond .ne 5, 3) := by decide +kernel
theorem dX12_putScript_56 : decode cX12_putScript 56 = .ok (.iload_n 2, 1) := by decide +kernel
theorem dX12_putScript_57 : decode cX12_putScript 57 = .ok (.ifCond .ge 11, 3) := by decide +kernel
theorem dX12_putScript_68 : decode cX12_putScript 68 = .ok (.aload_n 0, 1) := by decide +kernel
theorem dX12_putScript_69 : decode cX12_putScript 69 = .ok (.getfield 1183, 3) := by decide +kernel
theorem dX12_putScript_72 : decode cX12_putScript 72 = .ok (.iconst 4, 1) := by decide +kernel
theorem dX12_putScript_73 : decode cX12_putScript 73 = .ok (.iload_n 1, 1) := by decide +kernel
theorem dX12_putScript_74 : decode cX12_putScript 74 = .ok (.imul, 1) := by decide +kernel
theorem dX12_putScript_75 : decode cX12_putScript 75 = .ok (.iload_n 2, 1) := by decide +kernel
theorem dX12_putScript_76 : decode cX12_putScript 76 = .ok (.iadd, 1) := by decide +kernel
theorem dX12_putScript_77 : decode cX12_putScript 77 = .ok (.iaload, 1) := by decide +kernel
theorem dX12_putScript_60 : decode cX12_putScript 60 = .ok (.aload_n 0, 1) := by decide +kernel
theorem dX12_putScript_61 : decode cX12_putScript 61 = .ok (.iload_n 1, 1) := by decide +kernel
theorem kX12_freeSlot : h_ml mX12_freeSlot 1 := ⟨h_t11 160 rfl rfl, h_t1 16 rfl rfl, ⟨by decide, by decide, by decide +kernel⟩, by decide⟩
theorem lX12_1361 : Cond.methodLink RX12 1361 mX12_freeSlot.1 ∈ lw_g := h_t11 157 rfl rfl
theorem sX12_freeSlot : Cond.instanceMethod mX12_freeSlot.1 ∈ lw_g ∧ Cond.selects mX12_freeSlot.1.cls mX12_freeSlot.1 mX12_freeSlot.1 ∈ lw_g := ⟨h_t11 159 rfl rfl, h_ins 278 rfl⟩
theorem dX12_putScript_62 : decode cX12_putScript 62 = .ok (.invokevirtual 1361, 3) := by decide +kernel
theorem dX12_putScript_65 : decode cX12_putScript 65 = .ok (.goto 13, 3) := by decide +kernel
theorem dX12_putScript_54 : decode cX12_putScript 54 = .ok (.iconst 0, 1) := by decide +kernel
theorem dX12_putScript_55 : decode cX12_putScript 55 = .ok (.ireturn, 1) := by decide +kernel
theorem dX12_putScript_0 : decode cX12_putScript 0 = .ok (.aload_n 0, 1) := by decide +kernel
theorem dX12_putScript_1 : decode cX12_putScript 1 = .ok (.iload_n 1, 1) := by decide +kernel
theorem dX12_putScript_2 : decode cX12_putScript 2 = .ok (.iconst 1, 1) := by decide +kernel
theorem kX12_source : h_ml mX12_source 2 := ⟨h_t11 142 rfl rfl, h_t1 16 rfl rfl, ⟨by decide, by decide, by decide +kernel⟩, by decide⟩
theorem lX12_1328 : Cond.methodLink RX12 1328 mX12_source.1 ∈ lw_g := h_t11 139 rfl rfl
theorem sX12_source : Cond.instanceMethod mX12_source.1 ∈ lw_g ∧ Cond.selects mX12_source.1.cls mX12_source.1 mX12_source.1 ∈ lw_g := ⟨h_t11 141 rfl rfl, h_ins 274 rfl⟩
theorem dX12_putScript_3 : decode cX12_putScript 3 = .ok (.invokevirtual 1328, 3) := by decide +kernel
theorem dX12_putScript_6 : decode cX12_putScript 6 = .ok (.aload_n 0, 1) := by decide +kernel
theorem dX12_putScript_7 : decode cX12_putScript 7 = .ok (.iload_n 1, 1) := by decide +kernel
theorem kX12_isScript : h_ml mX12_isScript 1 := ⟨h_t11 146 rfl rfl, h_t1 16 rfl rfl, ⟨by decide, by decide, by decide +kernel⟩, by decide⟩
theorem lX12_1331 : Cond.methodLink RX12 1331 mX12_isScript.1 ∈ lw_g := h_t11 143 rfl rfl
theorem sX12_isScript : Cond.instanceMethod mX12_isScript.1 ∈ lw_g ∧ Cond.selects mX12_isScript.1.cls mX12_isScript.1 mX12_isScript.1 ∈ lw_g := ⟨h_t11 145 rfl rfl, h_ins 275 rfl⟩
theorem dX12_putScript_8 : decode cX12_putScript 8 = .ok (.invokevirtual 1331, 3) := by decide +kernel
theorem dX12_putScript_11 : decode cX12_putScript 11 = .ok (.ifCond .ne 5, 3) := by decide +kernel
theorem dX12_putScript_16 : decode cX12_putScript 16 = .ok (.aload_n 0, 1) := by decide +kernel
theorem dX12_putScript_17 : decode cX12_putScript 17 = .ok (.iload_n 1, 1) := by decide +kernel
theorem dX12_putScript_18 : decode cX12_putScript 18 = .ok (.iconst 0, 1) := by decide +kernel
theorem dX12_putScript_19 : decode cX12_putScript 19 = .ok (.invokevirtual 1336, 3) := by decide +kernel
theorem dX12_putScript_22 : decode cX12_putScript 22 = .ok (.istore_n 2, 1) := by decide +kernel
theorem dX12_putScript_23 : decode cX12_putScript 23 = .ok (.iload_n 2, 1) := by decide +kernel
theorem dX12_putScript_24 : decode cX12_putScript 24 = .ok (.ifCond .ge 23, 3) := by decide +kernel
theorem dX12_putScript_27 : decode cX12_putScript 27 = .ok (.aload_n 0, 1) := by decide +kernel
theorem dX12_putScript_28 : decode cX12_putScript 28 = .ok (.getfield 1180, 3) := by decide +kernel
theorem dX12_putScript_31 : decode cX12_putScript 31 = .ok (.iload_n 1, 1) := by decide +kernel
theorem dX12_putScript_32 : decode cX12_putScript 32 = .ok (.iaload, 1) := by decide +kernel
theorem dX12_putScript_33 : decode cX12_putScript 33 = .ok (.iconst 4, 1) := by decide +kernel
theorem dX12_putScript_34 : decode cX12_putScript 34 = .ok (.if_icmp .ne 13, 3) := by decide +kernel
theorem dX12_putScript_37 : decode cX12_putScript 37 = .ok (.aload_n 0, 1) := by decide +kernel
theorem dX12_putScript_38 : decode cX12_putScript 38 = .ok (.iload_n 1, 1) := by decide +kernel
theorem dX12_putScript_39 : decode cX12_putScript 39 = .ok (.ldc_w 1339, 3) := by decide +kernel
theorem dX12_putScript_42 : decode cX12_putScript 42 = .ok (.invokevirtual 1304, 3) := by decide +kernel
theorem dX12_putScript_45 : decode cX12_putScript 45 = .ok (.iconst 1, 1) := by decide +kernel
theorem dX12_putScript_46 : decode cX12_putScript 46 = .ok (.ireturn, 1) := by decide +kernel
theorem dX12_putScript_14 : decode cX12_putScript 14 = .ok (.iconst 1, 1) := by decide +kernel
theorem dX12_putScript_15 : decode cX12_putScript 15 = .ok (.ireturn, 1) := by decide +kernel
def fb_X12_putScript_120  (x1 : Int32) (x3 : Int32) (s : uS) : Option (uS × Bool) := (fn_X12_saveScript x3 s).bind fun s1 => (fn_X12_line x1 kW_204 s1).bind fun s4 => some (s4, true)
set_option maxRecDepth 100000 in
set_option maxHeartbeats 4000000 in
theorem xb_X12_putScript_120 {l : Launch} {D : va_G} {A : Nat → ClassId} {B : Nat} {Z : State → Heap → Prop} {vF : Value} (uk : uK B Z vF) (un : uX A B Z)   {x1 : Int32} {x3 : Int32} {s : uS} {r : (uS × Bool)}  (h : fb_X12_putScript_120  x1 x3 s = some r) : GU l D A B Z mX12_putScript 114 (r.1, some (.int (bI r.2))) s 120 [(0, .ref (B + 1079)), (1, .int x1), (3, .int x3)] [] := by
  unfold fb_X12_putScript_120 at h
  refine uu_aload_n dX12_putScript_120 rfl (List.mem_of_getElem? (i := 0) rfl) ?_
  refine uu_iload_n dX12_putScript_121 rfl (List.mem_of_getElem? (i := 2) rfl) ?_
  obtain ⟨s1, e2, h⟩ := uu_ob h
  refine uu_cv (d1 := 0) (k := 1079) (ci := 12) (T := TX12) (N := 153) (As := [.int x3]) (st := []) (st' := []) (xc_X12_saveScript uk  e2) so_1079.is (by decide) rfl kX12_saveScript lX12_1367 sX12_saveScript (by decide) (Nat.le_of_ble_eq_true rfl) dX12_putScript_122 rfl ?_
  refine uu_aload_n dX12_putScript_125 rfl (List.mem_of_getElem? (i := 0) rfl) ?_
  refine uu_iload_n dX12_putScript_126 rfl (List.mem_of_getElem? (i := 1) rfl) ?_
  obtain ⟨cq3, cp3, cv3, cw3⟩ := uk.2.1 204 _ rfl
  refine uu_ldcwS cv3 dX12_putScript_127 ?_
  obtain ⟨s4, e5, h⟩ := uu_ob h
  refine uu_cv (d1 := 5) (k := 1079) (ci := 12) (T := TX12) (N := 153) (As := [.int x1, .ref cq3]) (st := []) (st' := []) (xc_X12_line uk cw3 e5) so_1079.is (by decide) rfl kX12_line lX12_974 sX12_line (by decide) (Nat.le_of_ble_eq_true rfl) dX12_putScript_130 rfl ?_
  refine uu_iconst (v := 1) dX12_putScript_133 (by decide) ?_
  have hr := Option.some.inj h
  subst hr
  exact uu_zret (x := bI true) rfl (bI_z _) dX12_putScript_134
def fb_X12_putScript_78  (x1 : Int32) (x2 : Int32) (xs0 : Int32) (s : uS) : Option (uS × Bool) := if 0 ≤ x2 then (fb_X12_putScript_120 x1 xs0 s) else ((iget 20 s 1149 x1).bind fun v2 => (iput 20 s 1151 (((4 : Int32) * x1) + v2) xs0).bind fun s4 => (iget 20 s4 1149 x1).bind fun v6 => (iput 20 s4 1149 x1 (v6 + 1)).bind fun s8 => (fn_X12_nameScript x1 xs0 0 s8).bind fun s10 => fb_X12_putScript_120 x1 xs0 s10)
set_option maxRecDepth 100000 in
set_option maxHeartbeats 4000000 in
theorem xb_X12_putScript_78 {l : Launch} {D : va_G} {A : Nat → ClassId} {B : Nat} {Z : State → Heap → Prop} {vF : Value} (uk : uK B Z vF) (un : uX A B Z)   {x1 : Int32} {x2 : Int32} {xs0 : Int32} {s : uS} {r : (uS × Bool)}  (h : fb_X12_putScript_78  x1 x2 xs0 s = some r) : GU l D A B Z mX12_putScript 114 (r.1, some (.int (bI r.2))) s 78 [(0, .ref (B + 1079)), (1, .int x1), (2, .int x2)] [.int xs0] := by
  unfold fb_X12_putScript_78 at h
  refine uu_istore_n dX12_putScript_78 rfl (by decide) rfl ?_
  refine uu_iload_n dX12_putScript_79 rfl (List.mem_of_getElem? (i := 3) rfl) ?_
  refine uu_if_ge (tgt := 120) dX12_putScript_80 (by decide) (fun c1 => ?_) (fun c1 => ?_)
  · replace h := uu_pos c1 h
    refine uu_lv [1, 2, 0] (lv' := [(0, .ref (B + 1079)), (1, .int x1), (3, .int xs0)]) rfl ?_
    exact xb_X12_putScript_120 uk un  h
  · replace h := uu_neg c1 h
    refine uu_aload_n dX12_putScript_83 rfl (List.mem_of_getElem? (i := 1) rfl) ?_
    refine uu_geta (ci := 12) (N := 153) fX12_1183 (by decide) so_1079.is (by decide) (c := 1151) (by decide) dX12_putScript_84 ?_
    refine uu_iconst (v := 4) dX12_putScript_87 (by decide) ?_
    refine uu_iload_n dX12_putScript_88 rfl (List.mem_of_getElem? (i := 2) rfl) ?_
    refine uu_imul dX12_putScript_89 ?_
    refine uu_aload_n dX12_putScript_90 rfl (List.mem_of_getElem? (i := 1) rfl) ?_
    refine uu_geta (ci := 12) (N := 153) fX12_1180 (by decide) so_1079.is (by decide) (c := 1149) (by decide) dX12_putScript_91 ?_
    refine uu_iload_n dX12_putScript_94 rfl (List.mem_of_getElem? (i := 2) rfl) ?_
    obtain ⟨v2, e3, h⟩ := uu_ob h
    refine uu_iald e3 dX12_putScript_95 ?_
    refine uu_iadd dX12_putScript_96 ?_
    refine uu_iload_n dX12_putScript_97 rfl (List.mem_of_getElem? (i := 0) rfl) ?_
    obtain ⟨s4, e5, h⟩ := uu_ob h
    refine uu_iast e5 dX12_putScript_98 ?_
    refine uu_aload_n dX12_putScript_99 rfl (List.mem_of_getElem? (i := 1) rfl) ?_
    refine uu_geta (ci := 12) (N := 153) fX12_1180 (by decide) so_1079.is (by decide) (c := 1149) (by decide) dX12_putScript_100 ?_
    refine uu_iload_n dX12_putScript_103 rfl (List.mem_of_getElem? (i := 2) rfl) ?_
    refine uu_aload_n dX12_putScript_104 rfl (List.mem_of_getElem? (i := 1) rfl) ?_
    refine uu_geta (ci := 12) (N := 153) fX12_1180 (by decide) so_1079.is (by decide) (c := 1149) (by decide) dX12_putScript_105 ?_
    refine uu_iload_n dX12_putScript_108 rfl (List.mem_of_getElem? (i := 2) rfl) ?_
    obtain ⟨v6, e7, h⟩ := uu_ob h
    refine uu_iald e7 dX12_putScript_109 ?_
    refine uu_iconst (v := 1) dX12_putScript_110 (by decide) ?_
    refine uu_iadd dX12_putScript_111 ?_
    obtain ⟨s8, e9, h⟩ := uu_ob h
    refine uu_iast e9 dX12_putScript_112 ?_
    refine uu_aload_n dX12_putScript_113 rfl (List.mem_of_getElem? (i := 1) rfl) ?_
    refine uu_iload_n dX12_putScript_114 rfl (List.mem_of_getElem? (i := 2) rfl) ?_
    refine uu_iload_n dX12_putScript_115 rfl (List.mem_of_getElem? (i := 0) rfl) ?_
    refine uu_iconst (v := 0) dX12_putScript_116 (by decide) ?_
    obtain ⟨s10, e11, h⟩ := uu_ob h
    refine uu_cv (d1 := 1) (k := 1079) (ci := 12) (T := TX12) (N := 153) (As := [.int x1, .int xs0, .int 0]) (st := []) (st' := []) (xc_X12_nameScript uk  e11) so_1079.is (by decide) rfl kX12_nameScript lX12_1364 sX12_nameScript (by decide) (Nat.le_of_ble_eq_true rfl) dX12_putScript_117 rfl ?_
    refine uu_lv [1, 2, 0] (lv' := [(0, .ref (B + 1079)), (1, .int x1), (3, .int xs0)]) rfl ?_
    exact xb_X12_putScript_120 uk un  h
def fb_X12_putScript_47  (x1 : Int32) (x2 : Int32) (s : uS) : Option (uS × Bool) := (fn_X12_commit s).bind fun r1 => if r1.2 = true then (if 0 ≤ x2 then ((iget 20 r1.1 1151 (((4 : Int32) * x1) + x2)).bind fun v5 => fb_X12_putScript_78 x1 x2 v5 r1.1) else ((fn_X12_freeSlot x1 r1.1).bind fun v7 => fb_X12_putScript_78 x1 x2 v7 r1.1)) else (some (r1.1, false))
set_option maxRecDepth 100000 in
set_option maxHeartbeats 4000000 in
theorem xb_X12_putScript_47 {l : Launch} {D : va_G} {A : Nat → ClassId} {B : Nat} {Z : State → Heap → Prop} {vF : Value} (uk : uK B Z vF) (un : uX A B Z)   {x1 : Int32} {x2 : Int32} {s : uS} {r : (uS × Bool)}  (h : fb_X12_putScript_47  x1 x2 s = some r) : GU l D A B Z mX12_putScript 114 (r.1, some (.int (bI r.2))) s 47 [(0, .ref (B + 1079)), (1, .int x1), (2, .int x2)] [] := by
  unfold fb_X12_putScript_47 at h
  refine uu_aload_n dX12_putScript_47 rfl (List.mem_of_getElem? (i := 0) rfl) ?_
  obtain ⟨r1, e2, h⟩ := uu_ob h
  refine uu_cv (d1 := 1) (k := 1079) (ci := 12) (T := TX12) (N := 153) (As := []) (st := []) (st' := [.int (bI r1.2)]) (xc_X12_commit uk  e2) so_1079.is (by decide) rfl kX12_commit lX12_993 sX12_commit (by decide) (Nat.le_of_ble_eq_true rfl) dX12_putScript_48 rfl ?_
  refine uu_ifb_ne (tgt := 56) dX12_putScript_51 (by decide) (fun c3 => ?_) (fun c3 => ?_)
  · replace h := uu_pos c3 h
    refine uu_iload_n dX12_putScript_56 rfl (List.mem_of_getElem? (i := 2) rfl) ?_
    refine uu_if_ge (tgt := 68) dX12_putScript_57 (by decide) (fun c4 => ?_) (fun c4 => ?_)
    · replace h := uu_pos c4 h
      refine uu_aload_n dX12_putScript_68 rfl (List.mem_of_getElem? (i := 0) rfl) ?_
      refine uu_geta (ci := 12) (N := 153) fX12_1183 (by decide) so_1079.is (by decide) (c := 1151) (by decide) dX12_putScript_69 ?_
      refine uu_iconst (v := 4) dX12_putScript_72 (by decide) ?_
      refine uu_iload_n dX12_putScript_73 rfl (List.mem_of_getElem? (i := 1) rfl) ?_
      refine uu_imul dX12_putScript_74 ?_
      refine uu_iload_n dX12_putScript_75 rfl (List.mem_of_getElem? (i := 2) rfl) ?_
      refine uu_iadd dX12_putScript_76 ?_
      obtain ⟨v5, e6, h⟩ := uu_ob h
      refine uu_iald e6 dX12_putScript_77 ?_
      exact xb_X12_putScript_78 uk un  h
    · replace h := uu_neg c4 h
      refine uu_aload_n dX12_putScript_60 rfl (List.mem_of_getElem? (i := 0) rfl) ?_
      refine uu_iload_n dX12_putScript_61 rfl (List.mem_of_getElem? (i := 1) rfl) ?_
      obtain ⟨v7, e8, h⟩ := uu_ob h
      refine uu_cv (d1 := 0) (k := 1079) (ci := 12) (T := TX12) (N := 153) (As := [.int x1]) (st := []) (st' := [.int v7]) (xc_X12_freeSlot uk  e8) so_1079.is (by decide) rfl kX12_freeSlot lX12_1361 sX12_freeSlot (by decide) (Nat.le_of_ble_eq_true rfl) dX12_putScript_62 rfl ?_
      refine uu_goto (tgt := 78) dX12_putScript_65 (by decide) ?_
      exact xb_X12_putScript_78 uk un  h
  · replace h := uu_neg c3 h
    refine uu_iconst (v := 0) dX12_putScript_54 (by decide) ?_
    have hr := Option.some.inj h
    subst hr
    exact uu_zret (x := bI false) rfl (bI_z _) dX12_putScript_55
def fn_X12_putScript (x1 : Int32) (s : uS) : Option (uS × Bool) := (fn_X12_source x1 1 s).bind fun s1 => (fn_X12_isScript x1 s1).bind fun r3 => if r3.2 = true then ((fn_X12_scriptOf x1 0 r3.1).bind fun v6 => if 0 ≤ v6 then (fb_X12_putScript_47 x1 v6 r3.1) else ((iget 20 r3.1 1149 x1).bind fun v9 => if v9 = 4 then ((fn_X12_no x1 kW_205 r3.1).bind fun s13 => some (s13, true)) else (fb_X12_putScript_47 x1 v6 r3.1))) else (some (r3.1, true))
set_option maxRecDepth 100000 in
set_option maxHeartbeats 4000000 in
theorem xc_X12_putScript {l : Launch} {D : va_G} {A : Nat → ClassId} {B : Nat} {Z : State → Heap → Prop} {vF : Value} (uk : uK B Z vF) (un : uX A B Z) {x1 : Int32} {s : uS} {r : (uS × Bool)}  (h : fn_X12_putScript x1 s = some r) : CU l D A B Z 114 mX12_putScript s [.ref (B + 1079), .int x1] (r.1, some (.int (bI r.2))) := by
  unfold fn_X12_putScript at h
  refine cu_of rfl uk.1.1 (Nat.le_of_ble_eq_true rfl) ?_
  show GU _ _ _ _ _ _ _ _ _ 0 [(0, .ref (B + 1079)), (1, .int x1)] []
  refine uu_aload_n dX12_putScript_0 rfl (List.mem_of_getElem? (i := 0) rfl) ?_
  refine uu_iload_n dX12_putScript_1 rfl (List.mem_of_getElem? (i := 1) rfl) ?_
  refine uu_iconst (v := 1) dX12_putScript_2 (by decide) ?_
  obtain ⟨s1, e2, h⟩ := uu_ob h
  refine uu_cv (d1 := 1) (k := 1079) (ci := 12) (T := TX12) (N := 153) (As := [.int x1, .int 1]) (st := []) (st' := []) (xc_X12_source uk  e2) so_1079.is (by decide) rfl kX12_source lX12_1328 sX12_source (by decide) (Nat.le_of_ble_eq_true rfl) dX12_putScript_3 rfl ?_
  refine uu_aload_n dX12_putScript_6 rfl (List.mem_of_getElem? (i := 0) rfl) ?_
  refine uu_iload_n dX12_putScript_7 rfl (List.mem_of_getElem? (i := 1) rfl) ?_
  obtain ⟨r3, e4, h⟩ := uu_ob h
  refine uu_cv (d1 := 113) (k := 1079) (ci := 12) (T := TX12) (N := 153) (As := [.int x1]) (st := []) (st' := [.int (bI r3.2)]) (xc_X12_isScript uk un  e4) so_1079.is (by decide) rfl kX12_isScript lX12_1331 sX12_isScript (by decide) (Nat.le_of_ble_eq_true rfl) dX12_putScript_8 rfl ?_
  refine uu_ifb_ne (tgt := 16) dX12_putScript_11 (by decide) (fun c5 => ?_) (fun c5 => ?_)
  · replace h := uu_pos c5 h
    refine uu_aload_n dX12_putScript_16 rfl (List.mem_of_getElem? (i := 0) rfl) ?_
    refine uu_iload_n dX12_putScript_17 rfl (List.mem_of_getElem? (i := 1) rfl) ?_
    refine uu_iconst (v := 0) dX12_putScript_18 (by decide) ?_
    obtain ⟨v6, e7, h⟩ := uu_ob h
    refine uu_cv (d1 := 1) (k := 1079) (ci := 12) (T := TX12) (N := 153) (As := [.int x1, .int 0]) (st := []) (st' := [.int v6]) (xc_X12_scriptOf uk  e7) so_1079.is (by decide) rfl kX12_scriptOf lX12_1336 sX12_scriptOf (by decide) (Nat.le_of_ble_eq_true rfl) dX12_putScript_19 rfl ?_
    refine uu_istore_n dX12_putScript_22 rfl (by decide) rfl ?_
    refine uu_iload_n dX12_putScript_23 rfl (List.mem_of_getElem? (i := 0) rfl) ?_
    refine uu_if_ge (tgt := 47) dX12_putScript_24 (by decide) (fun c8 => ?_) (fun c8 => ?_)
    · replace h := uu_pos c8 h
      refine uu_lv [1, 2, 0] (lv' := [(0, .ref (B + 1079)), (1, .int x1), (2, .int v6)]) rfl ?_
      exact xb_X12_putScript_47 uk un  h
    · replace h := uu_neg c8 h
      refine uu_aload_n dX12_putScript_27 rfl (List.mem_of_getElem? (i := 1) rfl) ?_
      refine uu_geta (ci := 12) (N := 153) fX12_1180 (by decide) so_1079.is (by decide) (c := 1149) (by decide) dX12_putScript_28 ?_
      refine uu_iload_n dX12_putScript_31 rfl (List.mem_of_getElem? (i := 2) rfl) ?_
      obtain ⟨v9, e10, h⟩ := uu_ob h
      refine uu_iald e10 dX12_putScript_32 ?_
      refine uu_iconst (v := 4) dX12_putScript_33 (by decide) ?_
      refine uu_icmp_ne (tgt := 47) dX12_putScript_34 (by decide) (fun c11 => ?_) (fun c11 => ?_)
      · replace h := uu_neg c11 h
        refine uu_lv [1, 2, 0] (lv' := [(0, .ref (B + 1079)), (1, .int x1), (2, .int v6)]) rfl ?_
        exact xb_X12_putScript_47 uk un  h
      · replace h := uu_pos c11 h
        refine uu_aload_n dX12_putScript_37 rfl (List.mem_of_getElem? (i := 1) rfl) ?_
        refine uu_iload_n dX12_putScript_38 rfl (List.mem_of_getElem? (i := 2) rfl) ?_
        obtain ⟨cq12, cp12, cv12, cw12⟩ := uk.2.1 205 _ rfl
        refine uu_ldcwS cv12 dX12_putScript_39 ?_
        obtain ⟨s13, e14, h⟩ := uu_ob h
        refine uu_cv (d1 := 6) (k := 1079) (ci := 12) (T := TX12) (N := 153) (As := [.int x1, .ref cq12]) (st := []) (st' := []) (xc_X12_no uk cw12 e14) so_1079.is (by decide) rfl kX12_no lX12_1304 sX12_no (by decide) (Nat.le_of_ble_eq_true rfl) dX12_putScript_42 rfl ?_
        refine uu_iconst (v := 1) dX12_putScript_45 (by decide) ?_
        have hr := Option.some.inj h
        subst hr
        exact uu_zret (x := bI true) rfl (bI_z _) dX12_putScript_46
  · replace h := uu_neg c5 h
    refine uu_iconst (v := 1) dX12_putScript_14 (by decide) ?_
    have hr := Option.some.inj h
    subst hr
    exact uu_zret (x := bI true) rfl (bI_z _) dX12_putScript_15
