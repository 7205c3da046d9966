abbrev mX12_how : hM := (yX12_how, cX12_how, 6, none)
theorem dX12_how_275 : decode cX12_how 275 = .ok (.iload 4, 2) := by decide +kernel
theorem dX12_how_277 : decode cX12_how 277 = .ok (.ifCond .eq 8, 3) := by decide +kernel
theorem dX12_how_285 : decode cX12_how 285 = .ok (.goto (-285), 3) := by decide +kernel
theorem dX12_how_280 : decode cX12_how 280 = .ok (.aload_n 0, 1) := by decide +kernel
theorem dX12_how_281 : decode cX12_how 281 = .ok (.iload_n 1, 1) := by decide +kernel
theorem kX12_compared : h_ml mX12_compared 1 := ⟨h_t8 237 rfl rfl, h_t1 16 rfl rfl, ⟨by decide, by decide, by decide +kernel⟩, by decide⟩
theorem lX12_531 : Cond.methodLink RX12 531 mX12_compared.1 ∈ lw_g := h_t8 234 rfl rfl
theorem sX12_compared : Cond.instanceMethod mX12_compared.1 ∈ lw_g ∧ Cond.selects mX12_compared.1.cls mX12_compared.1 mX12_compared.1 ∈ lw_g := ⟨h_t8 236 rfl rfl, h_ins 149 rfl⟩
theorem dX12_how_282 : decode cX12_how 282 = .ok (.invokevirtual 531, 3) := by decide +kernel
theorem dX12_how_265 : decode cX12_how 265 = .ok (.iload_n 2, 1) := by decide +kernel
theorem dX12_how_266 : decode cX12_how 266 = .ok (.iconst 2, 1) := by decide +kernel
theorem dX12_how_267 : decode cX12_how 267 = .ok (.if_icmp .le 8, 3) := by decide +kernel
theorem dX12_how_270 : decode cX12_how 270 = .ok (.aload_n 0, 1) := by decide +kernel
theorem dX12_how_271 : decode cX12_how 271 = .ok (.iload_n 1, 1) := by decide +kernel
theorem kX12_relation : h_ml mX12_relation 1 := ⟨h_t8 227 rfl rfl, h_t1 16 rfl rfl, ⟨by decide, by decide, by decide +kernel⟩, by decide⟩
theorem lX12_528 : Cond.methodLink RX12 528 mX12_relation.1 ∈ lw_g := h_t8 224 rfl rfl
theorem sX12_relation : Cond.instanceMethod mX12_relation.1 ∈ lw_g ∧ Cond.selects mX12_relation.1.cls mX12_relation.1 mX12_relation.1 ∈ lw_g := ⟨h_t8 226 rfl rfl, h_ins 148 rfl⟩
theorem dX12_how_272 : decode cX12_how 272 = .ok (.invokevirtual 528, 3) := by decide +kernel
theorem dX12_how_254 : decode cX12_how 254 = .ok (.iload_n 3, 1) := by decide +kernel
theorem dX12_how_255 : decode cX12_how 255 = .ok (.ifCond .lt 10, 3) := by decide +kernel
theorem dX12_how_258 : decode cX12_how 258 = .ok (.aload_n 0, 1) := by decide +kernel
theorem dX12_how_259 : decode cX12_how 259 = .ok (.getfield 319, 3) := by decide +kernel
theorem dX12_how_262 : decode cX12_how 262 = .ok (.iload_n 1, 1) := by decide +kernel
theorem dX12_how_263 : decode cX12_how 263 = .ok (.iload_n 3, 1) := by decide +kernel
theorem dX12_how_264 : decode cX12_how 264 = .ok (.iastore, 1) := by decide +kernel
theorem dX12_how_239 : decode cX12_how 239 = .ok (.aload_n 0, 1) := by decide +kernel
theorem dX12_how_240 : decode cX12_how 240 = .ok (.invokevirtual 279, 3) := by decide +kernel
theorem dX12_how_243 : decode cX12_how 243 = .ok (.iload_n 2, 1) := by decide +kernel
theorem dX12_how_244 : decode cX12_how 244 = .ok (.ifCond .lt 10, 3) := by decide +kernel
theorem dX12_how_247 : decode cX12_how 247 = .ok (.aload_n 0, 1) := by decide +kernel
theorem dX12_how_248 : decode cX12_how 248 = .ok (.getfield 310, 3) := by decide +kernel
theorem dX12_how_251 : decode cX12_how 251 = .ok (.iload_n 1, 1) := by decide +kernel
theorem dX12_how_252 : decode cX12_how 252 = .ok (.iload_n 2, 1) := by decide +kernel
theorem dX12_how_253 : decode cX12_how 253 = .ok (.iastore, 1) := by decide +kernel
theorem dX12_how_228 : decode cX12_how 228 = .ok (.iload_n 2, 1) := by decide +kernel
theorem dX12_how_229 : decode cX12_how 229 = .ok (.iconst 2, 1) := by decide +kernel
theorem dX12_how_230 : decode cX12_how 230 = .ok (.if_icmp .le 9, 3) := by decide +kernel
theorem dX12_how_233 : decode cX12_how 233 = .ok (.aload_n 0, 1) := by decide +kernel
theorem dX12_how_234 : decode cX12_how 234 = .ok (.bipush 32, 2) := by decide +kernel
theorem dX12_how_236 : decode cX12_how 236 = .ok (.invokevirtual 431, 3) := by decide +kernel
theorem dX12_how_213 : decode cX12_how 213 = .ok (.istore 5, 2) := by decide +kernel
theorem dX12_how_215 : decode cX12_how 215 = .ok (.iload 5, 2) := by decide +kernel
theorem dX12_how_217 : decode cX12_how 217 = .ok (.ifCond .eq 11, 3) := by decide +kernel
theorem dX12_how_220 : decode cX12_how 220 = .ok (.aload_n 0, 1) := by decide +kernel
theorem dX12_how_221 : decode cX12_how 221 = .ok (.aload_n 0, 1) := by decide +kernel
theorem dX12_how_222 : decode cX12_how 222 = .ok (.getfield 199, 3) := by decide +kernel
theorem dX12_how_225 : decode cX12_how 225 = .ok (.invokevirtual 208, 3) := by decide +kernel
theorem dX12_how_173 : decode cX12_how 173 = .ok (.iload_n 3, 1) := by decide +kernel
theorem dX12_how_174 : decode cX12_how 174 = .ok (.ifCond .lt 38, 3) := by decide +kernel
theorem dX12_how_212 : decode cX12_how 212 = .ok (.iconst 0, 1) := by decide +kernel
theorem dX12_how_177 : decode cX12_how 177 = .ok (.aload_n 0, 1) := by decide +kernel
theorem dX12_how_178 : decode cX12_how 178 = .ok (.getfield 319, 3) := by decide +kernel
theorem dX12_how_181 : decode cX12_how 181 = .ok (.iload_n 1, 1) := by decide +kernel
theorem dX12_how_182 : decode cX12_how 182 = .ok (.iaload, 1) := by decide +kernel
theorem dX12_how_183 : decode cX12_how 183 = .ok (.ifCond .ge 25, 3) := by decide +kernel
theorem dX12_how_208 : decode cX12_how 208 = .ok (.iconst 1, 1) := by decide +kernel
theorem dX12_how_209 : decode cX12_how 209 = .ok (.goto 4, 3) := by decide +kernel
theorem dX12_how_186 : decode cX12_how 186 = .ok (.aload_n 0, 1) := by decide +kernel
theorem dX12_how_187 : decode cX12_how 187 = .ok (.getfield 285, 3) := by decide +kernel
theorem dX12_how_190 : decode cX12_how 190 = .ok (.iload_n 1, 1) := by decide +kernel
theorem dX12_how_191 : decode cX12_how 191 = .ok (.iaload, 1) := by decide +kernel
theorem dX12_how_192 : decode cX12_how 192 = .ok (.bipush 20, 2) := by decide +kernel
theorem dX12_how_194 : decode cX12_how 194 = .ok (.if_icmp .eq 14, 3) := by decide +kernel
theorem dX12_how_197 : decode cX12_how 197 = .ok (.aload_n 0, 1) := by decide +kernel
theorem dX12_how_198 : decode cX12_how 198 = .ok (.getfield 285, 3) := by decide +kernel
theorem dX12_how_201 : decode cX12_how 201 = .ok (.iload_n 1, 1) := by decide +kernel
theorem dX12_how_202 : decode cX12_how 202 = .ok (.iaload, 1) := by decide +kernel
theorem dX12_how_203 : decode cX12_how 203 = .ok (.bipush 23, 2) := by decide +kernel
theorem dX12_how_205 : decode cX12_how 205 = .ok (.if_icmp .ne 7, 3) := by decide +kernel
theorem dX12_how_159 : decode cX12_how 159 = .ok (.iload 4, 2) := by decide +kernel
theorem dX12_how_161 : decode cX12_how 161 = .ok (.ifCond .eq 12, 3) := by decide +kernel
theorem dX12_how_164 : decode cX12_how 164 = .ok (.aload_n 0, 1) := by decide +kernel
theorem dX12_how_165 : decode cX12_how 165 = .ok (.getfield 316, 3) := by decide +kernel
theorem dX12_how_168 : decode cX12_how 168 = .ok (.iload_n 1, 1) := by decide +kernel
theorem dX12_how_169 : decode cX12_how 169 = .ok (.iaload, 1) := by decide +kernel
theorem dX12_how_170 : decode cX12_how 170 = .ok (.ifCond .ge 38, 3) := by decide +kernel
theorem dX12_how_146 : decode cX12_how 146 = .ok (.iload_n 2, 1) := by decide +kernel
theorem dX12_how_147 : decode cX12_how 147 = .ok (.ifCond .lt 12, 3) := by decide +kernel
theorem dX12_how_150 : decode cX12_how 150 = .ok (.aload_n 0, 1) := by decide +kernel
theorem dX12_how_151 : decode cX12_how 151 = .ok (.getfield 310, 3) := by decide +kernel
theorem dX12_how_154 : decode cX12_how 154 = .ok (.iload_n 1, 1) := by decide +kernel
theorem dX12_how_155 : decode cX12_how 155 = .ok (.iaload, 1) := by decide +kernel
theorem dX12_how_156 : decode cX12_how 156 = .ok (.ifCond .ge 52, 3) := by decide +kernel
theorem dX12_how_123 : decode cX12_how 123 = .ok (.istore_n 3, 1) := by decide +kernel
theorem dX12_how_124 : decode cX12_how 124 = .ok (.aload_n 0, 1) := by decide +kernel
theorem dX12_how_125 : decode cX12_how 125 = .ok (.ldc_w 526, 3) := by decide +kernel
theorem dX12_how_128 : decode cX12_how 128 = .ok (.invokevirtual 235, 3) := by decide +kernel
theorem dX12_how_131 : decode cX12_how 131 = .ok (.istore 4, 2) := by decide +kernel
theorem dX12_how_133 : decode cX12_how 133 = .ok (.iload_n 2, 1) := by decide +kernel
theorem dX12_how_134 : decode cX12_how 134 = .ok (.ifCond .ge 12, 3) := by decide +kernel
theorem dX12_how_137 : decode cX12_how 137 = .ok (.iload_n 3, 1) := by decide +kernel
theorem dX12_how_138 : decode cX12_how 138 = .ok (.ifCond .ge 8, 3) := by decide +kernel
theorem dX12_how_141 : decode cX12_how 141 = .ok (.iload 4, 2) := by decide +kernel
theorem dX12_how_143 : decode cX12_how 143 = .ok (.ifCond .eq 65, 3) := by decide +kernel
theorem dX12_how_79 : decode cX12_how 79 = .ok (.istore_n 2, 1) := by decide +kernel
theorem dX12_how_80 : decode cX12_how 80 = .ok (.aload_n 0, 1) := by decide +kernel
theorem dX12_how_81 : decode cX12_how 81 = .ok (.ldc_w 520, 3) := by decide +kernel
theorem dX12_how_84 : decode cX12_how 84 = .ok (.invokevirtual 235, 3) := by decide +kernel
theorem dX12_how_87 : decode cX12_how 87 = .ok (.ifCond .eq 7, 3) := by decide +kernel
theorem dX12_how_94 : decode cX12_how 94 = .ok (.aload_n 0, 1) := by decide +kernel
theorem dX12_how_95 : decode cX12_how 95 = .ok (.ldc_w 522, 3) := by decide +kernel
theorem dX12_how_98 : decode cX12_how 98 = .ok (.invokevirtual 235, 3) := by decide +kernel
theorem dX12_how_101 : decode cX12_how 101 = .ok (.ifCond .eq 7, 3) := by decide +kernel
theorem dX12_how_108 : decode cX12_how 108 = .ok (.aload_n 0, 1) := by decide +kernel
theorem dX12_how_109 : decode cX12_how 109 = .ok (.ldc_w 524, 3) := by decide +kernel
theorem dX12_how_112 : decode cX12_how 112 = .ok (.invokevirtual 235, 3) := by decide +kernel
theorem dX12_how_115 : decode cX12_how 115 = .ok (.ifCond .eq 7, 3) := by decide +kernel
theorem dX12_how_122 : decode cX12_how 122 = .ok (.iconst (-1), 1) := by decide +kernel
theorem dX12_how_118 : decode cX12_how 118 = .ok (.iconst 2, 1) := by decide +kernel
theorem dX12_how_119 : decode cX12_how 119 = .ok (.goto 4, 3) := by decide +kernel
theorem dX12_how_104 : decode cX12_how 104 = .ok (.iconst 1, 1) := by decide +kernel
theorem dX12_how_105 : decode cX12_how 105 = .ok (.goto 18, 3) := by decide +kernel
theorem dX12_how_90 : decode cX12_how 90 = .ok (.iconst 0, 1) := by decide +kernel
theorem dX12_how_91 : decode cX12_how 91 = .ok (.goto 32, 3) := by decide +kernel
theorem dX12_how_337 : decode cX12_how 337 = .ok (.iastore, 1) := by decide +kernel
theorem dX12_how_338 : decode cX12_how 338 = .ok (.aload_n 0, 1) := by decide +kernel
theorem dX12_how_339 : decode cX12_how 339 = .ok (.getfield 319, 3) := by decide +kernel
theorem dX12_how_342 : decode cX12_how 342 = .ok (.iload_n 1, 1) := by decide +kernel
theorem dX12_how_343 : decode cX12_how 343 = .ok (.aload_n 0, 1) := by decide +kernel
theorem dX12_how_344 : decode cX12_how 344 = .ok (.getfield 319, 3) := by decide +kernel
theorem dX12_how_347 : decode cX12_how 347 = .ok (.iload_n 1, 1) := by decide +kernel
theorem dX12_how_348 : decode cX12_how 348 = .ok (.iaload, 1) := by decide +kernel
theorem dX12_how_349 : decode cX12_how 349 = .ok (.ifCond .ge 7, 3) := by decide +kernel
theorem dX12_how_356 : decode cX12_how 356 = .ok (.aload_n 0, 1) := by decide +kernel
theorem dX12_how_357 : decode cX12_how 357 = .ok (.getfield 319, 3) := by decide +kernel
theorem dX12_how_360 : decode cX12_how 360 = .ok (.iload_n 1, 1) := by decide +kernel
theorem dX12_how_361 : decode cX12_how 361 = .ok (.iaload, 1) := by decide +kernel
theorem dX12_how_362 : decode cX12_how 362 = .ok (.iastore, 1) := by decide +kernel
theorem dX12_how_363 : decode cX12_how 363 = .ok (.return_, 1) := by decide +kernel
theorem dX12_how_352 : decode cX12_how 352 = .ok (.iconst 0, 1) := by decide +kernel
theorem dX12_how_353 : decode cX12_how 353 = .ok (.goto 9, 3) := by decide +kernel
theorem dX12_how_312 : decode cX12_how 312 = .ok (.iastore, 1) := by decide +kernel
theorem dX12_how_313 : decode cX12_how 313 = .ok (.aload_n 0, 1) := by decide +kernel
theorem dX12_how_314 : decode cX12_how 314 = .ok (.getfield 316, 3) := by decide +kernel
theorem dX12_how_317 : decode cX12_how 317 = .ok (.iload_n 1, 1) := by decide +kernel
theorem dX12_how_318 : decode cX12_how 318 = .ok (.aload_n 0, 1) := by decide +kernel
theorem dX12_how_319 : decode cX12_how 319 = .ok (.getfield 316, 3) := by decide +kernel
theorem dX12_how_322 : decode cX12_how 322 = .ok (.iload_n 1, 1) := by decide +kernel
theorem dX12_how_323 : decode cX12_how 323 = .ok (.iaload, 1) := by decide +kernel
theorem dX12_how_324 : decode cX12_how 324 = .ok (.ifCond .ge 7, 3) := by decide +kernel
theorem dX12_how_331 : decode cX12_how 331 = .ok (.aload_n 0, 1) := by decide +kernel
theorem dX12_how_332 : decode cX12_how 332 = .ok (.getfield 316, 3) := by decide +kernel
theorem dX12_how_335 : decode cX12_how 335 = .ok (.iload_n 1, 1) := by decide +kernel
theorem dX12_how_336 : decode cX12_how 336 = .ok (.iaload, 1) := by decide +kernel
theorem dX12_how_327 : decode cX12_how 327 = .ok (.iconst 1, 1) := by decide +kernel
theorem dX12_how_328 : decode cX12_how 328 = .ok (.goto 9, 3) := by decide +kernel
theorem dX12_how_0 : decode cX12_how 0 = .ok (.aload_n 0, 1) := by decide +kernel
theorem dX12_how_1 : decode cX12_how 1 = .ok (.iconst 2, 1) := by decide +kernel
theorem dX12_how_2 : decode cX12_how 2 = .ok (.invokevirtual 273, 3) := by decide +kernel
theorem dX12_how_5 : decode cX12_how 5 = .ok (.ifCond .eq 283, 3) := by decide +kernel
theorem dX12_how_288 : decode cX12_how 288 = .ok (.aload_n 0, 1) := by decide +kernel
theorem dX12_how_289 : decode cX12_how 289 = .ok (.getfield 310, 3) := by decide +kernel
theorem dX12_how_292 : decode cX12_how 292 = .ok (.iload_n 1, 1) := by decide +kernel
theorem dX12_how_293 : decode cX12_how 293 = .ok (.aload_n 0, 1) := by decide +kernel
theorem dX12_how_294 : decode cX12_how 294 = .ok (.getfield 310, 3) := by decide +kernel
theorem dX12_how_297 : decode cX12_how 297 = .ok (.iload_n 1, 1) := by decide +kernel
theorem dX12_how_298 : decode cX12_how 298 = .ok (.iaload, 1) := by decide +kernel
theorem dX12_how_299 : decode cX12_how 299 = .ok (.ifCond .ge 7, 3) := by decide +kernel
theorem dX12_how_306 : decode cX12_how 306 = .ok (.aload_n 0, 1) := by decide +kernel
theorem dX12_how_307 : decode cX12_how 307 = .ok (.getfield 310, 3) := by decide +kernel
theorem dX12_how_310 : decode cX12_how 310 = .ok (.iload_n 1, 1) := by decide +kernel
theorem dX12_how_311 : decode cX12_how 311 = .ok (.iaload, 1) := by decide +kernel
theorem dX12_how_302 : decode cX12_how 302 = .ok (.iconst 0, 1) := by decide +kernel
theorem dX12_how_303 : decode cX12_how 303 = .ok (.goto 9, 3) := by decide +kernel
theorem dX12_how_8 : decode cX12_how 8 = .ok (.aload_n 0, 1) := by decide +kernel
theorem dX12_how_9 : decode cX12_how 9 = .ok (.ldc_w 512, 3) := by decide +kernel
theorem dX12_how_12 : decode cX12_how 12 = .ok (.invokevirtual 235, 3) := by decide +kernel
theorem dX12_how_15 : decode cX12_how 15 = .ok (.ifCond .eq 7, 3) := by decide +kernel
theorem dX12_how_22 : decode cX12_how 22 = .ok (.aload_n 0, 1) := by decide +kernel
theorem dX12_how_23 : decode cX12_how 23 = .ok (.ldc_w 513, 3) := by decide +kernel
theorem dX12_how_26 : decode cX12_how 26 = .ok (.invokevirtual 235, 3) := by decide +kernel
theorem dX12_how_29 : decode cX12_how 29 = .ok (.ifCond .eq 7, 3) := by decide +kernel
theorem dX12_how_36 : decode cX12_how 36 = .ok (.aload_n 0, 1) := by decide +kernel
theorem dX12_how_37 : decode cX12_how 37 = .ok (.ldc_w 515, 3) := by decide +kernel
theorem dX12_how_40 : decode cX12_how 40 = .ok (.invokevirtual 235, 3) := by decide +kernel
theorem dX12_how_43 : decode cX12_how 43 = .ok (.ifCond .eq 7, 3) := by decide +kernel
theorem dX12_how_50 : decode cX12_how 50 = .ok (.aload_n 0, 1) := by decide +kernel
theorem dX12_how_51 : decode cX12_how 51 = .ok (.ldc_w 516, 3) := by decide +kernel
theorem dX12_how_54 : decode cX12_how 54 = .ok (.invokevirtual 235, 3) := by decide +kernel
theorem dX12_how_57 : decode cX12_how 57 = .ok (.ifCond .eq 7, 3) := by decide +kernel
theorem dX12_how_64 : decode cX12_how 64 = .ok (.aload_n 0, 1) := by decide +kernel
theorem dX12_how_65 : decode cX12_how 65 = .ok (.ldc_w 518, 3) := by decide +kernel
theorem dX12_how_68 : decode cX12_how 68 = .ok (.invokevirtual 235, 3) := by decide +kernel
theorem dX12_how_71 : decode cX12_how 71 = .ok (.ifCond .eq 7, 3) := by decide +kernel
theorem dX12_how_78 : decode cX12_how 78 = .ok (.iconst (-1), 1) := by decide +kernel
theorem dX12_how_74 : decode cX12_how 74 = .ok (.iconst 4, 1) := by decide +kernel
theorem dX12_how_75 : decode cX12_how 75 = .ok (.goto 4, 3) := by decide +kernel
theorem dX12_how_60 : decode cX12_how 60 = .ok (.iconst 3, 1) := by decide +kernel
theorem dX12_how_61 : decode cX12_how 61 = .ok (.goto 18, 3) := by decide +kernel
theorem dX12_how_46 : decode cX12_how 46 = .ok (.iconst 2, 1) := by decide +kernel
theorem dX12_how_47 : decode cX12_how 47 = .ok (.goto 32, 3) := by decide +kernel
theorem dX12_how_32 : decode cX12_how 32 = .ok (.iconst 1, 1) := by decide +kernel
theorem dX12_how_33 : decode cX12_how 33 = .ok (.goto 46, 3) := by decide +kernel
theorem dX12_how_18 : decode cX12_how 18 = .ok (.iconst 0, 1) := by decide +kernel
theorem dX12_how_19 : decode cX12_how 19 = .ok (.goto 60, 3) := by decide +kernel
def fb_X12_how_275 (K0 : Int32 → uS → Option uS) (x1 : Int32) (b4 : Bool) (s : uS) : Option uS := if b4 = true then ((fn_X12_compared x1 s).bind fun s2 => K0 x1 s2) else (K0 x1 s)
set_option maxRecDepth 100000 in
set_option maxHeartbeats 4000000 in
theorem xb_X12_how_275 {l : Launch} {D : va_G} {A : Nat → ClassId} {B : Nat} {Z : State → Heap → Prop} {vF : Value} (uk : uK B Z vF) {K0 : Int32 → uS → Option uS} (hK0 : ∀ (x1 : Int32)  (s : uS) (r : uS), K0 x1 s = some r → GU l D A B Z mX12_how 9 (r, none) s 0 [(0, .ref (B + 1079)), (1, .int x1)] []) {x1 : Int32} {b4 : Bool} {s : uS} {r : uS}  (h : fb_X12_how_275 K0 x1 b4 s = some r) : GU l D A B Z mX12_how 9 (r, none) s 275 [(0, .ref (B + 1079)), (1, .int x1), (4, .int (bI b4))] [] := by
  unfold fb_X12_how_275 at h
  refine uu_iload dX12_how_275 (List.mem_of_getElem? (i := 2) rfl) ?_
  refine uu_ifb_eq (tgt := 285) dX12_how_277 (by decide) (fun c1 => ?_) (fun c1 => ?_)
  · replace h := uu_neg c1 h
    refine uu_goto (tgt := 0) dX12_how_285 (by decide) ?_
    refine uu_lv [0, 1] (lv' := [(0, .ref (B + 1079)), (1, .int x1)]) rfl ?_
    exact hK0 x1 _ _ h
  · replace h := uu_pos c1 h
    refine uu_aload_n dX12_how_280 rfl (List.mem_of_getElem? (i := 0) rfl) ?_
    refine uu_iload_n dX12_how_281 rfl (List.mem_of_getElem? (i := 1) rfl) ?_
    obtain ⟨s2, e3, h⟩ := uu_ob h
    refine uu_cv (d1 := 8) (k := 1079) (ci := 12) (T := TX12) (N := 153) (As := [.int x1]) (st := []) (st' := []) (xc_X12_compared uk  e3) so_1079.is (by decide) rfl kX12_compared lX12_531 sX12_compared (by decide) (Nat.le_of_ble_eq_true rfl) dX12_how_282 rfl ?_
    refine uu_goto (tgt := 0) dX12_how_285 (by decide) ?_
    refine uu_lv [0, 1] (lv' := [(0, .ref (B + 1079)), (1, .int x1)]) rfl ?_
    exact hK0 x1 _ _ h
def fb_X12_how_265 (K0 : Int32 → uS → Option uS) (x1 : Int32) (x2 : Int32) (b4 : Bool) (s : uS) : Option uS := if x2 ≤ 2 then (fb_X12_how_275 K0 x1 b4 s) else ((fn_X12_relation x1 s).bind fun s2 => fb_X12_how_275 K0 x1 b4 s2)
set_option maxRecDepth 100000 in
set_option maxHeartbeats 4000000 in
theorem xb_X12_how_265 {l : Launch} {D : va_G} {A : Nat → ClassId} {B : Nat} {Z : State → Heap → Prop} {vF : Value} (uk : uK B Z vF) {K0 : Int32 → uS → Option uS} (hK0 : ∀ (x1 : Int32)  (s : uS) (r : uS), K0 x1 s = some r → GU l D A B Z mX12_how 9 (r, none) s 0 [(0, .ref (B + 1079)), (1, .int x1)] []) {x1 : Int32} {x2 : Int32} {b4 : Bool} {s : uS} {r : uS}  (h : fb_X12_how_265 K0 x1 x2 b4 s = some r) : GU l D A B Z mX12_how 9 (r, none) s 265 [(0, .ref (B + 1079)), (1, .int x1), (2, .int x2), (4, .int (bI b4))] [] := by
  unfold fb_X12_how_265 at h
  refine uu_iload_n dX12_how_265 rfl (List.mem_of_getElem? (i := 2) rfl) ?_
  refine uu_iconst (v := 2) dX12_how_266 (by decide) ?_
  refine uu_icmp_le (tgt := 275) dX12_how_267 (by decide) (fun c1 => ?_) (fun c1 => ?_)
  · replace h := uu_pos c1 h
    refine uu_lv [0, 1, 3] (lv' := [(0, .ref (B + 1079)), (1, .int x1), (4, .int (bI b4))]) rfl ?_
    exact xb_X12_how_275 uk hK0 h
  · replace h := uu_neg c1 h
    refine uu_aload_n dX12_how_270 rfl (List.mem_of_getElem? (i := 0) rfl) ?_
    refine uu_iload_n dX12_how_271 rfl (List.mem_of_getElem? (i := 1) rfl) ?_
    obtain ⟨s2, e3, h⟩ := uu_ob h
    refine uu_cv (d1 := 8) (k := 1079) (ci := 12) (T := TX12) (N := 153) (As := [.int x1]) (st := []) (st' := []) (xc_X12_relation uk  e3) so_1079.is (by decide) rfl kX12_relation lX12_528 sX12_relation (by decide) (Nat.le_of_ble_eq_true rfl) dX12_how_272 rfl ?_
    refine uu_lv [0, 1, 3] (lv' := [(0, .ref (B + 1079)), (1, .int x1), (4, .int (bI b4))]) rfl ?_
    exact xb_X12_how_275 uk hK0 h
def fb_X12_how_254 (K0 : Int32 → uS → Option uS) (x1 : Int32) (x2 : Int32) (x3 : Int32) (b4 : Bool) (s : uS) : Option uS := if x3 < 0 then (fb_X12_how_265 K0 x1 x2 b4 s) else ((iput 20 s 1112 x1 x3).bind fun s2 => fb_X12_how_265 K0 x1 x2 b4 s2)
set_option maxRecDepth 100000 in
set_option maxHeartbeats 4000000 in
theorem xb_X12_how_254 {l : Launch} {D : va_G} {A : Nat → ClassId} {B : Nat} {Z : State → Heap → Prop} {vF : Value} (uk : uK B Z vF) {K0 : Int32 → uS → Option uS} (hK0 : ∀ (x1 : Int32)  (s : uS) (r : uS), K0 x1 s = some r → GU l D A B Z mX12_how 9 (r, none) s 0 [(0, .ref (B + 1079)), (1, .int x1)] []) {x1 : Int32} {x2 : Int32} {x3 : Int32} {b4 : Bool} {s : uS} {r : uS}  (h : fb_X12_how_254 K0 x1 x2 x3 b4 s = some r) : GU l D A B Z mX12_how 9 (r, none) s 254 [(0, .ref (B + 1079)), (1, .int x1), (2, .int x2), (3, .int x3), (4, .int (bI b4))] [] := by
  unfold fb_X12_how_254 at h
  refine uu_iload_n dX12_how_254 rfl (List.mem_of_getElem? (i := 3) rfl) ?_
  refine uu_if_lt (tgt := 265) dX12_how_255 (by decide) (fun c1 => ?_) (fun c1 => ?_)
  · replace h := uu_pos c1 h
    refine uu_lv [0, 1, 2, 4] (lv' := [(0, .ref (B + 1079)), (1, .int x1), (2, .int x2), (4, .int (bI b4))]) rfl ?_
    exact xb_X12_how_265 uk hK0 h
  · replace h := uu_neg c1 h
    refine uu_aload_n dX12_how_258 rfl (List.mem_of_getElem? (i := 0) rfl) ?_
    refine uu_geta (ci := 12) (N := 153) fX12_319 (by decide) so_1079.is (by decide) (c := 1112) (by decide) dX12_how_259 ?_
    refine uu_iload_n dX12_how_262 rfl (List.mem_of_getElem? (i := 1) rfl) ?_
    refine uu_iload_n dX12_how_263 rfl (List.mem_of_getElem? (i := 3) rfl) ?_
    obtain ⟨s2, e3, h⟩ := uu_ob h
    refine uu_iast e3 dX12_how_264 ?_
    refine uu_lv [0, 1, 2, 4] (lv' := [(0, .ref (B + 1079)), (1, .int x1), (2, .int x2), (4, .int (bI b4))]) rfl ?_
    exact xb_X12_how_265 uk hK0 h
def fb_X12_how_239 (K0 : Int32 → uS → Option uS) (x1 : Int32) (x2 : Int32) (x3 : Int32) (b4 : Bool) (s : uS) : Option uS := (fn_X12_next s).bind fun s1 => if x2 < 0 then (fb_X12_how_254 K0 x1 x2 x3 b4 s1) else ((iput 20 s1 1109 x1 x2).bind fun s4 => fb_X12_how_254 K0 x1 x2 x3 b4 s4)
set_option maxRecDepth 100000 in
set_option maxHeartbeats 4000000 in
theorem xb_X12_how_239 {l : Launch} {D : va_G} {A : Nat → ClassId} {B : Nat} {Z : State → Heap → Prop} {vF : Value} (uk : uK B Z vF) {K0 : Int32 → uS → Option uS} (hK0 : ∀ (x1 : Int32)  (s : uS) (r : uS), K0 x1 s = some r → GU l D A B Z mX12_how 9 (r, none) s 0 [(0, .ref (B + 1079)), (1, .int x1)] []) {x1 : Int32} {x2 : Int32} {x3 : Int32} {b4 : Bool} {s : uS} {r : uS}  (h : fb_X12_how_239 K0 x1 x2 x3 b4 s = some r) : GU l D A B Z mX12_how 9 (r, none) s 239 [(0, .ref (B + 1079)), (1, .int x1), (2, .int x2), (3, .int x3), (4, .int (bI b4))] [] := by
  unfold fb_X12_how_239 at h
  refine uu_aload_n dX12_how_239 rfl (List.mem_of_getElem? (i := 0) rfl) ?_
  obtain ⟨s1, e2, h⟩ := uu_ob h
  refine uu_cv (d1 := 7) (k := 1079) (ci := 12) (T := TX12) (N := 153) (As := []) (st := []) (st' := []) (xc_X12_next uk  e2) so_1079.is (by decide) rfl kX12_next lX12_279 sX12_next (by decide) (Nat.le_of_ble_eq_true rfl) dX12_how_240 rfl ?_
  refine uu_iload_n dX12_how_243 rfl (List.mem_of_getElem? (i := 2) rfl) ?_
  refine uu_if_lt (tgt := 254) dX12_how_244 (by decide) (fun c3 => ?_) (fun c3 => ?_)
  · replace h := uu_pos c3 h
    exact xb_X12_how_254 uk hK0 h
  · replace h := uu_neg c3 h
    refine uu_aload_n dX12_how_247 rfl (List.mem_of_getElem? (i := 0) rfl) ?_
    refine uu_geta (ci := 12) (N := 153) fX12_310 (by decide) so_1079.is (by decide) (c := 1109) (by decide) dX12_how_248 ?_
    refine uu_iload_n dX12_how_251 rfl (List.mem_of_getElem? (i := 1) rfl) ?_
    refine uu_iload_n dX12_how_252 rfl (List.mem_of_getElem? (i := 2) rfl) ?_
    obtain ⟨s4, e5, h⟩ := uu_ob h
    refine uu_iast e5 dX12_how_253 ?_
    exact xb_X12_how_254 uk hK0 h
def fb_X12_how_228 (K0 : Int32 → uS → Option uS) (x1 : Int32) (x2 : Int32) (x3 : Int32) (b4 : Bool) (s : uS) : Option uS := if x2 ≤ 2 then (fb_X12_how_239 K0 x1 x2 x3 b4 s) else ((fn_X12_needs 32 s).bind fun s2 => fb_X12_how_239 K0 x1 x2 x3 b4 s2)
set_option maxRecDepth 100000 in
set_option maxHeartbeats 4000000 in
theorem xb_X12_how_228 {l : Launch} {D : va_G} {A : Nat → ClassId} {B : Nat} {Z : State → Heap → Prop} {vF : Value} (uk : uK B Z vF) {K0 : Int32 → uS → Option uS} (hK0 : ∀ (x1 : Int32)  (s : uS) (r : uS), K0 x1 s = some r → GU l D A B Z mX12_how 9 (r, none) s 0 [(0, .ref (B + 1079)), (1, .int x1)] []) {x1 : Int32} {x2 : Int32} {x3 : Int32} {b4 : Bool} {s : uS} {r : uS}  (h : fb_X12_how_228 K0 x1 x2 x3 b4 s = some r) : GU l D A B Z mX12_how 9 (r, none) s 228 [(0, .ref (B + 1079)), (1, .int x1), (2, .int x2), (3, .int x3), (4, .int (bI b4))] [] := by
  unfold fb_X12_how_228 at h
  refine uu_iload_n dX12_how_228 rfl (List.mem_of_getElem? (i := 2) rfl) ?_
  refine uu_iconst (v := 2) dX12_how_229 (by decide) ?_
  refine uu_icmp_le (tgt := 239) dX12_how_230 (by decide) (fun c1 => ?_) (fun c1 => ?_)
  · replace h := uu_pos c1 h
    exact xb_X12_how_239 uk hK0 h
  · replace h := uu_neg c1 h
    refine uu_aload_n dX12_how_233 rfl (List.mem_of_getElem? (i := 0) rfl) ?_
    refine uu_bipush (v := 32) dX12_how_234 (by decide) ?_
    obtain ⟨s2, e3, h⟩ := uu_ob h
    refine uu_cv (d1 := 1) (k := 1079) (ci := 12) (T := TX12) (N := 153) (As := [.int 32]) (st := []) (st' := []) (xc_X12_needs uk  e3) so_1079.is (by decide) rfl kX12_needs lX12_431 sX12_needs (by decide) (Nat.le_of_ble_eq_true rfl) dX12_how_236 rfl ?_
    exact xb_X12_how_239 uk hK0 h
def fb_X12_how_213 (K0 : Int32 → uS → Option uS) (x1 : Int32) (x2 : Int32) (x3 : Int32) (b4 : Bool) (bs0 : Bool) (s : uS) : Option uS := if bs0 = true then ((fn_X12_fail (s.I 1079 32) s).bind fun s2 => fb_X12_how_228 K0 x1 x2 x3 b4 s2) else (fb_X12_how_228 K0 x1 x2 x3 b4 s)
set_option maxRecDepth 100000 in
set_option maxHeartbeats 4000000 in
theorem xb_X12_how_213 {l : Launch} {D : va_G} {A : Nat → ClassId} {B : Nat} {Z : State → Heap → Prop} {vF : Value} (uk : uK B Z vF) {K0 : Int32 → uS → Option uS} (hK0 : ∀ (x1 : Int32)  (s : uS) (r : uS), K0 x1 s = some r → GU l D A B Z mX12_how 9 (r, none) s 0 [(0, .ref (B + 1079)), (1, .int x1)] []) {x1 : Int32} {x2 : Int32} {x3 : Int32} {b4 : Bool} {bs0 : Bool} {s : uS} {r : uS}  (h : fb_X12_how_213 K0 x1 x2 x3 b4 bs0 s = some r) : GU l D A B Z mX12_how 9 (r, none) s 213 [(0, .ref (B + 1079)), (1, .int x1), (2, .int x2), (3, .int x3), (4, .int (bI b4))] [.int (bI bs0)] := by
  unfold fb_X12_how_213 at h
  refine uu_istore dX12_how_213 (by decide) rfl ?_
  refine uu_iload dX12_how_215 (List.mem_of_getElem? (i := 0) rfl) ?_
  refine uu_ifb_eq (tgt := 228) dX12_how_217 (by decide) (fun c1 => ?_) (fun c1 => ?_)
  · replace h := uu_neg c1 h
    refine uu_lv [1, 2, 3, 4, 5] (lv' := [(0, .ref (B + 1079)), (1, .int x1), (2, .int x2), (3, .int x3), (4, .int (bI b4))]) rfl ?_
    exact xb_X12_how_228 uk hK0 h
  · replace h := uu_pos c1 h
    refine uu_aload_n dX12_how_220 rfl (List.mem_of_getElem? (i := 1) rfl) ?_
    refine uu_aload_n dX12_how_221 rfl (List.mem_of_getElem? (i := 1) rfl) ?_
    refine uu_geti (ci := 12) (N := 153) fX12_199 (by decide) so_1079.is (by decide) (by decide) dX12_how_222 ?_
    obtain ⟨s2, e3, h⟩ := uu_ob h
    refine uu_cv (d1 := 0) (k := 1079) (ci := 12) (T := TX12) (N := 153) (As := [.int (s.I 1079 32)]) (st := []) (st' := []) (xc_X12_fail uk  e3) so_1079.is (by decide) rfl kX12_fail lX12_208 sX12_fail (by decide) (Nat.le_of_ble_eq_true rfl) dX12_how_225 rfl ?_
    refine uu_lv [1, 2, 3, 4, 5] (lv' := [(0, .ref (B + 1079)), (1, .int x1), (2, .int x2), (3, .int x3), (4, .int (bI b4))]) rfl ?_
    exact xb_X12_how_228 uk hK0 h
def fb_X12_how_173 (K0 : Int32 → uS → Option uS) (x1 : Int32) (x2 : Int32) (x3 : Int32) (b4 : Bool) (s : uS) : Option uS := if x3 < 0 then (fb_X12_how_213 K0 x1 x2 x3 b4 false s) else ((iget 20 s 1112 x1).bind fun v2 => if 0 ≤ v2 then (fb_X12_how_213 K0 x1 x2 x3 b4 true s) else ((iget 20 s 1098 x1).bind fun v5 => if v5 = 20 then (fb_X12_how_213 K0 x1 x2 x3 b4 true s) else ((iget 20 s 1098 x1).bind fun v8 => if v8 = 23 then (fb_X12_how_213 K0 x1 x2 x3 b4 true s) else (fb_X12_how_213 K0 x1 x2 x3 b4 false s))))
set_option maxRecDepth 100000 in
set_option maxHeartbeats 4000000 in
theorem xb_X12_how_173 {l : Launch} {D : va_G} {A : Nat → ClassId} {B : Nat} {Z : State → Heap → Prop} {vF : Value} (uk : uK B Z vF) {K0 : Int32 → uS → Option uS} (hK0 : ∀ (x1 : Int32)  (s : uS) (r : uS), K0 x1 s = some r → GU l D A B Z mX12_how 9 (r, none) s 0 [(0, .ref (B + 1079)), (1, .int x1)] []) {x1 : Int32} {x2 : Int32} {x3 : Int32} {b4 : Bool} {s : uS} {r : uS}  (h : fb_X12_how_173 K0 x1 x2 x3 b4 s = some r) : GU l D A B Z mX12_how 9 (r, none) s 173 [(0, .ref (B + 1079)), (1, .int x1), (2, .int x2), (3, .int x3), (4, .int (bI b4))] [] := by
  unfold fb_X12_how_173 at h
  refine uu_iload_n dX12_how_173 rfl (List.mem_of_getElem? (i := 3) rfl) ?_
  refine uu_if_lt (tgt := 212) dX12_how_174 (by decide) (fun c1 => ?_) (fun c1 => ?_)
  · replace h := uu_pos c1 h
    refine uu_iconst (v := 0) dX12_how_212 (by decide) ?_
    exact xb_X12_how_213 uk hK0 h
  · replace h := uu_neg c1 h
    refine uu_aload_n dX12_how_177 rfl (List.mem_of_getElem? (i := 0) rfl) ?_
    refine uu_geta (ci := 12) (N := 153) fX12_319 (by decide) so_1079.is (by decide) (c := 1112) (by decide) dX12_how_178 ?_
    refine uu_iload_n dX12_how_181 rfl (List.mem_of_getElem? (i := 1) rfl) ?_
    obtain ⟨v2, e3, h⟩ := uu_ob h
    refine uu_iald e3 dX12_how_182 ?_
    refine uu_if_ge (tgt := 208) dX12_how_183 (by decide) (fun c4 => ?_) (fun c4 => ?_)
    · replace h := uu_pos c4 h
      refine uu_iconst (v := 1) dX12_how_208 (by decide) ?_
      refine uu_goto (tgt := 213) dX12_how_209 (by decide) ?_
      exact xb_X12_how_213 uk hK0 h
    · replace h := uu_neg c4 h
      refine uu_aload_n dX12_how_186 rfl (List.mem_of_getElem? (i := 0) rfl) ?_
      refine uu_geta (ci := 12) (N := 153) fX12_285 (by decide) so_1079.is (by decide) (c := 1098) (by decide) dX12_how_187 ?_
      refine uu_iload_n dX12_how_190 rfl (List.mem_of_getElem? (i := 1) rfl) ?_
      obtain ⟨v5, e6, h⟩ := uu_ob h
      refine uu_iald e6 dX12_how_191 ?_
      refine uu_bipush (v := 20) dX12_how_192 (by decide) ?_
      refine uu_icmp_eq (tgt := 208) dX12_how_194 (by decide) (fun c7 => ?_) (fun c7 => ?_)
      · replace h := uu_pos c7 h
        refine uu_iconst (v := 1) dX12_how_208 (by decide) ?_
        refine uu_goto (tgt := 213) dX12_how_209 (by decide) ?_
        exact xb_X12_how_213 uk hK0 h
      · replace h := uu_neg c7 h
        refine uu_aload_n dX12_how_197 rfl (List.mem_of_getElem? (i := 0) rfl) ?_
        refine uu_geta (ci := 12) (N := 153) fX12_285 (by decide) so_1079.is (by decide) (c := 1098) (by decide) dX12_how_198 ?_
        refine uu_iload_n dX12_how_201 rfl (List.mem_of_getElem? (i := 1) rfl) ?_
        obtain ⟨v8, e9, h⟩ := uu_ob h
        refine uu_iald e9 dX12_how_202 ?_
        refine uu_bipush (v := 23) dX12_how_203 (by decide) ?_
        refine uu_icmp_ne (tgt := 212) dX12_how_205 (by decide) (fun c10 => ?_) (fun c10 => ?_)
        · replace h := uu_neg c10 h
          refine uu_iconst (v := 0) dX12_how_212 (by decide) ?_
          exact xb_X12_how_213 uk hK0 h
        · replace h := uu_pos c10 h
          refine uu_iconst (v := 1) dX12_how_208 (by decide) ?_
          refine uu_goto (tgt := 213) dX12_how_209 (by decide) ?_
          exact xb_X12_how_213 uk hK0 h
def fb_X12_how_159 (K0 : Int32 → uS → Option uS) (x1 : Int32) (x2 : Int32) (x3 : Int32) (b4 : Bool) (s : uS) : Option uS := if b4 = true then ((iget 20 s 1111 x1).bind fun v2 => if 0 ≤ v2 then (fb_X12_how_213 K0 x1 x2 x3 b4 true s) else (fb_X12_how_173 K0 x1 x2 x3 b4 s)) else (fb_X12_how_173 K0 x1 x2 x3 b4 s)
set_option maxRecDepth 100000 in
set_option maxHeartbeats 4000000 in
theorem xb_X12_how_159 {l : Launch} {D : va_G} {A : Nat → ClassId} {B : Nat} {Z : State → Heap → Prop} {vF : Value} (uk : uK B Z vF) {K0 : Int32 → uS → Option uS} (hK0 : ∀ (x1 : Int32)  (s : uS) (r : uS), K0 x1 s = some r → GU l D A B Z mX12_how 9 (r, none) s 0 [(0, .ref (B + 1079)), (1, .int x1)] []) {x1 : Int32} {x2 : Int32} {x3 : Int32} {b4 : Bool} {s : uS} {r : uS}  (h : fb_X12_how_159 K0 x1 x2 x3 b4 s = some r) : GU l D A B Z mX12_how 9 (r, none) s 159 [(0, .ref (B + 1079)), (1, .int x1), (2, .int x2), (3, .int x3), (4, .int (bI b4))] [] := by
  unfold fb_X12_how_159 at h
  refine uu_iload dX12_how_159 (List.mem_of_getElem? (i := 4) rfl) ?_
  refine uu_ifb_eq (tgt := 173) dX12_how_161 (by decide) (fun c1 => ?_) (fun c1 => ?_)
  · replace h := uu_neg c1 h
    exact xb_X12_how_173 uk hK0 h
  · replace h := uu_pos c1 h
    refine uu_aload_n dX12_how_164 rfl (List.mem_of_getElem? (i := 0) rfl) ?_
    refine uu_geta (ci := 12) (N := 153) fX12_316 (by decide) so_1079.is (by decide) (c := 1111) (by decide) dX12_how_165 ?_
    refine uu_iload_n dX12_how_168 rfl (List.mem_of_getElem? (i := 1) rfl) ?_
    obtain ⟨v2, e3, h⟩ := uu_ob h
    refine uu_iald e3 dX12_how_169 ?_
    refine uu_if_ge (tgt := 208) dX12_how_170 (by decide) (fun c4 => ?_) (fun c4 => ?_)
    · replace h := uu_pos c4 h
      refine uu_iconst (v := 1) dX12_how_208 (by decide) ?_
      refine uu_goto (tgt := 213) dX12_how_209 (by decide) ?_
      exact xb_X12_how_213 uk hK0 h
    · replace h := uu_neg c4 h
      exact xb_X12_how_173 uk hK0 h
def fb_X12_how_146 (K0 : Int32 → uS → Option uS) (x1 : Int32) (x2 : Int32) (x3 : Int32) (b4 : Bool) (s : uS) : Option uS := if x2 < 0 then (fb_X12_how_159 K0 x1 x2 x3 b4 s) else ((iget 20 s 1109 x1).bind fun v2 => if 0 ≤ v2 then (fb_X12_how_213 K0 x1 x2 x3 b4 true s) else (fb_X12_how_159 K0 x1 x2 x3 b4 s))
set_option maxRecDepth 100000 in
set_option maxHeartbeats 4000000 in
theorem xb_X12_how_146 {l : Launch} {D : va_G} {A : Nat → ClassId} {B : Nat} {Z : State → Heap → Prop} {vF : Value} (uk : uK B Z vF) {K0 : Int32 → uS → Option uS} (hK0 : ∀ (x1 : Int32)  (s : uS) (r : uS), K0 x1 s = some r → GU l D A B Z mX12_how 9 (r, none) s 0 [(0, .ref (B + 1079)), (1, .int x1)] []) {x1 : Int32} {x2 : Int32} {x3 : Int32} {b4 : Bool} {s : uS} {r : uS}  (h : fb_X12_how_146 K0 x1 x2 x3 b4 s = some r) : GU l D A B Z mX12_how 9 (r, none) s 146 [(0, .ref (B + 1079)), (1, .int x1), (2, .int x2), (3, .int x3), (4, .int (bI b4))] [] := by
  unfold fb_X12_how_146 at h
  refine uu_iload_n dX12_how_146 rfl (List.mem_of_getElem? (i := 2) rfl) ?_
  refine uu_if_lt (tgt := 159) dX12_how_147 (by decide) (fun c1 => ?_) (fun c1 => ?_)
  · replace h := uu_pos c1 h
    exact xb_X12_how_159 uk hK0 h
  · replace h := uu_neg c1 h
    refine uu_aload_n dX12_how_150 rfl (List.mem_of_getElem? (i := 0) rfl) ?_
    refine uu_geta (ci := 12) (N := 153) fX12_310 (by decide) so_1079.is (by decide) (c := 1109) (by decide) dX12_how_151 ?_
    refine uu_iload_n dX12_how_154 rfl (List.mem_of_getElem? (i := 1) rfl) ?_
    obtain ⟨v2, e3, h⟩ := uu_ob h
    refine uu_iald e3 dX12_how_155 ?_
    refine uu_if_ge (tgt := 208) dX12_how_156 (by decide) (fun c4 => ?_) (fun c4 => ?_)
    · replace h := uu_pos c4 h
      refine uu_iconst (v := 1) dX12_how_208 (by decide) ?_
      refine uu_goto (tgt := 213) dX12_how_209 (by decide) ?_
      exact xb_X12_how_213 uk hK0 h
    · replace h := uu_neg c4 h
      exact xb_X12_how_159 uk hK0 h
def fb_X12_how_123 (K0 : Int32 → uS → Option uS) (x1 : Int32) (x2 : Int32) (xs0 : Int32) (s : uS) : Option uS := (fn_X12_wordIs kW_120 s).bind fun v2 => if 0 ≤ x2 then (fb_X12_how_146 K0 x1 x2 xs0 v2 s) else (if 0 ≤ xs0 then (fb_X12_how_146 K0 x1 x2 xs0 v2 s) else (if v2 = true then (fb_X12_how_146 K0 x1 x2 xs0 v2 s) else (fb_X12_how_213 K0 x1 x2 xs0 v2 true s)))
set_option maxRecDepth 100000 in
set_option maxHeartbeats 4000000 in
theorem xb_X12_how_123 {l : Launch} {D : va_G} {A : Nat → ClassId} {B : Nat} {Z : State → Heap → Prop} {vF : Value} (uk : uK B Z vF) {K0 : Int32 → uS → Option uS} (hK0 : ∀ (x1 : Int32)  (s : uS) (r : uS), K0 x1 s = some r → GU l D A B Z mX12_how 9 (r, none) s 0 [(0, .ref (B + 1079)), (1, .int x1)] []) {x1 : Int32} {x2 : Int32} {xs0 : Int32} {s : uS} {r : uS}  (h : fb_X12_how_123 K0 x1 x2 xs0 s = some r) : GU l D A B Z mX12_how 9 (r, none) s 123 [(0, .ref (B + 1079)), (1, .int x1), (2, .int x2)] [.int xs0] := by
  unfold fb_X12_how_123 at h
  refine uu_istore_n dX12_how_123 rfl (by decide) rfl ?_
  refine uu_aload_n dX12_how_124 rfl (List.mem_of_getElem? (i := 1) rfl) ?_
  obtain ⟨cq1, cp1, cv1, cw1⟩ := uk.2.1 120 _ rfl
  refine uu_ldcwS cv1 dX12_how_125 ?_
  obtain ⟨v2, e3, h⟩ := uu_ob h
  refine uu_cv (d1 := 4) (k := 1079) (ci := 12) (T := TX12) (N := 153) (As := [.ref cq1]) (st := []) (st' := [.int (bI v2)]) (xc_X12_wordIs uk cw1 e3) so_1079.is (by decide) rfl kX12_wordIs lX12_235 sX12_wordIs (by decide) (Nat.le_of_ble_eq_true rfl) dX12_how_128 rfl ?_
  refine uu_istore dX12_how_131 (by decide) rfl ?_
  refine uu_iload_n dX12_how_133 rfl (List.mem_of_getElem? (i := 4) rfl) ?_
  refine uu_if_ge (tgt := 146) dX12_how_134 (by decide) (fun c4 => ?_) (fun c4 => ?_)
  · replace h := uu_pos c4 h
    refine uu_lv [2, 3, 4, 1, 0] (lv' := [(0, .ref (B + 1079)), (1, .int x1), (2, .int x2), (3, .int xs0), (4, .int (bI v2))]) rfl ?_
    exact xb_X12_how_146 uk hK0 h
  · replace h := uu_neg c4 h
    refine uu_iload_n dX12_how_137 rfl (List.mem_of_getElem? (i := 1) rfl) ?_
    refine uu_if_ge (tgt := 146) dX12_how_138 (by decide) (fun c5 => ?_) (fun c5 => ?_)
    · replace h := uu_pos c5 h
      refine uu_lv [2, 3, 4, 1, 0] (lv' := [(0, .ref (B + 1079)), (1, .int x1), (2, .int x2), (3, .int xs0), (4, .int (bI v2))]) rfl ?_
      exact xb_X12_how_146 uk hK0 h
    · replace h := uu_neg c5 h
      refine uu_iload dX12_how_141 (List.mem_of_getElem? (i := 0) rfl) ?_
      refine uu_ifb_eq (tgt := 208) dX12_how_143 (by decide) (fun c6 => ?_) (fun c6 => ?_)
      · replace h := uu_neg c6 h
        refine uu_iconst (v := 1) dX12_how_208 (by decide) ?_
        refine uu_goto (tgt := 213) dX12_how_209 (by decide) ?_
        refine uu_lv [2, 3, 4, 1, 0] (lv' := [(0, .ref (B + 1079)), (1, .int x1), (2, .int x2), (3, .int xs0), (4, .int (bI v2))]) rfl ?_
        exact xb_X12_how_213 uk hK0 h
      · replace h := uu_pos c6 h
        refine uu_lv [2, 3, 4, 1, 0] (lv' := [(0, .ref (B + 1079)), (1, .int x1), (2, .int x2), (3, .int xs0), (4, .int (bI v2))]) rfl ?_
        exact xb_X12_how_146 uk hK0 h
def fb_X12_how_79 (K0 : Int32 → uS → Option uS) (x1 : Int32) (xs0 : Int32) (s : uS) : Option uS := (fn_X12_wordIs kW_117 s).bind fun v2 => if v2 = true then (fb_X12_how_123 K0 x1 xs0 0 s) else ((fn_X12_wordIs kW_118 s).bind fun v6 => if v6 = true then (fb_X12_how_123 K0 x1 xs0 1 s) else ((fn_X12_wordIs kW_119 s).bind fun v10 => if v10 = true then (fb_X12_how_123 K0 x1 xs0 2 s) else (fb_X12_how_123 K0 x1 xs0 (-1) s)))
set_option maxRecDepth 100000 in
set_option maxHeartbeats 4000000 in
theorem xb_X12_how_79 {l : Launch} {D : va_G} {A : Nat → ClassId} {B : Nat} {Z : State → Heap → Prop} {vF : Value} (uk : uK B Z vF) {K0 : Int32 → uS → Option uS} (hK0 : ∀ (x1 : Int32)  (s : uS) (r : uS), K0 x1 s = some r → GU l D A B Z mX12_how 9 (r, none) s 0 [(0, .ref (B + 1079)), (1, .int x1)] []) {x1 : Int32} {xs0 : Int32} {s : uS} {r : uS}  (h : fb_X12_how_79 K0 x1 xs0 s = some r) : GU l D A B Z mX12_how 9 (r, none) s 79 [(0, .ref (B + 1079)), (1, .int x1)] [.int xs0] := by
  unfold fb_X12_how_79 at h
  refine uu_istore_n dX12_how_79 rfl (by decide) rfl ?_
  refine uu_aload_n dX12_how_80 rfl (List.mem_of_getElem? (i := 1) rfl) ?_
  obtain ⟨cq1, cp1, cv1, cw1⟩ := uk.2.1 117 _ rfl
  refine uu_ldcwS cv1 dX12_how_81 ?_
  obtain ⟨v2, e3, h⟩ := uu_ob h
  refine uu_cv (d1 := 4) (k := 1079) (ci := 12) (T := TX12) (N := 153) (As := [.ref cq1]) (st := []) (st' := [.int (bI v2)]) (xc_X12_wordIs uk cw1 e3) so_1079.is (by decide) rfl kX12_wordIs lX12_235 sX12_wordIs (by decide) (Nat.le_of_ble_eq_true rfl) dX12_how_84 rfl ?_
  refine uu_ifb_eq (tgt := 94) dX12_how_87 (by decide) (fun c4 => ?_) (fun c4 => ?_)
  · replace h := uu_neg c4 h
    refine uu_aload_n dX12_how_94 rfl (List.mem_of_getElem? (i := 1) rfl) ?_
    obtain ⟨cq5, cp5, cv5, cw5⟩ := uk.2.1 118 _ rfl
    refine uu_ldcwS cv5 dX12_how_95 ?_
    obtain ⟨v6, e7, h⟩ := uu_ob h
    refine uu_cv (d1 := 4) (k := 1079) (ci := 12) (T := TX12) (N := 153) (As := [.ref cq5]) (st := []) (st' := [.int (bI v6)]) (xc_X12_wordIs uk cw5 e7) so_1079.is (by decide) rfl kX12_wordIs lX12_235 sX12_wordIs (by decide) (Nat.le_of_ble_eq_true rfl) dX12_how_98 rfl ?_
    refine uu_ifb_eq (tgt := 108) dX12_how_101 (by decide) (fun c8 => ?_) (fun c8 => ?_)
    · replace h := uu_neg c8 h
      refine uu_aload_n dX12_how_108 rfl (List.mem_of_getElem? (i := 1) rfl) ?_
      obtain ⟨cq9, cp9, cv9, cw9⟩ := uk.2.1 119 _ rfl
      refine uu_ldcwS cv9 dX12_how_109 ?_
      obtain ⟨v10, e11, h⟩ := uu_ob h
      refine uu_cv (d1 := 4) (k := 1079) (ci := 12) (T := TX12) (N := 153) (As := [.ref cq9]) (st := []) (st' := [.int (bI v10)]) (xc_X12_wordIs uk cw9 e11) so_1079.is (by decide) rfl kX12_wordIs lX12_235 sX12_wordIs (by decide) (Nat.le_of_ble_eq_true rfl) dX12_how_112 rfl ?_
      refine uu_ifb_eq (tgt := 122) dX12_how_115 (by decide) (fun c12 => ?_) (fun c12 => ?_)
      · replace h := uu_neg c12 h
        refine uu_iconst (v := -1) dX12_how_122 (by decide) ?_
        refine uu_lv [1, 2, 0] (lv' := [(0, .ref (B + 1079)), (1, .int x1), (2, .int xs0)]) rfl ?_
        exact xb_X12_how_123 uk hK0 h
      · replace h := uu_pos c12 h
        refine uu_iconst (v := 2) dX12_how_118 (by decide) ?_
        refine uu_goto (tgt := 123) dX12_how_119 (by decide) ?_
        refine uu_lv [1, 2, 0] (lv' := [(0, .ref (B + 1079)), (1, .int x1), (2, .int xs0)]) rfl ?_
        exact xb_X12_how_123 uk hK0 h
    · replace h := uu_pos c8 h
      refine uu_iconst (v := 1) dX12_how_104 (by decide) ?_
      refine uu_goto (tgt := 123) dX12_how_105 (by decide) ?_
      refine uu_lv [1, 2, 0] (lv' := [(0, .ref (B + 1079)), (1, .int x1), (2, .int xs0)]) rfl ?_
      exact xb_X12_how_123 uk hK0 h
  · replace h := uu_pos c4 h
    refine uu_iconst (v := 0) dX12_how_90 (by decide) ?_
    refine uu_goto (tgt := 123) dX12_how_91 (by decide) ?_
    refine uu_lv [1, 2, 0] (lv' := [(0, .ref (B + 1079)), (1, .int x1), (2, .int xs0)]) rfl ?_
    exact xb_X12_how_123 uk hK0 h
def fb_X12_how_337  (x1 : Int32) (xs0 : Int32) (xs1 : Int32) (s : uS) : Option uS := (iput 20 s 1111 xs1 xs0).bind fun s1 => (iget 20 s1 1112 x1).bind fun v3 => if 0 ≤ v3 then ((iget 20 s1 1112 x1).bind fun v6 => (iput 20 s1 1112 x1 v6).bind fun s8 => some s8) else ((iput 20 s1 1112 x1 0).bind fun s10 => some s10)
set_option maxRecDepth 100000 in
set_option maxHeartbeats 4000000 in
theorem xb_X12_how_337 {l : Launch} {D : va_G} {A : Nat → ClassId} {B : Nat} {Z : State → Heap → Prop} {vF : Value} (uk : uK B Z vF)   {x1 : Int32} {xs0 : Int32} {xs1 : Int32} {s : uS} {r : uS}  (h : fb_X12_how_337  x1 xs0 xs1 s = some r) : GU l D A B Z mX12_how 9 (r, none) s 337 [(0, .ref (B + 1079)), (1, .int x1)] [.int xs0, .int xs1, .ref (B + 1111)] := by
  unfold fb_X12_how_337 at h
  obtain ⟨s1, e2, h⟩ := uu_ob h
  refine uu_iast e2 dX12_how_337 ?_
  refine uu_aload_n dX12_how_338 rfl (List.mem_of_getElem? (i := 0) rfl) ?_
  refine uu_geta (ci := 12) (N := 153) fX12_319 (by decide) so_1079.is (by decide) (c := 1112) (by decide) dX12_how_339 ?_
  refine uu_iload_n dX12_how_342 rfl (List.mem_of_getElem? (i := 1) rfl) ?_
  refine uu_aload_n dX12_how_343 rfl (List.mem_of_getElem? (i := 0) rfl) ?_
  refine uu_geta (ci := 12) (N := 153) fX12_319 (by decide) so_1079.is (by decide) (c := 1112) (by decide) dX12_how_344 ?_
  refine uu_iload_n dX12_how_347 rfl (List.mem_of_getElem? (i := 1) rfl) ?_
  obtain ⟨v3, e4, h⟩ := uu_ob h
  refine uu_iald e4 dX12_how_348 ?_
  refine uu_if_ge (tgt := 356) dX12_how_349 (by decide) (fun c5 => ?_) (fun c5 => ?_)
  · replace h := uu_pos c5 h
    refine uu_aload_n dX12_how_356 rfl (List.mem_of_getElem? (i := 0) rfl) ?_
    refine uu_geta (ci := 12) (N := 153) fX12_319 (by decide) so_1079.is (by decide) (c := 1112) (by decide) dX12_how_357 ?_
    refine uu_iload_n dX12_how_360 rfl (List.mem_of_getElem? (i := 1) rfl) ?_
    obtain ⟨v6, e7, h⟩ := uu_ob h
    refine uu_iald e7 dX12_how_361 ?_
    obtain ⟨s8, e9, h⟩ := uu_ob h
    refine uu_iast e9 dX12_how_362 ?_
    have hr := Option.some.inj h
    subst hr
    exact uu_vret rfl dX12_how_363
  · replace h := uu_neg c5 h
    refine uu_iconst (v := 0) dX12_how_352 (by decide) ?_
    refine uu_goto (tgt := 362) dX12_how_353 (by decide) ?_
    obtain ⟨s10, e11, h⟩ := uu_ob h
    refine uu_iast e11 dX12_how_362 ?_
    have hr := Option.some.inj h
    subst hr
    exact uu_vret rfl dX12_how_363
def fb_X12_how_312  (x1 : Int32) (xs0 : Int32) (xs1 : Int32) (s : uS) : Option uS := (iput 20 s 1109 xs1 xs0).bind fun s1 => (iget 20 s1 1111 x1).bind fun v3 => if 0 ≤ v3 then ((iget 20 s1 1111 x1).bind fun v6 => fb_X12_how_337 x1 v6 x1 s1) else (fb_X12_how_337 x1 1 x1 s1)
set_option maxRecDepth 100000 in
set_option maxHeartbeats 4000000 in
theorem xb_X12_how_312 {l : Launch} {D : va_G} {A : Nat → ClassId} {B : Nat} {Z : State → Heap → Prop} {vF : Value} (uk : uK B Z vF)   {x1 : Int32} {xs0 : Int32} {xs1 : Int32} {s : uS} {r : uS}  (h : fb_X12_how_312  x1 xs0 xs1 s = some r) : GU l D A B Z mX12_how 9 (r, none) s 312 [(0, .ref (B + 1079)), (1, .int x1)] [.int xs0, .int xs1, .ref (B + 1109)] := by
  unfold fb_X12_how_312 at h
  obtain ⟨s1, e2, h⟩ := uu_ob h
  refine uu_iast e2 dX12_how_312 ?_
  refine uu_aload_n dX12_how_313 rfl (List.mem_of_getElem? (i := 0) rfl) ?_
  refine uu_geta (ci := 12) (N := 153) fX12_316 (by decide) so_1079.is (by decide) (c := 1111) (by decide) dX12_how_314 ?_
  refine uu_iload_n dX12_how_317 rfl (List.mem_of_getElem? (i := 1) rfl) ?_
  refine uu_aload_n dX12_how_318 rfl (List.mem_of_getElem? (i := 0) rfl) ?_
  refine uu_geta (ci := 12) (N := 153) fX12_316 (by decide) so_1079.is (by decide) (c := 1111) (by decide) dX12_how_319 ?_
  refine uu_iload_n dX12_how_322 rfl (List.mem_of_getElem? (i := 1) rfl) ?_
  obtain ⟨v3, e4, h⟩ := uu_ob h
  refine uu_iald e4 dX12_how_323 ?_
  refine uu_if_ge (tgt := 331) dX12_how_324 (by decide) (fun c5 => ?_) (fun c5 => ?_)
  · replace h := uu_pos c5 h
    refine uu_aload_n dX12_how_331 rfl (List.mem_of_getElem? (i := 0) rfl) ?_
    refine uu_geta (ci := 12) (N := 153) fX12_316 (by decide) so_1079.is (by decide) (c := 1111) (by decide) dX12_how_332 ?_
    refine uu_iload_n dX12_how_335 rfl (List.mem_of_getElem? (i := 1) rfl) ?_
    obtain ⟨v6, e7, h⟩ := uu_ob h
    refine uu_iald e7 dX12_how_336 ?_
    exact xb_X12_how_337 uk  h
  · replace h := uu_neg c5 h
    refine uu_iconst (v := 1) dX12_how_327 (by decide) ?_
    refine uu_goto (tgt := 337) dX12_how_328 (by decide) ?_
    exact xb_X12_how_337 uk  h
def fb_X12_how_0 (K0 : Int32 → uS → Option uS) (x1 : Int32) (s : uS) : Option uS := (fn_X12_is 2 s).bind fun v1 => if v1 = true then ((fn_X12_wordIs kW_112 s).bind fun v10 => if v10 = true then (fb_X12_how_79 K0 x1 0 s) else ((fn_X12_wordIs kW_113 s).bind fun v14 => if v14 = true then (fb_X12_how_79 K0 x1 1 s) else ((fn_X12_wordIs kW_114 s).bind fun v18 => if v18 = true then (fb_X12_how_79 K0 x1 2 s) else ((fn_X12_wordIs kW_115 s).bind fun v22 => if v22 = true then (fb_X12_how_79 K0 x1 3 s) else ((fn_X12_wordIs kW_116 s).bind fun v26 => if v26 = true then (fb_X12_how_79 K0 x1 4 s) else (fb_X12_how_79 K0 x1 (-1) s)))))) else ((iget 20 s 1109 x1).bind fun v4 => if 0 ≤ v4 then ((iget 20 s 1109 x1).bind fun v7 => fb_X12_how_312 x1 v7 x1 s) else (fb_X12_how_312 x1 0 x1 s))
set_option maxRecDepth 100000 in
set_option maxHeartbeats 4000000 in
theorem xb_X12_how_0 {l : Launch} {D : va_G} {A : Nat → ClassId} {B : Nat} {Z : State → Heap → Prop} {vF : Value} (uk : uK B Z vF) {K0 : Int32 → uS → Option uS} (hK0 : ∀ (x1 : Int32)  (s : uS) (r : uS), K0 x1 s = some r → GU l D A B Z mX12_how 9 (r, none) s 0 [(0, .ref (B + 1079)), (1, .int x1)] []) {x1 : Int32} {s : uS} {r : uS}  (h : fb_X12_how_0 K0 x1 s = some r) : GU l D A B Z mX12_how 9 (r, none) s 0 [(0, .ref (B + 1079)), (1, .int x1)] [] := by
  unfold fb_X12_how_0 at h
  refine uu_aload_n dX12_how_0 rfl (List.mem_of_getElem? (i := 0) rfl) ?_
  refine uu_iconst (v := 2) dX12_how_1 (by decide) ?_
  obtain ⟨v1, e2, h⟩ := uu_ob h
  refine uu_cv (d1 := 0) (k := 1079) (ci := 12) (T := TX12) (N := 153) (As := [.int 2]) (st := []) (st' := [.int (bI v1)]) (xc_X12_is uk  e2) so_1079.is (by decide) rfl kX12_is lX12_273 sX12_is (by decide) (Nat.le_of_ble_eq_true rfl) dX12_how_2 rfl ?_
  refine uu_ifb_eq (tgt := 288) dX12_how_5 (by decide) (fun c3 => ?_) (fun c3 => ?_)
  · replace h := uu_neg c3 h
    refine uu_aload_n dX12_how_288 rfl (List.mem_of_getElem? (i := 0) rfl) ?_
    refine uu_geta (ci := 12) (N := 153) fX12_310 (by decide) so_1079.is (by decide) (c := 1109) (by decide) dX12_how_289 ?_
    refine uu_iload_n dX12_how_292 rfl (List.mem_of_getElem? (i := 1) rfl) ?_
    refine uu_aload_n dX12_how_293 rfl (List.mem_of_getElem? (i := 0) rfl) ?_
    refine uu_geta (ci := 12) (N := 153) fX12_310 (by decide) so_1079.is (by decide) (c := 1109) (by decide) dX12_how_294 ?_
    refine uu_iload_n dX12_how_297 rfl (List.mem_of_getElem? (i := 1) rfl) ?_
    obtain ⟨v4, e5, h⟩ := uu_ob h
    refine uu_iald e5 dX12_how_298 ?_
    refine uu_if_ge (tgt := 306) dX12_how_299 (by decide) (fun c6 => ?_) (fun c6 => ?_)
    · replace h := uu_pos c6 h
      refine uu_aload_n dX12_how_306 rfl (List.mem_of_getElem? (i := 0) rfl) ?_
      refine uu_geta (ci := 12) (N := 153) fX12_310 (by decide) so_1079.is (by decide) (c := 1109) (by decide) dX12_how_307 ?_
      refine uu_iload_n dX12_how_310 rfl (List.mem_of_getElem? (i := 1) rfl) ?_
      obtain ⟨v7, e8, h⟩ := uu_ob h
      refine uu_iald e8 dX12_how_311 ?_
      exact xb_X12_how_312 uk  h
    · replace h := uu_neg c6 h
      refine uu_iconst (v := 0) dX12_how_302 (by decide) ?_
      refine uu_goto (tgt := 312) dX12_how_303 (by decide) ?_
      exact xb_X12_how_312 uk  h
  · replace h := uu_pos c3 h
    refine uu_aload_n dX12_how_8 rfl (List.mem_of_getElem? (i := 0) rfl) ?_
    obtain ⟨cq9, cp9, cv9, cw9⟩ := uk.2.1 112 _ rfl
    refine uu_ldcwS cv9 dX12_how_9 ?_
    obtain ⟨v10, e11, h⟩ := uu_ob h
    refine uu_cv (d1 := 4) (k := 1079) (ci := 12) (T := TX12) (N := 153) (As := [.ref cq9]) (st := []) (st' := [.int (bI v10)]) (xc_X12_wordIs uk cw9 e11) so_1079.is (by decide) rfl kX12_wordIs lX12_235 sX12_wordIs (by decide) (Nat.le_of_ble_eq_true rfl) dX12_how_12 rfl ?_
    refine uu_ifb_eq (tgt := 22) dX12_how_15 (by decide) (fun c12 => ?_) (fun c12 => ?_)
    · replace h := uu_neg c12 h
      refine uu_aload_n dX12_how_22 rfl (List.mem_of_getElem? (i := 0) rfl) ?_
      obtain ⟨cq13, cp13, cv13, cw13⟩ := uk.2.1 113 _ rfl
      refine uu_ldcwS cv13 dX12_how_23 ?_
      obtain ⟨v14, e15, h⟩ := uu_ob h
      refine uu_cv (d1 := 4) (k := 1079) (ci := 12) (T := TX12) (N := 153) (As := [.ref cq13]) (st := []) (st' := [.int (bI v14)]) (xc_X12_wordIs uk cw13 e15) so_1079.is (by decide) rfl kX12_wordIs lX12_235 sX12_wordIs (by decide) (Nat.le_of_ble_eq_true rfl) dX12_how_26 rfl ?_
      refine uu_ifb_eq (tgt := 36) dX12_how_29 (by decide) (fun c16 => ?_) (fun c16 => ?_)
      · replace h := uu_neg c16 h
        refine uu_aload_n dX12_how_36 rfl (List.mem_of_getElem? (i := 0) rfl) ?_
        obtain ⟨cq17, cp17, cv17, cw17⟩ := uk.2.1 114 _ rfl
        refine uu_ldcwS cv17 dX12_how_37 ?_
        obtain ⟨v18, e19, h⟩ := uu_ob h
        refine uu_cv (d1 := 4) (k := 1079) (ci := 12) (T := TX12) (N := 153) (As := [.ref cq17]) (st := []) (st' := [.int (bI v18)]) (xc_X12_wordIs uk cw17 e19) so_1079.is (by decide) rfl kX12_wordIs lX12_235 sX12_wordIs (by decide) (Nat.le_of_ble_eq_true rfl) dX12_how_40 rfl ?_
        refine uu_ifb_eq (tgt := 50) dX12_how_43 (by decide) (fun c20 => ?_) (fun c20 => ?_)
        · replace h := uu_neg c20 h
          refine uu_aload_n dX12_how_50 rfl (List.mem_of_getElem? (i := 0) rfl) ?_
          obtain ⟨cq21, cp21, cv21, cw21⟩ := uk.2.1 115 _ rfl
          refine uu_ldcwS cv21 dX12_how_51 ?_
          obtain ⟨v22, e23, h⟩ := uu_ob h
          refine uu_cv (d1 := 4) (k := 1079) (ci := 12) (T := TX12) (N := 153) (As := [.ref cq21]) (st := []) (st' := [.int (bI v22)]) (xc_X12_wordIs uk cw21 e23) so_1079.is (by decide) rfl kX12_wordIs lX12_235 sX12_wordIs (by decide) (Nat.le_of_ble_eq_true rfl) dX12_how_54 rfl ?_
          refine uu_ifb_eq (tgt := 64) dX12_how_57 (by decide) (fun c24 => ?_) (fun c24 => ?_)
          · replace h := uu_neg c24 h
            refine uu_aload_n dX12_how_64 rfl (List.mem_of_getElem? (i := 0) rfl) ?_
            obtain ⟨cq25, cp25, cv25, cw25⟩ := uk.2.1 116 _ rfl
            refine uu_ldcwS cv25 dX12_how_65 ?_
            obtain ⟨v26, e27, h⟩ := uu_ob h
            refine uu_cv (d1 := 4) (k := 1079) (ci := 12) (T := TX12) (N := 153) (As := [.ref cq25]) (st := []) (st' := [.int (bI v26)]) (xc_X12_wordIs uk cw25 e27) so_1079.is (by decide) rfl kX12_wordIs lX12_235 sX12_wordIs (by decide) (Nat.le_of_ble_eq_true rfl) dX12_how_68 rfl ?_
            refine uu_ifb_eq (tgt := 78) dX12_how_71 (by decide) (fun c28 => ?_) (fun c28 => ?_)
            · replace h := uu_neg c28 h
              refine uu_iconst (v := -1) dX12_how_78 (by decide) ?_
              exact xb_X12_how_79 uk hK0 h
            · replace h := uu_pos c28 h
              refine uu_iconst (v := 4) dX12_how_74 (by decide) ?_
              refine uu_goto (tgt := 79) dX12_how_75 (by decide) ?_
              exact xb_X12_how_79 uk hK0 h
          · replace h := uu_pos c24 h
            refine uu_iconst (v := 3) dX12_how_60 (by decide) ?_
            refine uu_goto (tgt := 79) dX12_how_61 (by decide) ?_
            exact xb_X12_how_79 uk hK0 h
        · replace h := uu_pos c20 h
          refine uu_iconst (v := 2) dX12_how_46 (by decide) ?_
          refine uu_goto (tgt := 79) dX12_how_47 (by decide) ?_
          exact xb_X12_how_79 uk hK0 h
      · replace h := uu_pos c16 h
        refine uu_iconst (v := 1) dX12_how_32 (by decide) ?_
        refine uu_goto (tgt := 79) dX12_how_33 (by decide) ?_
        exact xb_X12_how_79 uk hK0 h
    · replace h := uu_pos c12 h
      refine uu_iconst (v := 0) dX12_how_18 (by decide) ?_
      refine uu_goto (tgt := 79) dX12_how_19 (by decide) ?_
      exact xb_X12_how_79 uk hK0 h
def fn_X12_how_0  : Nat → Int32 → uS → Option uS
  | 0 => fun _ _ => none
  | n + 1 => fb_X12_how_0 (fn_X12_how_0  n)
set_option maxRecDepth 100000 in
set_option maxHeartbeats 4000000 in
theorem xn_X12_how_0 {l : Launch} {D : va_G} {A : Nat → ClassId} {B : Nat} {Z : State → Heap → Prop} {vF : Value} (uk : uK B Z vF)   : ∀ (n : Nat) (x1 : Int32)  (s : uS) (r : uS), fn_X12_how_0  n x1 s = some r → GU l D A B Z mX12_how 9 (r, none) s 0 [(0, .ref (B + 1079)), (1, .int x1)] [] := by
  intro n
  induction n with
  | zero => intro x1 s r h
            cases h
  | succ n ih => intro x1 s r h
                 exact xb_X12_how_0 uk ih  h
def fn_X12_how (x1 : Int32) (s : uS) : Option uS := fn_X12_how_0 uFu x1 s
set_option maxRecDepth 100000 in
set_option maxHeartbeats 4000000 in
theorem xc_X12_how {l : Launch} {D : va_G} {A : Nat → ClassId} {B : Nat} {Z : State → Heap → Prop} {vF : Value} (uk : uK B Z vF) {x1 : Int32} {s : uS} {r : uS}  (h : fn_X12_how x1 s = some r) : CU l D A B Z 9 mX12_how s [.ref (B + 1079), .int x1] (r, none) := by
  unfold fn_X12_how at h
  refine cu_of rfl uk.1.1 (Nat.le_of_ble_eq_true rfl) ?_
  show GU _ _ _ _ _ _ _ _ _ 0 [(0, .ref (B + 1079)), (1, .int x1)] []
  exact xn_X12_how_0 uk  _ _ _ _ h
abbrev mX12_size : hM := (yX12_size, cX12_size, 3, none)
theorem dX12_size_89 : decode cX12_size 89 = .ok (.aload_n 0, 1) := by decide +kernel
theorem dX12_size_90 : decode cX12_size 90 = .ok (.getfield 322, 3) := by decide +kernel
theorem dX12_size_93 : decode cX12_size 93 = .ok (.iload_n 1, 1) := by decide +kernel
theorem dX12_size_94 : decode cX12_size 94 = .ok (.aload_n 0, 1) := by decide +kernel
theorem dX12_size_95 : decode cX12_size 95 = .ok (.getfield 251, 3) := by decide +kernel
theorem dX12_size_98 : decode cX12_size 98 = .ok (.iastore, 1) := by decide +kernel
theorem dX12_size_99 : decode cX12_size 99 = .ok (.aload_n 0, 1) := by decide +kernel
theorem dX12_size_100 : decode cX12_size 100 = .ok (.invokevirtual 279, 3) := by decide +kernel
theorem dX12_size_103 : decode cX12_size 103 = .ok (.return_, 1) := by decide +kernel
theorem dX12_size_68 : decode cX12_size 68 = .ok (.iastore, 1) := by decide +kernel
theorem dX12_size_69 : decode cX12_size 69 = .ok (.aload_n 0, 1) := by decide +kernel
theorem dX12_size_70 : decode cX12_size 70 = .ok (.invokevirtual 279, 3) := by decide +kernel
theorem dX12_size_73 : decode cX12_size 73 = .ok (.aload_n 0, 1) := by decide +kernel
theorem dX12_size_74 : decode cX12_size 74 = .ok (.iconst 3, 1) := by decide +kernel
theorem dX12_size_75 : decode cX12_size 75 = .ok (.invokevirtual 273, 3) := by decide +kernel
theorem dX12_size_78 : decode cX12_size 78 = .ok (.ifCond .ne 11, 3) := by decide +kernel
theorem dX12_size_81 : decode cX12_size 81 = .ok (.aload_n 0, 1) := by decide +kernel
theorem dX12_size_82 : decode cX12_size 82 = .ok (.aload_n 0, 1) := by decide +kernel
theorem dX12_size_83 : decode cX12_size 83 = .ok (.getfield 199, 3) := by decide +kernel
theorem dX12_size_86 : decode cX12_size 86 = .ok (.invokevirtual 208, 3) := by decide +kernel
theorem dX12_size_54 : decode cX12_size 54 = .ok (.aload_n 0, 1) := by decide +kernel
theorem dX12_size_55 : decode cX12_size 55 = .ok (.getfield 310, 3) := by decide +kernel
theorem dX12_size_58 : decode cX12_size 58 = .ok (.iload_n 1, 1) := by decide +kernel
theorem dX12_size_59 : decode cX12_size 59 = .ok (.iload_n 2, 1) := by decide +kernel
theorem dX12_size_60 : decode cX12_size 60 = .ok (.ifCond .eq 7, 3) := by decide +kernel
theorem dX12_size_67 : decode cX12_size 67 = .ok (.iconst 0, 1) := by decide +kernel
theorem dX12_size_63 : decode cX12_size 63 = .ok (.iconst 1, 1) := by decide +kernel
theorem dX12_size_64 : decode cX12_size 64 = .ok (.goto 4, 3) := by decide +kernel
theorem dX12_size_46 : decode cX12_size 46 = .ok (.aload_n 0, 1) := by decide +kernel
theorem dX12_size_47 : decode cX12_size 47 = .ok (.aload_n 0, 1) := by decide +kernel
theorem dX12_size_48 : decode cX12_size 48 = .ok (.getfield 199, 3) := by decide +kernel
theorem dX12_size_51 : decode cX12_size 51 = .ok (.invokevirtual 208, 3) := by decide +kernel
theorem dX12_size_23 : decode cX12_size 23 = .ok (.istore_n 2, 1) := by decide +kernel
theorem dX12_size_24 : decode cX12_size 24 = .ok (.iload_n 2, 1) := by decide +kernel
theorem dX12_size_25 : decode cX12_size 25 = .ok (.ifCond .ne 29, 3) := by decide +kernel
theorem dX12_size_28 : decode cX12_size 28 = .ok (.aload_n 0, 1) := by decide +kernel
theorem dX12_size_29 : decode cX12_size 29 = .ok (.iconst 2, 1) := by decide +kernel
theorem dX12_size_30 : decode cX12_size 30 = .ok (.invokevirtual 273, 3) := by decide +kernel
theorem dX12_size_33 : decode cX12_size 33 = .ok (.ifCond .eq 13, 3) := by decide +kernel
theorem dX12_size_36 : decode cX12_size 36 = .ok (.aload_n 0, 1) := by decide +kernel
theorem dX12_size_37 : decode cX12_size 37 = .ok (.ldc_w 510, 3) := by decide +kernel
theorem dX12_size_40 : decode cX12_size 40 = .ok (.invokevirtual 235, 3) := by decide +kernel
theorem dX12_size_43 : decode cX12_size 43 = .ok (.ifCond .ne 11, 3) := by decide +kernel
theorem dX12_size_0 : decode cX12_size 0 = .ok (.aload_n 0, 1) := by decide +kernel
theorem dX12_size_1 : decode cX12_size 1 = .ok (.iconst 2, 1) := by decide +kernel
theorem dX12_size_2 : decode cX12_size 2 = .ok (.invokevirtual 273, 3) := by decide +kernel
theorem dX12_size_5 : decode cX12_size 5 = .ok (.ifCond .eq 17, 3) := by decide +kernel
theorem dX12_size_22 : decode cX12_size 22 = .ok (.iconst 0, 1) := by decide +kernel
theorem dX12_size_8 : decode cX12_size 8 = .ok (.aload_n 0, 1) := by decide +kernel
theorem dX12_size_9 : decode cX12_size 9 = .ok (.ldc_w 508, 3) := by decide +kernel
theorem dX12_size_12 : decode cX12_size 12 = .ok (.invokevirtual 235, 3) := by decide +kernel
theorem dX12_size_15 : decode cX12_size 15 = .ok (.ifCond .eq 7, 3) := by decide +kernel
theorem dX12_size_18 : decode cX12_size 18 = .ok (.iconst 1, 1) := by decide +kernel
theorem dX12_size_19 : decode cX12_size 19 = .ok (.goto 4, 3) := by decide +kernel
def fb_X12_size_89  (x1 : Int32) (s : uS) : Option uS := (iput 20 s 1113 x1 (s.I 1079 35)).bind fun s1 => (fn_X12_next s1).bind fun s3 => some s3
set_option maxRecDepth 100000 in
set_option maxHeartbeats 4000000 in
theorem xb_X12_size_89 {l : Launch} {D : va_G} {A : Nat → ClassId} {B : Nat} {Z : State → Heap → Prop} {vF : Value} (uk : uK B Z vF)   {x1 : Int32} {s : uS} {r : uS}  (h : fb_X12_size_89  x1 s = some r) : GU l D A B Z mX12_size 8 (r, none) s 89 [(0, .ref (B + 1079)), (1, .int x1)] [] := by
  unfold fb_X12_size_89 at h
  refine uu_aload_n dX12_size_89 rfl (List.mem_of_getElem? (i := 0) rfl) ?_
  refine uu_geta (ci := 12) (N := 153) fX12_322 (by decide) so_1079.is (by decide) (c := 1113) (by decide) dX12_size_90 ?_
  refine uu_iload_n dX12_size_93 rfl (List.mem_of_getElem? (i := 1) rfl) ?_
  refine uu_aload_n dX12_size_94 rfl (List.mem_of_getElem? (i := 0) rfl) ?_
  refine uu_geti (ci := 12) (N := 153) fX12_251 (by decide) so_1079.is (by decide) (by decide) dX12_size_95 ?_
  obtain ⟨s1, e2, h⟩ := uu_ob h
  refine uu_iast e2 dX12_size_98 ?_
  refine uu_aload_n dX12_size_99 rfl (List.mem_of_getElem? (i := 0) rfl) ?_
  obtain ⟨s3, e4, h⟩ := uu_ob h
  refine uu_cv (d1 := 7) (k := 1079) (ci := 12) (T := TX12) (N := 153) (As := []) (st := []) (st' := []) (xc_X12_next uk  e4) so_1079.is (by decide) rfl kX12_next lX12_279 sX12_next (by decide) (Nat.le_of_ble_eq_true rfl) dX12_size_100 rfl ?_
  have hr := Option.some.inj h
  subst hr
  exact uu_vret rfl dX12_size_103
def fb_X12_size_68  (x1 : Int32) (bs0 : Bool) (xs1 : Int32) (s : uS) : Option uS := (iput 20 s 1109 xs1 (bI bs0)).bind fun s1 => (fn_X12_next s1).bind fun s3 => (fn_X12_is 3 s3).bind fun v5 => if v5 = true then (fb_X12_size_89 x1 s3) else ((fn_X12_fail (s3.I 1079 32) s3).bind fun s8 => fb_X12_size_89 x1 s8)
set_option maxRecDepth 100000 in
set_option maxHeartbeats 4000000 in
theorem xb_X12_size_68 {l : Launch} {D : va_G} {A : Nat → ClassId} {B : Nat} {Z : State → Heap → Prop} {vF : Value} (uk : uK B Z vF)   {x1 : Int32} {bs0 : Bool} {xs1 : Int32} {s : uS} {r : uS}  (h : fb_X12_size_68  x1 bs0 xs1 s = some r) : GU l D A B Z mX12_size 8 (r, none) s 68 [(0, .ref (B + 1079)), (1, .int x1)] [.int (bI bs0), .int xs1, .ref (B + 1109)] := by
  unfold fb_X12_size_68 at h
  obtain ⟨s1, e2, h⟩ := uu_ob h
  refine uu_iast e2 dX12_size_68 ?_
  refine uu_aload_n dX12_size_69 rfl (List.mem_of_getElem? (i := 0) rfl) ?_
  obtain ⟨s3, e4, h⟩ := uu_ob h
  refine uu_cv (d1 := 7) (k := 1079) (ci := 12) (T := TX12) (N := 153) (As := []) (st := []) (st' := []) (xc_X12_next uk  e4) so_1079.is (by decide) rfl kX12_next lX12_279 sX12_next (by decide) (Nat.le_of_ble_eq_true rfl) dX12_size_70 rfl ?_
  refine uu_aload_n dX12_size_73 rfl (List.mem_of_getElem? (i := 0) rfl) ?_
  refine uu_iconst (v := 3) dX12_size_74 (by decide) ?_
  obtain ⟨v5, e6, h⟩ := uu_ob h
  refine uu_cv (d1 := 0) (k := 1079) (ci := 12) (T := TX12) (N := 153) (As := [.int 3]) (st := []) (st' := [.int (bI v5)]) (xc_X12_is uk  e6) so_1079.is (by decide) rfl kX12_is lX12_273 sX12_is (by decide) (Nat.le_of_ble_eq_true rfl) dX12_size_75 rfl ?_
  refine uu_ifb_ne (tgt := 89) dX12_size_78 (by decide) (fun c7 => ?_) (fun c7 => ?_)
  · replace h := uu_pos c7 h
    exact xb_X12_size_89 uk  h
  · replace h := uu_neg c7 h
    refine uu_aload_n dX12_size_81 rfl (List.mem_of_getElem? (i := 0) rfl) ?_
    refine uu_aload_n dX12_size_82 rfl (List.mem_of_getElem? (i := 0) rfl) ?_
    refine uu_geti (ci := 12) (N := 153) fX12_199 (by decide) so_1079.is (by decide) (by decide) dX12_size_83 ?_
    obtain ⟨s8, e9, h⟩ := uu_ob h
    refine uu_cv (d1 := 0) (k := 1079) (ci := 12) (T := TX12) (N := 153) (As := [.int (s3.I 1079 32)]) (st := []) (st' := []) (xc_X12_fail uk  e9) so_1079.is (by decide) rfl kX12_fail lX12_208 sX12_fail (by decide) (Nat.le_of_ble_eq_true rfl) dX12_size_86 rfl ?_
    exact xb_X12_size_89 uk  h
def fb_X12_size_54  (x1 : Int32) (b2 : Bool) (s : uS) : Option uS := if b2 = true then (fb_X12_size_68 x1 true x1 s) else (fb_X12_size_68 x1 false x1 s)
set_option maxRecDepth 100000 in
set_option maxHeartbeats 4000000 in
theorem xb_X12_size_54 {l : Launch} {D : va_G} {A : Nat → ClassId} {B : Nat} {Z : State → Heap → Prop} {vF : Value} (uk : uK B Z vF)   {x1 : Int32} {b2 : Bool} {s : uS} {r : uS}  (h : fb_X12_size_54  x1 b2 s = some r) : GU l D A B Z mX12_size 8 (r, none) s 54 [(0, .ref (B + 1079)), (1, .int x1), (2, .int (bI b2))] [] := by
  unfold fb_X12_size_54 at h
  refine uu_aload_n dX12_size_54 rfl (List.mem_of_getElem? (i := 0) rfl) ?_
  refine uu_geta (ci := 12) (N := 153) fX12_310 (by decide) so_1079.is (by decide) (c := 1109) (by decide) dX12_size_55 ?_
  refine uu_iload_n dX12_size_58 rfl (List.mem_of_getElem? (i := 1) rfl) ?_
  refine uu_iload_n dX12_size_59 rfl (List.mem_of_getElem? (i := 2) rfl) ?_
  refine uu_ifb_eq (tgt := 67) dX12_size_60 (by decide) (fun c1 => ?_) (fun c1 => ?_)
  · replace h := uu_neg c1 h
    refine uu_iconst (v := 0) dX12_size_67 (by decide) ?_
    refine uu_lv [0, 1] (lv' := [(0, .ref (B + 1079)), (1, .int x1)]) rfl ?_
    exact xb_X12_size_68 uk  h
  · replace h := uu_pos c1 h
    refine uu_iconst (v := 1) dX12_size_63 (by decide) ?_
    refine uu_goto (tgt := 68) dX12_size_64 (by decide) ?_
    refine uu_lv [0, 1] (lv' := [(0, .ref (B + 1079)), (1, .int x1)]) rfl ?_
    exact xb_X12_size_68 uk  h
def fb_X12_size_46  (x1 : Int32) (b2 : Bool) (s : uS) : Option uS := (fn_X12_fail (s.I 1079 32) s).bind fun s1 => fb_X12_size_54 x1 b2 s1
set_option maxRecDepth 100000 in
set_option maxHeartbeats 4000000 in
theorem xb_X12_size_46 {l : Launch} {D : va_G} {A : Nat → ClassId} {B : Nat} {Z : State → Heap → Prop} {vF : Value} (uk : uK B Z vF)   {x1 : Int32} {b2 : Bool} {s : uS} {r : uS}  (h : fb_X12_size_46  x1 b2 s = some r) : GU l D A B Z mX12_size 8 (r, none) s 46 [(0, .ref (B + 1079)), (1, .int x1), (2, .int (bI b2))] [] := by
  unfold fb_X12_size_46 at h
  refine uu_aload_n dX12_size_46 rfl (List.mem_of_getElem? (i := 0) rfl) ?_
  refine uu_aload_n dX12_size_47 rfl (List.mem_of_getElem? (i := 0) rfl) ?_
  refine uu_geti (ci := 12) (N := 153) fX12_199 (by decide) so_1079.is (by decide) (by decide) dX12_size_48 ?_
  obtain ⟨s1, e2, h⟩ := uu_ob h
  refine uu_cv (d1 := 0) (k := 1079) (ci := 12) (T := TX12) (N := 153) (As := [.int (s.I 1079 32)]) (st := []) (st' := []) (xc_X12_fail uk  e2) so_1079.is (by decide) rfl kX12_fail lX12_208 sX12_fail (by decide) (Nat.le_of_ble_eq_true rfl) dX12_size_51 rfl ?_
  exact xb_X12_size_54 uk  h
def fb_X12_size_23  (x1 : Int32) (bs0 : Bool) (s : uS) : Option uS := if bs0 = true then (fb_X12_size_54 x1 bs0 s) else ((fn_X12_is 2 s).bind fun v2 => if v2 = true then ((fn_X12_wordIs kW_111 s).bind fun v6 => if v6 = true then (fb_X12_size_54 x1 bs0 s) else (fb_X12_size_46 x1 bs0 s)) else (fb_X12_size_46 x1 bs0 s))
set_option maxRecDepth 100000 in
set_option maxHeartbeats 4000000 in
theorem xb_X12_size_23 {l : Launch} {D : va_G} {A : Nat → ClassId} {B : Nat} {Z : State → Heap → Prop} {vF : Value} (uk : uK B Z vF)   {x1 : Int32} {bs0 : Bool} {s : uS} {r : uS}  (h : fb_X12_size_23  x1 bs0 s = some r) : GU l D A B Z mX12_size 8 (r, none) s 23 [(0, .ref (B + 1079)), (1, .int x1)] [.int (bI bs0)] := by
  unfold fb_X12_size_23 at h
  refine uu_istore_n dX12_size_23 rfl (by decide) rfl ?_
  refine uu_iload_n dX12_size_24 rfl (List.mem_of_getElem? (i := 0) rfl) ?_
  refine uu_ifb_ne (tgt := 54) dX12_size_25 (by decide) (fun c1 => ?_) (fun c1 => ?_)
  · replace h := uu_pos c1 h
    refine uu_lv [1, 2, 0] (lv' := [(0, .ref (B + 1079)), (1, .int x1), (2, .int (bI bs0))]) rfl ?_
    exact xb_X12_size_54 uk  h
  · replace h := uu_neg c1 h
    refine uu_aload_n dX12_size_28 rfl (List.mem_of_getElem? (i := 1) rfl) ?_
    refine uu_iconst (v := 2) dX12_size_29 (by decide) ?_
    obtain ⟨v2, e3, h⟩ := uu_ob h
    refine uu_cv (d1 := 0) (k := 1079) (ci := 12) (T := TX12) (N := 153) (As := [.int 2]) (st := []) (st' := [.int (bI v2)]) (xc_X12_is uk  e3) so_1079.is (by decide) rfl kX12_is lX12_273 sX12_is (by decide) (Nat.le_of_ble_eq_true rfl) dX12_size_30 rfl ?_
    refine uu_ifb_eq (tgt := 46) dX12_size_33 (by decide) (fun c4 => ?_) (fun c4 => ?_)
    · replace h := uu_neg c4 h
      refine uu_lv [1, 2, 0] (lv' := [(0, .ref (B + 1079)), (1, .int x1), (2, .int (bI bs0))]) rfl ?_
      exact xb_X12_size_46 uk  h
    · replace h := uu_pos c4 h
      refine uu_aload_n dX12_size_36 rfl (List.mem_of_getElem? (i := 1) rfl) ?_
      obtain ⟨cq5, cp5, cv5, cw5⟩ := uk.2.1 111 _ rfl
      refine uu_ldcwS cv5 dX12_size_37 ?_
      obtain ⟨v6, e7, h⟩ := uu_ob h
      refine uu_cv (d1 := 4) (k := 1079) (ci := 12) (T := TX12) (N := 153) (As := [.ref cq5]) (st := []) (st' := [.int (bI v6)]) (xc_X12_wordIs uk cw5 e7) so_1079.is (by decide) rfl kX12_wordIs lX12_235 sX12_wordIs (by decide) (Nat.le_of_ble_eq_true rfl) dX12_size_40 rfl ?_
      refine uu_ifb_ne (tgt := 54) dX12_size_43 (by decide) (fun c8 => ?_) (fun c8 => ?_)
      · replace h := uu_pos c8 h
        refine uu_lv [1, 2, 0] (lv' := [(0, .ref (B + 1079)), (1, .int x1), (2, .int (bI bs0))]) rfl ?_
        exact xb_X12_size_54 uk  h
      · replace h := uu_neg c8 h
        refine uu_lv [1, 2, 0] (lv' := [(0, .ref (B + 1079)), (1, .int x1), (2, .int (bI bs0))]) rfl ?_
        exact xb_X12_size_46 uk  h
def fn_X12_size (x1 : Int32) (s : uS) : Option uS := (fn_X12_is 2 s).bind fun v1 => if v1 = true then ((fn_X12_wordIs kW_110 s).bind fun v5 => if v5 = true then (fb_X12_size_23 x1 true s) else (fb_X12_size_23 x1 false s)) else (fb_X12_size_23 x1 false s)
set_option maxRecDepth 100000 in
set_option maxHeartbeats 4000000 in
theorem xc_X12_size {l : Launch} {D : va_G} {A : Nat → ClassId} {B : Nat} {Z : State → Heap → Prop} {vF : Value} (uk : uK B Z vF) {x1 : Int32} {s : uS} {r : uS}  (h : fn_X12_size x1 s = some r) : CU l D A B Z 8 mX12_size s [.ref (B + 1079), .int x1] (r, none) := by
  unfold fn_X12_size at h
  refine cu_of rfl uk.1.1 (Nat.le_of_ble_eq_true rfl) ?_
  show GU _ _ _ _ _ _ _ _ _ 0 [(0, .ref (B + 1079)), (1, .int x1)] []
  refine uu_aload_n dX12_size_0 rfl (List.mem_of_getElem? (i := 0) rfl) ?_
  refine uu_iconst (v := 2) dX12_size_1 (by decide) ?_
  obtain ⟨v1, e2, h⟩ := uu_ob h
  refine uu_cv (d1 := 0) (k := 1079) (ci := 12) (T := TX12) (N := 153) (As := [.int 2]) (st := []) (st' := [.int (bI v1)]) (xc_X12_is uk  e2) so_1079.is (by decide) rfl kX12_is lX12_273 sX12_is (by decide) (Nat.le_of_ble_eq_true rfl) dX12_size_2 rfl ?_
  refine uu_ifb_eq (tgt := 22) dX12_size_5 (by decide) (fun c3 => ?_) (fun c3 => ?_)
  · replace h := uu_neg c3 h
    refine uu_iconst (v := 0) dX12_size_22 (by decide) ?_
    exact xb_X12_size_23 uk  h
  · replace h := uu_pos c3 h
    refine uu_aload_n dX12_size_8 rfl (List.mem_of_getElem? (i := 0) rfl) ?_
    obtain ⟨cq4, cp4, cv4, cw4⟩ := uk.2.1 110 _ rfl
    refine uu_ldcwS cv4 dX12_size_9 ?_
    obtain ⟨v5, e6, h⟩ := uu_ob h
    refine uu_cv (d1 := 4) (k := 1079) (ci := 12) (T := TX12) (N := 153) (As := [.ref cq4]) (st := []) (st' := [.int (bI v5)]) (xc_X12_wordIs uk cw4 e6) so_1079.is (by decide) rfl kX12_wordIs lX12_235 sX12_wordIs (by decide) (Nat.le_of_ble_eq_true rfl) dX12_size_12 rfl ?_
    refine uu_ifb_eq (tgt := 22) dX12_size_15 (by decide) (fun c7 => ?_) (fun c7 => ?_)
    · replace h := uu_neg c7 h
      refine uu_iconst (v := 0) dX12_size_22 (by decide) ?_
      exact xb_X12_size_23 uk  h
    · replace h := uu_pos c7 h
      refine uu_iconst (v := 1) dX12_size_18 (by decide) ?_
      refine uu_goto (tgt := 23) dX12_size_19 (by decide) ?_
      exact xb_X12_size_23 uk  h
abbrev mX12_require : hM := (yX12_require, cX12_require, 3, none)
theorem dX12_require_140 : decode cX12_require 140 = .ok (.aload_n 0, 1) := by decide +kernel
theorem dX12_require_141 : decode cX12_require 141 = .ok (.aload_n 0, 1) := by decide +kernel
theorem dX12_require_142 : decode cX12_require 142 = .ok (.getfield 337, 3) := by decide +kernel
theorem dX12_require_145 : decode cX12_require 145 = .ok (.iload_n 2, 1) := by decide +kernel
theorem dX12_require_146 : decode cX12_require 146 = .ok (.ior, 1) := by decide +kernel
theorem dX12_require_147 : decode cX12_require 147 = .ok (.putfield 337, 3) := by decide +kernel
theorem dX12_require_150 : decode cX12_require 150 = .ok (.return_, 1) := by decide +kernel
theorem dX12_require_127 : decode cX12_require 127 = .ok (.istore_n 2, 1) := by decide +kernel
theorem dX12_require_128 : decode cX12_require 128 = .ok (.iload_n 2, 1) := by decide +kernel
theorem dX12_require_129 : decode cX12_require 129 = .ok (.ifCond .ne 11, 3) := by decide +kernel
theorem dX12_require_132 : decode cX12_require 132 = .ok (.aload_n 0, 1) := by decide +kernel
theorem dX12_require_133 : decode cX12_require 133 = .ok (.aload_n 0, 1) := by decide +kernel
theorem dX12_require_134 : decode cX12_require 134 = .ok (.getfield 199, 3) := by decide +kernel
theorem dX12_require_137 : decode cX12_require 137 = .ok (.invokevirtual 208, 3) := by decide +kernel
theorem dX12_require_0 : decode cX12_require 0 = .ok (.aload_n 0, 1) := by decide +kernel
theorem dX12_require_1 : decode cX12_require 1 = .ok (.iload_n 1, 1) := by decide +kernel
theorem dX12_require_2 : decode cX12_require 2 = .ok (.ldc_w 380, 3) := by decide +kernel
theorem dX12_require_5 : decode cX12_require 5 = .ok (.invokevirtual 382, 3) := by decide +kernel
theorem dX12_require_8 : decode cX12_require 8 = .ok (.ifCond .eq 7, 3) := by decide +kernel
theorem dX12_require_15 : decode cX12_require 15 = .ok (.aload_n 0, 1) := by decide +kernel
theorem dX12_require_16 : decode cX12_require 16 = .ok (.iload_n 1, 1) := by decide +kernel
theorem dX12_require_17 : decode cX12_require 17 = .ok (.ldc_w 386, 3) := by decide +kernel
theorem dX12_require_20 : decode cX12_require 20 = .ok (.invokevirtual 382, 3) := by decide +kernel
theorem dX12_require_23 : decode cX12_require 23 = .ok (.ifCond .eq 7, 3) := by decide +kernel
theorem dX12_require_30 : decode cX12_require 30 = .ok (.aload_n 0, 1) := by decide +kernel
theorem dX12_require_31 : decode cX12_require 31 = .ok (.iload_n 1, 1) := by decide +kernel
theorem dX12_require_32 : decode cX12_require 32 = .ok (.ldc_w 388, 3) := by decide +kernel
theorem dX12_require_35 : decode cX12_require 35 = .ok (.invokevirtual 382, 3) := by decide +kernel
theorem dX12_require_38 : decode cX12_require 38 = .ok (.ifCond .eq 7, 3) := by decide +kernel
theorem dX12_require_45 : decode cX12_require 45 = .ok (.aload_n 0, 1) := by decide +kernel
theorem dX12_require_46 : decode cX12_require 46 = .ok (.iload_n 1, 1) := by decide +kernel
theorem dX12_require_47 : decode cX12_require 47 = .ok (.ldc_w 390, 3) := by decide +kernel
theorem dX12_require_50 : decode cX12_require 50 = .ok (.invokevirtual 382, 3) := by decide +kernel
theorem dX12_require_53 : decode cX12_require 53 = .ok (.ifCond .eq 8, 3) := by decide +kernel
theorem dX12_require_61 : decode cX12_require 61 = .ok (.aload_n 0, 1) := by decide +kernel
theorem dX12_require_62 : decode cX12_require 62 = .ok (.iload_n 1, 1) := by decide +kernel
theorem dX12_require_63 : decode cX12_require 63 = .ok (.ldc_w 392, 3) := by decide +kernel
theorem dX12_require_66 : decode cX12_require 66 = .ok (.invokevirtual 382, 3) := by decide +kernel
theorem dX12_require_69 : decode cX12_require 69 = .ok (.ifCond .eq 8, 3) := by decide +kernel
theorem dX12_require_77 : decode cX12_require 77 = .ok (.aload_n 0, 1) := by decide +kernel
theorem dX12_require_78 : decode cX12_require 78 = .ok (.iload_n 1, 1) := by decide +kernel
theorem dX12_require_79 : decode cX12_require 79 = .ok (.ldc_w 394, 3) := by decide +kernel
theorem dX12_require_82 : decode cX12_require 82 = .ok (.invokevirtual 382, 3) := by decide +kernel
theorem dX12_require_85 : decode cX12_require 85 = .ok (.ifCond .eq 8, 3) := by decide +kernel
theorem dX12_require_93 : decode cX12_require 93 = .ok (.aload_n 0, 1) := by decide +kernel
theorem dX12_require_94 : decode cX12_require 94 = .ok (.iload_n 1, 1) := by decide +kernel
theorem dX12_require_95 : decode cX12_require 95 = .ok (.ldc_w 396, 3) := by decide +kernel
theorem dX12_require_98 : decode cX12_require 98 = .ok (.invokevirtual 382, 3) := by decide +kernel
theorem dX12_require_101 : decode cX12_require 101 = .ok (.ifCond .eq 8, 3) := by decide +kernel
theorem dX12_require_109 : decode cX12_require 109 = .ok (.aload_n 0, 1) := by decide +kernel
theorem dX12_require_110 : decode cX12_require 110 = .ok (.iload_n 1, 1) := by decide +kernel
theorem dX12_require_111 : decode cX12_require 111 = .ok (.ldc_w 398, 3) := by decide +kernel
theorem dX12_require_114 : decode cX12_require 114 = .ok (.invokevirtual 382, 3) := by decide +kernel
theorem dX12_require_117 : decode cX12_require 117 = .ok (.ifCond .eq 9, 3) := by decide +kernel
theorem dX12_require_126 : decode cX12_require 126 = .ok (.iconst 0, 1) := by decide +kernel
theorem dX12_require_120 : decode cX12_require 120 = .ok (.sipush 128, 3) := by decide +kernel
theorem dX12_require_123 : decode cX12_require 123 = .ok (.goto 4, 3) := by decide +kernel
theorem dX12_require_104 : decode cX12_require 104 = .ok (.bipush 64, 2) := by decide +kernel
theorem dX12_require_106 : decode cX12_require 106 = .ok (.goto 21, 3) := by decide +kernel
theorem dX12_require_88 : decode cX12_require 88 = .ok (.bipush 32, 2) := by decide +kernel
theorem dX12_require_90 : decode cX12_require 90 = .ok (.goto 37, 3) := by decide +kernel
theorem dX12_require_72 : decode cX12_require 72 = .ok (.bipush 16, 2) := by decide +kernel
theorem dX12_require_74 : decode cX12_require 74 = .ok (.goto 53, 3) := by decide +kernel
theorem dX12_require_56 : decode cX12_require 56 = .ok (.bipush 8, 2) := by decide +kernel
theorem dX12_require_58 : decode cX12_require 58 = .ok (.goto 69, 3) := by decide +kernel
theorem dX12_require_41 : decode cX12_require 41 = .ok (.iconst 4, 1) := by decide +kernel
theorem dX12_require_42 : decode cX12_require 42 = .ok (.goto 85, 3) := by decide +kernel
theorem dX12_require_26 : decode cX12_require 26 = .ok (.iconst 2, 1) := by decide +kernel
theorem dX12_require_27 : decode cX12_require 27 = .ok (.goto 100, 3) := by decide +kernel
theorem dX12_require_11 : decode cX12_require 11 = .ok (.iconst 1, 1) := by decide +kernel
theorem dX12_require_12 : decode cX12_require 12 = .ok (.goto 115, 3) := by decide +kernel
def fb_X12_require_140  (x2 : Int32) (s : uS) : Option uS := some (wI s 1079 64 ((s.I 1079 64) ||| x2))
set_option maxRecDepth 100000 in
set_option maxHeartbeats 4000000 in
theorem xb_X12_require_140 {l : Launch} {D : va_G} {A : Nat → ClassId} {B : Nat} {Z : State → Heap → Prop} {vF : Value} (uk : uK B Z vF)   {x2 : Int32} {s : uS} {r : uS}  (h : fb_X12_require_140  x2 s = some r) : GU l D A B Z mX12_require 5 (r, none) s 140 [(0, .ref (B + 1079)), (2, .int x2)] [] := by
  unfold fb_X12_require_140 at h
  refine uu_aload_n dX12_require_140 rfl (List.mem_of_getElem? (i := 0) rfl) ?_
  refine uu_aload_n dX12_require_141 rfl (List.mem_of_getElem? (i := 0) rfl) ?_
  refine uu_geti (ci := 12) (N := 153) fX12_337 (by decide) so_1079.is (by decide) (by decide) dX12_require_142 ?_
  refine uu_iload_n dX12_require_145 rfl (List.mem_of_getElem? (i := 1) rfl) ?_
  refine uu_ior dX12_require_146 ?_
  refine uu_puti (ft := .int) (ci := 12) (N := 153) fX12_337 ptX12 (Or.inl rfl) (by decide) so_1079.is (by decide) (by decide) (by decide +kernel) rfl rfl dX12_require_147 ?_
  have hr := Option.some.inj h
  subst hr
  exact uu_vret rfl dX12_require_150
def fb_X12_require_127  (xs0 : Int32) (s : uS) : Option uS := if xs0 = 0 then ((fn_X12_fail (s.I 1079 32) s).bind fun s2 => fb_X12_require_140 xs0 s2) else (fb_X12_require_140 xs0 s)
set_option maxRecDepth 100000 in
set_option maxHeartbeats 4000000 in
theorem xb_X12_require_127 {l : Launch} {D : va_G} {A : Nat → ClassId} {B : Nat} {Z : State → Heap → Prop} {vF : Value} (uk : uK B Z vF)   {xs0 : Int32} {s : uS} {r : uS}  (h : fb_X12_require_127  xs0 s = some r) : GU l D A B Z mX12_require 5 (r, none) s 127 [(0, .ref (B + 1079))] [.int xs0] := by
  unfold fb_X12_require_127 at h
  refine uu_istore_n dX12_require_127 rfl (by decide) rfl ?_
  refine uu_iload_n dX12_require_128 rfl (List.mem_of_getElem? (i := 0) rfl) ?_
  refine uu_if_ne (tgt := 140) dX12_require_129 (by decide) (fun c1 => ?_) (fun c1 => ?_)
  · replace h := uu_neg c1 h
    refine uu_lv [1, 0] (lv' := [(0, .ref (B + 1079)), (2, .int xs0)]) rfl ?_
    exact xb_X12_require_140 uk  h
  · replace h := uu_pos c1 h
    refine uu_aload_n dX12_require_132 rfl (List.mem_of_getElem? (i := 1) rfl) ?_
    refine uu_aload_n dX12_require_133 rfl (List.mem_of_getElem? (i := 1) rfl) ?_
    refine uu_geti (ci := 12) (N := 153) fX12_199 (by decide) so_1079.is (by decide) (by decide) dX12_require_134 ?_
    obtain ⟨s2, e3, h⟩ := uu_ob h
    refine uu_cv (d1 := 0) (k := 1079) (ci := 12) (T := TX12) (N := 153) (As := [.int (s.I 1079 32)]) (st := []) (st' := []) (xc_X12_fail uk  e3) so_1079.is (by decide) rfl kX12_fail lX12_208 sX12_fail (by decide) (Nat.le_of_ble_eq_true rfl) dX12_require_137 rfl ?_
    refine uu_lv [1, 0] (lv' := [(0, .ref (B + 1079)), (2, .int xs0)]) rfl ?_
    exact xb_X12_require_140 uk  h
def fn_X12_require (x1 : Int32) (s : uS) : Option uS := (fn_X12_stringIs x1 kW_77 s).bind fun v2 => if v2 = true then (fb_X12_require_127 1 s) else ((fn_X12_stringIs x1 kW_78 s).bind fun v6 => if v6 = true then (fb_X12_require_127 2 s) else ((fn_X12_stringIs x1 kW_79 s).bind fun v10 => if v10 = true then (fb_X12_require_127 4 s) else ((fn_X12_stringIs x1 kW_80 s).bind fun v14 => if v14 = true then (fb_X12_require_127 8 s) else ((fn_X12_stringIs x1 kW_81 s).bind fun v18 => if v18 = true then (fb_X12_require_127 16 s) else ((fn_X12_stringIs x1 kW_82 s).bind fun v22 => if v22 = true then (fb_X12_require_127 32 s) else ((fn_X12_stringIs x1 kW_83 s).bind fun v26 => if v26 = true then (fb_X12_require_127 64 s) else ((fn_X12_stringIs x1 kW_84 s).bind fun v30 => if v30 = true then (fb_X12_require_127 128 s) else (fb_X12_require_127 0 s))))))))
set_option maxRecDepth 100000 in
set_option maxHeartbeats 4000000 in
theorem xc_X12_require {l : Launch} {D : va_G} {A : Nat → ClassId} {B : Nat} {Z : State → Heap → Prop} {vF : Value} (uk : uK B Z vF) {x1 : Int32} {s : uS} {r : uS}  (h : fn_X12_require x1 s = some r) : CU l D A B Z 5 mX12_require s [.ref (B + 1079), .int x1] (r, none) := by
  unfold fn_X12_require at h
  refine cu_of rfl uk.1.1 (Nat.le_of_ble_eq_true rfl) ?_
  show GU _ _ _ _ _ _ _ _ _ 0 [(0, .ref (B + 1079)), (1, .int x1)] []
  refine uu_aload_n dX12_require_0 rfl (List.mem_of_getElem? (i := 0) rfl) ?_
  refine uu_iload_n dX12_require_1 rfl (List.mem_of_getElem? (i := 1) rfl) ?_
  obtain ⟨cq1, cp1, cv1, cw1⟩ := uk.2.1 77 _ rfl
  refine uu_ldcwS cv1 dX12_require_2 ?_
  obtain ⟨v2, e3, h⟩ := uu_ob h
  refine uu_cv (d1 := 4) (k := 1079) (ci := 12) (T := TX12) (N := 153) (As := [.int x1, .ref cq1]) (st := []) (st' := [.int (bI v2)]) (xc_X12_stringIs uk cw1 e3) so_1079.is (by decide) rfl kX12_stringIs lX12_382 sX12_stringIs (by decide) (Nat.le_of_ble_eq_true rfl) dX12_require_5 rfl ?_
  refine uu_ifb_eq (tgt := 15) dX12_require_8 (by decide) (fun c4 => ?_) (fun c4 => ?_)
  · replace h := uu_neg c4 h
    refine uu_aload_n dX12_require_15 rfl (List.mem_of_getElem? (i := 0) rfl) ?_
    refine uu_iload_n dX12_require_16 rfl (List.mem_of_getElem? (i := 1) rfl) ?_
    obtain ⟨cq5, cp5, cv5, cw5⟩ := uk.2.1 78 _ rfl
    refine uu_ldcwS cv5 dX12_require_17 ?_
    obtain ⟨v6, e7, h⟩ := uu_ob h
    refine uu_cv (d1 := 4) (k := 1079) (ci := 12) (T := TX12) (N := 153) (As := [.int x1, .ref cq5]) (st := []) (st' := [.int (bI v6)]) (xc_X12_stringIs uk cw5 e7) so_1079.is (by decide) rfl kX12_stringIs lX12_382 sX12_stringIs (by decide) (Nat.le_of_ble_eq_true rfl) dX12_require_20 rfl ?_
    refine uu_ifb_eq (tgt := 30) dX12_require_23 (by decide) (fun c8 => ?_) (fun c8 => ?_)
    · replace h := uu_neg c8 h
      refine uu_aload_n dX12_require_30 rfl (List.mem_of_getElem? (i := 0) rfl) ?_
      refine uu_iload_n dX12_require_31 rfl (List.mem_of_getElem? (i := 1) rfl) ?_
      obtain ⟨cq9, cp9, cv9, cw9⟩ := uk.2.1 79 _ rfl
      refine uu_ldcwS cv9 dX12_require_32 ?_
      obtain ⟨v10, e11, h⟩ := uu_ob h
      refine uu_cv (d1 := 4) (k := 1079) (ci := 12) (T := TX12) (N := 153) (As := [.int x1, .ref cq9]) (st := []) (st' := [.int (bI v10)]) (xc_X12_stringIs uk cw9 e11) so_1079.is (by decide) rfl kX12_stringIs lX12_382 sX12_stringIs (by decide) (Nat.le_of_ble_eq_true rfl) dX12_require_35 rfl ?_
      refine uu_ifb_eq (tgt := 45) dX12_require_38 (by decide) (fun c12 => ?_) (fun c12 => ?_)
      · replace h := uu_neg c12 h
        refine uu_aload_n dX12_require_45 rfl (List.mem_of_getElem? (i := 0) rfl) ?_
        refine uu_iload_n dX12_require_46 rfl (List.mem_of_getElem? (i := 1) rfl) ?_
        obtain ⟨cq13, cp13, cv13, cw13⟩ := uk.2.1 80 _ rfl
        refine uu_ldcwS cv13 dX12_require_47 ?_
        obtain ⟨v14, e15, h⟩ := uu_ob h
        refine uu_cv (d1 := 4) (k := 1079) (ci := 12) (T := TX12) (N := 153) (As := [.int x1, .ref cq13]) (st := []) (st' := [.int (bI v14)]) (xc_X12_stringIs uk cw13 e15) so_1079.is (by decide) rfl kX12_stringIs lX12_382 sX12_stringIs (by decide) (Nat.le_of_ble_eq_true rfl) dX12_require_50 rfl ?_
        refine uu_ifb_eq (tgt := 61) dX12_require_53 (by decide) (fun c16 => ?_) (fun c16 => ?_)
        · replace h := uu_neg c16 h
          refine uu_aload_n dX12_require_61 rfl (List.mem_of_getElem? (i := 0) rfl) ?_
          refine uu_iload_n dX12_require_62 rfl (List.mem_of_getElem? (i := 1) rfl) ?_
          obtain ⟨cq17, cp17, cv17, cw17⟩ := uk.2.1 81 _ rfl
          refine uu_ldcwS cv17 dX12_require_63 ?_
          obtain ⟨v18, e19, h⟩ := uu_ob h
          refine uu_cv (d1 := 4) (k := 1079) (ci := 12) (T := TX12) (N := 153) (As := [.int x1, .ref cq17]) (st := []) (st' := [.int (bI v18)]) (xc_X12_stringIs uk cw17 e19) so_1079.is (by decide) rfl kX12_stringIs lX12_382 sX12_stringIs (by decide) (Nat.le_of_ble_eq_true rfl) dX12_require_66 rfl ?_
          refine uu_ifb_eq (tgt := 77) dX12_require_69 (by decide) (fun c20 => ?_) (fun c20 => ?_)
          · replace h := uu_neg c20 h
            refine uu_aload_n dX12_require_77 rfl (List.mem_of_getElem? (i := 0) rfl) ?_
            refine uu_iload_n dX12_require_78 rfl (List.mem_of_getElem? (i := 1) rfl) ?_
            obtain ⟨cq21, cp21, cv21, cw21⟩ := uk.2.1 82 _ rfl
            refine uu_ldcwS cv21 dX12_require_79 ?_
            obtain ⟨v22, e23, h⟩ := uu_ob h
            refine uu_cv (d1 := 4) (k := 1079) (ci := 12) (T := TX12) (N := 153) (As := [.int x1, .ref cq21]) (st := []) (st' := [.int (bI v22)]) (xc_X12_stringIs uk cw21 e23) so_1079.is (by decide) rfl kX12_stringIs lX12_382 sX12_stringIs (by decide) (Nat.le_of_ble_eq_true rfl) dX12_require_82 rfl ?_
            refine uu_ifb_eq (tgt := 93) dX12_require_85 (by decide) (fun c24 => ?_) (fun c24 => ?_)
            · replace h := uu_neg c24 h
              refine uu_aload_n dX12_require_93 rfl (List.mem_of_getElem? (i := 0) rfl) ?_
              refine uu_iload_n dX12_require_94 rfl (List.mem_of_getElem? (i := 1) rfl) ?_
              obtain ⟨cq25, cp25, cv25, cw25⟩ := uk.2.1 83 _ rfl
              refine uu_ldcwS cv25 dX12_require_95 ?_
              obtain ⟨v26, e27, h⟩ := uu_ob h
              refine uu_cv (d1 := 4) (k := 1079) (ci := 12) (T := TX12) (N := 153) (As := [.int x1, .ref cq25]) (st := []) (st' := [.int (bI v26)]) (xc_X12_stringIs uk cw25 e27) so_1079.is (by decide) rfl kX12_stringIs lX12_382 sX12_stringIs (by decide) (Nat.le_of_ble_eq_true rfl) dX12_require_98 rfl ?_
              refine uu_ifb_eq (tgt := 109) dX12_require_101 (by decide) (fun c28 => ?_) (fun c28 => ?_)
              · replace h := uu_neg c28 h
                refine uu_aload_n dX12_require_109 rfl (List.mem_of_getElem? (i := 0) rfl) ?_
                refine uu_iload_n dX12_require_110 rfl (List.mem_of_getElem? (i := 1) rfl) ?_
                obtain ⟨cq29, cp29, cv29, cw29⟩ := uk.2.1 84 _ rfl
                refine uu_ldcwS cv29 dX12_require_111 ?_
                obtain ⟨v30, e31, h⟩ := uu_ob h
                refine uu_cv (d1 := 4) (k := 1079) (ci := 12) (T := TX12) (N := 153) (As := [.int x1, .ref cq29]) (st := []) (st' := [.int (bI v30)]) (xc_X12_stringIs uk cw29 e31) so_1079.is (by decide) rfl kX12_stringIs lX12_382 sX12_stringIs (by decide) (Nat.le_of_ble_eq_true rfl) dX12_require_114 rfl ?_
                refine uu_ifb_eq (tgt := 126) dX12_require_117 (by decide) (fun c32 => ?_) (fun c32 => ?_)
                · replace h := uu_neg c32 h
                  refine uu_iconst (v := 0) dX12_require_126 (by decide) ?_
                  refine uu_lv [0] (lv' := [(0, .ref (B + 1079))]) rfl ?_
                  exact xb_X12_require_127 uk  h
                · replace h := uu_pos c32 h
                  refine uu_sipush (v := 128) dX12_require_120 (by decide) ?_
                  refine uu_goto (tgt := 127) dX12_require_123 (by decide) ?_
                  refine uu_lv [0] (lv' := [(0, .ref (B + 1079))]) rfl ?_
                  exact xb_X12_require_127 uk  h
              · replace h := uu_pos c28 h
                refine uu_bipush (v := 64) dX12_require_104 (by decide) ?_
                refine uu_goto (tgt := 127) dX12_require_106 (by decide) ?_
                refine uu_lv [0] (lv' := [(0, .ref (B + 1079))]) rfl ?_
                exact xb_X12_require_127 uk  h
            · replace h := uu_pos c24 h
              refine uu_bipush (v := 32) dX12_require_88 (by decide) ?_
              refine uu_goto (tgt := 127) dX12_require_90 (by decide) ?_
              refine uu_lv [0] (lv' := [(0, .ref (B + 1079))]) rfl ?_
              exact xb_X12_require_127 uk  h
          · replace h := uu_pos c20 h
            refine uu_bipush (v := 16) dX12_require_72 (by decide) ?_
            refine uu_goto (tgt := 127) dX12_require_74 (by decide) ?_
            refine uu_lv [0] (lv' := [(0, .ref (B + 1079))]) rfl ?_
            exact xb_X12_require_127 uk  h
        · replace h := uu_pos c16 h
          refine uu_bipush (v := 8) dX12_require_56 (by decide) ?_
          refine uu_goto (tgt := 127) dX12_require_58 (by decide) ?_
          refine uu_lv [0] (lv' := [(0, .ref (B + 1079))]) rfl ?_
          exact xb_X12_require_127 uk  h
      · replace h := uu_pos c12 h
        refine uu_iconst (v := 4) dX12_require_41 (by decide) ?_
        refine uu_goto (tgt := 127) dX12_require_42 (by decide) ?_
        refine uu_lv [0] (lv' := [(0, .ref (B + 1079))]) rfl ?_
        exact xb_X12_require_127 uk  h
    · replace h := uu_pos c8 h
      refine uu_iconst (v := 2) dX12_require_26 (by decide) ?_
      refine uu_goto (tgt := 127) dX12_require_27 (by decide) ?_
      refine uu_lv [0] (lv' := [(0, .ref (B + 1079))]) rfl ?_
      exact xb_X12_require_127 uk  h
  · replace h := uu_pos c4 h
    refine uu_iconst (v := 1) dX12_require_11 (by decide) ?_
    refine uu_goto (tgt := 127) dX12_require_12 (by decide) ?_
    refine uu_lv [0] (lv' := [(0, .ref (B + 1079))]) rfl ?_
    exact xb_X12_require_127 uk  h
abbrev mX12_requires : hM := (yX12_requires, cX12_requires, 5, none)
theorem dX12_requires_113 : decode cX12_requires 113 = .ok (.iload_n 1, 1) := by decide +kernel
theorem dX12_requires_114 : decode cX12_requires 114 = .ok (.ifCond .eq 9, 3) := by decide +kernel
theorem dX12_requires_123 : decode cX12_requires 123 = .ok (.return_, 1) := by decide +kernel
theorem dX12_requires_117 : decode cX12_requires 117 = .ok (.aload_n 0, 1) := by decide +kernel
theorem dX12_requires_118 : decode cX12_requires 118 = .ok (.bipush 93, 2) := by decide +kernel
theorem dX12_requires_120 : decode cX12_requires 120 = .ok (.invokevirtual 355, 3) := by decide +kernel
theorem dX12_requires_101 : decode cX12_requires 101 = .ok (.istore_n 3, 1) := by decide +kernel
theorem dX12_requires_102 : decode cX12_requires 102 = .ok (.iload_n 3, 1) := by decide +kernel
theorem dX12_requires_103 : decode cX12_requires 103 = .ok (.ifCond .eq 7, 3) := by decide +kernel
theorem dX12_requires_110 : decode cX12_requires 110 = .ok (.goto (-91), 3) := by decide +kernel
theorem dX12_requires_106 : decode cX12_requires 106 = .ok (.aload_n 0, 1) := by decide +kernel
theorem dX12_requires_107 : decode cX12_requires 107 = .ok (.invokevirtual 279, 3) := by decide +kernel
theorem dX12_requires_75 : decode cX12_requires 75 = .ok (.aload_n 0, 1) := by decide +kernel
theorem dX12_requires_76 : decode cX12_requires 76 = .ok (.invokevirtual 279, 3) := by decide +kernel
theorem dX12_requires_79 : decode cX12_requires 79 = .ok (.iload_n 2, 1) := by decide +kernel
theorem dX12_requires_80 : decode cX12_requires 80 = .ok (.iconst 1, 1) := by decide +kernel
theorem dX12_requires_81 : decode cX12_requires 81 = .ok (.iadd, 1) := by decide +kernel
theorem dX12_requires_82 : decode cX12_requires 82 = .ok (.istore_n 2, 1) := by decide +kernel
theorem dX12_requires_83 : decode cX12_requires 83 = .ok (.iload_n 1, 1) := by decide +kernel
theorem dX12_requires_84 : decode cX12_requires 84 = .ok (.ifCond .eq 16, 3) := by decide +kernel
theorem dX12_requires_100 : decode cX12_requires 100 = .ok (.iconst 0, 1) := by decide +kernel
theorem dX12_requires_87 : decode cX12_requires 87 = .ok (.aload_n 0, 1) := by decide +kernel
theorem dX12_requires_88 : decode cX12_requires 88 = .ok (.bipush 44, 2) := by decide +kernel
theorem dX12_requires_90 : decode cX12_requires 90 = .ok (.invokevirtual 276, 3) := by decide +kernel
theorem dX12_requires_93 : decode cX12_requires 93 = .ok (.ifCond .eq 7, 3) := by decide +kernel
theorem dX12_requires_96 : decode cX12_requires 96 = .ok (.iconst 1, 1) := by decide +kernel
theorem dX12_requires_97 : decode cX12_requires 97 = .ok (.goto 4, 3) := by decide +kernel
theorem dX12_requires_56 : decode cX12_requires 56 = .ok (.aload_n 0, 1) := by decide +kernel
theorem dX12_requires_57 : decode cX12_requires 57 = .ok (.invokevirtual 349, 3) := by decide +kernel
theorem dX12_requires_60 : decode cX12_requires 60 = .ok (.istore 4, 2) := by decide +kernel
theorem dX12_requires_62 : decode cX12_requires 62 = .ok (.aload_n 0, 1) := by decide +kernel
theorem dX12_requires_63 : decode cX12_requires 63 = .ok (.getfield 193, 3) := by decide +kernel
theorem dX12_requires_66 : decode cX12_requires 66 = .ok (.ifCond .ge 9, 3) := by decide +kernel
theorem dX12_requires_69 : decode cX12_requires 69 = .ok (.aload_n 0, 1) := by decide +kernel
theorem dX12_requires_70 : decode cX12_requires 70 = .ok (.iload 4, 2) := by decide +kernel
theorem kX12_require : h_ml mX12_require 1 := ⟨h_t8 155 rfl rfl, h_t1 16 rfl rfl, ⟨by decide, by decide, by decide +kernel⟩, by decide⟩
theorem lX12_378 : Cond.methodLink RX12 378 mX12_require.1 ∈ lw_g := h_t8 152 rfl rfl
theorem sX12_require : Cond.instanceMethod mX12_require.1 ∈ lw_g ∧ Cond.selects mX12_require.1.cls mX12_require.1 mX12_require.1 ∈ lw_g := ⟨h_t8 154 rfl rfl, h_ins 137 rfl⟩
theorem dX12_requires_72 : decode cX12_requires 72 = .ok (.invokevirtual 378, 3) := by decide +kernel
theorem dX12_requires_19 : decode cX12_requires 19 = .ok (.iload_n 3, 1) := by decide +kernel
theorem dX12_requires_20 : decode cX12_requires 20 = .ok (.ifCond .eq 93, 3) := by decide +kernel
theorem dX12_requires_23 : decode cX12_requires 23 = .ok (.aload_n 0, 1) := by decide +kernel
theorem dX12_requires_24 : decode cX12_requires 24 = .ok (.getfield 193, 3) := by decide +kernel
theorem dX12_requires_27 : decode cX12_requires 27 = .ok (.ifCond .ge 86, 3) := by decide +kernel
theorem dX12_requires_30 : decode cX12_requires 30 = .ok (.iload_n 1, 1) := by decide +kernel
theorem dX12_requires_31 : decode cX12_requires 31 = .ok (.ifCond .eq 25, 3) := by decide +kernel
theorem dX12_requires_34 : decode cX12_requires 34 = .ok (.aload_n 0, 1) := by decide +kernel
theorem dX12_requires_35 : decode cX12_requires 35 = .ok (.iconst 4, 1) := by decide +kernel
theorem dX12_requires_36 : decode cX12_requires 36 = .ok (.invokevirtual 273, 3) := by decide +kernel
theorem dX12_requires_39 : decode cX12_requires 39 = .ok (.ifCond .eq 17, 3) := by decide +kernel
theorem dX12_requires_42 : decode cX12_requires 42 = .ok (.iload_n 2, 1) := by decide +kernel
theorem dX12_requires_43 : decode cX12_requires 43 = .ok (.bipush 10, 2) := by decide +kernel
theorem dX12_requires_45 : decode cX12_requires 45 = .ok (.if_icmp .ne 11, 3) := by decide +kernel
theorem dX12_requires_48 : decode cX12_requires 48 = .ok (.aload_n 0, 1) := by decide +kernel
theorem dX12_requires_49 : decode cX12_requires 49 = .ok (.aload_n 0, 1) := by decide +kernel
theorem dX12_requires_50 : decode cX12_requires 50 = .ok (.getfield 199, 3) := by decide +kernel
theorem dX12_requires_53 : decode cX12_requires 53 = .ok (.invokevirtual 208, 3) := by decide +kernel
theorem dX12_requires_0 : decode cX12_requires 0 = .ok (.aload_n 0, 1) := by decide +kernel
theorem dX12_requires_1 : decode cX12_requires 1 = .ok (.bipush 91, 2) := by decide +kernel
theorem dX12_requires_3 : decode cX12_requires 3 = .ok (.invokevirtual 276, 3) := by decide +kernel
theorem dX12_requires_6 : decode cX12_requires 6 = .ok (.istore_n 1, 1) := by decide +kernel
theorem dX12_requires_7 : decode cX12_requires 7 = .ok (.iload_n 1, 1) := by decide +kernel
theorem dX12_requires_8 : decode cX12_requires 8 = .ok (.ifCond .eq 7, 3) := by decide +kernel
theorem dX12_requires_15 : decode cX12_requires 15 = .ok (.iconst 0, 1) := by decide +kernel
theorem dX12_requires_16 : decode cX12_requires 16 = .ok (.istore_n 2, 1) := by decide +kernel
theorem dX12_requires_17 : decode cX12_requires 17 = .ok (.iconst 1, 1) := by decide +kernel
theorem dX12_requires_18 : decode cX12_requires 18 = .ok (.istore_n 3, 1) := by decide +kernel
theorem dX12_requires_11 : decode cX12_requires 11 = .ok (.aload_n 0, 1) := by decide +kernel
theorem dX12_requires_12 : decode cX12_requires 12 = .ok (.invokevirtual 279, 3) := by decide +kernel
def fb_X12_requires_113  (b1 : Bool) (s : uS) : Option uS := if b1 = true then ((fn_X12_take 93 s).bind fun s2 => some s2) else (some s)
set_option maxRecDepth 100000 in
set_option maxHeartbeats 4000000 in
theorem xb_X12_requires_113 {l : Launch} {D : va_G} {A : Nat → ClassId} {B : Nat} {Z : State → Heap → Prop} {vF : Value} (uk : uK B Z vF)   {b1 : Bool} {s : uS} {r : uS}  (h : fb_X12_requires_113  b1 s = some r) : GU l D A B Z mX12_requires 9 (r, none) s 113 [(0, .ref (B + 1079)), (1, .int (bI b1))] [] := by
  unfold fb_X12_requires_113 at h
  refine uu_iload_n dX12_requires_113 rfl (List.mem_of_getElem? (i := 1) rfl) ?_
  refine uu_ifb_eq (tgt := 123) dX12_requires_114 (by decide) (fun c1 => ?_) (fun c1 => ?_)
  · replace h := uu_neg c1 h
    have hr := Option.some.inj h
    subst hr
    exact uu_vret rfl dX12_requires_123
  · replace h := uu_pos c1 h
    refine uu_aload_n dX12_requires_117 rfl (List.mem_of_getElem? (i := 0) rfl) ?_
    refine uu_bipush (v := 93) dX12_requires_118 (by decide) ?_
    obtain ⟨s2, e3, h⟩ := uu_ob h
    refine uu_cv (d1 := 8) (k := 1079) (ci := 12) (T := TX12) (N := 153) (As := [.int 93]) (st := []) (st' := []) (xc_X12_take uk  e3) so_1079.is (by decide) rfl kX12_take lX12_355 sX12_take (by decide) (Nat.le_of_ble_eq_true rfl) dX12_requires_120 rfl ?_
    have hr := Option.some.inj h
    subst hr
    exact uu_vret rfl dX12_requires_123
def fb_X12_requires_101 (K19 : Bool → Int32 → Bool → uS → Option uS) (b1 : Bool) (x2 : Int32) (bs0 : Bool) (s : uS) : Option uS := if bs0 = true then ((fn_X12_next s).bind fun s2 => K19 b1 x2 bs0 s2) else (K19 b1 x2 bs0 s)
set_option maxRecDepth 100000 in
set_option maxHeartbeats 4000000 in
theorem xb_X12_requires_101 {l : Launch} {D : va_G} {A : Nat → ClassId} {B : Nat} {Z : State → Heap → Prop} {vF : Value} (uk : uK B Z vF) {K19 : Bool → Int32 → Bool → uS → Option uS} (hK19 : ∀ (b1 : Bool) (x2 : Int32) (b3 : Bool)  (s : uS) (r : uS), K19 b1 x2 b3 s = some r → GU l D A B Z mX12_requires 9 (r, none) s 19 [(0, .ref (B + 1079)), (1, .int (bI b1)), (2, .int x2), (3, .int (bI b3))] []) {b1 : Bool} {x2 : Int32} {bs0 : Bool} {s : uS} {r : uS}  (h : fb_X12_requires_101 K19 b1 x2 bs0 s = some r) : GU l D A B Z mX12_requires 9 (r, none) s 101 [(0, .ref (B + 1079)), (1, .int (bI b1)), (2, .int x2)] [.int (bI bs0)] := by
  unfold fb_X12_requires_101 at h
  refine uu_istore_n dX12_requires_101 rfl (by decide) rfl ?_
  refine uu_iload_n dX12_requires_102 rfl (List.mem_of_getElem? (i := 0) rfl) ?_
  refine uu_ifb_eq (tgt := 110) dX12_requires_103 (by decide) (fun c1 => ?_) (fun c1 => ?_)
  · replace h := uu_neg c1 h
    refine uu_goto (tgt := 19) dX12_requires_110 (by decide) ?_
    refine uu_lv [1, 2, 3, 0] (lv' := [(0, .ref (B + 1079)), (1, .int (bI b1)), (2, .int x2), (3, .int (bI bs0))]) rfl ?_
    exact hK19 b1 x2 bs0 _ _ h
  · replace h := uu_pos c1 h
    refine uu_aload_n dX12_requires_106 rfl (List.mem_of_getElem? (i := 1) rfl) ?_
    obtain ⟨s2, e3, h⟩ := uu_ob h
    refine uu_cv (d1 := 7) (k := 1079) (ci := 12) (T := TX12) (N := 153) (As := []) (st := []) (st' := []) (xc_X12_next uk  e3) so_1079.is (by decide) rfl kX12_next lX12_279 sX12_next (by decide) (Nat.le_of_ble_eq_true rfl) dX12_requires_107 rfl ?_
    refine uu_goto (tgt := 19) dX12_requires_110 (by decide) ?_
    refine uu_lv [1, 2, 3, 0] (lv' := [(0, .ref (B + 1079)), (1, .int (bI b1)), (2, .int x2), (3, .int (bI bs0))]) rfl ?_
    exact hK19 b1 x2 bs0 _ _ h
def fb_X12_requires_75 (K19 : Bool → Int32 → Bool → uS → Option uS) (b1 : Bool) (x2 : Int32) (s : uS) : Option uS := (fn_X12_next s).bind fun s1 => if b1 = true then ((fn_X12_isSign 44 s1).bind fun v4 => if v4 = true then (fb_X12_requires_101 K19 b1 (x2 + 1) true s1) else (fb_X12_requires_101 K19 b1 (x2 + 1) false s1)) else (fb_X12_requires_101 K19 b1 (x2 + 1) false s1)
set_option maxRecDepth 100000 in
set_option maxHeartbeats 4000000 in
theorem xb_X12_requires_75 {l : Launch} {D : va_G} {A : Nat → ClassId} {B : Nat} {Z : State → Heap → Prop} {vF : Value} (uk : uK B Z vF) {K19 : Bool → Int32 → Bool → uS → Option uS} (hK19 : ∀ (b1 : Bool) (x2 : Int32) (b3 : Bool)  (s : uS) (r : uS), K19 b1 x2 b3 s = some r → GU l D A B Z mX12_requires 9 (r, none) s 19 [(0, .ref (B + 1079)), (1, .int (bI b1)), (2, .int x2), (3, .int (bI b3))] []) {b1 : Bool} {x2 : Int32} {s : uS} {r : uS}  (h : fb_X12_requires_75 K19 b1 x2 s = some r) : GU l D A B Z mX12_requires 9 (r, none) s 75 [(0, .ref (B + 1079)), (1, .int (bI b1)), (2, .int x2)] [] := by
  unfold fb_X12_requires_75 at h
  refine uu_aload_n dX12_requires_75 rfl (List.mem_of_getElem? (i := 0) rfl) ?_
  obtain ⟨s1, e2, h⟩ := uu_ob h
  refine uu_cv (d1 := 7) (k := 1079) (ci := 12) (T := TX12) (N := 153) (As := []) (st := []) (st' := []) (xc_X12_next uk  e2) so_1079.is (by decide) rfl kX12_next lX12_279 sX12_next (by decide) (Nat.le_of_ble_eq_true rfl) dX12_requires_76 rfl ?_
  refine uu_iload_n dX12_requires_79 rfl (List.mem_of_getElem? (i := 2) rfl) ?_
  refine uu_iconst (v := 1) dX12_requires_80 (by decide) ?_
  refine uu_iadd dX12_requires_81 ?_
  refine uu_istore_n dX12_requires_82 rfl (by decide) rfl ?_
  refine uu_iload_n dX12_requires_83 rfl (List.mem_of_getElem? (i := 2) rfl) ?_
  refine uu_ifb_eq (tgt := 100) dX12_requires_84 (by decide) (fun c3 => ?_) (fun c3 => ?_)
  · replace h := uu_neg c3 h
    refine uu_iconst (v := 0) dX12_requires_100 (by decide) ?_
    refine uu_lv [1, 2, 0] (lv' := [(0, .ref (B + 1079)), (1, .int (bI b1)), (2, .int (x2 + 1))]) rfl ?_
    exact xb_X12_requires_101 uk hK19 h
  · replace h := uu_pos c3 h
    refine uu_aload_n dX12_requires_87 rfl (List.mem_of_getElem? (i := 1) rfl) ?_
    refine uu_bipush (v := 44) dX12_requires_88 (by decide) ?_
    obtain ⟨v4, e5, h⟩ := uu_ob h
    refine uu_cv (d1 := 1) (k := 1079) (ci := 12) (T := TX12) (N := 153) (As := [.int 44]) (st := []) (st' := [.int (bI v4)]) (xc_X12_isSign uk  e5) so_1079.is (by decide) rfl kX12_isSign lX12_276 sX12_isSign (by decide) (Nat.le_of_ble_eq_true rfl) dX12_requires_90 rfl ?_
    refine uu_ifb_eq (tgt := 100) dX12_requires_93 (by decide) (fun c6 => ?_) (fun c6 => ?_)
    · replace h := uu_neg c6 h
      refine uu_iconst (v := 0) dX12_requires_100 (by decide) ?_
      refine uu_lv [1, 2, 0] (lv' := [(0, .ref (B + 1079)), (1, .int (bI b1)), (2, .int (x2 + 1))]) rfl ?_
      exact xb_X12_requires_101 uk hK19 h
    · replace h := uu_pos c6 h
      refine uu_iconst (v := 1) dX12_requires_96 (by decide) ?_
      refine uu_goto (tgt := 101) dX12_requires_97 (by decide) ?_
      refine uu_lv [1, 2, 0] (lv' := [(0, .ref (B + 1079)), (1, .int (bI b1)), (2, .int (x2 + 1))]) rfl ?_
      exact xb_X12_requires_101 uk hK19 h
def fb_X12_requires_56 (K19 : Bool → Int32 → Bool → uS → Option uS) (b1 : Bool) (x2 : Int32) (s : uS) : Option uS := (fn_X12_string s).bind fun r1 => if 0 ≤ (r1.1.I 1079 40) then (fb_X12_requires_75 K19 b1 x2 r1.1) else ((fn_X12_require r1.2 r1.1).bind fun s4 => fb_X12_requires_75 K19 b1 x2 s4)
set_option maxRecDepth 100000 in
set_option maxHeartbeats 4000000 in
theorem xb_X12_requires_56 {l : Launch} {D : va_G} {A : Nat → ClassId} {B : Nat} {Z : State → Heap → Prop} {vF : Value} (uk : uK B Z vF) {K19 : Bool → Int32 → Bool → uS → Option uS} (hK19 : ∀ (b1 : Bool) (x2 : Int32) (b3 : Bool)  (s : uS) (r : uS), K19 b1 x2 b3 s = some r → GU l D A B Z mX12_requires 9 (r, none) s 19 [(0, .ref (B + 1079)), (1, .int (bI b1)), (2, .int x2), (3, .int (bI b3))] []) {b1 : Bool} {x2 : Int32} {s : uS} {r : uS}  (h : fb_X12_requires_56 K19 b1 x2 s = some r) : GU l D A B Z mX12_requires 9 (r, none) s 56 [(0, .ref (B + 1079)), (1, .int (bI b1)), (2, .int x2)] [] := by
  unfold fb_X12_requires_56 at h
  refine uu_aload_n dX12_requires_56 rfl (List.mem_of_getElem? (i := 0) rfl) ?_
  obtain ⟨r1, e2, h⟩ := uu_ob h
  refine uu_cv (d1 := 1) (k := 1079) (ci := 12) (T := TX12) (N := 153) (As := []) (st := []) (st' := [.int r1.2]) (xc_X12_string uk  e2) so_1079.is (by decide) rfl kX12_string lX12_349 sX12_string (by decide) (Nat.le_of_ble_eq_true rfl) dX12_requires_57 rfl ?_
  refine uu_istore dX12_requires_60 (by decide) rfl ?_
  refine uu_aload_n dX12_requires_62 rfl (List.mem_of_getElem? (i := 1) rfl) ?_
  refine uu_geti (ci := 12) (N := 153) fX12_193 (by decide) so_1079.is (by decide) (by decide) dX12_requires_63 ?_
  refine uu_if_ge (tgt := 75) dX12_requires_66 (by decide) (fun c3 => ?_) (fun c3 => ?_)
  · replace h := uu_pos c3 h
    refine uu_lv [1, 2, 3] (lv' := [(0, .ref (B + 1079)), (1, .int (bI b1)), (2, .int x2)]) rfl ?_
    exact xb_X12_requires_75 uk hK19 h
  · replace h := uu_neg c3 h
    refine uu_aload_n dX12_requires_69 rfl (List.mem_of_getElem? (i := 1) rfl) ?_
    refine uu_iload dX12_requires_70 (List.mem_of_getElem? (i := 0) rfl) ?_
    obtain ⟨s4, e5, h⟩ := uu_ob h
    refine uu_cv (d1 := 5) (k := 1079) (ci := 12) (T := TX12) (N := 153) (As := [.int r1.2]) (st := []) (st' := []) (xc_X12_require uk  e5) so_1079.is (by decide) rfl kX12_require lX12_378 sX12_require (by decide) (Nat.le_of_ble_eq_true rfl) dX12_requires_72 rfl ?_
    refine uu_lv [1, 2, 3] (lv' := [(0, .ref (B + 1079)), (1, .int (bI b1)), (2, .int x2)]) rfl ?_
    exact xb_X12_requires_75 uk hK19 h
def fb_X12_requires_19 (K19 : Bool → Int32 → Bool → uS → Option uS) (b1 : Bool) (x2 : Int32) (b3 : Bool) (s : uS) : Option uS := if b3 = true then (if 0 ≤ (s.I 1079 40) then (fb_X12_requires_113 b1 s) else (if b1 = true then ((fn_X12_is 4 s).bind fun v4 => if v4 = true then (if x2 = 10 then ((fn_X12_fail (s.I 1079 32) s).bind fun s8 => fb_X12_requires_56 K19 b1 x2 s8) else (fb_X12_requires_56 K19 b1 x2 s)) else (fb_X12_requires_56 K19 b1 x2 s)) else (fb_X12_requires_56 K19 b1 x2 s))) else (fb_X12_requires_113 b1 s)
set_option maxRecDepth 100000 in
set_option maxHeartbeats 4000000 in
theorem xb_X12_requires_19 {l : Launch} {D : va_G} {A : Nat → ClassId} {B : Nat} {Z : State → Heap → Prop} {vF : Value} (uk : uK B Z vF) {K19 : Bool → Int32 → Bool → uS → Option uS} (hK19 : ∀ (b1 : Bool) (x2 : Int32) (b3 : Bool)  (s : uS) (r : uS), K19 b1 x2 b3 s = some r → GU l D A B Z mX12_requires 9 (r, none) s 19 [(0, .ref (B + 1079)), (1, .int (bI b1)), (2, .int x2), (3, .int (bI b3))] []) {b1 : Bool} {x2 : Int32} {b3 : Bool} {s : uS} {r : uS}  (h : fb_X12_requires_19 K19 b1 x2 b3 s = some r) : GU l D A B Z mX12_requires 9 (r, none) s 19 [(0, .ref (B + 1079)), (1, .int (bI b1)), (2, .int x2), (3, .int (bI b3))] [] := by
  unfold fb_X12_requires_19 at h
  refine uu_iload_n dX12_requires_19 rfl (List.mem_of_getElem? (i := 3) rfl) ?_
  refine uu_ifb_eq (tgt := 113) dX12_requires_20 (by decide) (fun c1 => ?_) (fun c1 => ?_)
  · replace h := uu_neg c1 h
    refine uu_lv [0, 1] (lv' := [(0, .ref (B + 1079)), (1, .int (bI b1))]) rfl ?_
    exact xb_X12_requires_113 uk  h
  · replace h := uu_pos c1 h
    refine uu_aload_n dX12_requires_23 rfl (List.mem_of_getElem? (i := 0) rfl) ?_
    refine uu_geti (ci := 12) (N := 153) fX12_193 (by decide) so_1079.is (by decide) (by decide) dX12_requires_24 ?_
    refine uu_if_ge (tgt := 113) dX12_requires_27 (by decide) (fun c2 => ?_) (fun c2 => ?_)
    · replace h := uu_pos c2 h
      refine uu_lv [0, 1] (lv' := [(0, .ref (B + 1079)), (1, .int (bI b1))]) rfl ?_
      exact xb_X12_requires_113 uk  h
    · replace h := uu_neg c2 h
      refine uu_iload_n dX12_requires_30 rfl (List.mem_of_getElem? (i := 1) rfl) ?_
      refine uu_ifb_eq (tgt := 56) dX12_requires_31 (by decide) (fun c3 => ?_) (fun c3 => ?_)
      · replace h := uu_neg c3 h
        refine uu_lv [0, 1, 2] (lv' := [(0, .ref (B + 1079)), (1, .int (bI b1)), (2, .int x2)]) rfl ?_
        exact xb_X12_requires_56 uk hK19 h
      · replace h := uu_pos c3 h
        refine uu_aload_n dX12_requires_34 rfl (List.mem_of_getElem? (i := 0) rfl) ?_
        refine uu_iconst (v := 4) dX12_requires_35 (by decide) ?_
        obtain ⟨v4, e5, h⟩ := uu_ob h
        refine uu_cv (d1 := 0) (k := 1079) (ci := 12) (T := TX12) (N := 153) (As := [.int 4]) (st := []) (st' := [.int (bI v4)]) (xc_X12_is uk  e5) so_1079.is (by decide) rfl kX12_is lX12_273 sX12_is (by decide) (Nat.le_of_ble_eq_true rfl) dX12_requires_36 rfl ?_
        refine uu_ifb_eq (tgt := 56) dX12_requires_39 (by decide) (fun c6 => ?_) (fun c6 => ?_)
        · replace h := uu_neg c6 h
          refine uu_lv [0, 1, 2] (lv' := [(0, .ref (B + 1079)), (1, .int (bI b1)), (2, .int x2)]) rfl ?_
          exact xb_X12_requires_56 uk hK19 h
        · replace h := uu_pos c6 h
          refine uu_iload_n dX12_requires_42 rfl (List.mem_of_getElem? (i := 2) rfl) ?_
          refine uu_bipush (v := 10) dX12_requires_43 (by decide) ?_
          refine uu_icmp_ne (tgt := 56) dX12_requires_45 (by decide) (fun c7 => ?_) (fun c7 => ?_)
          · replace h := uu_neg c7 h
            refine uu_lv [0, 1, 2] (lv' := [(0, .ref (B + 1079)), (1, .int (bI b1)), (2, .int x2)]) rfl ?_
            exact xb_X12_requires_56 uk hK19 h
          · replace h := uu_pos c7 h
            refine uu_aload_n dX12_requires_48 rfl (List.mem_of_getElem? (i := 0) rfl) ?_
            refine uu_aload_n dX12_requires_49 rfl (List.mem_of_getElem? (i := 0) rfl) ?_
            refine uu_geti (ci := 12) (N := 153) fX12_199 (by decide) so_1079.is (by decide) (by decide) dX12_requires_50 ?_
            obtain ⟨s8, e9, h⟩ := uu_ob h
            refine uu_cv (d1 := 0) (k := 1079) (ci := 12) (T := TX12) (N := 153) (As := [.int (s.I 1079 32)]) (st := []) (st' := []) (xc_X12_fail uk  e9) so_1079.is (by decide) rfl kX12_fail lX12_208 sX12_fail (by decide) (Nat.le_of_ble_eq_true rfl) dX12_requires_53 rfl ?_
            refine uu_lv [0, 1, 2] (lv' := [(0, .ref (B + 1079)), (1, .int (bI b1)), (2, .int x2)]) rfl ?_
            exact xb_X12_requires_56 uk hK19 h
def fn_X12_requires_19  : Nat → Bool → Int32 → Bool → uS → Option uS
  | 0 => fun _ _ _ _ => none
  | n + 1 => fb_X12_requires_19 (fn_X12_requires_19  n)
set_option maxRecDepth 100000 in
set_option maxHeartbeats 4000000 in
theorem xn_X12_requires_19 {l : Launch} {D : va_G} {A : Nat → ClassId} {B : Nat} {Z : State → Heap → Prop} {vF : Value} (uk : uK B Z vF)   : ∀ (n : Nat) (b1 : Bool) (x2 : Int32) (b3 : Bool)  (s : uS) (r : uS), fn_X12_requires_19  n b1 x2 b3 s = some r → GU l D A B Z mX12_requires 9 (r, none) s 19 [(0, .ref (B + 1079)), (1, .int (bI b1)), (2, .int x2), (3, .int (bI b3))] [] := by
  intro n
  induction n with
  | zero => intro b1 x2 b3 s r h
            cases h
  | succ n ih => intro b1 x2 b3 s r h
                 exact xb_X12_requires_19 uk ih  h
def fn_X12_requires  (s : uS) : Option uS := (fn_X12_isSign 91 s).bind fun v1 => if v1 = true then ((fn_X12_next s).bind fun s4 => fn_X12_requires_19 uFu v1 0 true s4) else (fn_X12_requires_19 uFu v1 0 true s)
set_option maxRecDepth 100000 in
set_option maxHeartbeats 4000000 in
theorem xc_X12_requires {l : Launch} {D : va_G} {A : Nat → ClassId} {B : Nat} {Z : State → Heap → Prop} {vF : Value} (uk : uK B Z vF)  {s : uS} {r : uS}  (h : fn_X12_requires  s = some r) : CU l D A B Z 9 mX12_requires s [.ref (B + 1079)] (r, none) := by
  unfold fn_X12_requires at h
  refine cu_of rfl uk.1.1 (Nat.le_of_ble_eq_true rfl) ?_
  show GU _ _ _ _ _ _ _ _ _ 0 [(0, .ref (B + 1079))] []
  refine uu_aload_n dX12_requires_0 rfl (List.mem_of_getElem? (i := 0) rfl) ?_
  refine uu_bipush (v := 91) dX12_requires_1 (by decide) ?_
  obtain ⟨v1, e2, h⟩ := uu_ob h
  refine uu_cv (d1 := 1) (k := 1079) (ci := 12) (T := TX12) (N := 153) (As := [.int 91]) (st := []) (st' := [.int (bI v1)]) (xc_X12_isSign uk  e2) so_1079.is (by decide) rfl kX12_isSign lX12_276 sX12_isSign (by decide) (Nat.le_of_ble_eq_true rfl) dX12_requires_3 rfl ?_
  refine uu_istore_n dX12_requires_6 rfl (by decide) rfl ?_
  refine uu_iload_n dX12_requires_7 rfl (List.mem_of_getElem? (i := 0) rfl) ?_
  refine uu_ifb_eq (tgt := 15) dX12_requires_8 (by decide) (fun c3 => ?_) (fun c3 => ?_)
  · replace h := uu_neg c3 h
    refine uu_iconst (v := 0) dX12_requires_15 (by decide) ?_
    refine uu_istore_n dX12_requires_16 rfl (by decide) rfl ?_
    refine uu_iconst (v := 1) dX12_requires_17 (by decide) ?_
    refine uu_istore_n dX12_requires_18 rfl (by decide) rfl ?_
    refine uu_lv [3, 2, 1, 0] (lv' := [(0, .ref (B + 1079)), (1, .int (bI v1)), (2, .int 0), (3, .int 1)]) rfl ?_
    exact xn_X12_requires_19 uk  _ _ _ _ _ _ h
  · replace h := uu_pos c3 h
    refine uu_aload_n dX12_requires_11 rfl (List.mem_of_getElem? (i := 1) rfl) ?_
    obtain ⟨s4, e5, h⟩ := uu_ob h
    refine uu_cv (d1 := 7) (k := 1079) (ci := 12) (T := TX12) (N := 153) (As := []) (st := []) (st' := []) (xc_X12_next uk  e5) so_1079.is (by decide) rfl kX12_next lX12_279 sX12_next (by decide) (Nat.le_of_ble_eq_true rfl) dX12_requires_12 rfl ?_
    refine uu_iconst (v := 0) dX12_requires_15 (by decide) ?_
    refine uu_istore_n dX12_requires_16 rfl (by decide) rfl ?_
    refine uu_iconst (v := 1) dX12_requires_17 (by decide) ?_
    refine uu_istore_n dX12_requires_18 rfl (by decide) rfl ?_
    refine uu_lv [3, 2, 1, 0] (lv' := [(0, .ref (B + 1079)), (1, .int (bI v1)), (2, .int 0), (3, .int 1)]) rfl ?_
    exact xn_X12_requires_19 uk  _ _ _ _ _ _ h
abbrev mX12_tags : hM := (yX12_tags, cX12_tags, 4, none)
theorem dX12_tags_134 : decode cX12_tags 134 = .ok (.iload_n 2, 1) := by decide +kernel
theorem dX12_tags_135 : decode cX12_tags 135 = .ok (.ifCond .eq 23, 3) := by decide +kernel
theorem dX12_tags_158 : decode cX12_tags 158 = .ok (.goto (-158), 3) := by decide +kernel
theorem dX12_tags_138 : decode cX12_tags 138 = .ok (.aload_n 0, 1) := by decide +kernel
theorem dX12_tags_139 : decode cX12_tags 139 = .ok (.getfield 303, 3) := by decide +kernel
theorem dX12_tags_142 : decode cX12_tags 142 = .ok (.iload_n 1, 1) := by decide +kernel
theorem dX12_tags_143 : decode cX12_tags 143 = .ok (.aload_n 0, 1) := by decide +kernel
theorem dX12_tags_144 : decode cX12_tags 144 = .ok (.getfield 340, 3) := by decide +kernel
theorem dX12_tags_147 : decode cX12_tags 147 = .ok (.iastore, 1) := by decide +kernel
theorem dX12_tags_148 : decode cX12_tags 148 = .ok (.aload_n 0, 1) := by decide +kernel
theorem dX12_tags_149 : decode cX12_tags 149 = .ok (.getfield 463, 3) := by decide +kernel
theorem dX12_tags_152 : decode cX12_tags 152 = .ok (.iload_n 1, 1) := by decide +kernel
theorem dX12_tags_153 : decode cX12_tags 153 = .ok (.aload_n 0, 1) := by decide +kernel
theorem kX12_list : h_ml mX12_list 0 := ⟨h_t9 4 rfl rfl, h_t1 16 rfl rfl, ⟨by decide, by decide, by decide +kernel⟩, by decide⟩
theorem lX12_442 : Cond.methodLink RX12 442 mX12_list.1 ∈ lw_g := h_t9 1 rfl rfl
theorem sX12_list : Cond.instanceMethod mX12_list.1 ∈ lw_g ∧ Cond.selects mX12_list.1.cls mX12_list.1 mX12_list.1 ∈ lw_g := ⟨h_t9 3 rfl rfl, h_ins 150 rfl⟩
theorem dX12_tags_154 : decode cX12_tags 154 = .ok (.invokevirtual 442, 3) := by decide +kernel
theorem dX12_tags_157 : decode cX12_tags 157 = .ok (.iastore, 1) := by decide +kernel
theorem dX12_tags_116 : decode cX12_tags 116 = .ok (.invokevirtual 431, 3) := by decide +kernel
theorem dX12_tags_119 : decode cX12_tags 119 = .ok (.aload_n 0, 1) := by decide +kernel
theorem dX12_tags_120 : decode cX12_tags 120 = .ok (.invokevirtual 279, 3) := by decide +kernel
theorem dX12_tags_123 : decode cX12_tags 123 = .ok (.iload_n 3, 1) := by decide +kernel
theorem dX12_tags_124 : decode cX12_tags 124 = .ok (.ifCond .eq 10, 3) := by decide +kernel
theorem dX12_tags_127 : decode cX12_tags 127 = .ok (.aload_n 0, 1) := by decide +kernel
theorem dX12_tags_128 : decode cX12_tags 128 = .ok (.getfield 306, 3) := by decide +kernel
theorem dX12_tags_131 : decode cX12_tags 131 = .ok (.iload_n 1, 1) := by decide +kernel
theorem dX12_tags_132 : decode cX12_tags 132 = .ok (.iconst 1, 1) := by decide +kernel
theorem dX12_tags_133 : decode cX12_tags 133 = .ok (.bastore, 1) := by decide +kernel
theorem dX12_tags_104 : decode cX12_tags 104 = .ok (.aload_n 0, 1) := by decide +kernel
theorem dX12_tags_105 : decode cX12_tags 105 = .ok (.iload_n 2, 1) := by decide +kernel
theorem dX12_tags_106 : decode cX12_tags 106 = .ok (.ifCond .eq 8, 3) := by decide +kernel
theorem dX12_tags_114 : decode cX12_tags 114 = .ok (.bipush 8, 2) := by decide +kernel
theorem dX12_tags_109 : decode cX12_tags 109 = .ok (.bipush 16, 2) := by decide +kernel
theorem dX12_tags_111 : decode cX12_tags 111 = .ok (.goto 5, 3) := by decide +kernel
theorem dX12_tags_96 : decode cX12_tags 96 = .ok (.aload_n 0, 1) := by decide +kernel
theorem dX12_tags_97 : decode cX12_tags 97 = .ok (.aload_n 0, 1) := by decide +kernel
theorem dX12_tags_98 : decode cX12_tags 98 = .ok (.getfield 199, 3) := by decide +kernel
theorem dX12_tags_101 : decode cX12_tags 101 = .ok (.invokevirtual 208, 3) := by decide +kernel
theorem dX12_tags_83 : decode cX12_tags 83 = .ok (.iload_n 3, 1) := by decide +kernel
theorem dX12_tags_84 : decode cX12_tags 84 = .ok (.ifCond .eq 20, 3) := by decide +kernel
theorem dX12_tags_87 : decode cX12_tags 87 = .ok (.aload_n 0, 1) := by decide +kernel
theorem dX12_tags_88 : decode cX12_tags 88 = .ok (.getfield 306, 3) := by decide +kernel
theorem dX12_tags_91 : decode cX12_tags 91 = .ok (.iload_n 1, 1) := by decide +kernel
theorem dX12_tags_92 : decode cX12_tags 92 = .ok (.baload, 1) := by decide +kernel
theorem dX12_tags_93 : decode cX12_tags 93 = .ok (.ifCond .eq 11, 3) := by decide +kernel
theorem dX12_tags_69 : decode cX12_tags 69 = .ok (.iload_n 2, 1) := by decide +kernel
theorem dX12_tags_70 : decode cX12_tags 70 = .ok (.ifCond .eq 13, 3) := by decide +kernel
theorem dX12_tags_73 : decode cX12_tags 73 = .ok (.aload_n 0, 1) := by decide +kernel
theorem dX12_tags_74 : decode cX12_tags 74 = .ok (.getfield 303, 3) := by decide +kernel
theorem dX12_tags_77 : decode cX12_tags 77 = .ok (.iload_n 1, 1) := by decide +kernel
theorem dX12_tags_78 : decode cX12_tags 78 = .ok (.iaload, 1) := by decide +kernel
theorem dX12_tags_79 : decode cX12_tags 79 = .ok (.iconst (-1), 1) := by decide +kernel
theorem dX12_tags_80 : decode cX12_tags 80 = .ok (.if_icmp .ne 16, 3) := by decide +kernel
theorem dX12_tags_60 : decode cX12_tags 60 = .ok (.istore_n 3, 1) := by decide +kernel
theorem dX12_tags_61 : decode cX12_tags 61 = .ok (.iload_n 2, 1) := by decide +kernel
theorem dX12_tags_62 : decode cX12_tags 62 = .ok (.ifCond .ne 7, 3) := by decide +kernel
theorem dX12_tags_65 : decode cX12_tags 65 = .ok (.iload_n 3, 1) := by decide +kernel
theorem dX12_tags_66 : decode cX12_tags 66 = .ok (.ifCond .eq 30, 3) := by decide +kernel
theorem dX12_tags_34 : decode cX12_tags 34 = .ok (.istore_n 2, 1) := by decide +kernel
theorem dX12_tags_35 : decode cX12_tags 35 = .ok (.aload_n 0, 1) := by decide +kernel
theorem dX12_tags_36 : decode cX12_tags 36 = .ok (.ldc_w 390, 3) := by decide +kernel
theorem dX12_tags_39 : decode cX12_tags 39 = .ok (.invokevirtual 235, 3) := by decide +kernel
theorem dX12_tags_42 : decode cX12_tags 42 = .ok (.ifCond .eq 17, 3) := by decide +kernel
theorem dX12_tags_59 : decode cX12_tags 59 = .ok (.iconst 0, 1) := by decide +kernel
theorem dX12_tags_45 : decode cX12_tags 45 = .ok (.aload_n 0, 1) := by decide +kernel
theorem dX12_tags_46 : decode cX12_tags 46 = .ok (.getfield 285, 3) := by decide +kernel
theorem dX12_tags_49 : decode cX12_tags 49 = .ok (.iload_n 1, 1) := by decide +kernel
theorem dX12_tags_50 : decode cX12_tags 50 = .ok (.iaload, 1) := by decide +kernel
theorem dX12_tags_51 : decode cX12_tags 51 = .ok (.iconst 4, 1) := by decide +kernel
theorem dX12_tags_52 : decode cX12_tags 52 = .ok (.if_icmp .eq 7, 3) := by decide +kernel
theorem dX12_tags_55 : decode cX12_tags 55 = .ok (.iconst 1, 1) := by decide +kernel
theorem dX12_tags_56 : decode cX12_tags 56 = .ok (.goto 4, 3) := by decide +kernel
theorem dX12_tags_0 : decode cX12_tags 0 = .ok (.aload_n 0, 1) := by decide +kernel
theorem dX12_tags_1 : decode cX12_tags 1 = .ok (.iconst 2, 1) := by decide +kernel
theorem dX12_tags_2 : decode cX12_tags 2 = .ok (.invokevirtual 273, 3) := by decide +kernel
theorem dX12_tags_5 : decode cX12_tags 5 = .ok (.ifCond .eq 156, 3) := by decide +kernel
theorem dX12_tags_161 : decode cX12_tags 161 = .ok (.return_, 1) := by decide +kernel
theorem dX12_tags_8 : decode cX12_tags 8 = .ok (.aload_n 0, 1) := by decide +kernel
theorem dX12_tags_9 : decode cX12_tags 9 = .ok (.ldc_w 461, 3) := by decide +kernel
theorem dX12_tags_12 : decode cX12_tags 12 = .ok (.invokevirtual 235, 3) := by decide +kernel
theorem dX12_tags_15 : decode cX12_tags 15 = .ok (.ifCond .eq 18, 3) := by decide +kernel
theorem dX12_tags_33 : decode cX12_tags 33 = .ok (.iconst 0, 1) := by decide +kernel
theorem dX12_tags_18 : decode cX12_tags 18 = .ok (.aload_n 0, 1) := by decide +kernel
theorem dX12_tags_19 : decode cX12_tags 19 = .ok (.getfield 285, 3) := by decide +kernel
theorem dX12_tags_22 : decode cX12_tags 22 = .ok (.iload_n 1, 1) := by decide +kernel
theorem dX12_tags_23 : decode cX12_tags 23 = .ok (.iaload, 1) := by decide +kernel
theorem dX12_tags_24 : decode cX12_tags 24 = .ok (.bipush 6, 2) := by decide +kernel
theorem dX12_tags_26 : decode cX12_tags 26 = .ok (.if_icmp .eq 7, 3) := by decide +kernel
theorem dX12_tags_29 : decode cX12_tags 29 = .ok (.iconst 1, 1) := by decide +kernel
theorem dX12_tags_30 : decode cX12_tags 30 = .ok (.goto 4, 3) := by decide +kernel
def fb_X12_tags_134 (K0 : Int32 → uS → Option uS) (x1 : Int32) (b2 : Bool) (s : uS) : Option uS := if b2 = true then ((iput 20 s 1106 x1 (s.I 1079 61)).bind fun s2 => (fn_X12_list s2).bind fun r4 => (iput 20 r4.1 1107 x1 r4.2).bind fun s6 => K0 x1 s6) else (K0 x1 s)
set_option maxRecDepth 100000 in
set_option maxHeartbeats 4000000 in
theorem xb_X12_tags_134 {l : Launch} {D : va_G} {A : Nat → ClassId} {B : Nat} {Z : State → Heap → Prop} {vF : Value} (uk : uK B Z vF) {K0 : Int32 → uS → Option uS} (hK0 : ∀ (x1 : Int32)  (s : uS) (r : uS), K0 x1 s = some r → GU l D A B Z mX12_tags 10 (r, none) s 0 [(0, .ref (B + 1079)), (1, .int x1)] []) {x1 : Int32} {b2 : Bool} {s : uS} {r : uS}  (h : fb_X12_tags_134 K0 x1 b2 s = some r) : GU l D A B Z mX12_tags 10 (r, none) s 134 [(0, .ref (B + 1079)), (1, .int x1), (2, .int (bI b2))] [] := by
  unfold fb_X12_tags_134 at h
  refine uu_iload_n dX12_tags_134 rfl (List.mem_of_getElem? (i := 2) rfl) ?_
  refine uu_ifb_eq (tgt := 158) dX12_tags_135 (by decide) (fun c1 => ?_) (fun c1 => ?_)
  · replace h := uu_neg c1 h
    refine uu_goto (tgt := 0) dX12_tags_158 (by decide) ?_
    refine uu_lv [0, 1] (lv' := [(0, .ref (B + 1079)), (1, .int x1)]) rfl ?_
    exact hK0 x1 _ _ h
  · replace h := uu_pos c1 h
    refine uu_aload_n dX12_tags_138 rfl (List.mem_of_getElem? (i := 0) rfl) ?_
    refine uu_geta (ci := 12) (N := 153) fX12_303 (by decide) so_1079.is (by decide) (c := 1106) (by decide) dX12_tags_139 ?_
    refine uu_iload_n dX12_tags_142 rfl (List.mem_of_getElem? (i := 1) rfl) ?_
    refine uu_aload_n dX12_tags_143 rfl (List.mem_of_getElem? (i := 0) rfl) ?_
    refine uu_geti (ci := 12) (N := 153) fX12_340 (by decide) so_1079.is (by decide) (by decide) dX12_tags_144 ?_
    obtain ⟨s2, e3, h⟩ := uu_ob h
    refine uu_iast e3 dX12_tags_147 ?_
    refine uu_aload_n dX12_tags_148 rfl (List.mem_of_getElem? (i := 0) rfl) ?_
    refine uu_geta (ci := 12) (N := 153) fX12_463 (by decide) so_1079.is (by decide) (c := 1107) (by decide) dX12_tags_149 ?_
    refine uu_iload_n dX12_tags_152 rfl (List.mem_of_getElem? (i := 1) rfl) ?_
    refine uu_aload_n dX12_tags_153 rfl (List.mem_of_getElem? (i := 0) rfl) ?_
    obtain ⟨r4, e5, h⟩ := uu_ob h
    refine uu_cv (d1 := 9) (k := 1079) (ci := 12) (T := TX12) (N := 153) (As := []) (st := [.int x1, .ref (B + 1107)]) (st' := [.int r4.2, .int x1, .ref (B + 1107)]) (xc_X12_list uk  e5) so_1079.is (by decide) rfl kX12_list lX12_442 sX12_list (by decide) (Nat.le_of_ble_eq_true rfl) dX12_tags_154 rfl ?_
    obtain ⟨s6, e7, h⟩ := uu_ob h
    refine uu_iast e7 dX12_tags_157 ?_
    refine uu_goto (tgt := 0) dX12_tags_158 (by decide) ?_
    refine uu_lv [0, 1] (lv' := [(0, .ref (B + 1079)), (1, .int x1)]) rfl ?_
    exact hK0 x1 _ _ h
def fb_X12_tags_116 (K0 : Int32 → uS → Option uS) (x1 : Int32) (b2 : Bool) (b3 : Bool) (xs0 : Int32) (s : uS) : Option uS := (fn_X12_needs xs0 s).bind fun s1 => (fn_X12_next s1).bind fun s3 => if b3 = true then ((iput 22 s3 1108 x1 1).bind fun s6 => fb_X12_tags_134 K0 x1 b2 s6) else (fb_X12_tags_134 K0 x1 b2 s3)
set_option maxRecDepth 100000 in
set_option maxHeartbeats 4000000 in
theorem xb_X12_tags_116 {l : Launch} {D : va_G} {A : Nat → ClassId} {B : Nat} {Z : State → Heap → Prop} {vF : Value} (uk : uK B Z vF) {K0 : Int32 → uS → Option uS} (hK0 : ∀ (x1 : Int32)  (s : uS) (r : uS), K0 x1 s = some r → GU l D A B Z mX12_tags 10 (r, none) s 0 [(0, .ref (B + 1079)), (1, .int x1)] []) {x1 : Int32} {b2 : Bool} {b3 : Bool} {xs0 : Int32} {s : uS} {r : uS}  (h : fb_X12_tags_116 K0 x1 b2 b3 xs0 s = some r) : GU l D A B Z mX12_tags 10 (r, none) s 116 [(0, .ref (B + 1079)), (1, .int x1), (2, .int (bI b2)), (3, .int (bI b3))] [.int xs0, .ref (B + 1079)] := by
  unfold fb_X12_tags_116 at h
  obtain ⟨s1, e2, h⟩ := uu_ob h
  refine uu_cv (d1 := 1) (k := 1079) (ci := 12) (T := TX12) (N := 153) (As := [.int xs0]) (st := []) (st' := []) (xc_X12_needs uk  e2) so_1079.is (by decide) rfl kX12_needs lX12_431 sX12_needs (by decide) (Nat.le_of_ble_eq_true rfl) dX12_tags_116 rfl ?_
  refine uu_aload_n dX12_tags_119 rfl (List.mem_of_getElem? (i := 0) rfl) ?_
  obtain ⟨s3, e4, h⟩ := uu_ob h
  refine uu_cv (d1 := 7) (k := 1079) (ci := 12) (T := TX12) (N := 153) (As := []) (st := []) (st' := []) (xc_X12_next uk  e4) so_1079.is (by decide) rfl kX12_next lX12_279 sX12_next (by decide) (Nat.le_of_ble_eq_true rfl) dX12_tags_120 rfl ?_
  refine uu_iload_n dX12_tags_123 rfl (List.mem_of_getElem? (i := 3) rfl) ?_
  refine uu_ifb_eq (tgt := 134) dX12_tags_124 (by decide) (fun c5 => ?_) (fun c5 => ?_)
  · replace h := uu_neg c5 h
    refine uu_lv [0, 1, 2] (lv' := [(0, .ref (B + 1079)), (1, .int x1), (2, .int (bI b2))]) rfl ?_
    exact xb_X12_tags_134 uk hK0 h
  · replace h := uu_pos c5 h
    refine uu_aload_n dX12_tags_127 rfl (List.mem_of_getElem? (i := 0) rfl) ?_
    refine uu_geta (ci := 12) (N := 153) fX12_306 (by decide) so_1079.is (by decide) (c := 1108) (by decide) dX12_tags_128 ?_
    refine uu_iload_n dX12_tags_131 rfl (List.mem_of_getElem? (i := 1) rfl) ?_
    refine uu_iconst (v := 1) dX12_tags_132 (by decide) ?_
    obtain ⟨s6, e7, h⟩ := uu_ob h
    refine uu_zast e7 dX12_tags_133 ?_
    refine uu_lv [0, 1, 2] (lv' := [(0, .ref (B + 1079)), (1, .int x1), (2, .int (bI b2))]) rfl ?_
    exact xb_X12_tags_134 uk hK0 h
def fb_X12_tags_104 (K0 : Int32 → uS → Option uS) (x1 : Int32) (b2 : Bool) (b3 : Bool) (s : uS) : Option uS := if b2 = true then (fb_X12_tags_116 K0 x1 b2 b3 16 s) else (fb_X12_tags_116 K0 x1 b2 b3 8 s)
set_option maxRecDepth 100000 in
set_option maxHeartbeats 4000000 in
theorem xb_X12_tags_104 {l : Launch} {D : va_G} {A : Nat → ClassId} {B : Nat} {Z : State → Heap → Prop} {vF : Value} (uk : uK B Z vF) {K0 : Int32 → uS → Option uS} (hK0 : ∀ (x1 : Int32)  (s : uS) (r : uS), K0 x1 s = some r → GU l D A B Z mX12_tags 10 (r, none) s 0 [(0, .ref (B + 1079)), (1, .int x1)] []) {x1 : Int32} {b2 : Bool} {b3 : Bool} {s : uS} {r : uS}  (h : fb_X12_tags_104 K0 x1 b2 b3 s = some r) : GU l D A B Z mX12_tags 10 (r, none) s 104 [(0, .ref (B + 1079)), (1, .int x1), (2, .int (bI b2)), (3, .int (bI b3))] [] := by
  unfold fb_X12_tags_104 at h
  refine uu_aload_n dX12_tags_104 rfl (List.mem_of_getElem? (i := 0) rfl) ?_
  refine uu_iload_n dX12_tags_105 rfl (List.mem_of_getElem? (i := 2) rfl) ?_
  refine uu_ifb_eq (tgt := 114) dX12_tags_106 (by decide) (fun c1 => ?_) (fun c1 => ?_)
  · replace h := uu_neg c1 h
    refine uu_bipush (v := 8) dX12_tags_114 (by decide) ?_
    exact xb_X12_tags_116 uk hK0 h
  · replace h := uu_pos c1 h
    refine uu_bipush (v := 16) dX12_tags_109 (by decide) ?_
    refine uu_goto (tgt := 116) dX12_tags_111 (by decide) ?_
    exact xb_X12_tags_116 uk hK0 h
def fb_X12_tags_96 (K0 : Int32 → uS → Option uS) (x1 : Int32) (b2 : Bool) (b3 : Bool) (s : uS) : Option uS := (fn_X12_fail (s.I 1079 32) s).bind fun s1 => fb_X12_tags_104 K0 x1 b2 b3 s1
set_option maxRecDepth 100000 in
set_option maxHeartbeats 4000000 in
theorem xb_X12_tags_96 {l : Launch} {D : va_G} {A : Nat → ClassId} {B : Nat} {Z : State → Heap → Prop} {vF : Value} (uk : uK B Z vF) {K0 : Int32 → uS → Option uS} (hK0 : ∀ (x1 : Int32)  (s : uS) (r : uS), K0 x1 s = some r → GU l D A B Z mX12_tags 10 (r, none) s 0 [(0, .ref (B + 1079)), (1, .int x1)] []) {x1 : Int32} {b2 : Bool} {b3 : Bool} {s : uS} {r : uS}  (h : fb_X12_tags_96 K0 x1 b2 b3 s = some r) : GU l D A B Z mX12_tags 10 (r, none) s 96 [(0, .ref (B + 1079)), (1, .int x1), (2, .int (bI b2)), (3, .int (bI b3))] [] := by
  unfold fb_X12_tags_96 at h
  refine uu_aload_n dX12_tags_96 rfl (List.mem_of_getElem? (i := 0) rfl) ?_
  refine uu_aload_n dX12_tags_97 rfl (List.mem_of_getElem? (i := 0) rfl) ?_
  refine uu_geti (ci := 12) (N := 153) fX12_199 (by decide) so_1079.is (by decide) (by decide) dX12_tags_98 ?_
  obtain ⟨s1, e2, h⟩ := uu_ob h
  refine uu_cv (d1 := 0) (k := 1079) (ci := 12) (T := TX12) (N := 153) (As := [.int (s.I 1079 32)]) (st := []) (st' := []) (xc_X12_fail uk  e2) so_1079.is (by decide) rfl kX12_fail lX12_208 sX12_fail (by decide) (Nat.le_of_ble_eq_true rfl) dX12_tags_101 rfl ?_
  exact xb_X12_tags_104 uk hK0 h
def fb_X12_tags_83 (K0 : Int32 → uS → Option uS) (x1 : Int32) (b2 : Bool) (b3 : Bool) (s : uS) : Option uS := if b3 = true then ((iget 22 s 1108 x1).bind fun v2 => if v2 = 0 then (fb_X12_tags_104 K0 x1 b2 b3 s) else (fb_X12_tags_96 K0 x1 b2 b3 s)) else (fb_X12_tags_104 K0 x1 b2 b3 s)
set_option maxRecDepth 100000 in
set_option maxHeartbeats 4000000 in
theorem xb_X12_tags_83 {l : Launch} {D : va_G} {A : Nat → ClassId} {B : Nat} {Z : State → Heap → Prop} {vF : Value} (uk : uK B Z vF) {K0 : Int32 → uS → Option uS} (hK0 : ∀ (x1 : Int32)  (s : uS) (r : uS), K0 x1 s = some r → GU l D A B Z mX12_tags 10 (r, none) s 0 [(0, .ref (B + 1079)), (1, .int x1)] []) {x1 : Int32} {b2 : Bool} {b3 : Bool} {s : uS} {r : uS}  (h : fb_X12_tags_83 K0 x1 b2 b3 s = some r) : GU l D A B Z mX12_tags 10 (r, none) s 83 [(0, .ref (B + 1079)), (1, .int x1), (2, .int (bI b2)), (3, .int (bI b3))] [] := by
  unfold fb_X12_tags_83 at h
  refine uu_iload_n dX12_tags_83 rfl (List.mem_of_getElem? (i := 3) rfl) ?_
  refine uu_ifb_eq (tgt := 104) dX12_tags_84 (by decide) (fun c1 => ?_) (fun c1 => ?_)
  · replace h := uu_neg c1 h
    exact xb_X12_tags_104 uk hK0 h
  · replace h := uu_pos c1 h
    refine uu_aload_n dX12_tags_87 rfl (List.mem_of_getElem? (i := 0) rfl) ?_
    refine uu_geta (ci := 12) (N := 153) fX12_306 (by decide) so_1079.is (by decide) (c := 1108) (by decide) dX12_tags_88 ?_
    refine uu_iload_n dX12_tags_91 rfl (List.mem_of_getElem? (i := 1) rfl) ?_
    obtain ⟨v2, e3, h⟩ := uu_ob h
    refine uu_zald e3 dX12_tags_92 ?_
    refine uu_if_eq (tgt := 104) dX12_tags_93 (by decide) (fun c4 => ?_) (fun c4 => ?_)
    · replace h := uu_pos c4 h
      exact xb_X12_tags_104 uk hK0 h
    · replace h := uu_neg c4 h
      exact xb_X12_tags_96 uk hK0 h
def fb_X12_tags_69 (K0 : Int32 → uS → Option uS) (x1 : Int32) (b2 : Bool) (b3 : Bool) (s : uS) : Option uS := if b2 = true then ((iget 20 s 1106 x1).bind fun v2 => if v2 = (-1) then (fb_X12_tags_83 K0 x1 b2 b3 s) else (fb_X12_tags_96 K0 x1 b2 b3 s)) else (fb_X12_tags_83 K0 x1 b2 b3 s)
set_option maxRecDepth 100000 in
set_option maxHeartbeats 4000000 in
theorem xb_X12_tags_69 {l : Launch} {D : va_G} {A : Nat → ClassId} {B : Nat} {Z : State → Heap → Prop} {vF : Value} (uk : uK B Z vF) {K0 : Int32 → uS → Option uS} (hK0 : ∀ (x1 : Int32)  (s : uS) (r : uS), K0 x1 s = some r → GU l D A B Z mX12_tags 10 (r, none) s 0 [(0, .ref (B + 1079)), (1, .int x1)] []) {x1 : Int32} {b2 : Bool} {b3 : Bool} {s : uS} {r : uS}  (h : fb_X12_tags_69 K0 x1 b2 b3 s = some r) : GU l D A B Z mX12_tags 10 (r, none) s 69 [(0, .ref (B + 1079)), (1, .int x1), (2, .int (bI b2)), (3, .int (bI b3))] [] := by
  unfold fb_X12_tags_69 at h
  refine uu_iload_n dX12_tags_69 rfl (List.mem_of_getElem? (i := 2) rfl) ?_
  refine uu_ifb_eq (tgt := 83) dX12_tags_70 (by decide) (fun c1 => ?_) (fun c1 => ?_)
  · replace h := uu_neg c1 h
    exact xb_X12_tags_83 uk hK0 h
  · replace h := uu_pos c1 h
    refine uu_aload_n dX12_tags_73 rfl (List.mem_of_getElem? (i := 0) rfl) ?_
    refine uu_geta (ci := 12) (N := 153) fX12_303 (by decide) so_1079.is (by decide) (c := 1106) (by decide) dX12_tags_74 ?_
    refine uu_iload_n dX12_tags_77 rfl (List.mem_of_getElem? (i := 1) rfl) ?_
    obtain ⟨v2, e3, h⟩ := uu_ob h
    refine uu_iald e3 dX12_tags_78 ?_
    refine uu_iconst (v := -1) dX12_tags_79 (by decide) ?_
    refine uu_icmp_ne (tgt := 96) dX12_tags_80 (by decide) (fun c4 => ?_) (fun c4 => ?_)
    · replace h := uu_neg c4 h
      exact xb_X12_tags_96 uk hK0 h
    · replace h := uu_pos c4 h
      exact xb_X12_tags_83 uk hK0 h
def fb_X12_tags_60 (K0 : Int32 → uS → Option uS) (x1 : Int32) (b2 : Bool) (bs0 : Bool) (s : uS) : Option uS := if b2 = true then (fb_X12_tags_69 K0 x1 b2 bs0 s) else (if bs0 = true then (fb_X12_tags_69 K0 x1 b2 bs0 s) else (fb_X12_tags_96 K0 x1 b2 bs0 s))
set_option maxRecDepth 100000 in
set_option maxHeartbeats 4000000 in
theorem xb_X12_tags_60 {l : Launch} {D : va_G} {A : Nat → ClassId} {B : Nat} {Z : State → Heap → Prop} {vF : Value} (uk : uK B Z vF) {K0 : Int32 → uS → Option uS} (hK0 : ∀ (x1 : Int32)  (s : uS) (r : uS), K0 x1 s = some r → GU l D A B Z mX12_tags 10 (r, none) s 0 [(0, .ref (B + 1079)), (1, .int x1)] []) {x1 : Int32} {b2 : Bool} {bs0 : Bool} {s : uS} {r : uS}  (h : fb_X12_tags_60 K0 x1 b2 bs0 s = some r) : GU l D A B Z mX12_tags 10 (r, none) s 60 [(0, .ref (B + 1079)), (1, .int x1), (2, .int (bI b2))] [.int (bI bs0)] := by
  unfold fb_X12_tags_60 at h
  refine uu_istore_n dX12_tags_60 rfl (by decide) rfl ?_
  refine uu_iload_n dX12_tags_61 rfl (List.mem_of_getElem? (i := 3) rfl) ?_
  refine uu_ifb_ne (tgt := 69) dX12_tags_62 (by decide) (fun c1 => ?_) (fun c1 => ?_)
  · replace h := uu_pos c1 h
    refine uu_lv [1, 2, 3, 0] (lv' := [(0, .ref (B + 1079)), (1, .int x1), (2, .int (bI b2)), (3, .int (bI bs0))]) rfl ?_
    exact xb_X12_tags_69 uk hK0 h
  · replace h := uu_neg c1 h
    refine uu_iload_n dX12_tags_65 rfl (List.mem_of_getElem? (i := 0) rfl) ?_
    refine uu_ifb_eq (tgt := 96) dX12_tags_66 (by decide) (fun c2 => ?_) (fun c2 => ?_)
    · replace h := uu_neg c2 h
      refine uu_lv [1, 2, 3, 0] (lv' := [(0, .ref (B + 1079)), (1, .int x1), (2, .int (bI b2)), (3, .int (bI bs0))]) rfl ?_
      exact xb_X12_tags_96 uk hK0 h
    · replace h := uu_pos c2 h
      refine uu_lv [1, 2, 3, 0] (lv' := [(0, .ref (B + 1079)), (1, .int x1), (2, .int (bI b2)), (3, .int (bI bs0))]) rfl ?_
      exact xb_X12_tags_69 uk hK0 h
def fb_X12_tags_34 (K0 : Int32 → uS → Option uS) (x1 : Int32) (bs0 : Bool) (s : uS) : Option uS := (fn_X12_wordIs kW_80 s).bind fun v2 => if v2 = true then ((iget 20 s 1098 x1).bind fun v5 => if v5 = 4 then (fb_X12_tags_60 K0 x1 bs0 false s) else (fb_X12_tags_60 K0 x1 bs0 true s)) else (fb_X12_tags_60 K0 x1 bs0 false s)
set_option maxRecDepth 100000 in
set_option maxHeartbeats 4000000 in
theorem xb_X12_tags_34 {l : Launch} {D : va_G} {A : Nat → ClassId} {B : Nat} {Z : State → Heap → Prop} {vF : Value} (uk : uK B Z vF) {K0 : Int32 → uS → Option uS} (hK0 : ∀ (x1 : Int32)  (s : uS) (r : uS), K0 x1 s = some r → GU l D A B Z mX12_tags 10 (r, none) s 0 [(0, .ref (B + 1079)), (1, .int x1)] []) {x1 : Int32} {bs0 : Bool} {s : uS} {r : uS}  (h : fb_X12_tags_34 K0 x1 bs0 s = some r) : GU l D A B Z mX12_tags 10 (r, none) s 34 [(0, .ref (B + 1079)), (1, .int x1)] [.int (bI bs0)] := by
  unfold fb_X12_tags_34 at h
  refine uu_istore_n dX12_tags_34 rfl (by decide) rfl ?_
  refine uu_aload_n dX12_tags_35 rfl (List.mem_of_getElem? (i := 1) rfl) ?_
  obtain ⟨cq1, cp1, cv1, cw1⟩ := uk.2.1 80 _ rfl
  refine uu_ldcwS cv1 dX12_tags_36 ?_
  obtain ⟨v2, e3, h⟩ := uu_ob h
  refine uu_cv (d1 := 4) (k := 1079) (ci := 12) (T := TX12) (N := 153) (As := [.ref cq1]) (st := []) (st' := [.int (bI v2)]) (xc_X12_wordIs uk cw1 e3) so_1079.is (by decide) rfl kX12_wordIs lX12_235 sX12_wordIs (by decide) (Nat.le_of_ble_eq_true rfl) dX12_tags_39 rfl ?_
  refine uu_ifb_eq (tgt := 59) dX12_tags_42 (by decide) (fun c4 => ?_) (fun c4 => ?_)
  · replace h := uu_neg c4 h
    refine uu_iconst (v := 0) dX12_tags_59 (by decide) ?_
    refine uu_lv [1, 2, 0] (lv' := [(0, .ref (B + 1079)), (1, .int x1), (2, .int (bI bs0))]) rfl ?_
    exact xb_X12_tags_60 uk hK0 h
  · replace h := uu_pos c4 h
    refine uu_aload_n dX12_tags_45 rfl (List.mem_of_getElem? (i := 1) rfl) ?_
    refine uu_geta (ci := 12) (N := 153) fX12_285 (by decide) so_1079.is (by decide) (c := 1098) (by decide) dX12_tags_46 ?_
    refine uu_iload_n dX12_tags_49 rfl (List.mem_of_getElem? (i := 2) rfl) ?_
    obtain ⟨v5, e6, h⟩ := uu_ob h
    refine uu_iald e6 dX12_tags_50 ?_
    refine uu_iconst (v := 4) dX12_tags_51 (by decide) ?_
    refine uu_icmp_eq (tgt := 59) dX12_tags_52 (by decide) (fun c7 => ?_) (fun c7 => ?_)
    · replace h := uu_pos c7 h
      refine uu_iconst (v := 0) dX12_tags_59 (by decide) ?_
      refine uu_lv [1, 2, 0] (lv' := [(0, .ref (B + 1079)), (1, .int x1), (2, .int (bI bs0))]) rfl ?_
      exact xb_X12_tags_60 uk hK0 h
    · replace h := uu_neg c7 h
      refine uu_iconst (v := 1) dX12_tags_55 (by decide) ?_
      refine uu_goto (tgt := 60) dX12_tags_56 (by decide) ?_
      refine uu_lv [1, 2, 0] (lv' := [(0, .ref (B + 1079)), (1, .int x1), (2, .int (bI bs0))]) rfl ?_
      exact xb_X12_tags_60 uk hK0 h
def fb_X12_tags_0 (K0 : Int32 → uS → Option uS) (x1 : Int32) (s : uS) : Option uS := (fn_X12_is 2 s).bind fun v1 => if v1 = true then ((fn_X12_wordIs kW_95 s).bind fun v5 => if v5 = true then ((iget 20 s 1098 x1).bind fun v8 => if v8 = 6 then (fb_X12_tags_34 K0 x1 false s) else (fb_X12_tags_34 K0 x1 true s)) else (fb_X12_tags_34 K0 x1 false s)) else (some s)
set_option maxRecDepth 100000 in
set_option maxHeartbeats 4000000 in
theorem xb_X12_tags_0 {l : Launch} {D : va_G} {A : Nat → ClassId} {B : Nat} {Z : State → Heap → Prop} {vF : Value} (uk : uK B Z vF) {K0 : Int32 → uS → Option uS} (hK0 : ∀ (x1 : Int32)  (s : uS) (r : uS), K0 x1 s = some r → GU l D A B Z mX12_tags 10 (r, none) s 0 [(0, .ref (B + 1079)), (1, .int x1)] []) {x1 : Int32} {s : uS} {r : uS}  (h : fb_X12_tags_0 K0 x1 s = some r) : GU l D A B Z mX12_tags 10 (r, none) s 0 [(0, .ref (B + 1079)), (1, .int x1)] [] := by
  unfold fb_X12_tags_0 at h
  refine uu_aload_n dX12_tags_0 rfl (List.mem_of_getElem? (i := 0) rfl) ?_
  refine uu_iconst (v := 2) dX12_tags_1 (by decide) ?_
  obtain ⟨v1, e2, h⟩ := uu_ob h
  refine uu_cv (d1 := 0) (k := 1079) (ci := 12) (T := TX12) (N := 153) (As := [.int 2]) (st := []) (st' := [.int (bI v1)]) (xc_X12_is uk  e2) so_1079.is (by decide) rfl kX12_is lX12_273 sX12_is (by decide) (Nat.le_of_ble_eq_true rfl) dX12_tags_2 rfl ?_
  refine uu_ifb_eq (tgt := 161) dX12_tags_5 (by decide) (fun c3 => ?_) (fun c3 => ?_)
  · replace h := uu_neg c3 h
    have hr := Option.some.inj h
    subst hr
    exact uu_vret rfl dX12_tags_161
  · replace h := uu_pos c3 h
    refine uu_aload_n dX12_tags_8 rfl (List.mem_of_getElem? (i := 0) rfl) ?_
    obtain ⟨cq4, cp4, cv4, cw4⟩ := uk.2.1 95 _ rfl
    refine uu_ldcwS cv4 dX12_tags_9 ?_
    obtain ⟨v5, e6, h⟩ := uu_ob h
    refine uu_cv (d1 := 4) (k := 1079) (ci := 12) (T := TX12) (N := 153) (As := [.ref cq4]) (st := []) (st' := [.int (bI v5)]) (xc_X12_wordIs uk cw4 e6) so_1079.is (by decide) rfl kX12_wordIs lX12_235 sX12_wordIs (by decide) (Nat.le_of_ble_eq_true rfl) dX12_tags_12 rfl ?_
    refine uu_ifb_eq (tgt := 33) dX12_tags_15 (by decide) (fun c7 => ?_) (fun c7 => ?_)
    · replace h := uu_neg c7 h
      refine uu_iconst (v := 0) dX12_tags_33 (by decide) ?_
      exact xb_X12_tags_34 uk hK0 h
    · replace h := uu_pos c7 h
      refine uu_aload_n dX12_tags_18 rfl (List.mem_of_getElem? (i := 0) rfl) ?_
      refine uu_geta (ci := 12) (N := 153) fX12_285 (by decide) so_1079.is (by decide) (c := 1098) (by decide) dX12_tags_19 ?_
      refine uu_iload_n dX12_tags_22 rfl (List.mem_of_getElem? (i := 1) rfl) ?_
      obtain ⟨v8, e9, h⟩ := uu_ob h
      refine uu_iald e9 dX12_tags_23 ?_
      refine uu_bipush (v := 6) dX12_tags_24 (by decide) ?_
      refine uu_icmp_eq (tgt := 33) dX12_tags_26 (by decide) (fun c10 => ?_) (fun c10 => ?_)
      · replace h := uu_pos c10 h
        refine uu_iconst (v := 0) dX12_tags_33 (by decide) ?_
        exact xb_X12_tags_34 uk hK0 h
      · replace h := uu_neg c10 h
        refine uu_iconst (v := 1) dX12_tags_29 (by decide) ?_
        refine uu_goto (tgt := 34) dX12_tags_30 (by decide) ?_
        exact xb_X12_tags_34 uk hK0 h
def fn_X12_tags_0  : Nat → Int32 → uS → Option uS
  | 0 => fun _ _ => none
  | n + 1 => fb_X12_tags_0 (fn_X12_tags_0  n)
set_option maxRecDepth 100000 in
set_option maxHeartbeats 4000000 in
theorem xn_X12_tags_0 {l : Launch} {D : va_G} {A : Nat → ClassId} {B : Nat} {Z : State → Heap → Prop} {vF : Value} (uk : uK B Z vF)   : ∀ (n : Nat) (x1 : Int32)  (s : uS) (r : uS), fn_X12_tags_0  n x1 s = some r → GU l D A B Z mX12_tags 10 (r, none) s 0 [(0, .ref (B + 1079)), (1, .int x1)] [] := by
  intro n
  induction n with
  | zero => intro x1 s r h
            cases h
  | succ n ih => intro x1 s r h
                 exact xb_X12_tags_0 uk ih  h
def fn_X12_tags (x1 : Int32) (s : uS) : Option uS := fn_X12_tags_0 uFu x1 s
set_option maxRecDepth 100000 in
set_option maxHeartbeats 4000000 in
theorem xc_X12_tags {l : Launch} {D : va_G} {A : Nat → ClassId} {B : Nat} {Z : State → Heap → Prop} {vF : Value} (uk : uK B Z vF) {x1 : Int32} {s : uS} {r : uS}  (h : fn_X12_tags x1 s = some r) : CU l D A B Z 10 mX12_tags s [.ref (B + 1079), .int x1] (r, none) := by
  unfold fn_X12_tags at h
  refine cu_of rfl uk.1.1 (Nat.le_of_ble_eq_true rfl) ?_
  show GU _ _ _ _ _ _ _ _ _ 0 [(0, .ref (B + 1079)), (1, .int x1)] []
  exact xn_X12_tags_0 uk  _ _ _ _ h
