abbrev mX12_init : hM := (yX12_init, cX12_init, 3, none)
theorem dX12_init_0 : decode cX12_init 0 = .ok (.aload_n 0, 1) := by decide +kernel
theorem dX12_init_1 : decode cX12_init 1 = .ok (.invokespecial 1382, 3) := by decide +kernel
theorem lX12_1382 : Cond.methodLink RX12 1382 objectInit ∈ lw_g := h_t11 199 rfl rfl
theorem dX12_init_4 : decode cX12_init 4 = .ok (.aload_n 0, 1) := by decide +kernel
theorem dX12_init_5 : decode cX12_init 5 = .ok (.iconst 1, 1) := by decide +kernel
theorem dX12_init_6 : decode cX12_init 6 = .ok (.putfield 7, 3) := by decide +kernel
theorem fX12_7 : h_fl RX12 7 12 0 RX12 TX12 153 := ⟨rfl, by decide, inX12, h_t11 201 rfl rfl⟩
theorem dX12_init_9 : decode cX12_init 9 = .ok (.aload_n 0, 1) := by decide +kernel
theorem dX12_init_10 : decode cX12_init 10 = .ok (.sipush 6000, 3) := by decide +kernel
theorem dX12_init_13 : decode cX12_init 13 = .ok (.newarray .int, 2) := by decide +kernel
theorem dX12_init_15 : decode cX12_init 15 = .ok (.putfield 21, 3) := by decide +kernel
theorem fX12_21 : h_fl RX12 21 12 4 RX12 TX12 153 := ⟨rfl, by decide, inX12, h_t11 205 rfl rfl⟩
theorem dX12_init_18 : decode cX12_init 18 = .ok (.aload_n 0, 1) := by decide +kernel
theorem dX12_init_19 : decode cX12_init 19 = .ok (.sipush 10000, 3) := by decide +kernel
theorem dX12_init_22 : decode cX12_init 22 = .ok (.newarray .byte, 2) := by decide +kernel
theorem dX12_init_24 : decode cX12_init 24 = .ok (.putfield 34, 3) := by decide +kernel
theorem fX12_34 : h_fl RX12 34 12 6 RX12 TX12 153 := ⟨rfl, by decide, inX12, h_t11 207 rfl rfl⟩
theorem dX12_init_27 : decode cX12_init 27 = .ok (.aload_n 0, 1) := by decide +kernel
theorem dX12_init_28 : decode cX12_init 28 = .ok (.sipush 10000, 3) := by decide +kernel
theorem dX12_init_31 : decode cX12_init 31 = .ok (.newarray .byte, 2) := by decide +kernel
theorem dX12_init_33 : decode cX12_init 33 = .ok (.putfield 38, 3) := by decide +kernel
theorem fX12_38 : h_fl RX12 38 12 7 RX12 TX12 153 := ⟨rfl, by decide, inX12, h_t11 208 rfl rfl⟩
theorem dX12_init_36 : decode cX12_init 36 = .ok (.aload_n 0, 1) := by decide +kernel
theorem dX12_init_37 : decode cX12_init 37 = .ok (.sipush 10000, 3) := by decide +kernel
theorem dX12_init_40 : decode cX12_init 40 = .ok (.newarray .byte, 2) := by decide +kernel
theorem dX12_init_42 : decode cX12_init 42 = .ok (.putfield 41, 3) := by decide +kernel
theorem fX12_41 : h_fl RX12 41 12 8 RX12 TX12 153 := ⟨rfl, by decide, inX12, h_t11 209 rfl rfl⟩
theorem dX12_init_45 : decode cX12_init 45 = .ok (.aload_n 0, 1) := by decide +kernel
theorem dX12_init_46 : decode cX12_init 46 = .ok (.sipush 10000, 3) := by decide +kernel
theorem dX12_init_49 : decode cX12_init 49 = .ok (.newarray .byte, 2) := by decide +kernel
theorem dX12_init_51 : decode cX12_init 51 = .ok (.putfield 44, 3) := by decide +kernel
theorem fX12_44 : h_fl RX12 44 12 9 RX12 TX12 153 := ⟨rfl, by decide, inX12, h_t11 210 rfl rfl⟩
theorem dX12_init_54 : decode cX12_init 54 = .ok (.aload_n 0, 1) := by decide +kernel
theorem dX12_init_55 : decode cX12_init 55 = .ok (.sipush 10000, 3) := by decide +kernel
theorem dX12_init_58 : decode cX12_init 58 = .ok (.newarray .byte, 2) := by decide +kernel
theorem dX12_init_60 : decode cX12_init 60 = .ok (.putfield 47, 3) := by decide +kernel
theorem fX12_47 : h_fl RX12 47 12 10 RX12 TX12 153 := ⟨rfl, by decide, inX12, h_t11 211 rfl rfl⟩
theorem dX12_init_63 : decode cX12_init 63 = .ok (.aload_n 0, 1) := by decide +kernel
theorem dX12_init_64 : decode cX12_init 64 = .ok (.iconst 5, 1) := by decide +kernel
theorem dX12_init_65 : decode cX12_init 65 = .ok (.newarray .int, 2) := by decide +kernel
theorem dX12_init_67 : decode cX12_init 67 = .ok (.putfield 31, 3) := by decide +kernel
theorem fX12_31 : h_fl RX12 31 12 11 RX12 TX12 153 := ⟨rfl, by decide, inX12, h_t11 212 rfl rfl⟩
theorem dX12_init_70 : decode cX12_init 70 = .ok (.aload_n 0, 1) := by decide +kernel
theorem dX12_init_71 : decode cX12_init 71 = .ok (.sipush 4000, 3) := by decide +kernel
theorem dX12_init_74 : decode cX12_init 74 = .ok (.newarray .int, 2) := by decide +kernel
theorem dX12_init_76 : decode cX12_init 76 = .ok (.putfield 78, 3) := by decide +kernel
theorem fX12_78 : h_fl RX12 78 12 12 RX12 TX12 153 := ⟨rfl, by decide, inX12, h_t11 213 rfl rfl⟩
theorem dX12_init_79 : decode cX12_init 79 = .ok (.aload_n 0, 1) := by decide +kernel
theorem dX12_init_80 : decode cX12_init 80 = .ok (.sipush 2100, 3) := by decide +kernel
theorem dX12_init_83 : decode cX12_init 83 = .ok (.newarray .int, 2) := by decide +kernel
theorem dX12_init_85 : decode cX12_init 85 = .ok (.putfield 82, 3) := by decide +kernel
theorem fX12_82 : h_fl RX12 82 12 15 RX12 TX12 153 := ⟨rfl, by decide, inX12, h_t11 216 rfl rfl⟩
theorem dX12_init_88 : decode cX12_init 88 = .ok (.aload_n 0, 1) := by decide +kernel
theorem dX12_init_89 : decode cX12_init 89 = .ok (.sipush 2100, 3) := by decide +kernel
theorem dX12_init_92 : decode cX12_init 92 = .ok (.newarray .int, 2) := by decide +kernel
theorem dX12_init_94 : decode cX12_init 94 = .ok (.putfield 88, 3) := by decide +kernel
theorem fX12_88 : h_fl RX12 88 12 16 RX12 TX12 153 := ⟨rfl, by decide, inX12, h_t11 217 rfl rfl⟩
theorem dX12_init_97 : decode cX12_init 97 = .ok (.aload_n 0, 1) := by decide +kernel
theorem dX12_init_98 : decode cX12_init 98 = .ok (.sipush 2100, 3) := by decide +kernel
theorem dX12_init_101 : decode cX12_init 101 = .ok (.newarray .int, 2) := by decide +kernel
theorem dX12_init_103 : decode cX12_init 103 = .ok (.putfield 98, 3) := by decide +kernel
theorem fX12_98 : h_fl RX12 98 12 17 RX12 TX12 153 := ⟨rfl, by decide, inX12, h_t11 218 rfl rfl⟩
theorem dX12_init_106 : decode cX12_init 106 = .ok (.aload_n 0, 1) := by decide +kernel
theorem dX12_init_107 : decode cX12_init 107 = .ok (.sipush 2100, 3) := by decide +kernel
theorem dX12_init_110 : decode cX12_init 110 = .ok (.newarray .int, 2) := by decide +kernel
theorem dX12_init_112 : decode cX12_init 112 = .ok (.putfield 107, 3) := by decide +kernel
theorem fX12_107 : h_fl RX12 107 12 18 RX12 TX12 153 := ⟨rfl, by decide, inX12, h_t11 219 rfl rfl⟩
theorem dX12_init_115 : decode cX12_init 115 = .ok (.aload_n 0, 1) := by decide +kernel
theorem dX12_init_116 : decode cX12_init 116 = .ok (.sipush 4100, 3) := by decide +kernel
theorem dX12_init_119 : decode cX12_init 119 = .ok (.newarray .int, 2) := by decide +kernel
theorem dX12_init_121 : decode cX12_init 121 = .ok (.putfield 101, 3) := by decide +kernel
theorem fX12_101 : h_fl RX12 101 12 19 RX12 TX12 153 := ⟨rfl, by decide, inX12, h_t11 220 rfl rfl⟩
theorem dX12_init_124 : decode cX12_init 124 = .ok (.aload_n 0, 1) := by decide +kernel
theorem dX12_init_125 : decode cX12_init 125 = .ok (.sipush 4100, 3) := by decide +kernel
theorem dX12_init_128 : decode cX12_init 128 = .ok (.newarray .int, 2) := by decide +kernel
theorem dX12_init_130 : decode cX12_init 130 = .ok (.putfield 116, 3) := by decide +kernel
theorem fX12_116 : h_fl RX12 116 12 20 RX12 TX12 153 := ⟨rfl, by decide, inX12, h_t11 221 rfl rfl⟩
theorem dX12_init_133 : decode cX12_init 133 = .ok (.aload_n 0, 1) := by decide +kernel
theorem dX12_init_134 : decode cX12_init 134 = .ok (.sipush 2100, 3) := by decide +kernel
theorem dX12_init_137 : decode cX12_init 137 = .ok (.newarray .int, 2) := by decide +kernel
theorem dX12_init_139 : decode cX12_init 139 = .ok (.putfield 122, 3) := by decide +kernel
theorem fX12_122 : h_fl RX12 122 12 22 RX12 TX12 153 := ⟨rfl, by decide, inX12, h_t11 223 rfl rfl⟩
theorem dX12_init_142 : decode cX12_init 142 = .ok (.aload_n 0, 1) := by decide +kernel
theorem dX12_init_143 : decode cX12_init 143 = .ok (.sipush 4100, 3) := by decide +kernel
theorem dX12_init_146 : decode cX12_init 146 = .ok (.newarray .int, 2) := by decide +kernel
theorem dX12_init_148 : decode cX12_init 148 = .ok (.putfield 171, 3) := by decide +kernel
theorem fX12_171 : h_fl RX12 171 12 26 RX12 TX12 153 := ⟨rfl, by decide, inX12, h_t11 227 rfl rfl⟩
theorem dX12_init_151 : decode cX12_init 151 = .ok (.aload_n 0, 1) := by decide +kernel
theorem dX12_init_152 : decode cX12_init 152 = .ok (.sipush 2000, 3) := by decide +kernel
theorem dX12_init_155 : decode cX12_init 155 = .ok (.newarray .int, 2) := by decide +kernel
theorem dX12_init_157 : decode cX12_init 157 = .ok (.putfield 187, 3) := by decide +kernel
theorem fX12_187 : h_fl RX12 187 12 28 RX12 TX12 153 := ⟨rfl, by decide, inX12, h_t11 229 rfl rfl⟩
theorem dX12_init_160 : decode cX12_init 160 = .ok (.aload_n 0, 1) := by decide +kernel
theorem dX12_init_161 : decode cX12_init 161 = .ok (.sipush 4100, 3) := by decide +kernel
theorem dX12_init_164 : decode cX12_init 164 = .ok (.newarray .int, 2) := by decide +kernel
theorem dX12_init_166 : decode cX12_init 166 = .ok (.putfield 260, 3) := by decide +kernel
theorem fX12_260 : h_fl RX12 260 12 36 RX12 TX12 153 := ⟨rfl, by decide, inX12, h_t11 237 rfl rfl⟩
theorem dX12_init_169 : decode cX12_init 169 = .ok (.aload_n 0, 1) := by decide +kernel
theorem dX12_init_170 : decode cX12_init 170 = .ok (.sipush 520, 3) := by decide +kernel
theorem dX12_init_173 : decode cX12_init 173 = .ok (.newarray .int, 2) := by decide +kernel
theorem dX12_init_175 : decode cX12_init 175 = .ok (.putfield 285, 3) := by decide +kernel
theorem fX12_285 : h_fl RX12 285 12 43 RX12 TX12 153 := ⟨rfl, by decide, inX12, h_t12 4 rfl rfl⟩
theorem dX12_init_178 : decode cX12_init 178 = .ok (.aload_n 0, 1) := by decide +kernel
theorem dX12_init_179 : decode cX12_init 179 = .ok (.sipush 520, 3) := by decide +kernel
theorem dX12_init_182 : decode cX12_init 182 = .ok (.newarray .int, 2) := by decide +kernel
theorem dX12_init_184 : decode cX12_init 184 = .ok (.putfield 288, 3) := by decide +kernel
theorem fX12_288 : h_fl RX12 288 12 44 RX12 TX12 153 := ⟨rfl, by decide, inX12, h_t12 5 rfl rfl⟩
theorem dX12_init_187 : decode cX12_init 187 = .ok (.aload_n 0, 1) := by decide +kernel
theorem dX12_init_188 : decode cX12_init 188 = .ok (.sipush 520, 3) := by decide +kernel
theorem dX12_init_191 : decode cX12_init 191 = .ok (.newarray .int, 2) := by decide +kernel
theorem dX12_init_193 : decode cX12_init 193 = .ok (.putfield 291, 3) := by decide +kernel
theorem fX12_291 : h_fl RX12 291 12 45 RX12 TX12 153 := ⟨rfl, by decide, inX12, h_t12 6 rfl rfl⟩
theorem dX12_init_196 : decode cX12_init 196 = .ok (.aload_n 0, 1) := by decide +kernel
theorem dX12_init_197 : decode cX12_init 197 = .ok (.sipush 520, 3) := by decide +kernel
theorem dX12_init_200 : decode cX12_init 200 = .ok (.newarray .int, 2) := by decide +kernel
theorem dX12_init_202 : decode cX12_init 202 = .ok (.putfield 294, 3) := by decide +kernel
theorem fX12_294 : h_fl RX12 294 12 46 RX12 TX12 153 := ⟨rfl, by decide, inX12, h_t12 7 rfl rfl⟩
theorem dX12_init_205 : decode cX12_init 205 = .ok (.aload_n 0, 1) := by decide +kernel
theorem dX12_init_206 : decode cX12_init 206 = .ok (.sipush 520, 3) := by decide +kernel
theorem dX12_init_209 : decode cX12_init 209 = .ok (.newarray .int, 2) := by decide +kernel
theorem dX12_init_211 : decode cX12_init 211 = .ok (.putfield 439, 3) := by decide +kernel
theorem fX12_439 : h_fl RX12 439 12 47 RX12 TX12 153 := ⟨rfl, by decide, inX12, h_t12 8 rfl rfl⟩
theorem dX12_init_214 : decode cX12_init 214 = .ok (.aload_n 0, 1) := by decide +kernel
theorem dX12_init_215 : decode cX12_init 215 = .ok (.sipush 520, 3) := by decide +kernel
theorem dX12_init_218 : decode cX12_init 218 = .ok (.newarray .int, 2) := by decide +kernel
theorem dX12_init_220 : decode cX12_init 220 = .ok (.putfield 297, 3) := by decide +kernel
theorem fX12_297 : h_fl RX12 297 12 48 RX12 TX12 153 := ⟨rfl, by decide, inX12, h_t12 9 rfl rfl⟩
theorem dX12_init_223 : decode cX12_init 223 = .ok (.aload_n 0, 1) := by decide +kernel
theorem dX12_init_224 : decode cX12_init 224 = .ok (.sipush 520, 3) := by decide +kernel
theorem dX12_init_227 : decode cX12_init 227 = .ok (.newarray .int, 2) := by decide +kernel
theorem dX12_init_229 : decode cX12_init 229 = .ok (.putfield 454, 3) := by decide +kernel
theorem fX12_454 : h_fl RX12 454 12 49 RX12 TX12 153 := ⟨rfl, by decide, inX12, h_t12 10 rfl rfl⟩
theorem dX12_init_232 : decode cX12_init 232 = .ok (.aload_n 0, 1) := by decide +kernel
theorem dX12_init_233 : decode cX12_init 233 = .ok (.sipush 520, 3) := by decide +kernel
theorem dX12_init_236 : decode cX12_init 236 = .ok (.newarray .int, 2) := by decide +kernel
theorem dX12_init_238 : decode cX12_init 238 = .ok (.putfield 300, 3) := by decide +kernel
theorem fX12_300 : h_fl RX12 300 12 50 RX12 TX12 153 := ⟨rfl, by decide, inX12, h_t12 11 rfl rfl⟩
theorem dX12_init_241 : decode cX12_init 241 = .ok (.aload_n 0, 1) := by decide +kernel
theorem dX12_init_242 : decode cX12_init 242 = .ok (.sipush 520, 3) := by decide +kernel
theorem dX12_init_245 : decode cX12_init 245 = .ok (.newarray .int, 2) := by decide +kernel
theorem dX12_init_247 : decode cX12_init 247 = .ok (.putfield 303, 3) := by decide +kernel
theorem fX12_303 : h_fl RX12 303 12 51 RX12 TX12 153 := ⟨rfl, by decide, inX12, h_t12 12 rfl rfl⟩
theorem dX12_init_250 : decode cX12_init 250 = .ok (.aload_n 0, 1) := by decide +kernel
theorem dX12_init_251 : decode cX12_init 251 = .ok (.sipush 520, 3) := by decide +kernel
theorem dX12_init_254 : decode cX12_init 254 = .ok (.newarray .int, 2) := by decide +kernel
theorem dX12_init_256 : decode cX12_init 256 = .ok (.putfield 463, 3) := by decide +kernel
theorem fX12_463 : h_fl RX12 463 12 52 RX12 TX12 153 := ⟨rfl, by decide, inX12, h_t12 13 rfl rfl⟩
theorem dX12_init_259 : decode cX12_init 259 = .ok (.aload_n 0, 1) := by decide +kernel
theorem dX12_init_260 : decode cX12_init 260 = .ok (.sipush 520, 3) := by decide +kernel
theorem dX12_init_263 : decode cX12_init 263 = .ok (.newarray .boolean, 2) := by decide +kernel
theorem ac_boolean : Cond.arrayClass .boolean ∈ lw_g := h_t13 181 rfl rfl
theorem dX12_init_265 : decode cX12_init 265 = .ok (.putfield 306, 3) := by decide +kernel
theorem fX12_306 : h_fl RX12 306 12 53 RX12 TX12 153 := ⟨rfl, by decide, inX12, h_t12 14 rfl rfl⟩
theorem dX12_init_268 : decode cX12_init 268 = .ok (.aload_n 0, 1) := by decide +kernel
theorem dX12_init_269 : decode cX12_init 269 = .ok (.sipush 520, 3) := by decide +kernel
theorem dX12_init_272 : decode cX12_init 272 = .ok (.newarray .int, 2) := by decide +kernel
theorem dX12_init_274 : decode cX12_init 274 = .ok (.putfield 310, 3) := by decide +kernel
theorem fX12_310 : h_fl RX12 310 12 54 RX12 TX12 153 := ⟨rfl, by decide, inX12, h_t12 15 rfl rfl⟩
theorem dX12_init_277 : decode cX12_init 277 = .ok (.aload_n 0, 1) := by decide +kernel
theorem dX12_init_278 : decode cX12_init 278 = .ok (.sipush 520, 3) := by decide +kernel
theorem dX12_init_281 : decode cX12_init 281 = .ok (.newarray .int, 2) := by decide +kernel
theorem dX12_init_283 : decode cX12_init 283 = .ok (.putfield 313, 3) := by decide +kernel
theorem fX12_313 : h_fl RX12 313 12 55 RX12 TX12 153 := ⟨rfl, by decide, inX12, h_t12 16 rfl rfl⟩
theorem dX12_init_286 : decode cX12_init 286 = .ok (.aload_n 0, 1) := by decide +kernel
theorem dX12_init_287 : decode cX12_init 287 = .ok (.sipush 520, 3) := by decide +kernel
theorem dX12_init_290 : decode cX12_init 290 = .ok (.newarray .int, 2) := by decide +kernel
theorem dX12_init_292 : decode cX12_init 292 = .ok (.putfield 316, 3) := by decide +kernel
theorem fX12_316 : h_fl RX12 316 12 56 RX12 TX12 153 := ⟨rfl, by decide, inX12, h_t12 17 rfl rfl⟩
theorem dX12_init_295 : decode cX12_init 295 = .ok (.aload_n 0, 1) := by decide +kernel
theorem dX12_init_296 : decode cX12_init 296 = .ok (.sipush 520, 3) := by decide +kernel
theorem dX12_init_299 : decode cX12_init 299 = .ok (.newarray .int, 2) := by decide +kernel
theorem dX12_init_301 : decode cX12_init 301 = .ok (.putfield 319, 3) := by decide +kernel
theorem fX12_319 : h_fl RX12 319 12 57 RX12 TX12 153 := ⟨rfl, by decide, inX12, h_t12 18 rfl rfl⟩
theorem dX12_init_304 : decode cX12_init 304 = .ok (.aload_n 0, 1) := by decide +kernel
theorem dX12_init_305 : decode cX12_init 305 = .ok (.sipush 520, 3) := by decide +kernel
theorem dX12_init_308 : decode cX12_init 308 = .ok (.newarray .int, 2) := by decide +kernel
theorem dX12_init_310 : decode cX12_init 310 = .ok (.putfield 322, 3) := by decide +kernel
theorem fX12_322 : h_fl RX12 322 12 58 RX12 TX12 153 := ⟨rfl, by decide, inX12, h_t12 19 rfl rfl⟩
theorem dX12_init_313 : decode cX12_init 313 = .ok (.aload_n 0, 1) := by decide +kernel
theorem dX12_init_314 : decode cX12_init 314 = .ok (.sipush 520, 3) := by decide +kernel
theorem dX12_init_317 : decode cX12_init 317 = .ok (.newarray .int, 2) := by decide +kernel
theorem dX12_init_319 : decode cX12_init 319 = .ok (.putfield 325, 3) := by decide +kernel
theorem fX12_325 : h_fl RX12 325 12 59 RX12 TX12 153 := ⟨rfl, by decide, inX12, h_t12 20 rfl rfl⟩
theorem dX12_init_322 : decode cX12_init 322 = .ok (.aload_n 0, 1) := by decide +kernel
theorem dX12_init_323 : decode cX12_init 323 = .ok (.sipush 520, 3) := by decide +kernel
theorem dX12_init_326 : decode cX12_init 326 = .ok (.newarray .int, 2) := by decide +kernel
theorem dX12_init_328 : decode cX12_init 328 = .ok (.putfield 328, 3) := by decide +kernel
theorem fX12_328 : h_fl RX12 328 12 60 RX12 TX12 153 := ⟨rfl, by decide, inX12, h_t12 21 rfl rfl⟩
theorem dX12_init_331 : decode cX12_init 331 = .ok (.aload_n 0, 1) := by decide +kernel
theorem dX12_init_332 : decode cX12_init 332 = .ok (.sipush 310, 3) := by decide +kernel
theorem dX12_init_335 : decode cX12_init 335 = .ok (.newarray .int, 2) := by decide +kernel
theorem dX12_init_337 : decode cX12_init 337 = .ok (.putfield 343, 3) := by decide +kernel
theorem fX12_343 : h_fl RX12 343 12 62 RX12 TX12 153 := ⟨rfl, by decide, inX12, h_t12 23 rfl rfl⟩
theorem dX12_init_340 : decode cX12_init 340 = .ok (.aload_n 0, 1) := by decide +kernel
theorem dX12_init_341 : decode cX12_init 341 = .ok (.sipush 310, 3) := by decide +kernel
theorem dX12_init_344 : decode cX12_init 344 = .ok (.newarray .int, 2) := by decide +kernel
theorem dX12_init_346 : decode cX12_init 346 = .ok (.putfield 346, 3) := by decide +kernel
theorem fX12_346 : h_fl RX12 346 12 63 RX12 TX12 153 := ⟨rfl, by decide, inX12, h_t12 24 rfl rfl⟩
theorem dX12_init_349 : decode cX12_init 349 = .ok (.aload_n 0, 1) := by decide +kernel
theorem dX12_init_350 : decode cX12_init 350 = .ok (.sipush 18800, 3) := by decide +kernel
theorem dX12_init_353 : decode cX12_init 353 = .ok (.newarray .long, 2) := by decide +kernel
theorem ac_long : Cond.arrayClass .long ∈ lw_g := h_t13 182 rfl rfl
theorem dX12_init_355 : decode cX12_init 355 = .ok (.putfield 555, 3) := by decide +kernel
theorem fX12_555 : h_fl RX12 555 12 68 RX12 TX12 153 := ⟨rfl, by decide, inX12, h_t12 29 rfl rfl⟩
theorem dX12_init_358 : decode cX12_init 358 = .ok (.aload_n 0, 1) := by decide +kernel
theorem dX12_init_359 : decode cX12_init 359 = .ok (.sipush 401, 3) := by decide +kernel
theorem dX12_init_362 : decode cX12_init 362 = .ok (.newarray .int, 2) := by decide +kernel
theorem dX12_init_364 : decode cX12_init 364 = .ok (.putfield 569, 3) := by decide +kernel
theorem fX12_569 : h_fl RX12 569 12 72 RX12 TX12 153 := ⟨rfl, by decide, inX12, h_t12 33 rfl rfl⟩
theorem dX12_init_367 : decode cX12_init 367 = .ok (.aload_n 0, 1) := by decide +kernel
theorem dX12_init_368 : decode cX12_init 368 = .ok (.sipush 401, 3) := by decide +kernel
theorem dX12_init_371 : decode cX12_init 371 = .ok (.newarray .int, 2) := by decide +kernel
theorem dX12_init_373 : decode cX12_init 373 = .ok (.putfield 572, 3) := by decide +kernel
theorem fX12_572 : h_fl RX12 572 12 73 RX12 TX12 153 := ⟨rfl, by decide, inX12, h_t12 34 rfl rfl⟩
theorem dX12_init_376 : decode cX12_init 376 = .ok (.aload_n 0, 1) := by decide +kernel
theorem dX12_init_377 : decode cX12_init 377 = .ok (.sipush 401, 3) := by decide +kernel
theorem dX12_init_380 : decode cX12_init 380 = .ok (.newarray .int, 2) := by decide +kernel
theorem dX12_init_382 : decode cX12_init 382 = .ok (.putfield 575, 3) := by decide +kernel
theorem fX12_575 : h_fl RX12 575 12 74 RX12 TX12 153 := ⟨rfl, by decide, inX12, h_t12 35 rfl rfl⟩
theorem dX12_init_385 : decode cX12_init 385 = .ok (.aload_n 0, 1) := by decide +kernel
theorem dX12_init_386 : decode cX12_init 386 = .ok (.sipush 401, 3) := by decide +kernel
theorem dX12_init_389 : decode cX12_init 389 = .ok (.newarray .int, 2) := by decide +kernel
theorem dX12_init_391 : decode cX12_init 391 = .ok (.putfield 578, 3) := by decide +kernel
theorem fX12_578 : h_fl RX12 578 12 75 RX12 TX12 153 := ⟨rfl, by decide, inX12, h_t12 36 rfl rfl⟩
theorem dX12_init_394 : decode cX12_init 394 = .ok (.aload_n 0, 1) := by decide +kernel
theorem dX12_init_395 : decode cX12_init 395 = .ok (.sipush 401, 3) := by decide +kernel
theorem dX12_init_398 : decode cX12_init 398 = .ok (.newarray .int, 2) := by decide +kernel
theorem dX12_init_400 : decode cX12_init 400 = .ok (.putfield 581, 3) := by decide +kernel
theorem fX12_581 : h_fl RX12 581 12 76 RX12 TX12 153 := ⟨rfl, by decide, inX12, h_t12 37 rfl rfl⟩
theorem dX12_init_403 : decode cX12_init 403 = .ok (.aload_n 0, 1) := by decide +kernel
theorem dX12_init_404 : decode cX12_init 404 = .ok (.sipush 10300, 3) := by decide +kernel
theorem dX12_init_407 : decode cX12_init 407 = .ok (.newarray .int, 2) := by decide +kernel
theorem dX12_init_409 : decode cX12_init 409 = .ok (.putfield 957, 3) := by decide +kernel
theorem fX12_957 : h_fl RX12 957 12 77 RX12 TX12 153 := ⟨rfl, by decide, inX12, h_t12 38 rfl rfl⟩
theorem dX12_init_412 : decode cX12_init 412 = .ok (.aload_n 0, 1) := by decide +kernel
theorem dX12_init_413 : decode cX12_init 413 = .ok (.bipush 101, 2) := by decide +kernel
theorem dX12_init_415 : decode cX12_init 415 = .ok (.newarray .int, 2) := by decide +kernel
theorem dX12_init_417 : decode cX12_init 417 = .ok (.putfield 954, 3) := by decide +kernel
theorem fX12_954 : h_fl RX12 954 12 78 RX12 TX12 153 := ⟨rfl, by decide, inX12, h_t12 39 rfl rfl⟩
theorem dX12_init_420 : decode cX12_init 420 = .ok (.aload_n 0, 1) := by decide +kernel
theorem dX12_init_421 : decode cX12_init 421 = .ok (.iconst 4, 1) := by decide +kernel
theorem dX12_init_422 : decode cX12_init 422 = .ok (.newarray .int, 2) := by decide +kernel
theorem dX12_init_424 : decode cX12_init 424 = .ok (.putfield 796, 3) := by decide +kernel
theorem fX12_796 : h_fl RX12 796 12 79 RX12 TX12 153 := ⟨rfl, by decide, inX12, h_t12 40 rfl rfl⟩
theorem dX12_init_427 : decode cX12_init 427 = .ok (.aload_n 0, 1) := by decide +kernel
theorem dX12_init_428 : decode cX12_init 428 = .ok (.sipush 480, 3) := by decide +kernel
theorem dX12_init_431 : decode cX12_init 431 = .ok (.newarray .int, 2) := by decide +kernel
theorem dX12_init_433 : decode cX12_init 433 = .ok (.putfield 805, 3) := by decide +kernel
theorem fX12_805 : h_fl RX12 805 12 80 RX12 TX12 153 := ⟨rfl, by decide, inX12, h_t12 41 rfl rfl⟩
theorem dX12_init_436 : decode cX12_init 436 = .ok (.aload_n 0, 1) := by decide +kernel
theorem dX12_init_437 : decode cX12_init 437 = .ok (.bipush 24, 2) := by decide +kernel
theorem dX12_init_439 : decode cX12_init 439 = .ok (.newarray .int, 2) := by decide +kernel
theorem dX12_init_441 : decode cX12_init 441 = .ok (.putfield 802, 3) := by decide +kernel
theorem fX12_802 : h_fl RX12 802 12 81 RX12 TX12 153 := ⟨rfl, by decide, inX12, h_t12 42 rfl rfl⟩
theorem dX12_init_444 : decode cX12_init 444 = .ok (.aload_n 0, 1) := by decide +kernel
theorem dX12_init_445 : decode cX12_init 445 = .ok (.iconst 4, 1) := by decide +kernel
theorem dX12_init_446 : decode cX12_init 446 = .ok (.newarray .int, 2) := by decide +kernel
theorem dX12_init_448 : decode cX12_init 448 = .ok (.putfield 857, 3) := by decide +kernel
theorem fX12_857 : h_fl RX12 857 12 82 RX12 TX12 153 := ⟨rfl, by decide, inX12, h_t12 43 rfl rfl⟩
theorem dX12_init_451 : decode cX12_init 451 = .ok (.aload_n 0, 1) := by decide +kernel
theorem dX12_init_452 : decode cX12_init 452 = .ok (.sipush 160, 3) := by decide +kernel
theorem dX12_init_455 : decode cX12_init 455 = .ok (.newarray .int, 2) := by decide +kernel
theorem dX12_init_457 : decode cX12_init 457 = .ok (.putfield 866, 3) := by decide +kernel
theorem fX12_866 : h_fl RX12 866 12 83 RX12 TX12 153 := ⟨rfl, by decide, inX12, h_t12 44 rfl rfl⟩
theorem dX12_init_460 : decode cX12_init 460 = .ok (.aload_n 0, 1) := by decide +kernel
theorem dX12_init_461 : decode cX12_init 461 = .ok (.sipush 16400, 3) := by decide +kernel
theorem dX12_init_464 : decode cX12_init 464 = .ok (.newarray .int, 2) := by decide +kernel
theorem dX12_init_466 : decode cX12_init 466 = .ok (.putfield 851, 3) := by decide +kernel
theorem fX12_851 : h_fl RX12 851 12 84 RX12 TX12 153 := ⟨rfl, by decide, inX12, h_t12 45 rfl rfl⟩
theorem dX12_init_469 : decode cX12_init 469 = .ok (.aload_n 0, 1) := by decide +kernel
theorem dX12_init_470 : decode cX12_init 470 = .ok (.sipush 160, 3) := by decide +kernel
theorem dX12_init_473 : decode cX12_init 473 = .ok (.newarray .int, 2) := by decide +kernel
theorem dX12_init_475 : decode cX12_init 475 = .ok (.putfield 845, 3) := by decide +kernel
theorem fX12_845 : h_fl RX12 845 12 85 RX12 TX12 153 := ⟨rfl, by decide, inX12, h_t12 46 rfl rfl⟩
theorem dX12_init_478 : decode cX12_init 478 = .ok (.aload_n 0, 1) := by decide +kernel
theorem dX12_init_479 : decode cX12_init 479 = .ok (.sipush 10100, 3) := by decide +kernel
theorem dX12_init_482 : decode cX12_init 482 = .ok (.newarray .long, 2) := by decide +kernel
theorem dX12_init_484 : decode cX12_init 484 = .ok (.putfield 584, 3) := by decide +kernel
theorem fX12_584 : h_fl RX12 584 12 86 RX12 TX12 153 := ⟨rfl, by decide, inX12, h_t12 47 rfl rfl⟩
theorem dX12_init_487 : decode cX12_init 487 = .ok (.aload_n 0, 1) := by decide +kernel
theorem dX12_init_488 : decode cX12_init 488 = .ok (.sipush 10100, 3) := by decide +kernel
theorem dX12_init_491 : decode cX12_init 491 = .ok (.newarray .long, 2) := by decide +kernel
theorem dX12_init_493 : decode cX12_init 493 = .ok (.putfield 587, 3) := by decide +kernel
theorem fX12_587 : h_fl RX12 587 12 87 RX12 TX12 153 := ⟨rfl, by decide, inX12, h_t12 48 rfl rfl⟩
theorem dX12_init_496 : decode cX12_init 496 = .ok (.aload_n 0, 1) := by decide +kernel
theorem dX12_init_497 : decode cX12_init 497 = .ok (.sipush 160, 3) := by decide +kernel
theorem dX12_init_500 : decode cX12_init 500 = .ok (.newarray .int, 2) := by decide +kernel
theorem dX12_init_502 : decode cX12_init 502 = .ok (.putfield 848, 3) := by decide +kernel
theorem fX12_848 : h_fl RX12 848 12 88 RX12 TX12 153 := ⟨rfl, by decide, inX12, h_t12 49 rfl rfl⟩
theorem dX12_init_505 : decode cX12_init 505 = .ok (.aload_n 0, 1) := by decide +kernel
theorem dX12_init_506 : decode cX12_init 506 = .ok (.bipush 101, 2) := by decide +kernel
theorem dX12_init_508 : decode cX12_init 508 = .ok (.newarray .int, 2) := by decide +kernel
theorem dX12_init_510 : decode cX12_init 510 = .ok (.putfield 687, 3) := by decide +kernel
theorem fX12_687 : h_fl RX12 687 12 90 RX12 TX12 153 := ⟨rfl, by decide, inX12, h_t12 51 rfl rfl⟩
theorem dX12_init_513 : decode cX12_init 513 = .ok (.aload_n 0, 1) := by decide +kernel
theorem dX12_init_514 : decode cX12_init 514 = .ok (.bipush 101, 2) := by decide +kernel
theorem dX12_init_516 : decode cX12_init 516 = .ok (.newarray .int, 2) := by decide +kernel
theorem dX12_init_518 : decode cX12_init 518 = .ok (.putfield 681, 3) := by decide +kernel
theorem fX12_681 : h_fl RX12 681 12 92 RX12 TX12 153 := ⟨rfl, by decide, inX12, h_t12 53 rfl rfl⟩
theorem dX12_init_521 : decode cX12_init 521 = .ok (.aload_n 0, 1) := by decide +kernel
theorem dX12_init_522 : decode cX12_init 522 = .ok (.bipush 102, 2) := by decide +kernel
theorem dX12_init_524 : decode cX12_init 524 = .ok (.newarray .int, 2) := by decide +kernel
theorem dX12_init_526 : decode cX12_init 526 = .ok (.putfield 778, 3) := by decide +kernel
theorem fX12_778 : h_fl RX12 778 12 98 RX12 TX12 153 := ⟨rfl, by decide, inX12, h_t12 59 rfl rfl⟩
theorem dX12_init_529 : decode cX12_init 529 = .ok (.aload_n 0, 1) := by decide +kernel
theorem dX12_init_530 : decode cX12_init 530 = .ok (.bipush 102, 2) := by decide +kernel
theorem dX12_init_532 : decode cX12_init 532 = .ok (.newarray .int, 2) := by decide +kernel
theorem dX12_init_534 : decode cX12_init 534 = .ok (.putfield 784, 3) := by decide +kernel
theorem fX12_784 : h_fl RX12 784 12 99 RX12 TX12 153 := ⟨rfl, by decide, inX12, h_t12 60 rfl rfl⟩
theorem dX12_init_537 : decode cX12_init 537 = .ok (.aload_n 0, 1) := by decide +kernel
theorem dX12_init_538 : decode cX12_init 538 = .ok (.bipush 102, 2) := by decide +kernel
theorem dX12_init_540 : decode cX12_init 540 = .ok (.newarray .int, 2) := by decide +kernel
theorem dX12_init_542 : decode cX12_init 542 = .ok (.putfield 790, 3) := by decide +kernel
theorem fX12_790 : h_fl RX12 790 12 101 RX12 TX12 153 := ⟨rfl, by decide, inX12, h_t12 62 rfl rfl⟩
theorem dX12_init_545 : decode cX12_init 545 = .ok (.aload_n 0, 1) := by decide +kernel
theorem dX12_init_546 : decode cX12_init 546 = .ok (.sipush 1010, 3) := by decide +kernel
theorem dX12_init_549 : decode cX12_init 549 = .ok (.newarray .boolean, 2) := by decide +kernel
theorem dX12_init_551 : decode cX12_init 551 = .ok (.putfield 614, 3) := by decide +kernel
theorem fX12_614 : h_fl RX12 614 12 107 RX12 TX12 153 := ⟨rfl, by decide, inX12, h_t12 68 rfl rfl⟩
theorem dX12_init_554 : decode cX12_init 554 = .ok (.aload_n 0, 1) := by decide +kernel
theorem dX12_init_555 : decode cX12_init 555 = .ok (.sipush 1010, 3) := by decide +kernel
theorem dX12_init_558 : decode cX12_init 558 = .ok (.newarray .boolean, 2) := by decide +kernel
theorem dX12_init_560 : decode cX12_init 560 = .ok (.putfield 621, 3) := by decide +kernel
theorem fX12_621 : h_fl RX12 621 12 108 RX12 TX12 153 := ⟨rfl, by decide, inX12, h_t12 69 rfl rfl⟩
theorem dX12_init_563 : decode cX12_init 563 = .ok (.aload_n 0, 1) := by decide +kernel
theorem dX12_init_564 : decode cX12_init 564 = .ok (.sipush 6000, 3) := by decide +kernel
theorem dX12_init_567 : decode cX12_init 567 = .ok (.newarray .int, 2) := by decide +kernel
theorem dX12_init_569 : decode cX12_init 569 = .ok (.putfield 897, 3) := by decide +kernel
theorem fX12_897 : h_fl RX12 897 12 111 RX12 TX12 153 := ⟨rfl, by decide, inX12, h_t12 72 rfl rfl⟩
theorem dX12_init_572 : decode cX12_init 572 = .ok (.aload_n 0, 1) := by decide +kernel
theorem dX12_init_573 : decode cX12_init 573 = .ok (.iconst 4, 1) := by decide +kernel
theorem dX12_init_574 : decode cX12_init 574 = .ok (.newarray .int, 2) := by decide +kernel
theorem dX12_init_576 : decode cX12_init 576 = .ok (.putfield 963, 3) := by decide +kernel
theorem fX12_963 : h_fl RX12 963 12 118 RX12 TX12 153 := ⟨rfl, by decide, inX12, h_t12 79 rfl rfl⟩
theorem dX12_init_579 : decode cX12_init 579 = .ok (.aload_n 0, 1) := by decide +kernel
theorem dX12_init_580 : decode cX12_init 580 = .ok (.sipush 404, 3) := by decide +kernel
theorem dX12_init_583 : decode cX12_init 583 = .ok (.newarray .int, 2) := by decide +kernel
theorem dX12_init_585 : decode cX12_init 585 = .ok (.putfield 969, 3) := by decide +kernel
theorem fX12_969 : h_fl RX12 969 12 119 RX12 TX12 153 := ⟨rfl, by decide, inX12, h_t12 80 rfl rfl⟩
theorem dX12_init_588 : decode cX12_init 588 = .ok (.aload_n 0, 1) := by decide +kernel
theorem dX12_init_589 : decode cX12_init 589 = .ok (.iconst 4, 1) := by decide +kernel
theorem dX12_init_590 : decode cX12_init 590 = .ok (.newarray .int, 2) := by decide +kernel
theorem dX12_init_592 : decode cX12_init 592 = .ok (.putfield 966, 3) := by decide +kernel
theorem fX12_966 : h_fl RX12 966 12 120 RX12 TX12 153 := ⟨rfl, by decide, inX12, h_t12 81 rfl rfl⟩
theorem dX12_init_595 : decode cX12_init 595 = .ok (.aload_n 0, 1) := by decide +kernel
theorem dX12_init_596 : decode cX12_init 596 = .ok (.sipush 510, 3) := by decide +kernel
theorem dX12_init_599 : decode cX12_init 599 = .ok (.newarray .int, 2) := by decide +kernel
theorem dX12_init_601 : decode cX12_init 601 = .ok (.putfield 1035, 3) := by decide +kernel
theorem fX12_1035 : h_fl RX12 1035 12 121 RX12 TX12 153 := ⟨rfl, by decide, inX12, h_t12 82 rfl rfl⟩
theorem dX12_init_604 : decode cX12_init 604 = .ok (.aload_n 0, 1) := by decide +kernel
theorem dX12_init_605 : decode cX12_init 605 = .ok (.bipush 101, 2) := by decide +kernel
theorem dX12_init_607 : decode cX12_init 607 = .ok (.newarray .int, 2) := by decide +kernel
theorem dX12_init_609 : decode cX12_init 609 = .ok (.putfield 1150, 3) := by decide +kernel
theorem fX12_1150 : h_fl RX12 1150 12 129 RX12 TX12 153 := ⟨rfl, by decide, inX12, h_t12 90 rfl rfl⟩
theorem dX12_init_612 : decode cX12_init 612 = .ok (.aload_n 0, 1) := by decide +kernel
theorem dX12_init_613 : decode cX12_init 613 = .ok (.iconst 4, 1) := by decide +kernel
theorem dX12_init_614 : decode cX12_init 614 = .ok (.newarray .int, 2) := by decide +kernel
theorem dX12_init_616 : decode cX12_init 616 = .ok (.putfield 1180, 3) := by decide +kernel
theorem fX12_1180 : h_fl RX12 1180 12 131 RX12 TX12 153 := ⟨rfl, by decide, inX12, h_t12 92 rfl rfl⟩
theorem dX12_init_619 : decode cX12_init 619 = .ok (.aload_n 0, 1) := by decide +kernel
theorem dX12_init_620 : decode cX12_init 620 = .ok (.iconst 4, 1) := by decide +kernel
theorem dX12_init_621 : decode cX12_init 621 = .ok (.newarray .int, 2) := by decide +kernel
theorem dX12_init_623 : decode cX12_init 623 = .ok (.putfield 926, 3) := by decide +kernel
theorem fX12_926 : h_fl RX12 926 12 132 RX12 TX12 153 := ⟨rfl, by decide, inX12, h_t12 93 rfl rfl⟩
theorem dX12_init_626 : decode cX12_init 626 = .ok (.aload_n 0, 1) := by decide +kernel
theorem dX12_init_627 : decode cX12_init 627 = .ok (.bipush 16, 2) := by decide +kernel
theorem dX12_init_629 : decode cX12_init 629 = .ok (.newarray .int, 2) := by decide +kernel
theorem dX12_init_631 : decode cX12_init 631 = .ok (.putfield 1183, 3) := by decide +kernel
theorem fX12_1183 : h_fl RX12 1183 12 133 RX12 TX12 153 := ⟨rfl, by decide, inX12, h_t12 94 rfl rfl⟩
theorem dX12_init_634 : decode cX12_init 634 = .ok (.aload_n 0, 1) := by decide +kernel
theorem dX12_init_635 : decode cX12_init 635 = .ok (.sipush 320, 3) := by decide +kernel
theorem dX12_init_638 : decode cX12_init 638 = .ok (.newarray .int, 2) := by decide +kernel
theorem dX12_init_640 : decode cX12_init 640 = .ok (.putfield 1192, 3) := by decide +kernel
theorem fX12_1192 : h_fl RX12 1192 12 134 RX12 TX12 153 := ⟨rfl, by decide, inX12, h_t12 95 rfl rfl⟩
theorem dX12_init_643 : decode cX12_init 643 = .ok (.aload_n 0, 1) := by decide +kernel
theorem dX12_init_644 : decode cX12_init 644 = .ok (.bipush 16, 2) := by decide +kernel
theorem dX12_init_646 : decode cX12_init 646 = .ok (.newarray .int, 2) := by decide +kernel
theorem dX12_init_648 : decode cX12_init 648 = .ok (.putfield 1186, 3) := by decide +kernel
theorem fX12_1186 : h_fl RX12 1186 12 135 RX12 TX12 153 := ⟨rfl, by decide, inX12, h_t12 96 rfl rfl⟩
theorem dX12_init_651 : decode cX12_init 651 = .ok (.aload_n 0, 1) := by decide +kernel
theorem dX12_init_652 : decode cX12_init 652 = .ok (.sipush 4000, 3) := by decide +kernel
theorem dX12_init_655 : decode cX12_init 655 = .ok (.newarray .long, 2) := by decide +kernel
theorem dX12_init_657 : decode cX12_init 657 = .ok (.putfield 1177, 3) := by decide +kernel
theorem fX12_1177 : h_fl RX12 1177 12 136 RX12 TX12 153 := ⟨rfl, by decide, inX12, h_t12 97 rfl rfl⟩
theorem dX12_init_660 : decode cX12_init 660 = .ok (.aload_n 0, 1) := by decide +kernel
theorem dX12_init_661 : decode cX12_init 661 = .ok (.bipush 16, 2) := by decide +kernel
theorem dX12_init_663 : decode cX12_init 663 = .ok (.newarray .int, 2) := by decide +kernel
theorem dX12_init_665 : decode cX12_init 665 = .ok (.putfield 1174, 3) := by decide +kernel
theorem fX12_1174 : h_fl RX12 1174 12 137 RX12 TX12 153 := ⟨rfl, by decide, inX12, h_t12 98 rfl rfl⟩
theorem dX12_init_668 : decode cX12_init 668 = .ok (.aload_n 0, 1) := by decide +kernel
theorem dX12_init_669 : decode cX12_init 669 = .ok (.iconst 4, 1) := by decide +kernel
theorem dX12_init_670 : decode cX12_init 670 = .ok (.newarray .int, 2) := by decide +kernel
theorem dX12_init_672 : decode cX12_init 672 = .ok (.putfield 1252, 3) := by decide +kernel
theorem fX12_1252 : h_fl RX12 1252 12 138 RX12 TX12 153 := ⟨rfl, by decide, inX12, h_t12 99 rfl rfl⟩
theorem dX12_init_675 : decode cX12_init 675 = .ok (.aload_n 0, 1) := by decide +kernel
theorem dX12_init_676 : decode cX12_init 676 = .ok (.iconst 4, 1) := by decide +kernel
theorem dX12_init_677 : decode cX12_init 677 = .ok (.newarray .int, 2) := by decide +kernel
theorem dX12_init_679 : decode cX12_init 679 = .ok (.putfield 1216, 3) := by decide +kernel
theorem fX12_1216 : h_fl RX12 1216 12 139 RX12 TX12 153 := ⟨rfl, by decide, inX12, h_t12 100 rfl rfl⟩
theorem dX12_init_682 : decode cX12_init 682 = .ok (.aload_n 0, 1) := by decide +kernel
theorem dX12_init_683 : decode cX12_init 683 = .ok (.bipush 80, 2) := by decide +kernel
theorem dX12_init_685 : decode cX12_init 685 = .ok (.newarray .int, 2) := by decide +kernel
theorem dX12_init_687 : decode cX12_init 687 = .ok (.putfield 1219, 3) := by decide +kernel
theorem fX12_1219 : h_fl RX12 1219 12 140 RX12 TX12 153 := ⟨rfl, by decide, inX12, h_t12 101 rfl rfl⟩
theorem dX12_init_690 : decode cX12_init 690 = .ok (.aload_n 0, 1) := by decide +kernel
theorem dX12_init_691 : decode cX12_init 691 = .ok (.iconst 4, 1) := by decide +kernel
theorem dX12_init_692 : decode cX12_init 692 = .ok (.newarray .int, 2) := by decide +kernel
theorem dX12_init_694 : decode cX12_init 694 = .ok (.putfield 1243, 3) := by decide +kernel
theorem fX12_1243 : h_fl RX12 1243 12 141 RX12 TX12 153 := ⟨rfl, by decide, inX12, h_t12 102 rfl rfl⟩
theorem dX12_init_697 : decode cX12_init 697 = .ok (.aload_n 0, 1) := by decide +kernel
theorem dX12_init_698 : decode cX12_init 698 = .ok (.iconst 4, 1) := by decide +kernel
theorem dX12_init_699 : decode cX12_init 699 = .ok (.newarray .int, 2) := by decide +kernel
theorem dX12_init_701 : decode cX12_init 701 = .ok (.putfield 1210, 3) := by decide +kernel
theorem fX12_1210 : h_fl RX12 1210 12 142 RX12 TX12 153 := ⟨rfl, by decide, inX12, h_t12 103 rfl rfl⟩
theorem dX12_init_704 : decode cX12_init 704 = .ok (.aload_n 0, 1) := by decide +kernel
theorem dX12_init_705 : decode cX12_init 705 = .ok (.iconst 4, 1) := by decide +kernel
theorem dX12_init_706 : decode cX12_init 706 = .ok (.newarray .int, 2) := by decide +kernel
theorem dX12_init_708 : decode cX12_init 708 = .ok (.putfield 1270, 3) := by decide +kernel
theorem fX12_1270 : h_fl RX12 1270 12 143 RX12 TX12 153 := ⟨rfl, by decide, inX12, h_t12 104 rfl rfl⟩
theorem dX12_init_711 : decode cX12_init 711 = .ok (.aload_n 0, 1) := by decide +kernel
theorem dX12_init_712 : decode cX12_init 712 = .ok (.iconst 4, 1) := by decide +kernel
theorem dX12_init_713 : decode cX12_init 713 = .ok (.newarray .int, 2) := by decide +kernel
theorem dX12_init_715 : decode cX12_init 715 = .ok (.putfield 1273, 3) := by decide +kernel
theorem fX12_1273 : h_fl RX12 1273 12 144 RX12 TX12 153 := ⟨rfl, by decide, inX12, h_t12 105 rfl rfl⟩
theorem dX12_init_718 : decode cX12_init 718 = .ok (.aload_n 0, 1) := by decide +kernel
theorem dX12_init_719 : decode cX12_init 719 = .ok (.iconst 4, 1) := by decide +kernel
theorem dX12_init_720 : decode cX12_init 720 = .ok (.newarray .boolean, 2) := by decide +kernel
theorem dX12_init_722 : decode cX12_init 722 = .ok (.putfield 1255, 3) := by decide +kernel
theorem fX12_1255 : h_fl RX12 1255 12 145 RX12 TX12 153 := ⟨rfl, by decide, inX12, h_t12 106 rfl rfl⟩
theorem dX12_init_725 : decode cX12_init 725 = .ok (.aload_n 0, 1) := by decide +kernel
theorem dX12_init_726 : decode cX12_init 726 = .ok (.bipush 8, 2) := by decide +kernel
theorem dX12_init_728 : decode cX12_init 728 = .ok (.newarray .int, 2) := by decide +kernel
theorem dX12_init_730 : decode cX12_init 730 = .ok (.putfield 1189, 3) := by decide +kernel
theorem fX12_1189 : h_fl RX12 1189 12 146 RX12 TX12 153 := ⟨rfl, by decide, inX12, h_t12 107 rfl rfl⟩
theorem dX12_init_733 : decode cX12_init 733 = .ok (.aload_n 0, 1) := by decide +kernel
theorem dX12_init_734 : decode cX12_init 734 = .ok (.iconst 4, 1) := by decide +kernel
theorem dX12_init_735 : decode cX12_init 735 = .ok (.newarray .int, 2) := by decide +kernel
theorem dX12_init_737 : decode cX12_init 737 = .ok (.putfield 1213, 3) := by decide +kernel
theorem fX12_1213 : h_fl RX12 1213 12 147 RX12 TX12 153 := ⟨rfl, by decide, inX12, h_t12 108 rfl rfl⟩
theorem dX12_init_740 : decode cX12_init 740 = .ok (.aload_n 0, 1) := by decide +kernel
theorem dX12_init_741 : decode cX12_init 741 = .ok (.iconst 4, 1) := by decide +kernel
theorem dX12_init_742 : decode cX12_init 742 = .ok (.newarray .int, 2) := by decide +kernel
theorem dX12_init_744 : decode cX12_init 744 = .ok (.putfield 1249, 3) := by decide +kernel
theorem fX12_1249 : h_fl RX12 1249 12 148 RX12 TX12 153 := ⟨rfl, by decide, inX12, h_t12 109 rfl rfl⟩
theorem dX12_init_747 : decode cX12_init 747 = .ok (.aload_n 0, 1) := by decide +kernel
theorem dX12_init_748 : decode cX12_init 748 = .ok (.sipush 4000, 3) := by decide +kernel
theorem dX12_init_751 : decode cX12_init 751 = .ok (.newarray .int, 2) := by decide +kernel
theorem dX12_init_753 : decode cX12_init 753 = .ok (.putfield 1198, 3) := by decide +kernel
theorem fX12_1198 : h_fl RX12 1198 12 149 RX12 TX12 153 := ⟨rfl, by decide, inX12, h_t12 110 rfl rfl⟩
theorem dX12_init_756 : decode cX12_init 756 = .ok (.aload_n 0, 1) := by decide +kernel
theorem dX12_init_757 : decode cX12_init 757 = .ok (.sipush 4000, 3) := by decide +kernel
theorem dX12_init_760 : decode cX12_init 760 = .ok (.newarray .int, 2) := by decide +kernel
theorem dX12_init_762 : decode cX12_init 762 = .ok (.putfield 1201, 3) := by decide +kernel
theorem fX12_1201 : h_fl RX12 1201 12 150 RX12 TX12 153 := ⟨rfl, by decide, inX12, h_t12 111 rfl rfl⟩
theorem dX12_init_765 : decode cX12_init 765 = .ok (.aload_n 0, 1) := by decide +kernel
theorem dX12_init_766 : decode cX12_init 766 = .ok (.sipush 4000, 3) := by decide +kernel
theorem dX12_init_769 : decode cX12_init 769 = .ok (.newarray .int, 2) := by decide +kernel
theorem dX12_init_771 : decode cX12_init 771 = .ok (.putfield 1204, 3) := by decide +kernel
theorem fX12_1204 : h_fl RX12 1204 12 151 RX12 TX12 153 := ⟨rfl, by decide, inX12, h_t12 112 rfl rfl⟩
theorem dX12_init_774 : decode cX12_init 774 = .ok (.aload_n 0, 1) := by decide +kernel
theorem dX12_init_775 : decode cX12_init 775 = .ok (.sipush 4000, 3) := by decide +kernel
theorem dX12_init_778 : decode cX12_init 778 = .ok (.newarray .int, 2) := by decide +kernel
theorem dX12_init_780 : decode cX12_init 780 = .ok (.putfield 1207, 3) := by decide +kernel
theorem fX12_1207 : h_fl RX12 1207 12 152 RX12 TX12 153 := ⟨rfl, by decide, inX12, h_t12 113 rfl rfl⟩
theorem dX12_init_783 : decode cX12_init 783 = .ok (.iconst 0, 1) := by decide +kernel
theorem dX12_init_784 : decode cX12_init 784 = .ok (.istore_n 1, 1) := by decide +kernel
theorem dX12_init_785 : decode cX12_init 785 = .ok (.iload_n 1, 1) := by decide +kernel
theorem dX12_init_786 : decode cX12_init 786 = .ok (.iconst 4, 1) := by decide +kernel
theorem dX12_init_787 : decode cX12_init 787 = .ok (.if_icmp .ge 64, 3) := by decide +kernel
theorem dX12_init_790 : decode cX12_init 790 = .ok (.aload_n 0, 1) := by decide +kernel
theorem dX12_init_791 : decode cX12_init 791 = .ok (.getfield 926, 3) := by decide +kernel
theorem dX12_init_794 : decode cX12_init 794 = .ok (.iload_n 1, 1) := by decide +kernel
theorem dX12_init_795 : decode cX12_init 795 = .ok (.iconst (-1), 1) := by decide +kernel
theorem dX12_init_796 : decode cX12_init 796 = .ok (.iastore, 1) := by decide +kernel
theorem dX12_init_797 : decode cX12_init 797 = .ok (.aload_n 0, 1) := by decide +kernel
theorem dX12_init_798 : decode cX12_init 798 = .ok (.getfield 796, 3) := by decide +kernel
theorem dX12_init_801 : decode cX12_init 801 = .ok (.iload_n 1, 1) := by decide +kernel
theorem dX12_init_802 : decode cX12_init 802 = .ok (.iconst 1, 1) := by decide +kernel
theorem dX12_init_803 : decode cX12_init 803 = .ok (.iastore, 1) := by decide +kernel
theorem dX12_init_804 : decode cX12_init 804 = .ok (.aload_n 0, 1) := by decide +kernel
theorem dX12_init_805 : decode cX12_init 805 = .ok (.getfield 802, 3) := by decide +kernel
theorem dX12_init_808 : decode cX12_init 808 = .ok (.bipush 6, 2) := by decide +kernel
theorem dX12_init_810 : decode cX12_init 810 = .ok (.iload_n 1, 1) := by decide +kernel
theorem dX12_init_811 : decode cX12_init 811 = .ok (.imul, 1) := by decide +kernel
theorem dX12_init_812 : decode cX12_init 812 = .ok (.iconst 5, 1) := by decide +kernel
theorem dX12_init_813 : decode cX12_init 813 = .ok (.iastore, 1) := by decide +kernel
theorem dX12_init_814 : decode cX12_init 814 = .ok (.iconst 0, 1) := by decide +kernel
theorem dX12_init_815 : decode cX12_init 815 = .ok (.istore_n 2, 1) := by decide +kernel
theorem dX12_init_816 : decode cX12_init 816 = .ok (.iload_n 2, 1) := by decide +kernel
theorem dX12_init_817 : decode cX12_init 817 = .ok (.iconst 5, 1) := by decide +kernel
theorem dX12_init_818 : decode cX12_init 818 = .ok (.if_icmp .ge 27, 3) := by decide +kernel
theorem dX12_init_821 : decode cX12_init 821 = .ok (.aload_n 0, 1) := by decide +kernel
theorem dX12_init_822 : decode cX12_init 822 = .ok (.getfield 805, 3) := by decide +kernel
theorem dX12_init_825 : decode cX12_init 825 = .ok (.bipush 120, 2) := by decide +kernel
theorem dX12_init_827 : decode cX12_init 827 = .ok (.iload_n 1, 1) := by decide +kernel
theorem dX12_init_828 : decode cX12_init 828 = .ok (.imul, 1) := by decide +kernel
theorem dX12_init_829 : decode cX12_init 829 = .ok (.iload_n 2, 1) := by decide +kernel
theorem dX12_init_830 : decode cX12_init 830 = .ok (.iadd, 1) := by decide +kernel
theorem dX12_init_831 : decode cX12_init 831 = .ok (.ldc_w 1387, 3) := by decide +kernel
theorem dX12_init_834 : decode cX12_init 834 = .ok (.iload_n 2, 1) := by decide +kernel
theorem dX12_init_835 : decode cX12_init 835 = .ok (.invokevirtual 64, 3) := by decide +kernel
theorem lX12_64 : Cond.methodLink RX12 64 mJ0_charAt_5068e.1 ∈ lw_g := h_t8 2 rfl rfl
theorem dX12_init_838 : decode cX12_init 838 = .ok (.iastore, 1) := by decide +kernel
theorem dX12_init_839 : decode cX12_init 839 = .ok (.iinc 2 1, 3) := by decide +kernel
theorem dX12_init_842 : decode cX12_init 842 = .ok (.goto (-26), 3) := by decide +kernel
theorem dX12_init_845 : decode cX12_init 845 = .ok (.iinc 1 1, 3) := by decide +kernel
theorem dX12_init_848 : decode cX12_init 848 = .ok (.goto (-63), 3) := by decide +kernel
theorem dX12_init_851 : decode cX12_init 851 = .ok (.return_, 1) := by decide +kernel
/-- the reference's rows, in the order in which they are made: as they are then -/
def mT (A : Nat → ClassId) : Nat → va_E := fun k => match k with
  | 0 => .inl (A 0, 6000, .inl (fun _ => 0))
  | 1 => .inl (A 1, 10000, .inl (fun _ => 0))
  | 2 => .inl (A 1, 10000, .inl (fun _ => 0))
  | 3 => .inl (A 1, 10000, .inl (fun _ => 0))
  | 4 => .inl (A 1, 10000, .inl (fun _ => 0))
  | 5 => .inl (A 1, 10000, .inl (fun _ => 0))
  | 6 => .inl (A 0, 5, .inl (fun _ => 0))
  | 7 => .inl (A 0, 4000, .inl (fun _ => 0))
  | 8 => .inl (A 0, 2100, .inl (fun _ => 0))
  | 9 => .inl (A 0, 2100, .inl (fun _ => 0))
  | 10 => .inl (A 0, 2100, .inl (fun _ => 0))
  | 11 => .inl (A 0, 2100, .inl (fun _ => 0))
  | 12 => .inl (A 0, 4100, .inl (fun _ => 0))
  | 13 => .inl (A 0, 4100, .inl (fun _ => 0))
  | 14 => .inl (A 0, 2100, .inl (fun _ => 0))
  | 15 => .inl (A 0, 4100, .inl (fun _ => 0))
  | 16 => .inl (A 0, 2000, .inl (fun _ => 0))
  | 17 => .inl (A 0, 4100, .inl (fun _ => 0))
  | 18 => .inl (A 0, 520, .inl (fun _ => 0))
  | 19 => .inl (A 0, 520, .inl (fun _ => 0))
  | 20 => .inl (A 0, 520, .inl (fun _ => 0))
  | 21 => .inl (A 0, 520, .inl (fun _ => 0))
  | 22 => .inl (A 0, 520, .inl (fun _ => 0))
  | 23 => .inl (A 0, 520, .inl (fun _ => 0))
  | 24 => .inl (A 0, 520, .inl (fun _ => 0))
  | 25 => .inl (A 0, 520, .inl (fun _ => 0))
  | 26 => .inl (A 0, 520, .inl (fun _ => 0))
  | 27 => .inl (A 0, 520, .inl (fun _ => 0))
  | 28 => .inl (A 2, 520, .inl (fun _ => 0))
  | 29 => .inl (A 0, 520, .inl (fun _ => 0))
  | 30 => .inl (A 0, 520, .inl (fun _ => 0))
  | 31 => .inl (A 0, 520, .inl (fun _ => 0))
  | 32 => .inl (A 0, 520, .inl (fun _ => 0))
  | 33 => .inl (A 0, 520, .inl (fun _ => 0))
  | 34 => .inl (A 0, 520, .inl (fun _ => 0))
  | 35 => .inl (A 0, 520, .inl (fun _ => 0))
  | 36 => .inl (A 0, 310, .inl (fun _ => 0))
  | 37 => .inl (A 0, 310, .inl (fun _ => 0))
  | 38 => .inl (A 3, 18800, .inr (.inl (fun _ => 0)))
  | 39 => .inl (A 0, 401, .inl (fun _ => 0))
  | 40 => .inl (A 0, 401, .inl (fun _ => 0))
  | 41 => .inl (A 0, 401, .inl (fun _ => 0))
  | 42 => .inl (A 0, 401, .inl (fun _ => 0))
  | 43 => .inl (A 0, 401, .inl (fun _ => 0))
  | 44 => .inl (A 0, 10300, .inl (fun _ => 0))
  | 45 => .inl (A 0, 101, .inl (fun _ => 0))
  | 46 => .inl (A 0, 4, .inl (fun _ => 0))
  | 47 => .inl (A 0, 480, .inl (fun _ => 0))
  | 48 => .inl (A 0, 24, .inl (fun _ => 0))
  | 49 => .inl (A 0, 4, .inl (fun _ => 0))
  | 50 => .inl (A 0, 160, .inl (fun _ => 0))
  | 51 => .inl (A 0, 16400, .inl (fun _ => 0))
  | 52 => .inl (A 0, 160, .inl (fun _ => 0))
  | 53 => .inl (A 3, 10100, .inr (.inl (fun _ => 0)))
  | 54 => .inl (A 3, 10100, .inr (.inl (fun _ => 0)))
  | 55 => .inl (A 0, 160, .inl (fun _ => 0))
  | 56 => .inl (A 0, 101, .inl (fun _ => 0))
  | 57 => .inl (A 0, 101, .inl (fun _ => 0))
  | 58 => .inl (A 0, 102, .inl (fun _ => 0))
  | 59 => .inl (A 0, 102, .inl (fun _ => 0))
  | 60 => .inl (A 0, 102, .inl (fun _ => 0))
  | 61 => .inl (A 2, 1010, .inl (fun _ => 0))
  | 62 => .inl (A 2, 1010, .inl (fun _ => 0))
  | 63 => .inl (A 0, 6000, .inl (fun _ => 0))
  | 64 => .inl (A 0, 4, .inl (fun _ => 0))
  | 65 => .inl (A 0, 404, .inl (fun _ => 0))
  | 66 => .inl (A 0, 4, .inl (fun _ => 0))
  | 67 => .inl (A 0, 510, .inl (fun _ => 0))
  | 68 => .inl (A 0, 101, .inl (fun _ => 0))
  | 69 => .inl (A 0, 4, .inl (fun _ => 0))
  | 70 => .inl (A 0, 4, .inl (fun _ => 0))
  | 71 => .inl (A 0, 16, .inl (fun _ => 0))
  | 72 => .inl (A 0, 320, .inl (fun _ => 0))
  | 73 => .inl (A 0, 16, .inl (fun _ => 0))
  | 74 => .inl (A 3, 4000, .inr (.inl (fun _ => 0)))
  | 75 => .inl (A 0, 16, .inl (fun _ => 0))
  | 76 => .inl (A 0, 4, .inl (fun _ => 0))
  | 77 => .inl (A 0, 4, .inl (fun _ => 0))
  | 78 => .inl (A 0, 80, .inl (fun _ => 0))
  | 79 => .inl (A 0, 4, .inl (fun _ => 0))
  | 80 => .inl (A 0, 4, .inl (fun _ => 0))
  | 81 => .inl (A 0, 4, .inl (fun _ => 0))
  | 82 => .inl (A 0, 4, .inl (fun _ => 0))
  | 83 => .inl (A 2, 4, .inl (fun _ => 0))
  | 84 => .inl (A 0, 8, .inl (fun _ => 0))
  | 85 => .inl (A 0, 4, .inl (fun _ => 0))
  | 86 => .inl (A 0, 4, .inl (fun _ => 0))
  | 87 => .inl (A 0, 4000, .inl (fun _ => 0))
  | 88 => .inl (A 0, 4000, .inl (fun _ => 0))
  | 89 => .inl (A 0, 4000, .inl (fun _ => 0))
  | _ => .inl (A 0, 4000, .inl (fun _ => 0))
/-- which of the reference's fields holds which row -/
def mIx : Nat → Option Nat := fun i => match i with
  | 4 => some 0
  | 6 => some 1
  | 7 => some 2
  | 8 => some 3
  | 9 => some 4
  | 10 => some 5
  | 11 => some 6
  | 12 => some 7
  | 15 => some 8
  | 16 => some 9
  | 17 => some 10
  | 18 => some 11
  | 19 => some 12
  | 20 => some 13
  | 22 => some 14
  | 26 => some 15
  | 28 => some 16
  | 36 => some 17
  | 43 => some 18
  | 44 => some 19
  | 45 => some 20
  | 46 => some 21
  | 47 => some 22
  | 48 => some 23
  | 49 => some 24
  | 50 => some 25
  | 51 => some 26
  | 52 => some 27
  | 53 => some 28
  | 54 => some 29
  | 55 => some 30
  | 56 => some 31
  | 57 => some 32
  | 58 => some 33
  | 59 => some 34
  | 60 => some 35
  | 62 => some 36
  | 63 => some 37
  | 68 => some 38
  | 72 => some 39
  | 73 => some 40
  | 74 => some 41
  | 75 => some 42
  | 76 => some 43
  | 77 => some 44
  | 78 => some 45
  | 79 => some 46
  | 80 => some 47
  | 81 => some 48
  | 82 => some 49
  | 83 => some 50
  | 84 => some 51
  | 85 => some 52
  | 86 => some 53
  | 87 => some 54
  | 88 => some 55
  | 90 => some 56
  | 92 => some 57
  | 98 => some 58
  | 99 => some 59
  | 101 => some 60
  | 107 => some 61
  | 108 => some 62
  | 111 => some 63
  | 118 => some 64
  | 119 => some 65
  | 120 => some 66
  | 121 => some 67
  | 129 => some 68
  | 131 => some 69
  | 132 => some 70
  | 133 => some 71
  | 134 => some 72
  | 135 => some 73
  | 136 => some 74
  | 137 => some 75
  | 138 => some 76
  | 139 => some 77
  | 140 => some 78
  | 141 => some 79
  | 142 => some 80
  | 143 => some 81
  | 144 => some 82
  | 145 => some 83
  | 146 => some 84
  | 147 => some 85
  | 148 => some 86
  | 149 => some 87
  | 150 => some 88
  | 151 => some 89
  | 152 => some 90
  | _ => none
/-- the reference's fields: its rows from n0 on, its numbers v -/
def mFs (n0 : Nat) (v : Nat → Int32) : List Value := (List.range 153).map (fun i => match mIx i with
  | some k => .ref (n0 + k)
  | none => .int (v i))
def mMI (A : Nat → ClassId) (τ : hS) (n0 k : Nat) : Prop := ∀ j : Nat, j < k → τ.1 (n0 + j) = some (mT A j)
theorem mMI.new {A : Nat → ClassId} {τ τ1 : hS} {n0 k N : Nat} (h : mMI A τ n0 k) (e : τ1 = h_new τ (mT A k) N) (z : τ.2.1 = n0 + k) : mMI A τ1 n0 (k + 1) := fun j hj => by
  by_cases hjk : j = k
  · subst hjk; exact h_eN e z
  · exact h_nN e z (h_ad hjk) (h j (by omega))
theorem mMI.set {A : Nat → ClassId} {τ τ1 : hS} {n0 k a : Nat} {x : va_E} (h : mMI A τ n0 k) (e : τ1 = h_set τ a x) (ha : a < n0) : mMI A τ1 n0 k := fun j hj => h_nS e (h_ar ha) (h j hj)
def h_old (σ τ : hS) (a n0 : Nat) : Prop := ∀ q : Nat, q ≠ a → q < n0 → τ.1 q = σ.1 q
theorem h_old.new {σ τ τ1 : hS} {a n0 k N : Nat} {x : va_E} (h : h_old σ τ a n0) (e : τ1 = h_new τ x N) (z : τ.2.1 = n0 + k) : h_old σ τ1 a n0 := fun q h1 h2 => h_nN e z (h_al h2) (h q h1 h2)
theorem h_old.set {σ τ τ1 : hS} {a n0 : Nat} {x : va_E} (h : h_old σ τ a n0) (e : τ1 = h_set τ a x) : h_old σ τ1 a n0 := fun q h1 h2 => h_nS e h1 (h q h1 h2)
theorem h_old.seto {σ τ τ1 : hS} {a n0 j : Nat} {x : va_E} (h : h_old σ τ a n0) (e : τ1 = h_set τ (n0 + j) x) : h_old σ τ1 a n0 := fun q h1 h2 => h_nS e (h_al h2) (h q h1 h2)
def mFi : Nat → Nat := fun k => match k with
  | 0 => 4
  | 1 => 6
  | 2 => 7
  | 3 => 8
  | 4 => 9
  | 5 => 10
  | 6 => 11
  | 7 => 12
  | 8 => 15
  | 9 => 16
  | 10 => 17
  | 11 => 18
  | 12 => 19
  | 13 => 20
  | 14 => 22
  | 15 => 26
  | 16 => 28
  | 17 => 36
  | 18 => 43
  | 19 => 44
  | 20 => 45
  | 21 => 46
  | 22 => 47
  | 23 => 48
  | 24 => 49
  | 25 => 50
  | 26 => 51
  | 27 => 52
  | 28 => 53
  | 29 => 54
  | 30 => 55
  | 31 => 56
  | 32 => 57
  | 33 => 58
  | 34 => 59
  | 35 => 60
  | 36 => 62
  | 37 => 63
  | 38 => 68
  | 39 => 72
  | 40 => 73
  | 41 => 74
  | 42 => 75
  | 43 => 76
  | 44 => 77
  | 45 => 78
  | 46 => 79
  | 47 => 80
  | 48 => 81
  | 49 => 82
  | 50 => 83
  | 51 => 84
  | 52 => 85
  | 53 => 86
  | 54 => 87
  | 55 => 88
  | 56 => 90
  | 57 => 92
  | 58 => 98
  | 59 => 99
  | 60 => 101
  | 61 => 107
  | 62 => 108
  | 63 => 111
  | 64 => 118
  | 65 => 119
  | 66 => 120
  | 67 => 121
  | 68 => 129
  | 69 => 131
  | 70 => 132
  | 71 => 133
  | 72 => 134
  | 73 => 135
  | 74 => 136
  | 75 => 137
  | 76 => 138
  | 77 => 139
  | 78 => 140
  | 79 => 141
  | 80 => 142
  | 81 => 143
  | 82 => 144
  | 83 => 145
  | 84 => 146
  | 85 => 147
  | 86 => 148
  | 87 => 149
  | 88 => 150
  | 89 => 151
  | _ => 152
theorem mFi_ix {i k : Nat} (hi : i < 153) (h : mIx i = some k) : mFi k = i ∧ k < 91 := by
  have H : ∀ i, i < 153 → (match mIx i with | some k => decide (mFi k = i ∧ k < 91) | none => true) = true := by decide +kernel
  have h1 := H i hi
  rw [h] at h1
  exact of_decide_eq_true h1
/-- the reference's fields while its rows are made -/
def mS (n0 k : Nat) : List Value := (List.range 153).map (fun i => if i = 0 then .int 1 else match mIx i with
  | some j => if j < k then .ref (n0 + j) else .null
  | none => .int 0)
theorem mS_len (n0 k : Nat) : (mS n0 k).length = 153 := by unfold mS; rw [List.length_map, List.length_range]
theorem mS_0 (n0 : Nat) : mS n0 0 = ([.int 0, .int 0, .int 0, .int 0, .null, .int 0, .null, .null, .null, .null, .null, .null, .null, .int 0, .int 0, .null, .null, .null, .null, .null, .null, .int 0, .null, .int 0, .int 0, .int 0, .null, .int 0, .null, .int 0, .int 0, .int 0, .int 0, .int 0, .int 0, .int 0, .null, .int 0, .int 0, .int 0, .int 0, .int 0, .int 0, .null, .null, .null, .null, .null, .null, .null, .null, .null, .null, .null, .null, .null, .null, .null, .null, .null, .null, .int 0, .null, .null, .int 0, .int 0, .int 0, .int 0, .null, .int 0, .int 0, .int 0, .null, .null, .null, .null, .null, .null, .null, .null, .null, .null, .null, .null, .null, .null, .null, .null, .null, .int 0, .null, .int 0, .null, .int 0, .int 0, .int 0, .int 0, .int 0, .null, .null, .int 0, .null, .int 0, .int 0, .int 0, .int 0, .int 0, .null, .null, .int 0, .int 0, .null, .int 0, .int 0, .int 0, .int 0, .int 0, .int 0, .null, .null, .null, .null, .int 0, .int 0, .int 0, .int 0, .int 0, .int 0, .int 0, .null, .int 0, .null, .null, .null, .null, .null, .null, .null, .null, .null, .null, .null, .null, .null, .null, .null, .null, .null, .null, .null, .null, .null, .null] : List Value).set 0 (.int 1) := by
  have h : mS n0 0 = (List.range 153).map (fun i => if i = 0 then .int 1 else match mIx i with
    | some _ => .null
    | none => .int 0) := by
    unfold mS
    apply List.map_congr_left
    intro i _
    cases mIx i with
    | none => rfl
    | some j => simp
  rw [h]
  decide +kernel
theorem mS_step {n0 : Nat} (k fi : Nat) (h : mIx fi = some k) (hf : fi < 153) (h0 : fi ≠ 0) : (mS n0 k).set fi (.ref (n0 + k)) = mS n0 (k + 1) := by
  apply List.ext_getElem?
  intro i
  unfold mS
  rw [List.getElem?_set]
  by_cases hi : fi = i
  · subst hi
    rw [if_pos rfl, if_pos (by rw [List.length_map, List.length_range]; exact hf), List.getElem?_map, List.getElem?_range hf, Option.map_some, if_neg h0, h]
    simp
  · rw [if_neg hi, List.getElem?_map, List.getElem?_map]
    by_cases hl : i < 153
    · rw [List.getElem?_range hl, Option.map_some, Option.map_some]
      by_cases hz : i = 0
      · rw [if_pos hz, if_pos hz]
      · rw [if_neg hz, if_neg hz]
        cases hm : mIx i with
        | none => rfl
        | some j =>
          have hj : j ≠ k := fun e => hi (by have h1 := (mFi_ix hl hm).1; have h2 := (mFi_ix hf h).1; rw [← h1, ← h2, e])
          by_cases hlt : j < k
          · simp only [if_pos hlt, if_pos (Nat.lt_succ_of_lt hlt)]
          · simp only [if_neg hlt, if_neg (show ¬ j < k + 1 by omega)]
    · rw [List.getElem?_eq_none (by rw [List.length_range]; omega)]
      rfl
theorem mS_end (n0 : Nat) : mS n0 91 = mFs n0 (fun i => if i = 0 then 1 else 0) := by
  unfold mS mFs
  apply List.map_congr_left
  intro i hi
  have hi : i < 153 := List.mem_range.mp hi
  by_cases hz : i = 0
  · subst hz; rfl
  · rw [if_neg hz]
    cases hm : mIx i with
    | none => simp [hz]
    | some j => simp only [if_pos (mFi_ix hi hm).2]
set_option maxRecDepth 100000 in
set_option maxHeartbeats 4000000 in
/-- the reference's rows are made; then the loop -/
theorem ct_X12_rows {l : Launch} {D : va_G} {A : Nat → ClassId} {B : Nat} {Z : State → Heap → Prop} (hZ : h_st B Z) {d : Nat} (hd1 : 1 ≤ d) {σ : hS} {P : hS → Option Value → Prop} {a n0 s0 : Nat} (z0 : σ.2.1 = n0) (y0 : σ.2.2 = s0) (ha0 : σ.1 a = some (.inr (12, [.int 0, .int 0, .int 0, .int 0, .null, .int 0, .null, .null, .null, .null, .null, .null, .null, .int 0, .int 0, .null, .null, .null, .null, .null, .null, .int 0, .null, .int 0, .int 0, .int 0, .null, .int 0, .null, .int 0, .int 0, .int 0, .int 0, .int 0, .int 0, .int 0, .null, .int 0, .int 0, .int 0, .int 0, .int 0, .int 0, .null, .null, .null, .null, .null, .null, .null, .null, .null, .null, .null, .null, .null, .null, .null, .null, .null, .null, .int 0, .null, .null, .int 0, .int 0, .int 0, .int 0, .null, .int 0, .int 0, .int 0, .null, .null, .null, .null, .null, .null, .null, .null, .null, .null, .null, .null, .null, .null, .null, .null, .null, .int 0, .null, .int 0, .null, .int 0, .int 0, .int 0, .int 0, .int 0, .null, .null, .int 0, .null, .int 0, .int 0, .int 0, .int 0, .int 0, .null, .null, .int 0, .int 0, .null, .int 0, .int 0, .int 0, .int 0, .int 0, .int 0, .null, .null, .null, .null, .int 0, .int 0, .int 0, .int 0, .int 0, .int 0, .int 0, .null, .int 0, .null, .null, .null, .null, .null, .null, .null, .null, .null, .null, .null, .null, .null, .null, .null, .null, .null, .null, .null, .null, .null, .null]))) (hla : a < n0) (r1 : n0 + 91 ≤ B + 600000) (r2 : s0 + 197734 ≤ 7302250)
    (hk : ∀ τ : hS, τ.2.1 = n0 + 91 → τ.2.2 = s0 + 197734 → τ.1 a = some (.inr (12, mFs n0 (fun i => if i = 0 then 1 else 0))) → mMI A τ n0 91 → h_old σ τ a n0 → G l D (h_ty A) B Z mX12_init d σ P τ 783 [(0, .ref a)] []) : G l D (h_ty A) B Z mX12_init d σ P σ 0 [(0, .ref a)] [] := by
  have z : σ.2.1 = n0 + 0 := z0
  have y : σ.2.2 = s0 + 0 := y0
  have mi : mMI A σ n0 0 := fun j hj => absurd hj (Nat.not_lt_zero j)
  have od : h_old σ σ a n0 := fun _ _ _ => rfl
  refine g_aload_n dX12_init_0 rfl (List.mem_of_getElem? (i := 0) rfl) ?_
  refine g_obj lX12_1382 h_oi h_oc (by omega) (Nat.le_of_ble_eq_true rfl) dX12_init_1 ?_
  refine g_aload_n dX12_init_4 rfl (List.mem_of_getElem? (i := 0) rfl) ?_
  refine g_iconst (v := 1) dX12_init_5 (by decide) ?_
  refine g_put (ft := .boolean) fX12_7 ptX12 (Or.inl rfl) ha0 (by decide +kernel) rfl rfl (by decide) dX12_init_6 ?_
  refine g_gen (fun τ e => ?_)
  rw [← mS_0 n0] at e
  have z := h_z2 e z
  have y := h_y2 e y
  have ha := h_eS e
  have mi := mi.set e hla
  have od := od.set e
  clear e
  refine g_aload_n dX12_init_9 rfl (List.mem_of_getElem? (i := 0) rfl) ?_
  refine g_sipush (v := 6000) dX12_init_10 (by decide) ?_
  refine g_newa (t0 := 0) (N := 6000) (f := .inl (fun _ => 0)) rfl rfl (fun _ h => h) ac_int hv_int (by decide) (nI_clamp (n := 6000) (by decide)) (by decide) (h_r1 (m := 0) z r1 (by decide)) (h_r2 (m := 0) y r2 (by decide)) dX12_init_13 ?_
  refine g_eqv (.ref (n0 + 0)) (congrArg Value.ref z) ?_
  refine g_gen (fun τ e => ?_)
  have mi : mMI A τ n0 1 := mi.new e z
  have od := od.new e z
  have ha := h_nN e z (h_al hla) ha
  have z : τ.2.1 = n0 + 1 := h_z1 (k := 0) e z
  have y : τ.2.2 = s0 + 6000 := h_y1 (k := 0) e y
  clear e
  refine g_put (ft := (.array .int)) fX12_21 ptX12 (Or.inr ⟨rfl, rfl, rfl⟩) ha (by decide +kernel) rfl rfl (by rw [mS_len]; decide) dX12_init_15 ?_
  refine g_gen (fun τ e => ?_)
  rw [mS_step 0 4 rfl (by decide) (by decide)] at e
  have z := h_z2 e z
  have y := h_y2 e y
  have ha := h_eS e
  have mi := mi.set e hla
  have od := od.set e
  clear e
  refine g_aload_n dX12_init_18 rfl (List.mem_of_getElem? (i := 0) rfl) ?_
  refine g_sipush (v := 10000) dX12_init_19 (by decide) ?_
  refine g_newa (t0 := 1) (N := 10000) (f := .inl (fun _ => 0)) rfl rfl (fun _ h => h) ac_byte hv_byte (by decide) (nI_clamp (n := 10000) (by decide)) (by decide) (h_r1 (m := 1) z r1 (by decide)) (h_r2 (m := 6000) y r2 (by decide)) dX12_init_22 ?_
  refine g_eqv (.ref (n0 + 1)) (congrArg Value.ref z) ?_
  refine g_gen (fun τ e => ?_)
  have mi : mMI A τ n0 2 := mi.new e z
  have od := od.new e z
  have ha := h_nN e z (h_al hla) ha
  have z : τ.2.1 = n0 + 2 := h_z1 (k := 1) e z
  have y : τ.2.2 = s0 + 16000 := h_y1 (k := 6000) e y
  clear e
  refine g_put (ft := (.array .byte)) fX12_34 ptX12 (Or.inr ⟨rfl, rfl, rfl⟩) ha (by decide +kernel) rfl rfl (by rw [mS_len]; decide) dX12_init_24 ?_
  refine g_gen (fun τ e => ?_)
  rw [mS_step 1 6 rfl (by decide) (by decide)] at e
  have z := h_z2 e z
  have y := h_y2 e y
  have ha := h_eS e
  have mi := mi.set e hla
  have od := od.set e
  clear e
  refine g_aload_n dX12_init_27 rfl (List.mem_of_getElem? (i := 0) rfl) ?_
  refine g_sipush (v := 10000) dX12_init_28 (by decide) ?_
  refine g_newa (t0 := 1) (N := 10000) (f := .inl (fun _ => 0)) rfl rfl (fun _ h => h) ac_byte hv_byte (by decide) (nI_clamp (n := 10000) (by decide)) (by decide) (h_r1 (m := 2) z r1 (by decide)) (h_r2 (m := 16000) y r2 (by decide)) dX12_init_31 ?_
  refine g_eqv (.ref (n0 + 2)) (congrArg Value.ref z) ?_
  refine g_gen (fun τ e => ?_)
  have mi : mMI A τ n0 3 := mi.new e z
  have od := od.new e z
  have ha := h_nN e z (h_al hla) ha
  have z : τ.2.1 = n0 + 3 := h_z1 (k := 2) e z
  have y : τ.2.2 = s0 + 26000 := h_y1 (k := 16000) e y
  clear e
  refine g_put (ft := (.array .byte)) fX12_38 ptX12 (Or.inr ⟨rfl, rfl, rfl⟩) ha (by decide +kernel) rfl rfl (by rw [mS_len]; decide) dX12_init_33 ?_
  refine g_gen (fun τ e => ?_)
  rw [mS_step 2 7 rfl (by decide) (by decide)] at e
  have z := h_z2 e z
  have y := h_y2 e y
  have ha := h_eS e
  have mi := mi.set e hla
  have od := od.set e
  clear e
  refine g_aload_n dX12_init_36 rfl (List.mem_of_getElem? (i := 0) rfl) ?_
  refine g_sipush (v := 10000) dX12_init_37 (by decide) ?_
  refine g_newa (t0 := 1) (N := 10000) (f := .inl (fun _ => 0)) rfl rfl (fun _ h => h) ac_byte hv_byte (by decide) (nI_clamp (n := 10000) (by decide)) (by decide) (h_r1 (m := 3) z r1 (by decide)) (h_r2 (m := 26000) y r2 (by decide)) dX12_init_40 ?_
  refine g_eqv (.ref (n0 + 3)) (congrArg Value.ref z) ?_
  refine g_gen (fun τ e => ?_)
  have mi : mMI A τ n0 4 := mi.new e z
  have od := od.new e z
  have ha := h_nN e z (h_al hla) ha
  have z : τ.2.1 = n0 + 4 := h_z1 (k := 3) e z
  have y : τ.2.2 = s0 + 36000 := h_y1 (k := 26000) e y
  clear e
  refine g_put (ft := (.array .byte)) fX12_41 ptX12 (Or.inr ⟨rfl, rfl, rfl⟩) ha (by decide +kernel) rfl rfl (by rw [mS_len]; decide) dX12_init_42 ?_
  refine g_gen (fun τ e => ?_)
  rw [mS_step 3 8 rfl (by decide) (by decide)] at e
  have z := h_z2 e z
  have y := h_y2 e y
  have ha := h_eS e
  have mi := mi.set e hla
  have od := od.set e
  clear e
  refine g_aload_n dX12_init_45 rfl (List.mem_of_getElem? (i := 0) rfl) ?_
  refine g_sipush (v := 10000) dX12_init_46 (by decide) ?_
  refine g_newa (t0 := 1) (N := 10000) (f := .inl (fun _ => 0)) rfl rfl (fun _ h => h) ac_byte hv_byte (by decide) (nI_clamp (n := 10000) (by decide)) (by decide) (h_r1 (m := 4) z r1 (by decide)) (h_r2 (m := 36000) y r2 (by decide)) dX12_init_49 ?_
  refine g_eqv (.ref (n0 + 4)) (congrArg Value.ref z) ?_
  refine g_gen (fun τ e => ?_)
  have mi : mMI A τ n0 5 := mi.new e z
  have od := od.new e z
  have ha := h_nN e z (h_al hla) ha
  have z : τ.2.1 = n0 + 5 := h_z1 (k := 4) e z
  have y : τ.2.2 = s0 + 46000 := h_y1 (k := 36000) e y
  clear e
  refine g_put (ft := (.array .byte)) fX12_44 ptX12 (Or.inr ⟨rfl, rfl, rfl⟩) ha (by decide +kernel) rfl rfl (by rw [mS_len]; decide) dX12_init_51 ?_
  refine g_gen (fun τ e => ?_)
  rw [mS_step 4 9 rfl (by decide) (by decide)] at e
  have z := h_z2 e z
  have y := h_y2 e y
  have ha := h_eS e
  have mi := mi.set e hla
  have od := od.set e
  clear e
  refine g_aload_n dX12_init_54 rfl (List.mem_of_getElem? (i := 0) rfl) ?_
  refine g_sipush (v := 10000) dX12_init_55 (by decide) ?_
  refine g_newa (t0 := 1) (N := 10000) (f := .inl (fun _ => 0)) rfl rfl (fun _ h => h) ac_byte hv_byte (by decide) (nI_clamp (n := 10000) (by decide)) (by decide) (h_r1 (m := 5) z r1 (by decide)) (h_r2 (m := 46000) y r2 (by decide)) dX12_init_58 ?_
  refine g_eqv (.ref (n0 + 5)) (congrArg Value.ref z) ?_
  refine g_gen (fun τ e => ?_)
  have mi : mMI A τ n0 6 := mi.new e z
  have od := od.new e z
  have ha := h_nN e z (h_al hla) ha
  have z : τ.2.1 = n0 + 6 := h_z1 (k := 5) e z
  have y : τ.2.2 = s0 + 56000 := h_y1 (k := 46000) e y
  clear e
  refine g_put (ft := (.array .byte)) fX12_47 ptX12 (Or.inr ⟨rfl, rfl, rfl⟩) ha (by decide +kernel) rfl rfl (by rw [mS_len]; decide) dX12_init_60 ?_
  refine g_gen (fun τ e => ?_)
  rw [mS_step 5 10 rfl (by decide) (by decide)] at e
  have z := h_z2 e z
  have y := h_y2 e y
  have ha := h_eS e
  have mi := mi.set e hla
  have od := od.set e
  clear e
  refine g_aload_n dX12_init_63 rfl (List.mem_of_getElem? (i := 0) rfl) ?_
  refine g_iconst (v := 5) dX12_init_64 (by decide) ?_
  refine g_newa (t0 := 0) (N := 5) (f := .inl (fun _ => 0)) rfl rfl (fun _ h => h) ac_int hv_int (by decide) (nI_clamp (n := 5) (by decide)) (by decide) (h_r1 (m := 6) z r1 (by decide)) (h_r2 (m := 56000) y r2 (by decide)) dX12_init_65 ?_
  refine g_eqv (.ref (n0 + 6)) (congrArg Value.ref z) ?_
  refine g_gen (fun τ e => ?_)
  have mi : mMI A τ n0 7 := mi.new e z
  have od := od.new e z
  have ha := h_nN e z (h_al hla) ha
  have z : τ.2.1 = n0 + 7 := h_z1 (k := 6) e z
  have y : τ.2.2 = s0 + 56005 := h_y1 (k := 56000) e y
  clear e
  refine g_put (ft := (.array .int)) fX12_31 ptX12 (Or.inr ⟨rfl, rfl, rfl⟩) ha (by decide +kernel) rfl rfl (by rw [mS_len]; decide) dX12_init_67 ?_
  refine g_gen (fun τ e => ?_)
  rw [mS_step 6 11 rfl (by decide) (by decide)] at e
  have z := h_z2 e z
  have y := h_y2 e y
  have ha := h_eS e
  have mi := mi.set e hla
  have od := od.set e
  clear e
  refine g_aload_n dX12_init_70 rfl (List.mem_of_getElem? (i := 0) rfl) ?_
  refine g_sipush (v := 4000) dX12_init_71 (by decide) ?_
  refine g_newa (t0 := 0) (N := 4000) (f := .inl (fun _ => 0)) rfl rfl (fun _ h => h) ac_int hv_int (by decide) (nI_clamp (n := 4000) (by decide)) (by decide) (h_r1 (m := 7) z r1 (by decide)) (h_r2 (m := 56005) y r2 (by decide)) dX12_init_74 ?_
  refine g_eqv (.ref (n0 + 7)) (congrArg Value.ref z) ?_
  refine g_gen (fun τ e => ?_)
  have mi : mMI A τ n0 8 := mi.new e z
  have od := od.new e z
  have ha := h_nN e z (h_al hla) ha
  have z : τ.2.1 = n0 + 8 := h_z1 (k := 7) e z
  have y : τ.2.2 = s0 + 60005 := h_y1 (k := 56005) e y
  clear e
  refine g_put (ft := (.array .int)) fX12_78 ptX12 (Or.inr ⟨rfl, rfl, rfl⟩) ha (by decide +kernel) rfl rfl (by rw [mS_len]; decide) dX12_init_76 ?_
  refine g_gen (fun τ e => ?_)
  rw [mS_step 7 12 rfl (by decide) (by decide)] at e
  have z := h_z2 e z
  have y := h_y2 e y
  have ha := h_eS e
  have mi := mi.set e hla
  have od := od.set e
  clear e
  refine g_aload_n dX12_init_79 rfl (List.mem_of_getElem? (i := 0) rfl) ?_
  refine g_sipush (v := 2100) dX12_init_80 (by decide) ?_
  refine g_newa (t0 := 0) (N := 2100) (f := .inl (fun _ => 0)) rfl rfl (fun _ h => h) ac_int hv_int (by decide) (nI_clamp (n := 2100) (by decide)) (by decide) (h_r1 (m := 8) z r1 (by decide)) (h_r2 (m := 60005) y r2 (by decide)) dX12_init_83 ?_
  refine g_eqv (.ref (n0 + 8)) (congrArg Value.ref z) ?_
  refine g_gen (fun τ e => ?_)
  have mi : mMI A τ n0 9 := mi.new e z
  have od := od.new e z
  have ha := h_nN e z (h_al hla) ha
  have z : τ.2.1 = n0 + 9 := h_z1 (k := 8) e z
  have y : τ.2.2 = s0 + 62105 := h_y1 (k := 60005) e y
  clear e
  refine g_put (ft := (.array .int)) fX12_82 ptX12 (Or.inr ⟨rfl, rfl, rfl⟩) ha (by decide +kernel) rfl rfl (by rw [mS_len]; decide) dX12_init_85 ?_
  refine g_gen (fun τ e => ?_)
  rw [mS_step 8 15 rfl (by decide) (by decide)] at e
  have z := h_z2 e z
  have y := h_y2 e y
  have ha := h_eS e
  have mi := mi.set e hla
  have od := od.set e
  clear e
  refine g_aload_n dX12_init_88 rfl (List.mem_of_getElem? (i := 0) rfl) ?_
  refine g_sipush (v := 2100) dX12_init_89 (by decide) ?_
  refine g_newa (t0 := 0) (N := 2100) (f := .inl (fun _ => 0)) rfl rfl (fun _ h => h) ac_int hv_int (by decide) (nI_clamp (n := 2100) (by decide)) (by decide) (h_r1 (m := 9) z r1 (by decide)) (h_r2 (m := 62105) y r2 (by decide)) dX12_init_92 ?_
  refine g_eqv (.ref (n0 + 9)) (congrArg Value.ref z) ?_
  refine g_gen (fun τ e => ?_)
  have mi : mMI A τ n0 10 := mi.new e z
  have od := od.new e z
  have ha := h_nN e z (h_al hla) ha
  have z : τ.2.1 = n0 + 10 := h_z1 (k := 9) e z
  have y : τ.2.2 = s0 + 64205 := h_y1 (k := 62105) e y
  clear e
  refine g_put (ft := (.array .int)) fX12_88 ptX12 (Or.inr ⟨rfl, rfl, rfl⟩) ha (by decide +kernel) rfl rfl (by rw [mS_len]; decide) dX12_init_94 ?_
  refine g_gen (fun τ e => ?_)
  rw [mS_step 9 16 rfl (by decide) (by decide)] at e
  have z := h_z2 e z
  have y := h_y2 e y
  have ha := h_eS e
  have mi := mi.set e hla
  have od := od.set e
  clear e
  refine g_aload_n dX12_init_97 rfl (List.mem_of_getElem? (i := 0) rfl) ?_
  refine g_sipush (v := 2100) dX12_init_98 (by decide) ?_
  refine g_newa (t0 := 0) (N := 2100) (f := .inl (fun _ => 0)) rfl rfl (fun _ h => h) ac_int hv_int (by decide) (nI_clamp (n := 2100) (by decide)) (by decide) (h_r1 (m := 10) z r1 (by decide)) (h_r2 (m := 64205) y r2 (by decide)) dX12_init_101 ?_
  refine g_eqv (.ref (n0 + 10)) (congrArg Value.ref z) ?_
  refine g_gen (fun τ e => ?_)
  have mi : mMI A τ n0 11 := mi.new e z
  have od := od.new e z
  have ha := h_nN e z (h_al hla) ha
  have z : τ.2.1 = n0 + 11 := h_z1 (k := 10) e z
  have y : τ.2.2 = s0 + 66305 := h_y1 (k := 64205) e y
  clear e
  refine g_put (ft := (.array .int)) fX12_98 ptX12 (Or.inr ⟨rfl, rfl, rfl⟩) ha (by decide +kernel) rfl rfl (by rw [mS_len]; decide) dX12_init_103 ?_
  refine g_gen (fun τ e => ?_)
  rw [mS_step 10 17 rfl (by decide) (by decide)] at e
  have z := h_z2 e z
  have y := h_y2 e y
  have ha := h_eS e
  have mi := mi.set e hla
  have od := od.set e
  clear e
  refine g_aload_n dX12_init_106 rfl (List.mem_of_getElem? (i := 0) rfl) ?_
  refine g_sipush (v := 2100) dX12_init_107 (by decide) ?_
  refine g_newa (t0 := 0) (N := 2100) (f := .inl (fun _ => 0)) rfl rfl (fun _ h => h) ac_int hv_int (by decide) (nI_clamp (n := 2100) (by decide)) (by decide) (h_r1 (m := 11) z r1 (by decide)) (h_r2 (m := 66305) y r2 (by decide)) dX12_init_110 ?_
  refine g_eqv (.ref (n0 + 11)) (congrArg Value.ref z) ?_
  refine g_gen (fun τ e => ?_)
  have mi : mMI A τ n0 12 := mi.new e z
  have od := od.new e z
  have ha := h_nN e z (h_al hla) ha
  have z : τ.2.1 = n0 + 12 := h_z1 (k := 11) e z
  have y : τ.2.2 = s0 + 68405 := h_y1 (k := 66305) e y
  clear e
  refine g_put (ft := (.array .int)) fX12_107 ptX12 (Or.inr ⟨rfl, rfl, rfl⟩) ha (by decide +kernel) rfl rfl (by rw [mS_len]; decide) dX12_init_112 ?_
  refine g_gen (fun τ e => ?_)
  rw [mS_step 11 18 rfl (by decide) (by decide)] at e
  have z := h_z2 e z
  have y := h_y2 e y
  have ha := h_eS e
  have mi := mi.set e hla
  have od := od.set e
  clear e
  refine g_aload_n dX12_init_115 rfl (List.mem_of_getElem? (i := 0) rfl) ?_
  refine g_sipush (v := 4100) dX12_init_116 (by decide) ?_
  refine g_newa (t0 := 0) (N := 4100) (f := .inl (fun _ => 0)) rfl rfl (fun _ h => h) ac_int hv_int (by decide) (nI_clamp (n := 4100) (by decide)) (by decide) (h_r1 (m := 12) z r1 (by decide)) (h_r2 (m := 68405) y r2 (by decide)) dX12_init_119 ?_
  refine g_eqv (.ref (n0 + 12)) (congrArg Value.ref z) ?_
  refine g_gen (fun τ e => ?_)
  have mi : mMI A τ n0 13 := mi.new e z
  have od := od.new e z
  have ha := h_nN e z (h_al hla) ha
  have z : τ.2.1 = n0 + 13 := h_z1 (k := 12) e z
  have y : τ.2.2 = s0 + 72505 := h_y1 (k := 68405) e y
  clear e
  refine g_put (ft := (.array .int)) fX12_101 ptX12 (Or.inr ⟨rfl, rfl, rfl⟩) ha (by decide +kernel) rfl rfl (by rw [mS_len]; decide) dX12_init_121 ?_
  refine g_gen (fun τ e => ?_)
  rw [mS_step 12 19 rfl (by decide) (by decide)] at e
  have z := h_z2 e z
  have y := h_y2 e y
  have ha := h_eS e
  have mi := mi.set e hla
  have od := od.set e
  clear e
  refine g_aload_n dX12_init_124 rfl (List.mem_of_getElem? (i := 0) rfl) ?_
  refine g_sipush (v := 4100) dX12_init_125 (by decide) ?_
  refine g_newa (t0 := 0) (N := 4100) (f := .inl (fun _ => 0)) rfl rfl (fun _ h => h) ac_int hv_int (by decide) (nI_clamp (n := 4100) (by decide)) (by decide) (h_r1 (m := 13) z r1 (by decide)) (h_r2 (m := 72505) y r2 (by decide)) dX12_init_128 ?_
  refine g_eqv (.ref (n0 + 13)) (congrArg Value.ref z) ?_
  refine g_gen (fun τ e => ?_)
  have mi : mMI A τ n0 14 := mi.new e z
  have od := od.new e z
  have ha := h_nN e z (h_al hla) ha
  have z : τ.2.1 = n0 + 14 := h_z1 (k := 13) e z
  have y : τ.2.2 = s0 + 76605 := h_y1 (k := 72505) e y
  clear e
  refine g_put (ft := (.array .int)) fX12_116 ptX12 (Or.inr ⟨rfl, rfl, rfl⟩) ha (by decide +kernel) rfl rfl (by rw [mS_len]; decide) dX12_init_130 ?_
  refine g_gen (fun τ e => ?_)
  rw [mS_step 13 20 rfl (by decide) (by decide)] at e
  have z := h_z2 e z
  have y := h_y2 e y
  have ha := h_eS e
  have mi := mi.set e hla
  have od := od.set e
  clear e
  refine g_aload_n dX12_init_133 rfl (List.mem_of_getElem? (i := 0) rfl) ?_
  refine g_sipush (v := 2100) dX12_init_134 (by decide) ?_
  refine g_newa (t0 := 0) (N := 2100) (f := .inl (fun _ => 0)) rfl rfl (fun _ h => h) ac_int hv_int (by decide) (nI_clamp (n := 2100) (by decide)) (by decide) (h_r1 (m := 14) z r1 (by decide)) (h_r2 (m := 76605) y r2 (by decide)) dX12_init_137 ?_
  refine g_eqv (.ref (n0 + 14)) (congrArg Value.ref z) ?_
  refine g_gen (fun τ e => ?_)
  have mi : mMI A τ n0 15 := mi.new e z
  have od := od.new e z
  have ha := h_nN e z (h_al hla) ha
  have z : τ.2.1 = n0 + 15 := h_z1 (k := 14) e z
  have y : τ.2.2 = s0 + 78705 := h_y1 (k := 76605) e y
  clear e
  refine g_put (ft := (.array .int)) fX12_122 ptX12 (Or.inr ⟨rfl, rfl, rfl⟩) ha (by decide +kernel) rfl rfl (by rw [mS_len]; decide) dX12_init_139 ?_
  refine g_gen (fun τ e => ?_)
  rw [mS_step 14 22 rfl (by decide) (by decide)] at e
  have z := h_z2 e z
  have y := h_y2 e y
  have ha := h_eS e
  have mi := mi.set e hla
  have od := od.set e
  clear e
  refine g_aload_n dX12_init_142 rfl (List.mem_of_getElem? (i := 0) rfl) ?_
  refine g_sipush (v := 4100) dX12_init_143 (by decide) ?_
  refine g_newa (t0 := 0) (N := 4100) (f := .inl (fun _ => 0)) rfl rfl (fun _ h => h) ac_int hv_int (by decide) (nI_clamp (n := 4100) (by decide)) (by decide) (h_r1 (m := 15) z r1 (by decide)) (h_r2 (m := 78705) y r2 (by decide)) dX12_init_146 ?_
  refine g_eqv (.ref (n0 + 15)) (congrArg Value.ref z) ?_
  refine g_gen (fun τ e => ?_)
  have mi : mMI A τ n0 16 := mi.new e z
  have od := od.new e z
  have ha := h_nN e z (h_al hla) ha
  have z : τ.2.1 = n0 + 16 := h_z1 (k := 15) e z
  have y : τ.2.2 = s0 + 82805 := h_y1 (k := 78705) e y
  clear e
  refine g_put (ft := (.array .int)) fX12_171 ptX12 (Or.inr ⟨rfl, rfl, rfl⟩) ha (by decide +kernel) rfl rfl (by rw [mS_len]; decide) dX12_init_148 ?_
  refine g_gen (fun τ e => ?_)
  rw [mS_step 15 26 rfl (by decide) (by decide)] at e
  have z := h_z2 e z
  have y := h_y2 e y
  have ha := h_eS e
  have mi := mi.set e hla
  have od := od.set e
  clear e
  refine g_aload_n dX12_init_151 rfl (List.mem_of_getElem? (i := 0) rfl) ?_
  refine g_sipush (v := 2000) dX12_init_152 (by decide) ?_
  refine g_newa (t0 := 0) (N := 2000) (f := .inl (fun _ => 0)) rfl rfl (fun _ h => h) ac_int hv_int (by decide) (nI_clamp (n := 2000) (by decide)) (by decide) (h_r1 (m := 16) z r1 (by decide)) (h_r2 (m := 82805) y r2 (by decide)) dX12_init_155 ?_
  refine g_eqv (.ref (n0 + 16)) (congrArg Value.ref z) ?_
  refine g_gen (fun τ e => ?_)
  have mi : mMI A τ n0 17 := mi.new e z
  have od := od.new e z
  have ha := h_nN e z (h_al hla) ha
  have z : τ.2.1 = n0 + 17 := h_z1 (k := 16) e z
  have y : τ.2.2 = s0 + 84805 := h_y1 (k := 82805) e y
  clear e
  refine g_put (ft := (.array .int)) fX12_187 ptX12 (Or.inr ⟨rfl, rfl, rfl⟩) ha (by decide +kernel) rfl rfl (by rw [mS_len]; decide) dX12_init_157 ?_
  refine g_gen (fun τ e => ?_)
  rw [mS_step 16 28 rfl (by decide) (by decide)] at e
  have z := h_z2 e z
  have y := h_y2 e y
  have ha := h_eS e
  have mi := mi.set e hla
  have od := od.set e
  clear e
  refine g_aload_n dX12_init_160 rfl (List.mem_of_getElem? (i := 0) rfl) ?_
  refine g_sipush (v := 4100) dX12_init_161 (by decide) ?_
  refine g_newa (t0 := 0) (N := 4100) (f := .inl (fun _ => 0)) rfl rfl (fun _ h => h) ac_int hv_int (by decide) (nI_clamp (n := 4100) (by decide)) (by decide) (h_r1 (m := 17) z r1 (by decide)) (h_r2 (m := 84805) y r2 (by decide)) dX12_init_164 ?_
  refine g_eqv (.ref (n0 + 17)) (congrArg Value.ref z) ?_
  refine g_gen (fun τ e => ?_)
  have mi : mMI A τ n0 18 := mi.new e z
  have od := od.new e z
  have ha := h_nN e z (h_al hla) ha
  have z : τ.2.1 = n0 + 18 := h_z1 (k := 17) e z
  have y : τ.2.2 = s0 + 88905 := h_y1 (k := 84805) e y
  clear e
  refine g_put (ft := (.array .int)) fX12_260 ptX12 (Or.inr ⟨rfl, rfl, rfl⟩) ha (by decide +kernel) rfl rfl (by rw [mS_len]; decide) dX12_init_166 ?_
  refine g_gen (fun τ e => ?_)
  rw [mS_step 17 36 rfl (by decide) (by decide)] at e
  have z := h_z2 e z
  have y := h_y2 e y
  have ha := h_eS e
  have mi := mi.set e hla
  have od := od.set e
  clear e
  refine g_aload_n dX12_init_169 rfl (List.mem_of_getElem? (i := 0) rfl) ?_
  refine g_sipush (v := 520) dX12_init_170 (by decide) ?_
  refine g_newa (t0 := 0) (N := 520) (f := .inl (fun _ => 0)) rfl rfl (fun _ h => h) ac_int hv_int (by decide) (nI_clamp (n := 520) (by decide)) (by decide) (h_r1 (m := 18) z r1 (by decide)) (h_r2 (m := 88905) y r2 (by decide)) dX12_init_173 ?_
  refine g_eqv (.ref (n0 + 18)) (congrArg Value.ref z) ?_
  refine g_gen (fun τ e => ?_)
  have mi : mMI A τ n0 19 := mi.new e z
  have od := od.new e z
  have ha := h_nN e z (h_al hla) ha
  have z : τ.2.1 = n0 + 19 := h_z1 (k := 18) e z
  have y : τ.2.2 = s0 + 89425 := h_y1 (k := 88905) e y
  clear e
  refine g_put (ft := (.array .int)) fX12_285 ptX12 (Or.inr ⟨rfl, rfl, rfl⟩) ha (by decide +kernel) rfl rfl (by rw [mS_len]; decide) dX12_init_175 ?_
  refine g_gen (fun τ e => ?_)
  rw [mS_step 18 43 rfl (by decide) (by decide)] at e
  have z := h_z2 e z
  have y := h_y2 e y
  have ha := h_eS e
  have mi := mi.set e hla
  have od := od.set e
  clear e
  refine g_aload_n dX12_init_178 rfl (List.mem_of_getElem? (i := 0) rfl) ?_
  refine g_sipush (v := 520) dX12_init_179 (by decide) ?_
  refine g_newa (t0 := 0) (N := 520) (f := .inl (fun _ => 0)) rfl rfl (fun _ h => h) ac_int hv_int (by decide) (nI_clamp (n := 520) (by decide)) (by decide) (h_r1 (m := 19) z r1 (by decide)) (h_r2 (m := 89425) y r2 (by decide)) dX12_init_182 ?_
  refine g_eqv (.ref (n0 + 19)) (congrArg Value.ref z) ?_
  refine g_gen (fun τ e => ?_)
  have mi : mMI A τ n0 20 := mi.new e z
  have od := od.new e z
  have ha := h_nN e z (h_al hla) ha
  have z : τ.2.1 = n0 + 20 := h_z1 (k := 19) e z
  have y : τ.2.2 = s0 + 89945 := h_y1 (k := 89425) e y
  clear e
  refine g_put (ft := (.array .int)) fX12_288 ptX12 (Or.inr ⟨rfl, rfl, rfl⟩) ha (by decide +kernel) rfl rfl (by rw [mS_len]; decide) dX12_init_184 ?_
  refine g_gen (fun τ e => ?_)
  rw [mS_step 19 44 rfl (by decide) (by decide)] at e
  have z := h_z2 e z
  have y := h_y2 e y
  have ha := h_eS e
  have mi := mi.set e hla
  have od := od.set e
  clear e
  refine g_aload_n dX12_init_187 rfl (List.mem_of_getElem? (i := 0) rfl) ?_
  refine g_sipush (v := 520) dX12_init_188 (by decide) ?_
  refine g_newa (t0 := 0) (N := 520) (f := .inl (fun _ => 0)) rfl rfl (fun _ h => h) ac_int hv_int (by decide) (nI_clamp (n := 520) (by decide)) (by decide) (h_r1 (m := 20) z r1 (by decide)) (h_r2 (m := 89945) y r2 (by decide)) dX12_init_191 ?_
  refine g_eqv (.ref (n0 + 20)) (congrArg Value.ref z) ?_
  refine g_gen (fun τ e => ?_)
  have mi : mMI A τ n0 21 := mi.new e z
  have od := od.new e z
  have ha := h_nN e z (h_al hla) ha
  have z : τ.2.1 = n0 + 21 := h_z1 (k := 20) e z
  have y : τ.2.2 = s0 + 90465 := h_y1 (k := 89945) e y
  clear e
  refine g_put (ft := (.array .int)) fX12_291 ptX12 (Or.inr ⟨rfl, rfl, rfl⟩) ha (by decide +kernel) rfl rfl (by rw [mS_len]; decide) dX12_init_193 ?_
  refine g_gen (fun τ e => ?_)
  rw [mS_step 20 45 rfl (by decide) (by decide)] at e
  have z := h_z2 e z
  have y := h_y2 e y
  have ha := h_eS e
  have mi := mi.set e hla
  have od := od.set e
  clear e
  refine g_aload_n dX12_init_196 rfl (List.mem_of_getElem? (i := 0) rfl) ?_
  refine g_sipush (v := 520) dX12_init_197 (by decide) ?_
  refine g_newa (t0 := 0) (N := 520) (f := .inl (fun _ => 0)) rfl rfl (fun _ h => h) ac_int hv_int (by decide) (nI_clamp (n := 520) (by decide)) (by decide) (h_r1 (m := 21) z r1 (by decide)) (h_r2 (m := 90465) y r2 (by decide)) dX12_init_200 ?_
  refine g_eqv (.ref (n0 + 21)) (congrArg Value.ref z) ?_
  refine g_gen (fun τ e => ?_)
  have mi : mMI A τ n0 22 := mi.new e z
  have od := od.new e z
  have ha := h_nN e z (h_al hla) ha
  have z : τ.2.1 = n0 + 22 := h_z1 (k := 21) e z
  have y : τ.2.2 = s0 + 90985 := h_y1 (k := 90465) e y
  clear e
  refine g_put (ft := (.array .int)) fX12_294 ptX12 (Or.inr ⟨rfl, rfl, rfl⟩) ha (by decide +kernel) rfl rfl (by rw [mS_len]; decide) dX12_init_202 ?_
  refine g_gen (fun τ e => ?_)
  rw [mS_step 21 46 rfl (by decide) (by decide)] at e
  have z := h_z2 e z
  have y := h_y2 e y
  have ha := h_eS e
  have mi := mi.set e hla
  have od := od.set e
  clear e
  refine g_aload_n dX12_init_205 rfl (List.mem_of_getElem? (i := 0) rfl) ?_
  refine g_sipush (v := 520) dX12_init_206 (by decide) ?_
  refine g_newa (t0 := 0) (N := 520) (f := .inl (fun _ => 0)) rfl rfl (fun _ h => h) ac_int hv_int (by decide) (nI_clamp (n := 520) (by decide)) (by decide) (h_r1 (m := 22) z r1 (by decide)) (h_r2 (m := 90985) y r2 (by decide)) dX12_init_209 ?_
  refine g_eqv (.ref (n0 + 22)) (congrArg Value.ref z) ?_
  refine g_gen (fun τ e => ?_)
  have mi : mMI A τ n0 23 := mi.new e z
  have od := od.new e z
  have ha := h_nN e z (h_al hla) ha
  have z : τ.2.1 = n0 + 23 := h_z1 (k := 22) e z
  have y : τ.2.2 = s0 + 91505 := h_y1 (k := 90985) e y
  clear e
  refine g_put (ft := (.array .int)) fX12_439 ptX12 (Or.inr ⟨rfl, rfl, rfl⟩) ha (by decide +kernel) rfl rfl (by rw [mS_len]; decide) dX12_init_211 ?_
  refine g_gen (fun τ e => ?_)
  rw [mS_step 22 47 rfl (by decide) (by decide)] at e
  have z := h_z2 e z
  have y := h_y2 e y
  have ha := h_eS e
  have mi := mi.set e hla
  have od := od.set e
  clear e
  refine g_aload_n dX12_init_214 rfl (List.mem_of_getElem? (i := 0) rfl) ?_
  refine g_sipush (v := 520) dX12_init_215 (by decide) ?_
  refine g_newa (t0 := 0) (N := 520) (f := .inl (fun _ => 0)) rfl rfl (fun _ h => h) ac_int hv_int (by decide) (nI_clamp (n := 520) (by decide)) (by decide) (h_r1 (m := 23) z r1 (by decide)) (h_r2 (m := 91505) y r2 (by decide)) dX12_init_218 ?_
  refine g_eqv (.ref (n0 + 23)) (congrArg Value.ref z) ?_
  refine g_gen (fun τ e => ?_)
  have mi : mMI A τ n0 24 := mi.new e z
  have od := od.new e z
  have ha := h_nN e z (h_al hla) ha
  have z : τ.2.1 = n0 + 24 := h_z1 (k := 23) e z
  have y : τ.2.2 = s0 + 92025 := h_y1 (k := 91505) e y
  clear e
  refine g_put (ft := (.array .int)) fX12_297 ptX12 (Or.inr ⟨rfl, rfl, rfl⟩) ha (by decide +kernel) rfl rfl (by rw [mS_len]; decide) dX12_init_220 ?_
  refine g_gen (fun τ e => ?_)
  rw [mS_step 23 48 rfl (by decide) (by decide)] at e
  have z := h_z2 e z
  have y := h_y2 e y
  have ha := h_eS e
  have mi := mi.set e hla
  have od := od.set e
  clear e
  refine g_aload_n dX12_init_223 rfl (List.mem_of_getElem? (i := 0) rfl) ?_
  refine g_sipush (v := 520) dX12_init_224 (by decide) ?_
  refine g_newa (t0 := 0) (N := 520) (f := .inl (fun _ => 0)) rfl rfl (fun _ h => h) ac_int hv_int (by decide) (nI_clamp (n := 520) (by decide)) (by decide) (h_r1 (m := 24) z r1 (by decide)) (h_r2 (m := 92025) y r2 (by decide)) dX12_init_227 ?_
  refine g_eqv (.ref (n0 + 24)) (congrArg Value.ref z) ?_
  refine g_gen (fun τ e => ?_)
  have mi : mMI A τ n0 25 := mi.new e z
  have od := od.new e z
  have ha := h_nN e z (h_al hla) ha
  have z : τ.2.1 = n0 + 25 := h_z1 (k := 24) e z
  have y : τ.2.2 = s0 + 92545 := h_y1 (k := 92025) e y
  clear e
  refine g_put (ft := (.array .int)) fX12_454 ptX12 (Or.inr ⟨rfl, rfl, rfl⟩) ha (by decide +kernel) rfl rfl (by rw [mS_len]; decide) dX12_init_229 ?_
  refine g_gen (fun τ e => ?_)
  rw [mS_step 24 49 rfl (by decide) (by decide)] at e
  have z := h_z2 e z
  have y := h_y2 e y
  have ha := h_eS e
  have mi := mi.set e hla
  have od := od.set e
  clear e
  refine g_aload_n dX12_init_232 rfl (List.mem_of_getElem? (i := 0) rfl) ?_
  refine g_sipush (v := 520) dX12_init_233 (by decide) ?_
  refine g_newa (t0 := 0) (N := 520) (f := .inl (fun _ => 0)) rfl rfl (fun _ h => h) ac_int hv_int (by decide) (nI_clamp (n := 520) (by decide)) (by decide) (h_r1 (m := 25) z r1 (by decide)) (h_r2 (m := 92545) y r2 (by decide)) dX12_init_236 ?_
  refine g_eqv (.ref (n0 + 25)) (congrArg Value.ref z) ?_
  refine g_gen (fun τ e => ?_)
  have mi : mMI A τ n0 26 := mi.new e z
  have od := od.new e z
  have ha := h_nN e z (h_al hla) ha
  have z : τ.2.1 = n0 + 26 := h_z1 (k := 25) e z
  have y : τ.2.2 = s0 + 93065 := h_y1 (k := 92545) e y
  clear e
  refine g_put (ft := (.array .int)) fX12_300 ptX12 (Or.inr ⟨rfl, rfl, rfl⟩) ha (by decide +kernel) rfl rfl (by rw [mS_len]; decide) dX12_init_238 ?_
  refine g_gen (fun τ e => ?_)
  rw [mS_step 25 50 rfl (by decide) (by decide)] at e
  have z := h_z2 e z
  have y := h_y2 e y
  have ha := h_eS e
  have mi := mi.set e hla
  have od := od.set e
  clear e
  refine g_aload_n dX12_init_241 rfl (List.mem_of_getElem? (i := 0) rfl) ?_
  refine g_sipush (v := 520) dX12_init_242 (by decide) ?_
  refine g_newa (t0 := 0) (N := 520) (f := .inl (fun _ => 0)) rfl rfl (fun _ h => h) ac_int hv_int (by decide) (nI_clamp (n := 520) (by decide)) (by decide) (h_r1 (m := 26) z r1 (by decide)) (h_r2 (m := 93065) y r2 (by decide)) dX12_init_245 ?_
  refine g_eqv (.ref (n0 + 26)) (congrArg Value.ref z) ?_
  refine g_gen (fun τ e => ?_)
  have mi : mMI A τ n0 27 := mi.new e z
  have od := od.new e z
  have ha := h_nN e z (h_al hla) ha
  have z : τ.2.1 = n0 + 27 := h_z1 (k := 26) e z
  have y : τ.2.2 = s0 + 93585 := h_y1 (k := 93065) e y
  clear e
  refine g_put (ft := (.array .int)) fX12_303 ptX12 (Or.inr ⟨rfl, rfl, rfl⟩) ha (by decide +kernel) rfl rfl (by rw [mS_len]; decide) dX12_init_247 ?_
  refine g_gen (fun τ e => ?_)
  rw [mS_step 26 51 rfl (by decide) (by decide)] at e
  have z := h_z2 e z
  have y := h_y2 e y
  have ha := h_eS e
  have mi := mi.set e hla
  have od := od.set e
  clear e
  refine g_aload_n dX12_init_250 rfl (List.mem_of_getElem? (i := 0) rfl) ?_
  refine g_sipush (v := 520) dX12_init_251 (by decide) ?_
  refine g_newa (t0 := 0) (N := 520) (f := .inl (fun _ => 0)) rfl rfl (fun _ h => h) ac_int hv_int (by decide) (nI_clamp (n := 520) (by decide)) (by decide) (h_r1 (m := 27) z r1 (by decide)) (h_r2 (m := 93585) y r2 (by decide)) dX12_init_254 ?_
  refine g_eqv (.ref (n0 + 27)) (congrArg Value.ref z) ?_
  refine g_gen (fun τ e => ?_)
  have mi : mMI A τ n0 28 := mi.new e z
  have od := od.new e z
  have ha := h_nN e z (h_al hla) ha
  have z : τ.2.1 = n0 + 28 := h_z1 (k := 27) e z
  have y : τ.2.2 = s0 + 94105 := h_y1 (k := 93585) e y
  clear e
  refine g_put (ft := (.array .int)) fX12_463 ptX12 (Or.inr ⟨rfl, rfl, rfl⟩) ha (by decide +kernel) rfl rfl (by rw [mS_len]; decide) dX12_init_256 ?_
  refine g_gen (fun τ e => ?_)
  rw [mS_step 27 52 rfl (by decide) (by decide)] at e
  have z := h_z2 e z
  have y := h_y2 e y
  have ha := h_eS e
  have mi := mi.set e hla
  have od := od.set e
  clear e
  refine g_aload_n dX12_init_259 rfl (List.mem_of_getElem? (i := 0) rfl) ?_
  refine g_sipush (v := 520) dX12_init_260 (by decide) ?_
  refine g_newa (t0 := 2) (N := 520) (f := .inl (fun _ => 0)) rfl rfl (fun _ h => h) ac_boolean hv_boolean (by decide) (nI_clamp (n := 520) (by decide)) (by decide) (h_r1 (m := 28) z r1 (by decide)) (h_r2 (m := 94105) y r2 (by decide)) dX12_init_263 ?_
  refine g_eqv (.ref (n0 + 28)) (congrArg Value.ref z) ?_
  refine g_gen (fun τ e => ?_)
  have mi : mMI A τ n0 29 := mi.new e z
  have od := od.new e z
  have ha := h_nN e z (h_al hla) ha
  have z : τ.2.1 = n0 + 29 := h_z1 (k := 28) e z
  have y : τ.2.2 = s0 + 94625 := h_y1 (k := 94105) e y
  clear e
  refine g_put (ft := (.array .boolean)) fX12_306 ptX12 (Or.inr ⟨rfl, rfl, rfl⟩) ha (by decide +kernel) rfl rfl (by rw [mS_len]; decide) dX12_init_265 ?_
  refine g_gen (fun τ e => ?_)
  rw [mS_step 28 53 rfl (by decide) (by decide)] at e
  have z := h_z2 e z
  have y := h_y2 e y
  have ha := h_eS e
  have mi := mi.set e hla
  have od := od.set e
  clear e
  refine g_aload_n dX12_init_268 rfl (List.mem_of_getElem? (i := 0) rfl) ?_
  refine g_sipush (v := 520) dX12_init_269 (by decide) ?_
  refine g_newa (t0 := 0) (N := 520) (f := .inl (fun _ => 0)) rfl rfl (fun _ h => h) ac_int hv_int (by decide) (nI_clamp (n := 520) (by decide)) (by decide) (h_r1 (m := 29) z r1 (by decide)) (h_r2 (m := 94625) y r2 (by decide)) dX12_init_272 ?_
  refine g_eqv (.ref (n0 + 29)) (congrArg Value.ref z) ?_
  refine g_gen (fun τ e => ?_)
  have mi : mMI A τ n0 30 := mi.new e z
  have od := od.new e z
  have ha := h_nN e z (h_al hla) ha
  have z : τ.2.1 = n0 + 30 := h_z1 (k := 29) e z
  have y : τ.2.2 = s0 + 95145 := h_y1 (k := 94625) e y
  clear e
  refine g_put (ft := (.array .int)) fX12_310 ptX12 (Or.inr ⟨rfl, rfl, rfl⟩) ha (by decide +kernel) rfl rfl (by rw [mS_len]; decide) dX12_init_274 ?_
  refine g_gen (fun τ e => ?_)
  rw [mS_step 29 54 rfl (by decide) (by decide)] at e
  have z := h_z2 e z
  have y := h_y2 e y
  have ha := h_eS e
  have mi := mi.set e hla
  have od := od.set e
  clear e
  refine g_aload_n dX12_init_277 rfl (List.mem_of_getElem? (i := 0) rfl) ?_
  refine g_sipush (v := 520) dX12_init_278 (by decide) ?_
  refine g_newa (t0 := 0) (N := 520) (f := .inl (fun _ => 0)) rfl rfl (fun _ h => h) ac_int hv_int (by decide) (nI_clamp (n := 520) (by decide)) (by decide) (h_r1 (m := 30) z r1 (by decide)) (h_r2 (m := 95145) y r2 (by decide)) dX12_init_281 ?_
  refine g_eqv (.ref (n0 + 30)) (congrArg Value.ref z) ?_
  refine g_gen (fun τ e => ?_)
  have mi : mMI A τ n0 31 := mi.new e z
  have od := od.new e z
  have ha := h_nN e z (h_al hla) ha
  have z : τ.2.1 = n0 + 31 := h_z1 (k := 30) e z
  have y : τ.2.2 = s0 + 95665 := h_y1 (k := 95145) e y
  clear e
  refine g_put (ft := (.array .int)) fX12_313 ptX12 (Or.inr ⟨rfl, rfl, rfl⟩) ha (by decide +kernel) rfl rfl (by rw [mS_len]; decide) dX12_init_283 ?_
  refine g_gen (fun τ e => ?_)
  rw [mS_step 30 55 rfl (by decide) (by decide)] at e
  have z := h_z2 e z
  have y := h_y2 e y
  have ha := h_eS e
  have mi := mi.set e hla
  have od := od.set e
  clear e
  refine g_aload_n dX12_init_286 rfl (List.mem_of_getElem? (i := 0) rfl) ?_
  refine g_sipush (v := 520) dX12_init_287 (by decide) ?_
  refine g_newa (t0 := 0) (N := 520) (f := .inl (fun _ => 0)) rfl rfl (fun _ h => h) ac_int hv_int (by decide) (nI_clamp (n := 520) (by decide)) (by decide) (h_r1 (m := 31) z r1 (by decide)) (h_r2 (m := 95665) y r2 (by decide)) dX12_init_290 ?_
  refine g_eqv (.ref (n0 + 31)) (congrArg Value.ref z) ?_
  refine g_gen (fun τ e => ?_)
  have mi : mMI A τ n0 32 := mi.new e z
  have od := od.new e z
  have ha := h_nN e z (h_al hla) ha
  have z : τ.2.1 = n0 + 32 := h_z1 (k := 31) e z
  have y : τ.2.2 = s0 + 96185 := h_y1 (k := 95665) e y
  clear e
  refine g_put (ft := (.array .int)) fX12_316 ptX12 (Or.inr ⟨rfl, rfl, rfl⟩) ha (by decide +kernel) rfl rfl (by rw [mS_len]; decide) dX12_init_292 ?_
  refine g_gen (fun τ e => ?_)
  rw [mS_step 31 56 rfl (by decide) (by decide)] at e
  have z := h_z2 e z
  have y := h_y2 e y
  have ha := h_eS e
  have mi := mi.set e hla
  have od := od.set e
  clear e
  refine g_aload_n dX12_init_295 rfl (List.mem_of_getElem? (i := 0) rfl) ?_
  refine g_sipush (v := 520) dX12_init_296 (by decide) ?_
  refine g_newa (t0 := 0) (N := 520) (f := .inl (fun _ => 0)) rfl rfl (fun _ h => h) ac_int hv_int (by decide) (nI_clamp (n := 520) (by decide)) (by decide) (h_r1 (m := 32) z r1 (by decide)) (h_r2 (m := 96185) y r2 (by decide)) dX12_init_299 ?_
  refine g_eqv (.ref (n0 + 32)) (congrArg Value.ref z) ?_
  refine g_gen (fun τ e => ?_)
  have mi : mMI A τ n0 33 := mi.new e z
  have od := od.new e z
  have ha := h_nN e z (h_al hla) ha
  have z : τ.2.1 = n0 + 33 := h_z1 (k := 32) e z
  have y : τ.2.2 = s0 + 96705 := h_y1 (k := 96185) e y
  clear e
  refine g_put (ft := (.array .int)) fX12_319 ptX12 (Or.inr ⟨rfl, rfl, rfl⟩) ha (by decide +kernel) rfl rfl (by rw [mS_len]; decide) dX12_init_301 ?_
  refine g_gen (fun τ e => ?_)
  rw [mS_step 32 57 rfl (by decide) (by decide)] at e
  have z := h_z2 e z
  have y := h_y2 e y
  have ha := h_eS e
  have mi := mi.set e hla
  have od := od.set e
  clear e
  refine g_aload_n dX12_init_304 rfl (List.mem_of_getElem? (i := 0) rfl) ?_
  refine g_sipush (v := 520) dX12_init_305 (by decide) ?_
  refine g_newa (t0 := 0) (N := 520) (f := .inl (fun _ => 0)) rfl rfl (fun _ h => h) ac_int hv_int (by decide) (nI_clamp (n := 520) (by decide)) (by decide) (h_r1 (m := 33) z r1 (by decide)) (h_r2 (m := 96705) y r2 (by decide)) dX12_init_308 ?_
  refine g_eqv (.ref (n0 + 33)) (congrArg Value.ref z) ?_
  refine g_gen (fun τ e => ?_)
  have mi : mMI A τ n0 34 := mi.new e z
  have od := od.new e z
  have ha := h_nN e z (h_al hla) ha
  have z : τ.2.1 = n0 + 34 := h_z1 (k := 33) e z
  have y : τ.2.2 = s0 + 97225 := h_y1 (k := 96705) e y
  clear e
  refine g_put (ft := (.array .int)) fX12_322 ptX12 (Or.inr ⟨rfl, rfl, rfl⟩) ha (by decide +kernel) rfl rfl (by rw [mS_len]; decide) dX12_init_310 ?_
  refine g_gen (fun τ e => ?_)
  rw [mS_step 33 58 rfl (by decide) (by decide)] at e
  have z := h_z2 e z
  have y := h_y2 e y
  have ha := h_eS e
  have mi := mi.set e hla
  have od := od.set e
  clear e
  refine g_aload_n dX12_init_313 rfl (List.mem_of_getElem? (i := 0) rfl) ?_
  refine g_sipush (v := 520) dX12_init_314 (by decide) ?_
  refine g_newa (t0 := 0) (N := 520) (f := .inl (fun _ => 0)) rfl rfl (fun _ h => h) ac_int hv_int (by decide) (nI_clamp (n := 520) (by decide)) (by decide) (h_r1 (m := 34) z r1 (by decide)) (h_r2 (m := 97225) y r2 (by decide)) dX12_init_317 ?_
  refine g_eqv (.ref (n0 + 34)) (congrArg Value.ref z) ?_
  refine g_gen (fun τ e => ?_)
  have mi : mMI A τ n0 35 := mi.new e z
  have od := od.new e z
  have ha := h_nN e z (h_al hla) ha
  have z : τ.2.1 = n0 + 35 := h_z1 (k := 34) e z
  have y : τ.2.2 = s0 + 97745 := h_y1 (k := 97225) e y
  clear e
  refine g_put (ft := (.array .int)) fX12_325 ptX12 (Or.inr ⟨rfl, rfl, rfl⟩) ha (by decide +kernel) rfl rfl (by rw [mS_len]; decide) dX12_init_319 ?_
  refine g_gen (fun τ e => ?_)
  rw [mS_step 34 59 rfl (by decide) (by decide)] at e
  have z := h_z2 e z
  have y := h_y2 e y
  have ha := h_eS e
  have mi := mi.set e hla
  have od := od.set e
  clear e
  refine g_aload_n dX12_init_322 rfl (List.mem_of_getElem? (i := 0) rfl) ?_
  refine g_sipush (v := 520) dX12_init_323 (by decide) ?_
  refine g_newa (t0 := 0) (N := 520) (f := .inl (fun _ => 0)) rfl rfl (fun _ h => h) ac_int hv_int (by decide) (nI_clamp (n := 520) (by decide)) (by decide) (h_r1 (m := 35) z r1 (by decide)) (h_r2 (m := 97745) y r2 (by decide)) dX12_init_326 ?_
  refine g_eqv (.ref (n0 + 35)) (congrArg Value.ref z) ?_
  refine g_gen (fun τ e => ?_)
  have mi : mMI A τ n0 36 := mi.new e z
  have od := od.new e z
  have ha := h_nN e z (h_al hla) ha
  have z : τ.2.1 = n0 + 36 := h_z1 (k := 35) e z
  have y : τ.2.2 = s0 + 98265 := h_y1 (k := 97745) e y
  clear e
  refine g_put (ft := (.array .int)) fX12_328 ptX12 (Or.inr ⟨rfl, rfl, rfl⟩) ha (by decide +kernel) rfl rfl (by rw [mS_len]; decide) dX12_init_328 ?_
  refine g_gen (fun τ e => ?_)
  rw [mS_step 35 60 rfl (by decide) (by decide)] at e
  have z := h_z2 e z
  have y := h_y2 e y
  have ha := h_eS e
  have mi := mi.set e hla
  have od := od.set e
  clear e
  refine g_aload_n dX12_init_331 rfl (List.mem_of_getElem? (i := 0) rfl) ?_
  refine g_sipush (v := 310) dX12_init_332 (by decide) ?_
  refine g_newa (t0 := 0) (N := 310) (f := .inl (fun _ => 0)) rfl rfl (fun _ h => h) ac_int hv_int (by decide) (nI_clamp (n := 310) (by decide)) (by decide) (h_r1 (m := 36) z r1 (by decide)) (h_r2 (m := 98265) y r2 (by decide)) dX12_init_335 ?_
  refine g_eqv (.ref (n0 + 36)) (congrArg Value.ref z) ?_
  refine g_gen (fun τ e => ?_)
  have mi : mMI A τ n0 37 := mi.new e z
  have od := od.new e z
  have ha := h_nN e z (h_al hla) ha
  have z : τ.2.1 = n0 + 37 := h_z1 (k := 36) e z
  have y : τ.2.2 = s0 + 98575 := h_y1 (k := 98265) e y
  clear e
  refine g_put (ft := (.array .int)) fX12_343 ptX12 (Or.inr ⟨rfl, rfl, rfl⟩) ha (by decide +kernel) rfl rfl (by rw [mS_len]; decide) dX12_init_337 ?_
  refine g_gen (fun τ e => ?_)
  rw [mS_step 36 62 rfl (by decide) (by decide)] at e
  have z := h_z2 e z
  have y := h_y2 e y
  have ha := h_eS e
  have mi := mi.set e hla
  have od := od.set e
  clear e
  refine g_aload_n dX12_init_340 rfl (List.mem_of_getElem? (i := 0) rfl) ?_
  refine g_sipush (v := 310) dX12_init_341 (by decide) ?_
  refine g_newa (t0 := 0) (N := 310) (f := .inl (fun _ => 0)) rfl rfl (fun _ h => h) ac_int hv_int (by decide) (nI_clamp (n := 310) (by decide)) (by decide) (h_r1 (m := 37) z r1 (by decide)) (h_r2 (m := 98575) y r2 (by decide)) dX12_init_344 ?_
  refine g_eqv (.ref (n0 + 37)) (congrArg Value.ref z) ?_
  refine g_gen (fun τ e => ?_)
  have mi : mMI A τ n0 38 := mi.new e z
  have od := od.new e z
  have ha := h_nN e z (h_al hla) ha
  have z : τ.2.1 = n0 + 38 := h_z1 (k := 37) e z
  have y : τ.2.2 = s0 + 98885 := h_y1 (k := 98575) e y
  clear e
  refine g_put (ft := (.array .int)) fX12_346 ptX12 (Or.inr ⟨rfl, rfl, rfl⟩) ha (by decide +kernel) rfl rfl (by rw [mS_len]; decide) dX12_init_346 ?_
  refine g_gen (fun τ e => ?_)
  rw [mS_step 37 63 rfl (by decide) (by decide)] at e
  have z := h_z2 e z
  have y := h_y2 e y
  have ha := h_eS e
  have mi := mi.set e hla
  have od := od.set e
  clear e
  refine g_aload_n dX12_init_349 rfl (List.mem_of_getElem? (i := 0) rfl) ?_
  refine g_sipush (v := 18800) dX12_init_350 (by decide) ?_
  refine g_newa (t0 := 3) (N := 18800) (f := .inr (.inl (fun _ => 0))) rfl rfl (fun _ h => h) ac_long hv_long (by decide) (nI_clamp (n := 18800) (by decide)) (by decide) (h_r1 (m := 38) z r1 (by decide)) (h_r2 (m := 98885) y r2 (by decide)) dX12_init_353 ?_
  refine g_eqv (.ref (n0 + 38)) (congrArg Value.ref z) ?_
  refine g_gen (fun τ e => ?_)
  have mi : mMI A τ n0 39 := mi.new e z
  have od := od.new e z
  have ha := h_nN e z (h_al hla) ha
  have z : τ.2.1 = n0 + 39 := h_z1 (k := 38) e z
  have y : τ.2.2 = s0 + 117685 := h_y1 (k := 98885) e y
  clear e
  refine g_put (ft := (.array .long)) fX12_555 ptX12 (Or.inr ⟨rfl, rfl, rfl⟩) ha (by decide +kernel) rfl rfl (by rw [mS_len]; decide) dX12_init_355 ?_
  refine g_gen (fun τ e => ?_)
  rw [mS_step 38 68 rfl (by decide) (by decide)] at e
  have z := h_z2 e z
  have y := h_y2 e y
  have ha := h_eS e
  have mi := mi.set e hla
  have od := od.set e
  clear e
  refine g_aload_n dX12_init_358 rfl (List.mem_of_getElem? (i := 0) rfl) ?_
  refine g_sipush (v := 401) dX12_init_359 (by decide) ?_
  refine g_newa (t0 := 0) (N := 401) (f := .inl (fun _ => 0)) rfl rfl (fun _ h => h) ac_int hv_int (by decide) (nI_clamp (n := 401) (by decide)) (by decide) (h_r1 (m := 39) z r1 (by decide)) (h_r2 (m := 117685) y r2 (by decide)) dX12_init_362 ?_
  refine g_eqv (.ref (n0 + 39)) (congrArg Value.ref z) ?_
  refine g_gen (fun τ e => ?_)
  have mi : mMI A τ n0 40 := mi.new e z
  have od := od.new e z
  have ha := h_nN e z (h_al hla) ha
  have z : τ.2.1 = n0 + 40 := h_z1 (k := 39) e z
  have y : τ.2.2 = s0 + 118086 := h_y1 (k := 117685) e y
  clear e
  refine g_put (ft := (.array .int)) fX12_569 ptX12 (Or.inr ⟨rfl, rfl, rfl⟩) ha (by decide +kernel) rfl rfl (by rw [mS_len]; decide) dX12_init_364 ?_
  refine g_gen (fun τ e => ?_)
  rw [mS_step 39 72 rfl (by decide) (by decide)] at e
  have z := h_z2 e z
  have y := h_y2 e y
  have ha := h_eS e
  have mi := mi.set e hla
  have od := od.set e
  clear e
  refine g_aload_n dX12_init_367 rfl (List.mem_of_getElem? (i := 0) rfl) ?_
  refine g_sipush (v := 401) dX12_init_368 (by decide) ?_
  refine g_newa (t0 := 0) (N := 401) (f := .inl (fun _ => 0)) rfl rfl (fun _ h => h) ac_int hv_int (by decide) (nI_clamp (n := 401) (by decide)) (by decide) (h_r1 (m := 40) z r1 (by decide)) (h_r2 (m := 118086) y r2 (by decide)) dX12_init_371 ?_
  refine g_eqv (.ref (n0 + 40)) (congrArg Value.ref z) ?_
  refine g_gen (fun τ e => ?_)
  have mi : mMI A τ n0 41 := mi.new e z
  have od := od.new e z
  have ha := h_nN e z (h_al hla) ha
  have z : τ.2.1 = n0 + 41 := h_z1 (k := 40) e z
  have y : τ.2.2 = s0 + 118487 := h_y1 (k := 118086) e y
  clear e
  refine g_put (ft := (.array .int)) fX12_572 ptX12 (Or.inr ⟨rfl, rfl, rfl⟩) ha (by decide +kernel) rfl rfl (by rw [mS_len]; decide) dX12_init_373 ?_
  refine g_gen (fun τ e => ?_)
  rw [mS_step 40 73 rfl (by decide) (by decide)] at e
  have z := h_z2 e z
  have y := h_y2 e y
  have ha := h_eS e
  have mi := mi.set e hla
  have od := od.set e
  clear e
  refine g_aload_n dX12_init_376 rfl (List.mem_of_getElem? (i := 0) rfl) ?_
  refine g_sipush (v := 401) dX12_init_377 (by decide) ?_
  refine g_newa (t0 := 0) (N := 401) (f := .inl (fun _ => 0)) rfl rfl (fun _ h => h) ac_int hv_int (by decide) (nI_clamp (n := 401) (by decide)) (by decide) (h_r1 (m := 41) z r1 (by decide)) (h_r2 (m := 118487) y r2 (by decide)) dX12_init_380 ?_
  refine g_eqv (.ref (n0 + 41)) (congrArg Value.ref z) ?_
  refine g_gen (fun τ e => ?_)
  have mi : mMI A τ n0 42 := mi.new e z
  have od := od.new e z
  have ha := h_nN e z (h_al hla) ha
  have z : τ.2.1 = n0 + 42 := h_z1 (k := 41) e z
  have y : τ.2.2 = s0 + 118888 := h_y1 (k := 118487) e y
  clear e
  refine g_put (ft := (.array .int)) fX12_575 ptX12 (Or.inr ⟨rfl, rfl, rfl⟩) ha (by decide +kernel) rfl rfl (by rw [mS_len]; decide) dX12_init_382 ?_
  refine g_gen (fun τ e => ?_)
  rw [mS_step 41 74 rfl (by decide) (by decide)] at e
  have z := h_z2 e z
  have y := h_y2 e y
  have ha := h_eS e
  have mi := mi.set e hla
  have od := od.set e
  clear e
  refine g_aload_n dX12_init_385 rfl (List.mem_of_getElem? (i := 0) rfl) ?_
  refine g_sipush (v := 401) dX12_init_386 (by decide) ?_
  refine g_newa (t0 := 0) (N := 401) (f := .inl (fun _ => 0)) rfl rfl (fun _ h => h) ac_int hv_int (by decide) (nI_clamp (n := 401) (by decide)) (by decide) (h_r1 (m := 42) z r1 (by decide)) (h_r2 (m := 118888) y r2 (by decide)) dX12_init_389 ?_
  refine g_eqv (.ref (n0 + 42)) (congrArg Value.ref z) ?_
  refine g_gen (fun τ e => ?_)
  have mi : mMI A τ n0 43 := mi.new e z
  have od := od.new e z
  have ha := h_nN e z (h_al hla) ha
  have z : τ.2.1 = n0 + 43 := h_z1 (k := 42) e z
  have y : τ.2.2 = s0 + 119289 := h_y1 (k := 118888) e y
  clear e
  refine g_put (ft := (.array .int)) fX12_578 ptX12 (Or.inr ⟨rfl, rfl, rfl⟩) ha (by decide +kernel) rfl rfl (by rw [mS_len]; decide) dX12_init_391 ?_
  refine g_gen (fun τ e => ?_)
  rw [mS_step 42 75 rfl (by decide) (by decide)] at e
  have z := h_z2 e z
  have y := h_y2 e y
  have ha := h_eS e
  have mi := mi.set e hla
  have od := od.set e
  clear e
  refine g_aload_n dX12_init_394 rfl (List.mem_of_getElem? (i := 0) rfl) ?_
  refine g_sipush (v := 401) dX12_init_395 (by decide) ?_
  refine g_newa (t0 := 0) (N := 401) (f := .inl (fun _ => 0)) rfl rfl (fun _ h => h) ac_int hv_int (by decide) (nI_clamp (n := 401) (by decide)) (by decide) (h_r1 (m := 43) z r1 (by decide)) (h_r2 (m := 119289) y r2 (by decide)) dX12_init_398 ?_
  refine g_eqv (.ref (n0 + 43)) (congrArg Value.ref z) ?_
  refine g_gen (fun τ e => ?_)
  have mi : mMI A τ n0 44 := mi.new e z
  have od := od.new e z
  have ha := h_nN e z (h_al hla) ha
  have z : τ.2.1 = n0 + 44 := h_z1 (k := 43) e z
  have y : τ.2.2 = s0 + 119690 := h_y1 (k := 119289) e y
  clear e
  refine g_put (ft := (.array .int)) fX12_581 ptX12 (Or.inr ⟨rfl, rfl, rfl⟩) ha (by decide +kernel) rfl rfl (by rw [mS_len]; decide) dX12_init_400 ?_
  refine g_gen (fun τ e => ?_)
  rw [mS_step 43 76 rfl (by decide) (by decide)] at e
  have z := h_z2 e z
  have y := h_y2 e y
  have ha := h_eS e
  have mi := mi.set e hla
  have od := od.set e
  clear e
  refine g_aload_n dX12_init_403 rfl (List.mem_of_getElem? (i := 0) rfl) ?_
  refine g_sipush (v := 10300) dX12_init_404 (by decide) ?_
  refine g_newa (t0 := 0) (N := 10300) (f := .inl (fun _ => 0)) rfl rfl (fun _ h => h) ac_int hv_int (by decide) (nI_clamp (n := 10300) (by decide)) (by decide) (h_r1 (m := 44) z r1 (by decide)) (h_r2 (m := 119690) y r2 (by decide)) dX12_init_407 ?_
  refine g_eqv (.ref (n0 + 44)) (congrArg Value.ref z) ?_
  refine g_gen (fun τ e => ?_)
  have mi : mMI A τ n0 45 := mi.new e z
  have od := od.new e z
  have ha := h_nN e z (h_al hla) ha
  have z : τ.2.1 = n0 + 45 := h_z1 (k := 44) e z
  have y : τ.2.2 = s0 + 129990 := h_y1 (k := 119690) e y
  clear e
  refine g_put (ft := (.array .int)) fX12_957 ptX12 (Or.inr ⟨rfl, rfl, rfl⟩) ha (by decide +kernel) rfl rfl (by rw [mS_len]; decide) dX12_init_409 ?_
  refine g_gen (fun τ e => ?_)
  rw [mS_step 44 77 rfl (by decide) (by decide)] at e
  have z := h_z2 e z
  have y := h_y2 e y
  have ha := h_eS e
  have mi := mi.set e hla
  have od := od.set e
  clear e
  refine g_aload_n dX12_init_412 rfl (List.mem_of_getElem? (i := 0) rfl) ?_
  refine g_bipush (v := 101) dX12_init_413 (by decide) ?_
  refine g_newa (t0 := 0) (N := 101) (f := .inl (fun _ => 0)) rfl rfl (fun _ h => h) ac_int hv_int (by decide) (nI_clamp (n := 101) (by decide)) (by decide) (h_r1 (m := 45) z r1 (by decide)) (h_r2 (m := 129990) y r2 (by decide)) dX12_init_415 ?_
  refine g_eqv (.ref (n0 + 45)) (congrArg Value.ref z) ?_
  refine g_gen (fun τ e => ?_)
  have mi : mMI A τ n0 46 := mi.new e z
  have od := od.new e z
  have ha := h_nN e z (h_al hla) ha
  have z : τ.2.1 = n0 + 46 := h_z1 (k := 45) e z
  have y : τ.2.2 = s0 + 130091 := h_y1 (k := 129990) e y
  clear e
  refine g_put (ft := (.array .int)) fX12_954 ptX12 (Or.inr ⟨rfl, rfl, rfl⟩) ha (by decide +kernel) rfl rfl (by rw [mS_len]; decide) dX12_init_417 ?_
  refine g_gen (fun τ e => ?_)
  rw [mS_step 45 78 rfl (by decide) (by decide)] at e
  have z := h_z2 e z
  have y := h_y2 e y
  have ha := h_eS e
  have mi := mi.set e hla
  have od := od.set e
  clear e
  refine g_aload_n dX12_init_420 rfl (List.mem_of_getElem? (i := 0) rfl) ?_
  refine g_iconst (v := 4) dX12_init_421 (by decide) ?_
  refine g_newa (t0 := 0) (N := 4) (f := .inl (fun _ => 0)) rfl rfl (fun _ h => h) ac_int hv_int (by decide) (nI_clamp (n := 4) (by decide)) (by decide) (h_r1 (m := 46) z r1 (by decide)) (h_r2 (m := 130091) y r2 (by decide)) dX12_init_422 ?_
  refine g_eqv (.ref (n0 + 46)) (congrArg Value.ref z) ?_
  refine g_gen (fun τ e => ?_)
  have mi : mMI A τ n0 47 := mi.new e z
  have od := od.new e z
  have ha := h_nN e z (h_al hla) ha
  have z : τ.2.1 = n0 + 47 := h_z1 (k := 46) e z
  have y : τ.2.2 = s0 + 130095 := h_y1 (k := 130091) e y
  clear e
  refine g_put (ft := (.array .int)) fX12_796 ptX12 (Or.inr ⟨rfl, rfl, rfl⟩) ha (by decide +kernel) rfl rfl (by rw [mS_len]; decide) dX12_init_424 ?_
  refine g_gen (fun τ e => ?_)
  rw [mS_step 46 79 rfl (by decide) (by decide)] at e
  have z := h_z2 e z
  have y := h_y2 e y
  have ha := h_eS e
  have mi := mi.set e hla
  have od := od.set e
  clear e
  refine g_aload_n dX12_init_427 rfl (List.mem_of_getElem? (i := 0) rfl) ?_
  refine g_sipush (v := 480) dX12_init_428 (by decide) ?_
  refine g_newa (t0 := 0) (N := 480) (f := .inl (fun _ => 0)) rfl rfl (fun _ h => h) ac_int hv_int (by decide) (nI_clamp (n := 480) (by decide)) (by decide) (h_r1 (m := 47) z r1 (by decide)) (h_r2 (m := 130095) y r2 (by decide)) dX12_init_431 ?_
  refine g_eqv (.ref (n0 + 47)) (congrArg Value.ref z) ?_
  refine g_gen (fun τ e => ?_)
  have mi : mMI A τ n0 48 := mi.new e z
  have od := od.new e z
  have ha := h_nN e z (h_al hla) ha
  have z : τ.2.1 = n0 + 48 := h_z1 (k := 47) e z
  have y : τ.2.2 = s0 + 130575 := h_y1 (k := 130095) e y
  clear e
  refine g_put (ft := (.array .int)) fX12_805 ptX12 (Or.inr ⟨rfl, rfl, rfl⟩) ha (by decide +kernel) rfl rfl (by rw [mS_len]; decide) dX12_init_433 ?_
  refine g_gen (fun τ e => ?_)
  rw [mS_step 47 80 rfl (by decide) (by decide)] at e
  have z := h_z2 e z
  have y := h_y2 e y
  have ha := h_eS e
  have mi := mi.set e hla
  have od := od.set e
  clear e
  refine g_aload_n dX12_init_436 rfl (List.mem_of_getElem? (i := 0) rfl) ?_
  refine g_bipush (v := 24) dX12_init_437 (by decide) ?_
  refine g_newa (t0 := 0) (N := 24) (f := .inl (fun _ => 0)) rfl rfl (fun _ h => h) ac_int hv_int (by decide) (nI_clamp (n := 24) (by decide)) (by decide) (h_r1 (m := 48) z r1 (by decide)) (h_r2 (m := 130575) y r2 (by decide)) dX12_init_439 ?_
  refine g_eqv (.ref (n0 + 48)) (congrArg Value.ref z) ?_
  refine g_gen (fun τ e => ?_)
  have mi : mMI A τ n0 49 := mi.new e z
  have od := od.new e z
  have ha := h_nN e z (h_al hla) ha
  have z : τ.2.1 = n0 + 49 := h_z1 (k := 48) e z
  have y : τ.2.2 = s0 + 130599 := h_y1 (k := 130575) e y
  clear e
  refine g_put (ft := (.array .int)) fX12_802 ptX12 (Or.inr ⟨rfl, rfl, rfl⟩) ha (by decide +kernel) rfl rfl (by rw [mS_len]; decide) dX12_init_441 ?_
  refine g_gen (fun τ e => ?_)
  rw [mS_step 48 81 rfl (by decide) (by decide)] at e
  have z := h_z2 e z
  have y := h_y2 e y
  have ha := h_eS e
  have mi := mi.set e hla
  have od := od.set e
  clear e
  refine g_aload_n dX12_init_444 rfl (List.mem_of_getElem? (i := 0) rfl) ?_
  refine g_iconst (v := 4) dX12_init_445 (by decide) ?_
  refine g_newa (t0 := 0) (N := 4) (f := .inl (fun _ => 0)) rfl rfl (fun _ h => h) ac_int hv_int (by decide) (nI_clamp (n := 4) (by decide)) (by decide) (h_r1 (m := 49) z r1 (by decide)) (h_r2 (m := 130599) y r2 (by decide)) dX12_init_446 ?_
  refine g_eqv (.ref (n0 + 49)) (congrArg Value.ref z) ?_
  refine g_gen (fun τ e => ?_)
  have mi : mMI A τ n0 50 := mi.new e z
  have od := od.new e z
  have ha := h_nN e z (h_al hla) ha
  have z : τ.2.1 = n0 + 50 := h_z1 (k := 49) e z
  have y : τ.2.2 = s0 + 130603 := h_y1 (k := 130599) e y
  clear e
  refine g_put (ft := (.array .int)) fX12_857 ptX12 (Or.inr ⟨rfl, rfl, rfl⟩) ha (by decide +kernel) rfl rfl (by rw [mS_len]; decide) dX12_init_448 ?_
  refine g_gen (fun τ e => ?_)
  rw [mS_step 49 82 rfl (by decide) (by decide)] at e
  have z := h_z2 e z
  have y := h_y2 e y
  have ha := h_eS e
  have mi := mi.set e hla
  have od := od.set e
  clear e
  refine g_aload_n dX12_init_451 rfl (List.mem_of_getElem? (i := 0) rfl) ?_
  refine g_sipush (v := 160) dX12_init_452 (by decide) ?_
  refine g_newa (t0 := 0) (N := 160) (f := .inl (fun _ => 0)) rfl rfl (fun _ h => h) ac_int hv_int (by decide) (nI_clamp (n := 160) (by decide)) (by decide) (h_r1 (m := 50) z r1 (by decide)) (h_r2 (m := 130603) y r2 (by decide)) dX12_init_455 ?_
  refine g_eqv (.ref (n0 + 50)) (congrArg Value.ref z) ?_
  refine g_gen (fun τ e => ?_)
  have mi : mMI A τ n0 51 := mi.new e z
  have od := od.new e z
  have ha := h_nN e z (h_al hla) ha
  have z : τ.2.1 = n0 + 51 := h_z1 (k := 50) e z
  have y : τ.2.2 = s0 + 130763 := h_y1 (k := 130603) e y
  clear e
  refine g_put (ft := (.array .int)) fX12_866 ptX12 (Or.inr ⟨rfl, rfl, rfl⟩) ha (by decide +kernel) rfl rfl (by rw [mS_len]; decide) dX12_init_457 ?_
  refine g_gen (fun τ e => ?_)
  rw [mS_step 50 83 rfl (by decide) (by decide)] at e
  have z := h_z2 e z
  have y := h_y2 e y
  have ha := h_eS e
  have mi := mi.set e hla
  have od := od.set e
  clear e
  refine g_aload_n dX12_init_460 rfl (List.mem_of_getElem? (i := 0) rfl) ?_
  refine g_sipush (v := 16400) dX12_init_461 (by decide) ?_
  refine g_newa (t0 := 0) (N := 16400) (f := .inl (fun _ => 0)) rfl rfl (fun _ h => h) ac_int hv_int (by decide) (nI_clamp (n := 16400) (by decide)) (by decide) (h_r1 (m := 51) z r1 (by decide)) (h_r2 (m := 130763) y r2 (by decide)) dX12_init_464 ?_
  refine g_eqv (.ref (n0 + 51)) (congrArg Value.ref z) ?_
  refine g_gen (fun τ e => ?_)
  have mi : mMI A τ n0 52 := mi.new e z
  have od := od.new e z
  have ha := h_nN e z (h_al hla) ha
  have z : τ.2.1 = n0 + 52 := h_z1 (k := 51) e z
  have y : τ.2.2 = s0 + 147163 := h_y1 (k := 130763) e y
  clear e
  refine g_put (ft := (.array .int)) fX12_851 ptX12 (Or.inr ⟨rfl, rfl, rfl⟩) ha (by decide +kernel) rfl rfl (by rw [mS_len]; decide) dX12_init_466 ?_
  refine g_gen (fun τ e => ?_)
  rw [mS_step 51 84 rfl (by decide) (by decide)] at e
  have z := h_z2 e z
  have y := h_y2 e y
  have ha := h_eS e
  have mi := mi.set e hla
  have od := od.set e
  clear e
  refine g_aload_n dX12_init_469 rfl (List.mem_of_getElem? (i := 0) rfl) ?_
  refine g_sipush (v := 160) dX12_init_470 (by decide) ?_
  refine g_newa (t0 := 0) (N := 160) (f := .inl (fun _ => 0)) rfl rfl (fun _ h => h) ac_int hv_int (by decide) (nI_clamp (n := 160) (by decide)) (by decide) (h_r1 (m := 52) z r1 (by decide)) (h_r2 (m := 147163) y r2 (by decide)) dX12_init_473 ?_
  refine g_eqv (.ref (n0 + 52)) (congrArg Value.ref z) ?_
  refine g_gen (fun τ e => ?_)
  have mi : mMI A τ n0 53 := mi.new e z
  have od := od.new e z
  have ha := h_nN e z (h_al hla) ha
  have z : τ.2.1 = n0 + 53 := h_z1 (k := 52) e z
  have y : τ.2.2 = s0 + 147323 := h_y1 (k := 147163) e y
  clear e
  refine g_put (ft := (.array .int)) fX12_845 ptX12 (Or.inr ⟨rfl, rfl, rfl⟩) ha (by decide +kernel) rfl rfl (by rw [mS_len]; decide) dX12_init_475 ?_
  refine g_gen (fun τ e => ?_)
  rw [mS_step 52 85 rfl (by decide) (by decide)] at e
  have z := h_z2 e z
  have y := h_y2 e y
  have ha := h_eS e
  have mi := mi.set e hla
  have od := od.set e
  clear e
  refine g_aload_n dX12_init_478 rfl (List.mem_of_getElem? (i := 0) rfl) ?_
  refine g_sipush (v := 10100) dX12_init_479 (by decide) ?_
  refine g_newa (t0 := 3) (N := 10100) (f := .inr (.inl (fun _ => 0))) rfl rfl (fun _ h => h) ac_long hv_long (by decide) (nI_clamp (n := 10100) (by decide)) (by decide) (h_r1 (m := 53) z r1 (by decide)) (h_r2 (m := 147323) y r2 (by decide)) dX12_init_482 ?_
  refine g_eqv (.ref (n0 + 53)) (congrArg Value.ref z) ?_
  refine g_gen (fun τ e => ?_)
  have mi : mMI A τ n0 54 := mi.new e z
  have od := od.new e z
  have ha := h_nN e z (h_al hla) ha
  have z : τ.2.1 = n0 + 54 := h_z1 (k := 53) e z
  have y : τ.2.2 = s0 + 157423 := h_y1 (k := 147323) e y
  clear e
  refine g_put (ft := (.array .long)) fX12_584 ptX12 (Or.inr ⟨rfl, rfl, rfl⟩) ha (by decide +kernel) rfl rfl (by rw [mS_len]; decide) dX12_init_484 ?_
  refine g_gen (fun τ e => ?_)
  rw [mS_step 53 86 rfl (by decide) (by decide)] at e
  have z := h_z2 e z
  have y := h_y2 e y
  have ha := h_eS e
  have mi := mi.set e hla
  have od := od.set e
  clear e
  refine g_aload_n dX12_init_487 rfl (List.mem_of_getElem? (i := 0) rfl) ?_
  refine g_sipush (v := 10100) dX12_init_488 (by decide) ?_
  refine g_newa (t0 := 3) (N := 10100) (f := .inr (.inl (fun _ => 0))) rfl rfl (fun _ h => h) ac_long hv_long (by decide) (nI_clamp (n := 10100) (by decide)) (by decide) (h_r1 (m := 54) z r1 (by decide)) (h_r2 (m := 157423) y r2 (by decide)) dX12_init_491 ?_
  refine g_eqv (.ref (n0 + 54)) (congrArg Value.ref z) ?_
  refine g_gen (fun τ e => ?_)
  have mi : mMI A τ n0 55 := mi.new e z
  have od := od.new e z
  have ha := h_nN e z (h_al hla) ha
  have z : τ.2.1 = n0 + 55 := h_z1 (k := 54) e z
  have y : τ.2.2 = s0 + 167523 := h_y1 (k := 157423) e y
  clear e
  refine g_put (ft := (.array .long)) fX12_587 ptX12 (Or.inr ⟨rfl, rfl, rfl⟩) ha (by decide +kernel) rfl rfl (by rw [mS_len]; decide) dX12_init_493 ?_
  refine g_gen (fun τ e => ?_)
  rw [mS_step 54 87 rfl (by decide) (by decide)] at e
  have z := h_z2 e z
  have y := h_y2 e y
  have ha := h_eS e
  have mi := mi.set e hla
  have od := od.set e
  clear e
  refine g_aload_n dX12_init_496 rfl (List.mem_of_getElem? (i := 0) rfl) ?_
  refine g_sipush (v := 160) dX12_init_497 (by decide) ?_
  refine g_newa (t0 := 0) (N := 160) (f := .inl (fun _ => 0)) rfl rfl (fun _ h => h) ac_int hv_int (by decide) (nI_clamp (n := 160) (by decide)) (by decide) (h_r1 (m := 55) z r1 (by decide)) (h_r2 (m := 167523) y r2 (by decide)) dX12_init_500 ?_
  refine g_eqv (.ref (n0 + 55)) (congrArg Value.ref z) ?_
  refine g_gen (fun τ e => ?_)
  have mi : mMI A τ n0 56 := mi.new e z
  have od := od.new e z
  have ha := h_nN e z (h_al hla) ha
  have z : τ.2.1 = n0 + 56 := h_z1 (k := 55) e z
  have y : τ.2.2 = s0 + 167683 := h_y1 (k := 167523) e y
  clear e
  refine g_put (ft := (.array .int)) fX12_848 ptX12 (Or.inr ⟨rfl, rfl, rfl⟩) ha (by decide +kernel) rfl rfl (by rw [mS_len]; decide) dX12_init_502 ?_
  refine g_gen (fun τ e => ?_)
  rw [mS_step 55 88 rfl (by decide) (by decide)] at e
  have z := h_z2 e z
  have y := h_y2 e y
  have ha := h_eS e
  have mi := mi.set e hla
  have od := od.set e
  clear e
  refine g_aload_n dX12_init_505 rfl (List.mem_of_getElem? (i := 0) rfl) ?_
  refine g_bipush (v := 101) dX12_init_506 (by decide) ?_
  refine g_newa (t0 := 0) (N := 101) (f := .inl (fun _ => 0)) rfl rfl (fun _ h => h) ac_int hv_int (by decide) (nI_clamp (n := 101) (by decide)) (by decide) (h_r1 (m := 56) z r1 (by decide)) (h_r2 (m := 167683) y r2 (by decide)) dX12_init_508 ?_
  refine g_eqv (.ref (n0 + 56)) (congrArg Value.ref z) ?_
  refine g_gen (fun τ e => ?_)
  have mi : mMI A τ n0 57 := mi.new e z
  have od := od.new e z
  have ha := h_nN e z (h_al hla) ha
  have z : τ.2.1 = n0 + 57 := h_z1 (k := 56) e z
  have y : τ.2.2 = s0 + 167784 := h_y1 (k := 167683) e y
  clear e
  refine g_put (ft := (.array .int)) fX12_687 ptX12 (Or.inr ⟨rfl, rfl, rfl⟩) ha (by decide +kernel) rfl rfl (by rw [mS_len]; decide) dX12_init_510 ?_
  refine g_gen (fun τ e => ?_)
  rw [mS_step 56 90 rfl (by decide) (by decide)] at e
  have z := h_z2 e z
  have y := h_y2 e y
  have ha := h_eS e
  have mi := mi.set e hla
  have od := od.set e
  clear e
  refine g_aload_n dX12_init_513 rfl (List.mem_of_getElem? (i := 0) rfl) ?_
  refine g_bipush (v := 101) dX12_init_514 (by decide) ?_
  refine g_newa (t0 := 0) (N := 101) (f := .inl (fun _ => 0)) rfl rfl (fun _ h => h) ac_int hv_int (by decide) (nI_clamp (n := 101) (by decide)) (by decide) (h_r1 (m := 57) z r1 (by decide)) (h_r2 (m := 167784) y r2 (by decide)) dX12_init_516 ?_
  refine g_eqv (.ref (n0 + 57)) (congrArg Value.ref z) ?_
  refine g_gen (fun τ e => ?_)
  have mi : mMI A τ n0 58 := mi.new e z
  have od := od.new e z
  have ha := h_nN e z (h_al hla) ha
  have z : τ.2.1 = n0 + 58 := h_z1 (k := 57) e z
  have y : τ.2.2 = s0 + 167885 := h_y1 (k := 167784) e y
  clear e
  refine g_put (ft := (.array .int)) fX12_681 ptX12 (Or.inr ⟨rfl, rfl, rfl⟩) ha (by decide +kernel) rfl rfl (by rw [mS_len]; decide) dX12_init_518 ?_
  refine g_gen (fun τ e => ?_)
  rw [mS_step 57 92 rfl (by decide) (by decide)] at e
  have z := h_z2 e z
  have y := h_y2 e y
  have ha := h_eS e
  have mi := mi.set e hla
  have od := od.set e
  clear e
  refine g_aload_n dX12_init_521 rfl (List.mem_of_getElem? (i := 0) rfl) ?_
  refine g_bipush (v := 102) dX12_init_522 (by decide) ?_
  refine g_newa (t0 := 0) (N := 102) (f := .inl (fun _ => 0)) rfl rfl (fun _ h => h) ac_int hv_int (by decide) (nI_clamp (n := 102) (by decide)) (by decide) (h_r1 (m := 58) z r1 (by decide)) (h_r2 (m := 167885) y r2 (by decide)) dX12_init_524 ?_
  refine g_eqv (.ref (n0 + 58)) (congrArg Value.ref z) ?_
  refine g_gen (fun τ e => ?_)
  have mi : mMI A τ n0 59 := mi.new e z
  have od := od.new e z
  have ha := h_nN e z (h_al hla) ha
  have z : τ.2.1 = n0 + 59 := h_z1 (k := 58) e z
  have y : τ.2.2 = s0 + 167987 := h_y1 (k := 167885) e y
  clear e
  refine g_put (ft := (.array .int)) fX12_778 ptX12 (Or.inr ⟨rfl, rfl, rfl⟩) ha (by decide +kernel) rfl rfl (by rw [mS_len]; decide) dX12_init_526 ?_
  refine g_gen (fun τ e => ?_)
  rw [mS_step 58 98 rfl (by decide) (by decide)] at e
  have z := h_z2 e z
  have y := h_y2 e y
  have ha := h_eS e
  have mi := mi.set e hla
  have od := od.set e
  clear e
  refine g_aload_n dX12_init_529 rfl (List.mem_of_getElem? (i := 0) rfl) ?_
  refine g_bipush (v := 102) dX12_init_530 (by decide) ?_
  refine g_newa (t0 := 0) (N := 102) (f := .inl (fun _ => 0)) rfl rfl (fun _ h => h) ac_int hv_int (by decide) (nI_clamp (n := 102) (by decide)) (by decide) (h_r1 (m := 59) z r1 (by decide)) (h_r2 (m := 167987) y r2 (by decide)) dX12_init_532 ?_
  refine g_eqv (.ref (n0 + 59)) (congrArg Value.ref z) ?_
  refine g_gen (fun τ e => ?_)
  have mi : mMI A τ n0 60 := mi.new e z
  have od := od.new e z
  have ha := h_nN e z (h_al hla) ha
  have z : τ.2.1 = n0 + 60 := h_z1 (k := 59) e z
  have y : τ.2.2 = s0 + 168089 := h_y1 (k := 167987) e y
  clear e
  refine g_put (ft := (.array .int)) fX12_784 ptX12 (Or.inr ⟨rfl, rfl, rfl⟩) ha (by decide +kernel) rfl rfl (by rw [mS_len]; decide) dX12_init_534 ?_
  refine g_gen (fun τ e => ?_)
  rw [mS_step 59 99 rfl (by decide) (by decide)] at e
  have z := h_z2 e z
  have y := h_y2 e y
  have ha := h_eS e
  have mi := mi.set e hla
  have od := od.set e
  clear e
  refine g_aload_n dX12_init_537 rfl (List.mem_of_getElem? (i := 0) rfl) ?_
  refine g_bipush (v := 102) dX12_init_538 (by decide) ?_
  refine g_newa (t0 := 0) (N := 102) (f := .inl (fun _ => 0)) rfl rfl (fun _ h => h) ac_int hv_int (by decide) (nI_clamp (n := 102) (by decide)) (by decide) (h_r1 (m := 60) z r1 (by decide)) (h_r2 (m := 168089) y r2 (by decide)) dX12_init_540 ?_
  refine g_eqv (.ref (n0 + 60)) (congrArg Value.ref z) ?_
  refine g_gen (fun τ e => ?_)
  have mi : mMI A τ n0 61 := mi.new e z
  have od := od.new e z
  have ha := h_nN e z (h_al hla) ha
  have z : τ.2.1 = n0 + 61 := h_z1 (k := 60) e z
  have y : τ.2.2 = s0 + 168191 := h_y1 (k := 168089) e y
  clear e
  refine g_put (ft := (.array .int)) fX12_790 ptX12 (Or.inr ⟨rfl, rfl, rfl⟩) ha (by decide +kernel) rfl rfl (by rw [mS_len]; decide) dX12_init_542 ?_
  refine g_gen (fun τ e => ?_)
  rw [mS_step 60 101 rfl (by decide) (by decide)] at e
  have z := h_z2 e z
  have y := h_y2 e y
  have ha := h_eS e
  have mi := mi.set e hla
  have od := od.set e
  clear e
  refine g_aload_n dX12_init_545 rfl (List.mem_of_getElem? (i := 0) rfl) ?_
  refine g_sipush (v := 1010) dX12_init_546 (by decide) ?_
  refine g_newa (t0 := 2) (N := 1010) (f := .inl (fun _ => 0)) rfl rfl (fun _ h => h) ac_boolean hv_boolean (by decide) (nI_clamp (n := 1010) (by decide)) (by decide) (h_r1 (m := 61) z r1 (by decide)) (h_r2 (m := 168191) y r2 (by decide)) dX12_init_549 ?_
  refine g_eqv (.ref (n0 + 61)) (congrArg Value.ref z) ?_
  refine g_gen (fun τ e => ?_)
  have mi : mMI A τ n0 62 := mi.new e z
  have od := od.new e z
  have ha := h_nN e z (h_al hla) ha
  have z : τ.2.1 = n0 + 62 := h_z1 (k := 61) e z
  have y : τ.2.2 = s0 + 169201 := h_y1 (k := 168191) e y
  clear e
  refine g_put (ft := (.array .boolean)) fX12_614 ptX12 (Or.inr ⟨rfl, rfl, rfl⟩) ha (by decide +kernel) rfl rfl (by rw [mS_len]; decide) dX12_init_551 ?_
  refine g_gen (fun τ e => ?_)
  rw [mS_step 61 107 rfl (by decide) (by decide)] at e
  have z := h_z2 e z
  have y := h_y2 e y
  have ha := h_eS e
  have mi := mi.set e hla
  have od := od.set e
  clear e
  refine g_aload_n dX12_init_554 rfl (List.mem_of_getElem? (i := 0) rfl) ?_
  refine g_sipush (v := 1010) dX12_init_555 (by decide) ?_
  refine g_newa (t0 := 2) (N := 1010) (f := .inl (fun _ => 0)) rfl rfl (fun _ h => h) ac_boolean hv_boolean (by decide) (nI_clamp (n := 1010) (by decide)) (by decide) (h_r1 (m := 62) z r1 (by decide)) (h_r2 (m := 169201) y r2 (by decide)) dX12_init_558 ?_
  refine g_eqv (.ref (n0 + 62)) (congrArg Value.ref z) ?_
  refine g_gen (fun τ e => ?_)
  have mi : mMI A τ n0 63 := mi.new e z
  have od := od.new e z
  have ha := h_nN e z (h_al hla) ha
  have z : τ.2.1 = n0 + 63 := h_z1 (k := 62) e z
  have y : τ.2.2 = s0 + 170211 := h_y1 (k := 169201) e y
  clear e
  refine g_put (ft := (.array .boolean)) fX12_621 ptX12 (Or.inr ⟨rfl, rfl, rfl⟩) ha (by decide +kernel) rfl rfl (by rw [mS_len]; decide) dX12_init_560 ?_
  refine g_gen (fun τ e => ?_)
  rw [mS_step 62 108 rfl (by decide) (by decide)] at e
  have z := h_z2 e z
  have y := h_y2 e y
  have ha := h_eS e
  have mi := mi.set e hla
  have od := od.set e
  clear e
  refine g_aload_n dX12_init_563 rfl (List.mem_of_getElem? (i := 0) rfl) ?_
  refine g_sipush (v := 6000) dX12_init_564 (by decide) ?_
  refine g_newa (t0 := 0) (N := 6000) (f := .inl (fun _ => 0)) rfl rfl (fun _ h => h) ac_int hv_int (by decide) (nI_clamp (n := 6000) (by decide)) (by decide) (h_r1 (m := 63) z r1 (by decide)) (h_r2 (m := 170211) y r2 (by decide)) dX12_init_567 ?_
  refine g_eqv (.ref (n0 + 63)) (congrArg Value.ref z) ?_
  refine g_gen (fun τ e => ?_)
  have mi : mMI A τ n0 64 := mi.new e z
  have od := od.new e z
  have ha := h_nN e z (h_al hla) ha
  have z : τ.2.1 = n0 + 64 := h_z1 (k := 63) e z
  have y : τ.2.2 = s0 + 176211 := h_y1 (k := 170211) e y
  clear e
  refine g_put (ft := (.array .int)) fX12_897 ptX12 (Or.inr ⟨rfl, rfl, rfl⟩) ha (by decide +kernel) rfl rfl (by rw [mS_len]; decide) dX12_init_569 ?_
  refine g_gen (fun τ e => ?_)
  rw [mS_step 63 111 rfl (by decide) (by decide)] at e
  have z := h_z2 e z
  have y := h_y2 e y
  have ha := h_eS e
  have mi := mi.set e hla
  have od := od.set e
  clear e
  refine g_aload_n dX12_init_572 rfl (List.mem_of_getElem? (i := 0) rfl) ?_
  refine g_iconst (v := 4) dX12_init_573 (by decide) ?_
  refine g_newa (t0 := 0) (N := 4) (f := .inl (fun _ => 0)) rfl rfl (fun _ h => h) ac_int hv_int (by decide) (nI_clamp (n := 4) (by decide)) (by decide) (h_r1 (m := 64) z r1 (by decide)) (h_r2 (m := 176211) y r2 (by decide)) dX12_init_574 ?_
  refine g_eqv (.ref (n0 + 64)) (congrArg Value.ref z) ?_
  refine g_gen (fun τ e => ?_)
  have mi : mMI A τ n0 65 := mi.new e z
  have od := od.new e z
  have ha := h_nN e z (h_al hla) ha
  have z : τ.2.1 = n0 + 65 := h_z1 (k := 64) e z
  have y : τ.2.2 = s0 + 176215 := h_y1 (k := 176211) e y
  clear e
  refine g_put (ft := (.array .int)) fX12_963 ptX12 (Or.inr ⟨rfl, rfl, rfl⟩) ha (by decide +kernel) rfl rfl (by rw [mS_len]; decide) dX12_init_576 ?_
  refine g_gen (fun τ e => ?_)
  rw [mS_step 64 118 rfl (by decide) (by decide)] at e
  have z := h_z2 e z
  have y := h_y2 e y
  have ha := h_eS e
  have mi := mi.set e hla
  have od := od.set e
  clear e
  refine g_aload_n dX12_init_579 rfl (List.mem_of_getElem? (i := 0) rfl) ?_
  refine g_sipush (v := 404) dX12_init_580 (by decide) ?_
  refine g_newa (t0 := 0) (N := 404) (f := .inl (fun _ => 0)) rfl rfl (fun _ h => h) ac_int hv_int (by decide) (nI_clamp (n := 404) (by decide)) (by decide) (h_r1 (m := 65) z r1 (by decide)) (h_r2 (m := 176215) y r2 (by decide)) dX12_init_583 ?_
  refine g_eqv (.ref (n0 + 65)) (congrArg Value.ref z) ?_
  refine g_gen (fun τ e => ?_)
  have mi : mMI A τ n0 66 := mi.new e z
  have od := od.new e z
  have ha := h_nN e z (h_al hla) ha
  have z : τ.2.1 = n0 + 66 := h_z1 (k := 65) e z
  have y : τ.2.2 = s0 + 176619 := h_y1 (k := 176215) e y
  clear e
  refine g_put (ft := (.array .int)) fX12_969 ptX12 (Or.inr ⟨rfl, rfl, rfl⟩) ha (by decide +kernel) rfl rfl (by rw [mS_len]; decide) dX12_init_585 ?_
  refine g_gen (fun τ e => ?_)
  rw [mS_step 65 119 rfl (by decide) (by decide)] at e
  have z := h_z2 e z
  have y := h_y2 e y
  have ha := h_eS e
  have mi := mi.set e hla
  have od := od.set e
  clear e
  refine g_aload_n dX12_init_588 rfl (List.mem_of_getElem? (i := 0) rfl) ?_
  refine g_iconst (v := 4) dX12_init_589 (by decide) ?_
  refine g_newa (t0 := 0) (N := 4) (f := .inl (fun _ => 0)) rfl rfl (fun _ h => h) ac_int hv_int (by decide) (nI_clamp (n := 4) (by decide)) (by decide) (h_r1 (m := 66) z r1 (by decide)) (h_r2 (m := 176619) y r2 (by decide)) dX12_init_590 ?_
  refine g_eqv (.ref (n0 + 66)) (congrArg Value.ref z) ?_
  refine g_gen (fun τ e => ?_)
  have mi : mMI A τ n0 67 := mi.new e z
  have od := od.new e z
  have ha := h_nN e z (h_al hla) ha
  have z : τ.2.1 = n0 + 67 := h_z1 (k := 66) e z
  have y : τ.2.2 = s0 + 176623 := h_y1 (k := 176619) e y
  clear e
  refine g_put (ft := (.array .int)) fX12_966 ptX12 (Or.inr ⟨rfl, rfl, rfl⟩) ha (by decide +kernel) rfl rfl (by rw [mS_len]; decide) dX12_init_592 ?_
  refine g_gen (fun τ e => ?_)
  rw [mS_step 66 120 rfl (by decide) (by decide)] at e
  have z := h_z2 e z
  have y := h_y2 e y
  have ha := h_eS e
  have mi := mi.set e hla
  have od := od.set e
  clear e
  refine g_aload_n dX12_init_595 rfl (List.mem_of_getElem? (i := 0) rfl) ?_
  refine g_sipush (v := 510) dX12_init_596 (by decide) ?_
  refine g_newa (t0 := 0) (N := 510) (f := .inl (fun _ => 0)) rfl rfl (fun _ h => h) ac_int hv_int (by decide) (nI_clamp (n := 510) (by decide)) (by decide) (h_r1 (m := 67) z r1 (by decide)) (h_r2 (m := 176623) y r2 (by decide)) dX12_init_599 ?_
  refine g_eqv (.ref (n0 + 67)) (congrArg Value.ref z) ?_
  refine g_gen (fun τ e => ?_)
  have mi : mMI A τ n0 68 := mi.new e z
  have od := od.new e z
  have ha := h_nN e z (h_al hla) ha
  have z : τ.2.1 = n0 + 68 := h_z1 (k := 67) e z
  have y : τ.2.2 = s0 + 177133 := h_y1 (k := 176623) e y
  clear e
  refine g_put (ft := (.array .int)) fX12_1035 ptX12 (Or.inr ⟨rfl, rfl, rfl⟩) ha (by decide +kernel) rfl rfl (by rw [mS_len]; decide) dX12_init_601 ?_
  refine g_gen (fun τ e => ?_)
  rw [mS_step 67 121 rfl (by decide) (by decide)] at e
  have z := h_z2 e z
  have y := h_y2 e y
  have ha := h_eS e
  have mi := mi.set e hla
  have od := od.set e
  clear e
  refine g_aload_n dX12_init_604 rfl (List.mem_of_getElem? (i := 0) rfl) ?_
  refine g_bipush (v := 101) dX12_init_605 (by decide) ?_
  refine g_newa (t0 := 0) (N := 101) (f := .inl (fun _ => 0)) rfl rfl (fun _ h => h) ac_int hv_int (by decide) (nI_clamp (n := 101) (by decide)) (by decide) (h_r1 (m := 68) z r1 (by decide)) (h_r2 (m := 177133) y r2 (by decide)) dX12_init_607 ?_
  refine g_eqv (.ref (n0 + 68)) (congrArg Value.ref z) ?_
  refine g_gen (fun τ e => ?_)
  have mi : mMI A τ n0 69 := mi.new e z
  have od := od.new e z
  have ha := h_nN e z (h_al hla) ha
  have z : τ.2.1 = n0 + 69 := h_z1 (k := 68) e z
  have y : τ.2.2 = s0 + 177234 := h_y1 (k := 177133) e y
  clear e
  refine g_put (ft := (.array .int)) fX12_1150 ptX12 (Or.inr ⟨rfl, rfl, rfl⟩) ha (by decide +kernel) rfl rfl (by rw [mS_len]; decide) dX12_init_609 ?_
  refine g_gen (fun τ e => ?_)
  rw [mS_step 68 129 rfl (by decide) (by decide)] at e
  have z := h_z2 e z
  have y := h_y2 e y
  have ha := h_eS e
  have mi := mi.set e hla
  have od := od.set e
  clear e
  refine g_aload_n dX12_init_612 rfl (List.mem_of_getElem? (i := 0) rfl) ?_
  refine g_iconst (v := 4) dX12_init_613 (by decide) ?_
  refine g_newa (t0 := 0) (N := 4) (f := .inl (fun _ => 0)) rfl rfl (fun _ h => h) ac_int hv_int (by decide) (nI_clamp (n := 4) (by decide)) (by decide) (h_r1 (m := 69) z r1 (by decide)) (h_r2 (m := 177234) y r2 (by decide)) dX12_init_614 ?_
  refine g_eqv (.ref (n0 + 69)) (congrArg Value.ref z) ?_
  refine g_gen (fun τ e => ?_)
  have mi : mMI A τ n0 70 := mi.new e z
  have od := od.new e z
  have ha := h_nN e z (h_al hla) ha
  have z : τ.2.1 = n0 + 70 := h_z1 (k := 69) e z
  have y : τ.2.2 = s0 + 177238 := h_y1 (k := 177234) e y
  clear e
  refine g_put (ft := (.array .int)) fX12_1180 ptX12 (Or.inr ⟨rfl, rfl, rfl⟩) ha (by decide +kernel) rfl rfl (by rw [mS_len]; decide) dX12_init_616 ?_
  refine g_gen (fun τ e => ?_)
  rw [mS_step 69 131 rfl (by decide) (by decide)] at e
  have z := h_z2 e z
  have y := h_y2 e y
  have ha := h_eS e
  have mi := mi.set e hla
  have od := od.set e
  clear e
  refine g_aload_n dX12_init_619 rfl (List.mem_of_getElem? (i := 0) rfl) ?_
  refine g_iconst (v := 4) dX12_init_620 (by decide) ?_
  refine g_newa (t0 := 0) (N := 4) (f := .inl (fun _ => 0)) rfl rfl (fun _ h => h) ac_int hv_int (by decide) (nI_clamp (n := 4) (by decide)) (by decide) (h_r1 (m := 70) z r1 (by decide)) (h_r2 (m := 177238) y r2 (by decide)) dX12_init_621 ?_
  refine g_eqv (.ref (n0 + 70)) (congrArg Value.ref z) ?_
  refine g_gen (fun τ e => ?_)
  have mi : mMI A τ n0 71 := mi.new e z
  have od := od.new e z
  have ha := h_nN e z (h_al hla) ha
  have z : τ.2.1 = n0 + 71 := h_z1 (k := 70) e z
  have y : τ.2.2 = s0 + 177242 := h_y1 (k := 177238) e y
  clear e
  refine g_put (ft := (.array .int)) fX12_926 ptX12 (Or.inr ⟨rfl, rfl, rfl⟩) ha (by decide +kernel) rfl rfl (by rw [mS_len]; decide) dX12_init_623 ?_
  refine g_gen (fun τ e => ?_)
  rw [mS_step 70 132 rfl (by decide) (by decide)] at e
  have z := h_z2 e z
  have y := h_y2 e y
  have ha := h_eS e
  have mi := mi.set e hla
  have od := od.set e
  clear e
  refine g_aload_n dX12_init_626 rfl (List.mem_of_getElem? (i := 0) rfl) ?_
  refine g_bipush (v := 16) dX12_init_627 (by decide) ?_
  refine g_newa (t0 := 0) (N := 16) (f := .inl (fun _ => 0)) rfl rfl (fun _ h => h) ac_int hv_int (by decide) (nI_clamp (n := 16) (by decide)) (by decide) (h_r1 (m := 71) z r1 (by decide)) (h_r2 (m := 177242) y r2 (by decide)) dX12_init_629 ?_
  refine g_eqv (.ref (n0 + 71)) (congrArg Value.ref z) ?_
  refine g_gen (fun τ e => ?_)
  have mi : mMI A τ n0 72 := mi.new e z
  have od := od.new e z
  have ha := h_nN e z (h_al hla) ha
  have z : τ.2.1 = n0 + 72 := h_z1 (k := 71) e z
  have y : τ.2.2 = s0 + 177258 := h_y1 (k := 177242) e y
  clear e
  refine g_put (ft := (.array .int)) fX12_1183 ptX12 (Or.inr ⟨rfl, rfl, rfl⟩) ha (by decide +kernel) rfl rfl (by rw [mS_len]; decide) dX12_init_631 ?_
  refine g_gen (fun τ e => ?_)
  rw [mS_step 71 133 rfl (by decide) (by decide)] at e
  have z := h_z2 e z
  have y := h_y2 e y
  have ha := h_eS e
  have mi := mi.set e hla
  have od := od.set e
  clear e
  refine g_aload_n dX12_init_634 rfl (List.mem_of_getElem? (i := 0) rfl) ?_
  refine g_sipush (v := 320) dX12_init_635 (by decide) ?_
  refine g_newa (t0 := 0) (N := 320) (f := .inl (fun _ => 0)) rfl rfl (fun _ h => h) ac_int hv_int (by decide) (nI_clamp (n := 320) (by decide)) (by decide) (h_r1 (m := 72) z r1 (by decide)) (h_r2 (m := 177258) y r2 (by decide)) dX12_init_638 ?_
  refine g_eqv (.ref (n0 + 72)) (congrArg Value.ref z) ?_
  refine g_gen (fun τ e => ?_)
  have mi : mMI A τ n0 73 := mi.new e z
  have od := od.new e z
  have ha := h_nN e z (h_al hla) ha
  have z : τ.2.1 = n0 + 73 := h_z1 (k := 72) e z
  have y : τ.2.2 = s0 + 177578 := h_y1 (k := 177258) e y
  clear e
  refine g_put (ft := (.array .int)) fX12_1192 ptX12 (Or.inr ⟨rfl, rfl, rfl⟩) ha (by decide +kernel) rfl rfl (by rw [mS_len]; decide) dX12_init_640 ?_
  refine g_gen (fun τ e => ?_)
  rw [mS_step 72 134 rfl (by decide) (by decide)] at e
  have z := h_z2 e z
  have y := h_y2 e y
  have ha := h_eS e
  have mi := mi.set e hla
  have od := od.set e
  clear e
  refine g_aload_n dX12_init_643 rfl (List.mem_of_getElem? (i := 0) rfl) ?_
  refine g_bipush (v := 16) dX12_init_644 (by decide) ?_
  refine g_newa (t0 := 0) (N := 16) (f := .inl (fun _ => 0)) rfl rfl (fun _ h => h) ac_int hv_int (by decide) (nI_clamp (n := 16) (by decide)) (by decide) (h_r1 (m := 73) z r1 (by decide)) (h_r2 (m := 177578) y r2 (by decide)) dX12_init_646 ?_
  refine g_eqv (.ref (n0 + 73)) (congrArg Value.ref z) ?_
  refine g_gen (fun τ e => ?_)
  have mi : mMI A τ n0 74 := mi.new e z
  have od := od.new e z
  have ha := h_nN e z (h_al hla) ha
  have z : τ.2.1 = n0 + 74 := h_z1 (k := 73) e z
  have y : τ.2.2 = s0 + 177594 := h_y1 (k := 177578) e y
  clear e
  refine g_put (ft := (.array .int)) fX12_1186 ptX12 (Or.inr ⟨rfl, rfl, rfl⟩) ha (by decide +kernel) rfl rfl (by rw [mS_len]; decide) dX12_init_648 ?_
  refine g_gen (fun τ e => ?_)
  rw [mS_step 73 135 rfl (by decide) (by decide)] at e
  have z := h_z2 e z
  have y := h_y2 e y
  have ha := h_eS e
  have mi := mi.set e hla
  have od := od.set e
  clear e
  refine g_aload_n dX12_init_651 rfl (List.mem_of_getElem? (i := 0) rfl) ?_
  refine g_sipush (v := 4000) dX12_init_652 (by decide) ?_
  refine g_newa (t0 := 3) (N := 4000) (f := .inr (.inl (fun _ => 0))) rfl rfl (fun _ h => h) ac_long hv_long (by decide) (nI_clamp (n := 4000) (by decide)) (by decide) (h_r1 (m := 74) z r1 (by decide)) (h_r2 (m := 177594) y r2 (by decide)) dX12_init_655 ?_
  refine g_eqv (.ref (n0 + 74)) (congrArg Value.ref z) ?_
  refine g_gen (fun τ e => ?_)
  have mi : mMI A τ n0 75 := mi.new e z
  have od := od.new e z
  have ha := h_nN e z (h_al hla) ha
  have z : τ.2.1 = n0 + 75 := h_z1 (k := 74) e z
  have y : τ.2.2 = s0 + 181594 := h_y1 (k := 177594) e y
  clear e
  refine g_put (ft := (.array .long)) fX12_1177 ptX12 (Or.inr ⟨rfl, rfl, rfl⟩) ha (by decide +kernel) rfl rfl (by rw [mS_len]; decide) dX12_init_657 ?_
  refine g_gen (fun τ e => ?_)
  rw [mS_step 74 136 rfl (by decide) (by decide)] at e
  have z := h_z2 e z
  have y := h_y2 e y
  have ha := h_eS e
  have mi := mi.set e hla
  have od := od.set e
  clear e
  refine g_aload_n dX12_init_660 rfl (List.mem_of_getElem? (i := 0) rfl) ?_
  refine g_bipush (v := 16) dX12_init_661 (by decide) ?_
  refine g_newa (t0 := 0) (N := 16) (f := .inl (fun _ => 0)) rfl rfl (fun _ h => h) ac_int hv_int (by decide) (nI_clamp (n := 16) (by decide)) (by decide) (h_r1 (m := 75) z r1 (by decide)) (h_r2 (m := 181594) y r2 (by decide)) dX12_init_663 ?_
  refine g_eqv (.ref (n0 + 75)) (congrArg Value.ref z) ?_
  refine g_gen (fun τ e => ?_)
  have mi : mMI A τ n0 76 := mi.new e z
  have od := od.new e z
  have ha := h_nN e z (h_al hla) ha
  have z : τ.2.1 = n0 + 76 := h_z1 (k := 75) e z
  have y : τ.2.2 = s0 + 181610 := h_y1 (k := 181594) e y
  clear e
  refine g_put (ft := (.array .int)) fX12_1174 ptX12 (Or.inr ⟨rfl, rfl, rfl⟩) ha (by decide +kernel) rfl rfl (by rw [mS_len]; decide) dX12_init_665 ?_
  refine g_gen (fun τ e => ?_)
  rw [mS_step 75 137 rfl (by decide) (by decide)] at e
  have z := h_z2 e z
  have y := h_y2 e y
  have ha := h_eS e
  have mi := mi.set e hla
  have od := od.set e
  clear e
  refine g_aload_n dX12_init_668 rfl (List.mem_of_getElem? (i := 0) rfl) ?_
  refine g_iconst (v := 4) dX12_init_669 (by decide) ?_
  refine g_newa (t0 := 0) (N := 4) (f := .inl (fun _ => 0)) rfl rfl (fun _ h => h) ac_int hv_int (by decide) (nI_clamp (n := 4) (by decide)) (by decide) (h_r1 (m := 76) z r1 (by decide)) (h_r2 (m := 181610) y r2 (by decide)) dX12_init_670 ?_
  refine g_eqv (.ref (n0 + 76)) (congrArg Value.ref z) ?_
  refine g_gen (fun τ e => ?_)
  have mi : mMI A τ n0 77 := mi.new e z
  have od := od.new e z
  have ha := h_nN e z (h_al hla) ha
  have z : τ.2.1 = n0 + 77 := h_z1 (k := 76) e z
  have y : τ.2.2 = s0 + 181614 := h_y1 (k := 181610) e y
  clear e
  refine g_put (ft := (.array .int)) fX12_1252 ptX12 (Or.inr ⟨rfl, rfl, rfl⟩) ha (by decide +kernel) rfl rfl (by rw [mS_len]; decide) dX12_init_672 ?_
  refine g_gen (fun τ e => ?_)
  rw [mS_step 76 138 rfl (by decide) (by decide)] at e
  have z := h_z2 e z
  have y := h_y2 e y
  have ha := h_eS e
  have mi := mi.set e hla
  have od := od.set e
  clear e
  refine g_aload_n dX12_init_675 rfl (List.mem_of_getElem? (i := 0) rfl) ?_
  refine g_iconst (v := 4) dX12_init_676 (by decide) ?_
  refine g_newa (t0 := 0) (N := 4) (f := .inl (fun _ => 0)) rfl rfl (fun _ h => h) ac_int hv_int (by decide) (nI_clamp (n := 4) (by decide)) (by decide) (h_r1 (m := 77) z r1 (by decide)) (h_r2 (m := 181614) y r2 (by decide)) dX12_init_677 ?_
  refine g_eqv (.ref (n0 + 77)) (congrArg Value.ref z) ?_
  refine g_gen (fun τ e => ?_)
  have mi : mMI A τ n0 78 := mi.new e z
  have od := od.new e z
  have ha := h_nN e z (h_al hla) ha
  have z : τ.2.1 = n0 + 78 := h_z1 (k := 77) e z
  have y : τ.2.2 = s0 + 181618 := h_y1 (k := 181614) e y
  clear e
  refine g_put (ft := (.array .int)) fX12_1216 ptX12 (Or.inr ⟨rfl, rfl, rfl⟩) ha (by decide +kernel) rfl rfl (by rw [mS_len]; decide) dX12_init_679 ?_
  refine g_gen (fun τ e => ?_)
  rw [mS_step 77 139 rfl (by decide) (by decide)] at e
  have z := h_z2 e z
  have y := h_y2 e y
  have ha := h_eS e
  have mi := mi.set e hla
  have od := od.set e
  clear e
  refine g_aload_n dX12_init_682 rfl (List.mem_of_getElem? (i := 0) rfl) ?_
  refine g_bipush (v := 80) dX12_init_683 (by decide) ?_
  refine g_newa (t0 := 0) (N := 80) (f := .inl (fun _ => 0)) rfl rfl (fun _ h => h) ac_int hv_int (by decide) (nI_clamp (n := 80) (by decide)) (by decide) (h_r1 (m := 78) z r1 (by decide)) (h_r2 (m := 181618) y r2 (by decide)) dX12_init_685 ?_
  refine g_eqv (.ref (n0 + 78)) (congrArg Value.ref z) ?_
  refine g_gen (fun τ e => ?_)
  have mi : mMI A τ n0 79 := mi.new e z
  have od := od.new e z
  have ha := h_nN e z (h_al hla) ha
  have z : τ.2.1 = n0 + 79 := h_z1 (k := 78) e z
  have y : τ.2.2 = s0 + 181698 := h_y1 (k := 181618) e y
  clear e
  refine g_put (ft := (.array .int)) fX12_1219 ptX12 (Or.inr ⟨rfl, rfl, rfl⟩) ha (by decide +kernel) rfl rfl (by rw [mS_len]; decide) dX12_init_687 ?_
  refine g_gen (fun τ e => ?_)
  rw [mS_step 78 140 rfl (by decide) (by decide)] at e
  have z := h_z2 e z
  have y := h_y2 e y
  have ha := h_eS e
  have mi := mi.set e hla
  have od := od.set e
  clear e
  refine g_aload_n dX12_init_690 rfl (List.mem_of_getElem? (i := 0) rfl) ?_
  refine g_iconst (v := 4) dX12_init_691 (by decide) ?_
  refine g_newa (t0 := 0) (N := 4) (f := .inl (fun _ => 0)) rfl rfl (fun _ h => h) ac_int hv_int (by decide) (nI_clamp (n := 4) (by decide)) (by decide) (h_r1 (m := 79) z r1 (by decide)) (h_r2 (m := 181698) y r2 (by decide)) dX12_init_692 ?_
  refine g_eqv (.ref (n0 + 79)) (congrArg Value.ref z) ?_
  refine g_gen (fun τ e => ?_)
  have mi : mMI A τ n0 80 := mi.new e z
  have od := od.new e z
  have ha := h_nN e z (h_al hla) ha
  have z : τ.2.1 = n0 + 80 := h_z1 (k := 79) e z
  have y : τ.2.2 = s0 + 181702 := h_y1 (k := 181698) e y
  clear e
  refine g_put (ft := (.array .int)) fX12_1243 ptX12 (Or.inr ⟨rfl, rfl, rfl⟩) ha (by decide +kernel) rfl rfl (by rw [mS_len]; decide) dX12_init_694 ?_
  refine g_gen (fun τ e => ?_)
  rw [mS_step 79 141 rfl (by decide) (by decide)] at e
  have z := h_z2 e z
  have y := h_y2 e y
  have ha := h_eS e
  have mi := mi.set e hla
  have od := od.set e
  clear e
  refine g_aload_n dX12_init_697 rfl (List.mem_of_getElem? (i := 0) rfl) ?_
  refine g_iconst (v := 4) dX12_init_698 (by decide) ?_
  refine g_newa (t0 := 0) (N := 4) (f := .inl (fun _ => 0)) rfl rfl (fun _ h => h) ac_int hv_int (by decide) (nI_clamp (n := 4) (by decide)) (by decide) (h_r1 (m := 80) z r1 (by decide)) (h_r2 (m := 181702) y r2 (by decide)) dX12_init_699 ?_
  refine g_eqv (.ref (n0 + 80)) (congrArg Value.ref z) ?_
  refine g_gen (fun τ e => ?_)
  have mi : mMI A τ n0 81 := mi.new e z
  have od := od.new e z
  have ha := h_nN e z (h_al hla) ha
  have z : τ.2.1 = n0 + 81 := h_z1 (k := 80) e z
  have y : τ.2.2 = s0 + 181706 := h_y1 (k := 181702) e y
  clear e
  refine g_put (ft := (.array .int)) fX12_1210 ptX12 (Or.inr ⟨rfl, rfl, rfl⟩) ha (by decide +kernel) rfl rfl (by rw [mS_len]; decide) dX12_init_701 ?_
  refine g_gen (fun τ e => ?_)
  rw [mS_step 80 142 rfl (by decide) (by decide)] at e
  have z := h_z2 e z
  have y := h_y2 e y
  have ha := h_eS e
  have mi := mi.set e hla
  have od := od.set e
  clear e
  refine g_aload_n dX12_init_704 rfl (List.mem_of_getElem? (i := 0) rfl) ?_
  refine g_iconst (v := 4) dX12_init_705 (by decide) ?_
  refine g_newa (t0 := 0) (N := 4) (f := .inl (fun _ => 0)) rfl rfl (fun _ h => h) ac_int hv_int (by decide) (nI_clamp (n := 4) (by decide)) (by decide) (h_r1 (m := 81) z r1 (by decide)) (h_r2 (m := 181706) y r2 (by decide)) dX12_init_706 ?_
  refine g_eqv (.ref (n0 + 81)) (congrArg Value.ref z) ?_
  refine g_gen (fun τ e => ?_)
  have mi : mMI A τ n0 82 := mi.new e z
  have od := od.new e z
  have ha := h_nN e z (h_al hla) ha
  have z : τ.2.1 = n0 + 82 := h_z1 (k := 81) e z
  have y : τ.2.2 = s0 + 181710 := h_y1 (k := 181706) e y
  clear e
  refine g_put (ft := (.array .int)) fX12_1270 ptX12 (Or.inr ⟨rfl, rfl, rfl⟩) ha (by decide +kernel) rfl rfl (by rw [mS_len]; decide) dX12_init_708 ?_
  refine g_gen (fun τ e => ?_)
  rw [mS_step 81 143 rfl (by decide) (by decide)] at e
  have z := h_z2 e z
  have y := h_y2 e y
  have ha := h_eS e
  have mi := mi.set e hla
  have od := od.set e
  clear e
  refine g_aload_n dX12_init_711 rfl (List.mem_of_getElem? (i := 0) rfl) ?_
  refine g_iconst (v := 4) dX12_init_712 (by decide) ?_
  refine g_newa (t0 := 0) (N := 4) (f := .inl (fun _ => 0)) rfl rfl (fun _ h => h) ac_int hv_int (by decide) (nI_clamp (n := 4) (by decide)) (by decide) (h_r1 (m := 82) z r1 (by decide)) (h_r2 (m := 181710) y r2 (by decide)) dX12_init_713 ?_
  refine g_eqv (.ref (n0 + 82)) (congrArg Value.ref z) ?_
  refine g_gen (fun τ e => ?_)
  have mi : mMI A τ n0 83 := mi.new e z
  have od := od.new e z
  have ha := h_nN e z (h_al hla) ha
  have z : τ.2.1 = n0 + 83 := h_z1 (k := 82) e z
  have y : τ.2.2 = s0 + 181714 := h_y1 (k := 181710) e y
  clear e
  refine g_put (ft := (.array .int)) fX12_1273 ptX12 (Or.inr ⟨rfl, rfl, rfl⟩) ha (by decide +kernel) rfl rfl (by rw [mS_len]; decide) dX12_init_715 ?_
  refine g_gen (fun τ e => ?_)
  rw [mS_step 82 144 rfl (by decide) (by decide)] at e
  have z := h_z2 e z
  have y := h_y2 e y
  have ha := h_eS e
  have mi := mi.set e hla
  have od := od.set e
  clear e
  refine g_aload_n dX12_init_718 rfl (List.mem_of_getElem? (i := 0) rfl) ?_
  refine g_iconst (v := 4) dX12_init_719 (by decide) ?_
  refine g_newa (t0 := 2) (N := 4) (f := .inl (fun _ => 0)) rfl rfl (fun _ h => h) ac_boolean hv_boolean (by decide) (nI_clamp (n := 4) (by decide)) (by decide) (h_r1 (m := 83) z r1 (by decide)) (h_r2 (m := 181714) y r2 (by decide)) dX12_init_720 ?_
  refine g_eqv (.ref (n0 + 83)) (congrArg Value.ref z) ?_
  refine g_gen (fun τ e => ?_)
  have mi : mMI A τ n0 84 := mi.new e z
  have od := od.new e z
  have ha := h_nN e z (h_al hla) ha
  have z : τ.2.1 = n0 + 84 := h_z1 (k := 83) e z
  have y : τ.2.2 = s0 + 181718 := h_y1 (k := 181714) e y
  clear e
  refine g_put (ft := (.array .boolean)) fX12_1255 ptX12 (Or.inr ⟨rfl, rfl, rfl⟩) ha (by decide +kernel) rfl rfl (by rw [mS_len]; decide) dX12_init_722 ?_
  refine g_gen (fun τ e => ?_)
  rw [mS_step 83 145 rfl (by decide) (by decide)] at e
  have z := h_z2 e z
  have y := h_y2 e y
  have ha := h_eS e
  have mi := mi.set e hla
  have od := od.set e
  clear e
  refine g_aload_n dX12_init_725 rfl (List.mem_of_getElem? (i := 0) rfl) ?_
  refine g_bipush (v := 8) dX12_init_726 (by decide) ?_
  refine g_newa (t0 := 0) (N := 8) (f := .inl (fun _ => 0)) rfl rfl (fun _ h => h) ac_int hv_int (by decide) (nI_clamp (n := 8) (by decide)) (by decide) (h_r1 (m := 84) z r1 (by decide)) (h_r2 (m := 181718) y r2 (by decide)) dX12_init_728 ?_
  refine g_eqv (.ref (n0 + 84)) (congrArg Value.ref z) ?_
  refine g_gen (fun τ e => ?_)
  have mi : mMI A τ n0 85 := mi.new e z
  have od := od.new e z
  have ha := h_nN e z (h_al hla) ha
  have z : τ.2.1 = n0 + 85 := h_z1 (k := 84) e z
  have y : τ.2.2 = s0 + 181726 := h_y1 (k := 181718) e y
  clear e
  refine g_put (ft := (.array .int)) fX12_1189 ptX12 (Or.inr ⟨rfl, rfl, rfl⟩) ha (by decide +kernel) rfl rfl (by rw [mS_len]; decide) dX12_init_730 ?_
  refine g_gen (fun τ e => ?_)
  rw [mS_step 84 146 rfl (by decide) (by decide)] at e
  have z := h_z2 e z
  have y := h_y2 e y
  have ha := h_eS e
  have mi := mi.set e hla
  have od := od.set e
  clear e
  refine g_aload_n dX12_init_733 rfl (List.mem_of_getElem? (i := 0) rfl) ?_
  refine g_iconst (v := 4) dX12_init_734 (by decide) ?_
  refine g_newa (t0 := 0) (N := 4) (f := .inl (fun _ => 0)) rfl rfl (fun _ h => h) ac_int hv_int (by decide) (nI_clamp (n := 4) (by decide)) (by decide) (h_r1 (m := 85) z r1 (by decide)) (h_r2 (m := 181726) y r2 (by decide)) dX12_init_735 ?_
  refine g_eqv (.ref (n0 + 85)) (congrArg Value.ref z) ?_
  refine g_gen (fun τ e => ?_)
  have mi : mMI A τ n0 86 := mi.new e z
  have od := od.new e z
  have ha := h_nN e z (h_al hla) ha
  have z : τ.2.1 = n0 + 86 := h_z1 (k := 85) e z
  have y : τ.2.2 = s0 + 181730 := h_y1 (k := 181726) e y
  clear e
  refine g_put (ft := (.array .int)) fX12_1213 ptX12 (Or.inr ⟨rfl, rfl, rfl⟩) ha (by decide +kernel) rfl rfl (by rw [mS_len]; decide) dX12_init_737 ?_
  refine g_gen (fun τ e => ?_)
  rw [mS_step 85 147 rfl (by decide) (by decide)] at e
  have z := h_z2 e z
  have y := h_y2 e y
  have ha := h_eS e
  have mi := mi.set e hla
  have od := od.set e
  clear e
  refine g_aload_n dX12_init_740 rfl (List.mem_of_getElem? (i := 0) rfl) ?_
  refine g_iconst (v := 4) dX12_init_741 (by decide) ?_
  refine g_newa (t0 := 0) (N := 4) (f := .inl (fun _ => 0)) rfl rfl (fun _ h => h) ac_int hv_int (by decide) (nI_clamp (n := 4) (by decide)) (by decide) (h_r1 (m := 86) z r1 (by decide)) (h_r2 (m := 181730) y r2 (by decide)) dX12_init_742 ?_
  refine g_eqv (.ref (n0 + 86)) (congrArg Value.ref z) ?_
  refine g_gen (fun τ e => ?_)
  have mi : mMI A τ n0 87 := mi.new e z
  have od := od.new e z
  have ha := h_nN e z (h_al hla) ha
  have z : τ.2.1 = n0 + 87 := h_z1 (k := 86) e z
  have y : τ.2.2 = s0 + 181734 := h_y1 (k := 181730) e y
  clear e
  refine g_put (ft := (.array .int)) fX12_1249 ptX12 (Or.inr ⟨rfl, rfl, rfl⟩) ha (by decide +kernel) rfl rfl (by rw [mS_len]; decide) dX12_init_744 ?_
  refine g_gen (fun τ e => ?_)
  rw [mS_step 86 148 rfl (by decide) (by decide)] at e
  have z := h_z2 e z
  have y := h_y2 e y
  have ha := h_eS e
  have mi := mi.set e hla
  have od := od.set e
  clear e
  refine g_aload_n dX12_init_747 rfl (List.mem_of_getElem? (i := 0) rfl) ?_
  refine g_sipush (v := 4000) dX12_init_748 (by decide) ?_
  refine g_newa (t0 := 0) (N := 4000) (f := .inl (fun _ => 0)) rfl rfl (fun _ h => h) ac_int hv_int (by decide) (nI_clamp (n := 4000) (by decide)) (by decide) (h_r1 (m := 87) z r1 (by decide)) (h_r2 (m := 181734) y r2 (by decide)) dX12_init_751 ?_
  refine g_eqv (.ref (n0 + 87)) (congrArg Value.ref z) ?_
  refine g_gen (fun τ e => ?_)
  have mi : mMI A τ n0 88 := mi.new e z
  have od := od.new e z
  have ha := h_nN e z (h_al hla) ha
  have z : τ.2.1 = n0 + 88 := h_z1 (k := 87) e z
  have y : τ.2.2 = s0 + 185734 := h_y1 (k := 181734) e y
  clear e
  refine g_put (ft := (.array .int)) fX12_1198 ptX12 (Or.inr ⟨rfl, rfl, rfl⟩) ha (by decide +kernel) rfl rfl (by rw [mS_len]; decide) dX12_init_753 ?_
  refine g_gen (fun τ e => ?_)
  rw [mS_step 87 149 rfl (by decide) (by decide)] at e
  have z := h_z2 e z
  have y := h_y2 e y
  have ha := h_eS e
  have mi := mi.set e hla
  have od := od.set e
  clear e
  refine g_aload_n dX12_init_756 rfl (List.mem_of_getElem? (i := 0) rfl) ?_
  refine g_sipush (v := 4000) dX12_init_757 (by decide) ?_
  refine g_newa (t0 := 0) (N := 4000) (f := .inl (fun _ => 0)) rfl rfl (fun _ h => h) ac_int hv_int (by decide) (nI_clamp (n := 4000) (by decide)) (by decide) (h_r1 (m := 88) z r1 (by decide)) (h_r2 (m := 185734) y r2 (by decide)) dX12_init_760 ?_
  refine g_eqv (.ref (n0 + 88)) (congrArg Value.ref z) ?_
  refine g_gen (fun τ e => ?_)
  have mi : mMI A τ n0 89 := mi.new e z
  have od := od.new e z
  have ha := h_nN e z (h_al hla) ha
  have z : τ.2.1 = n0 + 89 := h_z1 (k := 88) e z
  have y : τ.2.2 = s0 + 189734 := h_y1 (k := 185734) e y
  clear e
  refine g_put (ft := (.array .int)) fX12_1201 ptX12 (Or.inr ⟨rfl, rfl, rfl⟩) ha (by decide +kernel) rfl rfl (by rw [mS_len]; decide) dX12_init_762 ?_
  refine g_gen (fun τ e => ?_)
  rw [mS_step 88 150 rfl (by decide) (by decide)] at e
  have z := h_z2 e z
  have y := h_y2 e y
  have ha := h_eS e
  have mi := mi.set e hla
  have od := od.set e
  clear e
  refine g_aload_n dX12_init_765 rfl (List.mem_of_getElem? (i := 0) rfl) ?_
  refine g_sipush (v := 4000) dX12_init_766 (by decide) ?_
  refine g_newa (t0 := 0) (N := 4000) (f := .inl (fun _ => 0)) rfl rfl (fun _ h => h) ac_int hv_int (by decide) (nI_clamp (n := 4000) (by decide)) (by decide) (h_r1 (m := 89) z r1 (by decide)) (h_r2 (m := 189734) y r2 (by decide)) dX12_init_769 ?_
  refine g_eqv (.ref (n0 + 89)) (congrArg Value.ref z) ?_
  refine g_gen (fun τ e => ?_)
  have mi : mMI A τ n0 90 := mi.new e z
  have od := od.new e z
  have ha := h_nN e z (h_al hla) ha
  have z : τ.2.1 = n0 + 90 := h_z1 (k := 89) e z
  have y : τ.2.2 = s0 + 193734 := h_y1 (k := 189734) e y
  clear e
  refine g_put (ft := (.array .int)) fX12_1204 ptX12 (Or.inr ⟨rfl, rfl, rfl⟩) ha (by decide +kernel) rfl rfl (by rw [mS_len]; decide) dX12_init_771 ?_
  refine g_gen (fun τ e => ?_)
  rw [mS_step 89 151 rfl (by decide) (by decide)] at e
  have z := h_z2 e z
  have y := h_y2 e y
  have ha := h_eS e
  have mi := mi.set e hla
  have od := od.set e
  clear e
  refine g_aload_n dX12_init_774 rfl (List.mem_of_getElem? (i := 0) rfl) ?_
  refine g_sipush (v := 4000) dX12_init_775 (by decide) ?_
  refine g_newa (t0 := 0) (N := 4000) (f := .inl (fun _ => 0)) rfl rfl (fun _ h => h) ac_int hv_int (by decide) (nI_clamp (n := 4000) (by decide)) (by decide) (h_r1 (m := 90) z r1 (by decide)) (h_r2 (m := 193734) y r2 (by decide)) dX12_init_778 ?_
  refine g_eqv (.ref (n0 + 90)) (congrArg Value.ref z) ?_
  refine g_gen (fun τ e => ?_)
  have mi : mMI A τ n0 91 := mi.new e z
  have od := od.new e z
  have ha := h_nN e z (h_al hla) ha
  have z : τ.2.1 = n0 + 91 := h_z1 (k := 90) e z
  have y : τ.2.2 = s0 + 197734 := h_y1 (k := 193734) e y
  clear e
  refine g_put (ft := (.array .int)) fX12_1207 ptX12 (Or.inr ⟨rfl, rfl, rfl⟩) ha (by decide +kernel) rfl rfl (by rw [mS_len]; decide) dX12_init_780 ?_
  refine g_gen (fun τ e => ?_)
  rw [mS_step 90 152 rfl (by decide) (by decide)] at e
  have z := h_z2 e z
  have y := h_y2 e y
  have ha := h_eS e
  have mi := mi.set e hla
  have od := od.set e
  clear e
  rw [mS_end] at ha
  exact hk τ z y ha mi od
